theorem ceF_f {ev : Nat} {cp cu cd m0 : Nat → Nat} {i : Nat} (h : cp i &&& ev = 0) : ceF ev cp cu cd m0 (i + 1) = ceF ev cp cu cd m0 i := if_pos h
theorem ceF_t {ev : Nat} {cp cu cd m0 : Nat → Nat} {i : Nat} (h : ¬ cp i &&& ev = 0) : ceF ev cp cu cd m0 (i + 1) = (mxF ev (cp i &&& ev) (cu i) (cd i) (ceF ev cp cu cd m0 i).1 (2 ^ popc ev 12), (ceF ev cp cu cd m0 i).2 * cd i) := if_neg h
theorem evF_f {ev : Nat} {en eu nu nd : Nat → Nat} {s : (Nat → Nat) × Nat} {i : Nat} (h : ev &&& eu (en i) = 0) : evF ev en eu nu nd s (i + 1) = evF ev en eu nu nd s i := if_pos h
theorem evF_t {ev : Nat} {en eu nu nd : Nat → Nat} {s : (Nat → Nat) × Nat} {i : Nat} (h : ¬ ev &&& eu (en i) = 0) : evF ev en eu nu nd s (i + 1) = (mxF ((evF ev en eu nu nd s i).2.2 ^^^ eu (en i)) (eu (en i)) (nu (en i)) (nd (en i)) (evF ev en eu nu nd s i).1 (2 ^ popc ((evF ev en eu nu nd s i).2.2 ^^^ eu (en i)) 12), (evF ev en eu nu nd s i).2.1 * nd (en i), (evF ev en eu nu nd s i).2.2 ^^^ eu (en i)) := if_neg h
theorem beF_le {eb en ob : Nat → Nat} (h : ∀ j, ob j ≤ 2520) (h2 : ∀ j, eb j ≤ 2520) : ∀ i j, beF eb en ob i j ≤ 2520
  | 0 => h
  | i + 1 => fun j => by
    show va_up _ _ _ j ≤ 2520
    unfold va_up
    split
    · exact h2 _
    · exact beF_le h h2 i j
theorem bgF_le {br : Nat → Nat → Nat} {bc vo : Nat → Nat} {kd : Nat → Int32} {li ob : Nat → Nat} (h : ∀ j, ob j ≤ 2520) : ∀ i j, bgF br bc vo kd li ob i j ≤ 2520
  | 0 => h
  | i + 1 => fun j => by
    have ih := bgF_le (br := br) (bc := bc) (vo := vo) (kd := kd) (li := li) h i
    show va_up _ _ _ j ≤ 2520
    unfold va_up
    split
    · exact gbF_le ih
    · exact ih j
set_option maxHeartbeats 4000000 in
set_option maxRecDepth 100000 in
theorem k_Od_workExactly (l : Launch) (g : va_G) (a rB rT : Nat → Nat) (cI cJ cII cJJ : ClassId) (nc : Nat) (nv : Nat) (ng : Nat) (kd : Nat → Int32) (vo : Nat → Nat) (nu : Nat → Nat) (nd : Nat → Nat) (en : Nat → Nat) (br : Nat → Nat → Nat) (bc : Nat → Nat) (un : Nat → Nat) (eu : Nat → Nat) (li : Nat → Nat) (tb : Nat → Nat → Int64) (cc0 : Nat) (cp : Nat → Nat) (cu : Nat → Nat) (cd : Nat → Nat) (tc : Nat) (ts : Nat → Nat) (tf : Nat → Nat) (ox : Bool) (ow : Nat → Nat) (ob : Nat → Nat) (ra : Nat) (rb : Nat) (gc : Nat) (gr : Nat) (gk : Nat → Nat) (gg : Nat → Nat) (gp : Nat → Nat) (gt : Nat → Nat) (sa : Nat) (sb : Nat) (x : Nat) (ev : Nat) (hx1 : x ≤ 32) (hnc : nc ≤ 32) (hun : ∀ j, un j < 2 ^ 33) (heu : ∀ j, eu j < 2 ^ 12) (hbc : ∀ j, bc j ≤ 10) (hbr : ∀ j i, br j i ≤ 32) (hvo : ∀ j, vo j ≤ 10) (hev : ev < 4096) (hcc : cc0 ≤ 4) (hnv : nv ≤ 12) (hcp : ∀ j, cp j < 4096) (hcud : ∀ j, cu j ≤ cd j) (hen : ∀ j, en j ≤ 32) (hnud : ∀ j, nu j ≤ nd j) (hlim : (evF ev en eu nu nd (ceF ev cp cu cd (wsF (fsF tb br kd vo bc (luS (luC nc kd un x) nc (0, li) 33).2 (eu x / 2 ^ 6) (luS (luC nc kd un x) nc (0, li) 33).1) x ev ow (2 ^ popc ev 12)) cc0) nv).1 0 < 2 ^ 62 ∧ (evF ev en eu nu nd (ceF ev cp cu cd (wsF (fsF tb br kd vo bc (luS (luC nc kd un x) nc (0, li) 33).2 (eu x / 2 ^ 6) (luS (luC nc kd un x) nc (0, li) 33).1) x ev ow (2 ^ popc ev 12)) cc0) nv).2.1 < 2 ^ 62 ∧ 0 < (evF ev en eu nu nd (ceF ev cp cu cd (wsF (fsF tb br kd vo bc (luS (luC nc kd un x) nc (0, li) 33).2 (eu x / 2 ^ 6) (luS (luC nc kd un x) nc (0, li) 33).1) x ev ow (2 ^ popc ev 12)) cc0) nv).2.1) : ct_v l g vwCl (tyS cI cJ cII cJJ) y_Od_workExactly c_Od_workExactly 9 none ({ frames := 5, cells := 0, slots := 0, locals := 132 } : Room) [.ref (a 5), .int (nI x), .int (nI ev)] (stW a rB rT cI cJ cII cJJ nc nv ng kd vo nu nd en br bc un eu li tb cc0 cp cu cd tc ts tf ox ow ob ra rb gc gr gk gg gp gt sa sb) (stW a rB rT cI cJ cII cJJ nc nv ng kd vo nu nd en br bc un eu ((luS (luC nc kd un x) nc (0, li) 33).2) (fsF tb br kd vo bc (luS (luC nc kd un x) nc (0, li) 33).2 (eu x / 2 ^ 6) (luS (luC nc kd un x) nc (0, li) 33).1) cc0 cp cu cd tc ts tf ox ((evF ev en eu nu nd (ceF ev cp cu cd (wsF (fsF tb br kd vo bc (luS (luC nc kd un x) nc (0, li) 33).2 (eu x / 2 ^ 6) (luS (luC nc kd un x) nc (0, li) 33).1) x ev ow (2 ^ popc ev 12)) cc0) nv).1) ob ((evF ev en eu nu nd (ceF ev cp cu cd (wsF (fsF tb br kd vo bc (luS (luC nc kd un x) nc (0, li) 33).2 (eu x / 2 ^ 6) (luS (luC nc kd un x) nc (0, li) 33).1) x ev ow (2 ^ popc ev 12)) cc0) nv).1 0 / cdF 100 ((evF ev en eu nu nd (ceF ev cp cu cd (wsF (fsF tb br kd vo bc (luS (luC nc kd un x) nc (0, li) 33).2 (eu x / 2 ^ 6) (luS (luC nc kd un x) nc (0, li) 33).1) x ev ow (2 ^ popc ev 12)) cc0) nv).1 0) (evF ev en eu nu nd (ceF ev cp cu cd (wsF (fsF tb br kd vo bc (luS (luC nc kd un x) nc (0, li) 33).2 (eu x / 2 ^ 6) (luS (luC nc kd un x) nc (0, li) 33).1) x ev ow (2 ^ popc ev 12)) cc0) nv).2.1) ((evF ev en eu nu nd (ceF ev cp cu cd (wsF (fsF tb br kd vo bc (luS (luC nc kd un x) nc (0, li) 33).2 (eu x / 2 ^ 6) (luS (luC nc kd un x) nc (0, li) 33).1) x ev ow (2 ^ popc ev 12)) cc0) nv).2.1 / cdF 100 ((evF ev en eu nu nd (ceF ev cp cu cd (wsF (fsF tb br kd vo bc (luS (luC nc kd un x) nc (0, li) 33).2 (eu x / 2 ^ 6) (luS (luC nc kd un x) nc (0, li) 33).1) x ev ow (2 ^ popc ev 12)) cc0) nv).1 0) (evF ev en eu nu nd (ceF ev cp cu cd (wsF (fsF tb br kd vo bc (luS (luC nc kd un x) nc (0, li) 33).2 (eu x / 2 ^ 6) (luS (luC nc kd un x) nc (0, li) 33).1) x ev ow (2 ^ popc ev 12)) cc0) nv).2.1) gc gr gk gg gp gt sa sb) := by
  refine ct_v.intro (by decide) (Nat.le_of_ble_eq_true rfl) ?_
  intro p e s m args below meth c Q A ls hx hb hml hT hown hA hK hN hret hP hD hS hl
  have hown : s.vm.findClass R_Od = some m.cls := hown
  have hl : lv_has ls 9 [(0, .ref (a 5)), (1, .int (nI x)), (2, .int (nI ev))] := hl
  refine lv_aload_n hx hb d_Od_workExactly_0 rfl (lv_at hl 0 rfl) ?_
  refine va_get (D := g) (ci := 5) (v := .ref (a 2)) (C := R_Od) (T := F_Od) (N := 7) hx hb hT i_Od hown hK hP 5 rfl rfl 1 (by decide) (hT _ tw_171) (fun _ h9 => h9) rfl d_Od_workExactly_1 ?_
  refine lv_iload_n hx hb d_Od_workExactly_4 rfl (lv_at hl 1 rfl) ?_
  refine my_V_v (q0 := 2) (ci := 2) (C := R_Tr) (As := [.int (nI x)]) (n := 1) (k_Tr_fillGates l g a rB rT cI cJ cII cJJ nc nv ng kd vo nu nd en br bc un eu li tb cc0 cp cu cd tc ts tf ox ow ob ra rb gc gr gk gg gp gt sa sb x hx1 hnc hun heu hbc hbr hvo) hx hb hml hown hT hN tw_418 tw_328 tw_329 tw_3 tw_330 (by decide +kernel) rfl rfl ⟨Nat.le_of_ble_eq_true rfl, Nat.le_of_ble_eq_true rfl⟩ ⟨Nat.zero_le _, Nat.zero_le _⟩ hK hP hD hS hA rfl rfl rfl hl rfl (Nat.le_of_ble_eq_true rfl) d_Od_workExactly_5 (fun H locs hP hD hS => ?_)
  refine lv_aload_n hx hb d_Od_workExactly_8 rfl (lv_at hl 0 rfl) ?_
  refine lv_iload_n hx hb d_Od_workExactly_9 rfl (lv_at hl 1 rfl) ?_
  refine lv_iload_n hx hb d_Od_workExactly_10 rfl (lv_at hl 2 rfl) ?_
  refine my_V_v (q0 := 5) (ci := 5) (C := R_Od) (As := [.int (nI x), .int (nI ev)]) (n := 2) (k_Od_weighSets l g a rB rT cI cJ cII cJJ nc nv ng kd vo nu nd en br bc un eu ((luS (luC nc kd un x) nc (0, li) 33).2) (fsF tb br kd vo bc (luS (luC nc kd un x) nc (0, li) 33).2 (eu x / 2 ^ 6) (luS (luC nc kd un x) nc (0, li) 33).1) cc0 cp cu cd tc ts tf ox ow ob ra rb gc gr gk gg gp gt sa sb x ev hx1 hev) hx hb hml hown hT hN tw_419 tw_421 tp_8 tw_6 tw_422 (by decide +kernel) rfl rfl ⟨Nat.le_of_ble_eq_true rfl, Nat.le_of_ble_eq_true rfl⟩ ⟨Nat.zero_le _, Nat.zero_le _⟩ hK hP hD hS hA rfl rfl rfl hl rfl (Nat.le_of_ble_eq_true rfl) d_Od_workExactly_11 (fun H locs hP hD hS => ?_)
  refine lv_lconst (v := (lN 1)) hx hb d_Od_workExactly_14 (by decide) ?_
  refine lv_lstore_n (lv' := [(3, .long (lN 1)), (0, .ref (a 5)), (1, .int (nI x)), (2, .int (nI ev))]) hx hb d_Od_workExactly_15 rfl hl (by decide) rfl (fun ls hl => ?_)
  refine lv_iconst (v := (nI 0)) hx hb d_Od_workExactly_16 (by decide) ?_
  refine lv_istore (lv' := [(5, .int (nI 0)), (3, .long (lN 1)), (0, .ref (a 5)), (1, .int (nI x)), (2, .int (nI ev))]) hx hb d_Od_workExactly_17 hl (by decide) rfl (fun ls hl => ?_)
  have lp_19 : ∀ (k : Nat) (i : Nat) (m1 : Nat → Nat) (wh : Nat) (H : Heap) (locs : List Loc) (ls : Array Slot), (cc0 < i + k) → (i ≤ cc0) → ((m1, wh) = (ceF ev cp cu cd (wsF (fsF tb br kd vo bc (luS (luC nc kd un x) nc (0, li) 33).2 (eu x / 2 ^ 6) (luS (luC nc kd un x) nc (0, li) 33).1) x ev ow (2 ^ popc ev 12)) i)) → va_P g vwCl (stW a rB rT cI cJ cII cJJ nc nv ng kd vo nu nd en br bc un eu ((luS (luC nc kd un x) nc (0, li) 33).2) (fsF tb br kd vo bc (luS (luC nc kd un x) nc (0, li) 33).2 (eu x / 2 ^ 6) (luS (luC nc kd un x) nc (0, li) 33).1) cc0 cp cu cd tc ts tf ox m1 ob ra rb gc gr gk gg gp gt sa sb) H → va_D A (stW a rB rT cI cJ cII cJJ nc nv ng kd vo nu nd en br bc un eu ((luS (luC nc kd un x) nc (0, li) 33).2) (fsF tb br kd vo bc (luS (luC nc kd un x) nc (0, li) 33).2 (eu x / 2 ^ 6) (luS (luC nc kd un x) nc (0, li) 33).1) cc0 cp cu cd tc ts tf ox m1 ob ra rb gc gr gk gg gp gt sa sb) → va_S A s.heap H locs → lv_has ls 9 [(0, .ref (a 5)), (1, .int (nI x)), (2, .int (nI ev)), (3, .long (lN wh)), (5, .int (nI i))] → W p l e ({ frames := 5, cells := 0, slots := 0, locals := 132 } : Room) s m args below meth c H locs 0 0 Q (F0 m 19 ls []) := by
    intro k
    induction k with
    | zero =>
      intro i m1 wh H locs ls hk hi hf hP hD hS hl
      exfalso
      omega
    | succ k ih_19 =>
      intro i m1 wh H locs ls hk hi hf hP hD hS hl
      refine lv_iload hx hb d_Od_workExactly_19 (lv_at hl 4 rfl) ?_
      refine lv_aload_n hx hb d_Od_workExactly_21 rfl (lv_at hl 0 rfl) ?_
      refine va_get (D := g) (ci := 5) (v := .ref (a 3)) (C := R_Od) (T := F_Od) (N := 7) hx hb hT i_Od hown hK hP 5 rfl rfl 2 (by decide) (hT _ tw_172) (fun _ h9 => h9) rfl d_Od_workExactly_22 ?_
      refine va_getN (D := g) (ci := 3) (v := .int (nI cc0)) (C := R_Ca) (T := F_Ca) (N := 4) hx hb hT i_Ca hown hK hP 3 rfl rfl 0 (by decide) (va_Nw.use rfl (hN _ tw_118)) (fun _ h9 => h9) rfl d_Od_workExactly_25 ?_
      refine my_icmp_ge (tgt := 100) (a := i) (b := cc0) hx hb d_Od_workExactly_28 (by decide) (by omega) (by omega) (fun c_28 => ?_) (fun c_28 => ?_)
      · -- 28: taken
        refine lv_iload_n hx hb d_Od_workExactly_100 rfl (lv_at hl 2 rfl) ?_
        refine lv_istore (lv' := [(5, .int (nI ev)), (0, .ref (a 5)), (1, .int (nI x)), (2, .int (nI ev)), (3, .long (lN wh))]) hx hb d_Od_workExactly_101 hl (by decide) rfl (fun ls hl => ?_)
        refine lv_iconst (v := (nI 0)) hx hb d_Od_workExactly_103 (by decide) ?_
        refine lv_istore (lv' := [(6, .int (nI 0)), (5, .int (nI ev)), (0, .ref (a 5)), (1, .int (nI x)), (2, .int (nI ev)), (3, .long (lN wh))]) hx hb d_Od_workExactly_104 hl (by decide) rfl (fun ls hl => ?_)
        have lp_106 : ∀ (k : Nat) (i : Nat) (m1 : Nat → Nat) (wh : Nat) (lf : Nat) (H : Heap) (locs : List Loc) (ls : Array Slot), (nv < i + k) → (i ≤ nv) → (lf < 4096) → ((m1, wh, lf) = (evF ev en eu nu nd (ceF ev cp cu cd (wsF (fsF tb br kd vo bc (luS (luC nc kd un x) nc (0, li) 33).2 (eu x / 2 ^ 6) (luS (luC nc kd un x) nc (0, li) 33).1) x ev ow (2 ^ popc ev 12)) cc0) i)) → va_P g vwCl (stW a rB rT cI cJ cII cJJ nc nv ng kd vo nu nd en br bc un eu ((luS (luC nc kd un x) nc (0, li) 33).2) (fsF tb br kd vo bc (luS (luC nc kd un x) nc (0, li) 33).2 (eu x / 2 ^ 6) (luS (luC nc kd un x) nc (0, li) 33).1) cc0 cp cu cd tc ts tf ox m1 ob ra rb gc gr gk gg gp gt sa sb) H → va_D A (stW a rB rT cI cJ cII cJJ nc nv ng kd vo nu nd en br bc un eu ((luS (luC nc kd un x) nc (0, li) 33).2) (fsF tb br kd vo bc (luS (luC nc kd un x) nc (0, li) 33).2 (eu x / 2 ^ 6) (luS (luC nc kd un x) nc (0, li) 33).1) cc0 cp cu cd tc ts tf ox m1 ob ra rb gc gr gk gg gp gt sa sb) → va_S A s.heap H locs → lv_has ls 9 [(0, .ref (a 5)), (1, .int (nI x)), (2, .int (nI ev)), (3, .long (lN wh)), (5, .int (nI lf)), (6, .int (nI i))] → W p l e ({ frames := 5, cells := 0, slots := 0, locals := 132 } : Room) s m args below meth c H locs 0 0 Q (F0 m 106 ls []) := by
          intro k
          induction k with
          | zero =>
            intro i m1 wh lf H locs ls hk hi hlf hf hP hD hS hl
            exfalso
            omega
          | succ k ih_106 =>
            intro i m1 wh lf H locs ls hk hi hlf hf hP hD hS hl
            refine lv_iload hx hb d_Od_workExactly_106 (lv_at hl 5 rfl) ?_
            refine lv_aload_n hx hb d_Od_workExactly_108 rfl (lv_at hl 0 rfl) ?_
            refine va_get (D := g) (ci := 5) (v := .ref (a 1)) (C := R_Od) (T := F_Od) (N := 7) hx hb hT i_Od hown hK hP 5 rfl rfl 0 (by decide) (hT _ tw_170) (fun _ h9 => h9) rfl d_Od_workExactly_109 ?_
            refine va_getN (D := g) (ci := 1) (v := .int (nI nv)) (C := R_No) (T := F_No) (N := 13) hx hb hT i_No hown hK hP 1 rfl rfl 1 (by decide) (va_Nw.use rfl (hN _ tw_36)) (fun _ h9 => h9) rfl d_Od_workExactly_112 ?_
            refine my_icmp_ge (tgt := 203) (a := i) (b := nv) hx hb d_Od_workExactly_115 (by decide) (by omega) (by omega) (fun c_115 => ?_) (fun c_115 => ?_)
            · -- 115: taken
              have e9 : (m1, wh, lf) = (evF ev en eu nu nd (ceF ev cp cu cd (wsF (fsF tb br kd vo bc (luS (luC nc kd un x) nc (0, li) 33).2 (eu x / 2 ^ 6) (luS (luC nc kd un x) nc (0, li) 33).1) x ev ow (2 ^ popc ev 12)) cc0) nv) := by rw [hf, show i = nv by omega]
              have e1 : (evF ev en eu nu nd (ceF ev cp cu cd (wsF (fsF tb br kd vo bc (luS (luC nc kd un x) nc (0, li) 33).2 (eu x / 2 ^ 6) (luS (luC nc kd un x) nc (0, li) 33).1) x ev ow (2 ^ popc ev 12)) cc0) nv).1 = m1 := by rw [← e9]
              have e2 : (evF ev en eu nu nd (ceF ev cp cu cd (wsF (fsF tb br kd vo bc (luS (luC nc kd un x) nc (0, li) 33).2 (eu x / 2 ^ 6) (luS (luC nc kd un x) nc (0, li) 33).1) x ev ow (2 ^ popc ev 12)) cc0) nv).2.1 = wh := by rw [← e9]
              rw [← e1] at hP hD
              rw [← e2] at hl
              refine lv_aload_n hx hb d_Od_workExactly_203 rfl (lv_at hl 0 rfl) ?_
              refine va_get (D := g) (ci := 5) (v := .ref (a 8)) (C := R_Od) (T := F_Od) (N := 7) hx hb hT i_Od hown hK hP 5 rfl rfl 3 (by decide) (hT _ tw_173) (fun _ h9 => h9) rfl d_Od_workExactly_204 ?_
              refine lv_aload_n hx hb d_Od_workExactly_207 rfl (lv_at hl 0 rfl) ?_
              refine va_get (D := g) (ci := 5) (v := .ref (a 25)) (C := R_Od) (T := F_Od) (N := 7) hx hb hT i_Od hown hK hP 5 rfl rfl 5 (by decide) (hT _ tw_177) (fun _ h9 => h9) rfl d_Od_workExactly_208 ?_
              refine lv_iconst (v := (nI 0)) hx hb d_Od_workExactly_211 (by decide) ?_
              refine my_lald (v := (lN (((evF ev en eu nu nd (ceF ev cp cu cd (wsF (fsF tb br kd vo bc (luS (luC nc kd un x) nc (0, li) 33).2 (eu x / 2 ^ 6) (luS (luC nc kd un x) nc (0, li) 33).1) x ev ow (2 ^ popc ev 12)) cc0) nv).1) 0))) (i := 0) hx hb hK hP 25 1 rfl rfl (by omega) (by decide) rfl d_Od_workExactly_212 ?_
              refine lv_lload_n hx hb d_Od_workExactly_213 rfl (lv_at hl 3 rfl) ?_
              refine my_V_v (q0 := 8) (ci := 7) (C := R_Fr) (As := [.long (lN (((evF ev en eu nu nd (ceF ev cp cu cd (wsF (fsF tb br kd vo bc (luS (luC nc kd un x) nc (0, li) 33).2 (eu x / 2 ^ 6) (luS (luC nc kd un x) nc (0, li) 33).1) x ev ow (2 ^ popc ev 12)) cc0) nv).1) 0)), .long (lN ((evF ev en eu nu nd (ceF ev cp cu cd (wsF (fsF tb br kd vo bc (luS (luC nc kd un x) nc (0, li) 33).2 (eu x / 2 ^ 6) (luS (luC nc kd un x) nc (0, li) 33).1) x ev ow (2 ^ popc ev 12)) cc0) nv).2.1))]) (n := 2) (k_Fr_set8 l g a rB rT cI cJ cII cJJ nc nv ng kd vo nu nd en br bc un eu ((luS (luC nc kd un x) nc (0, li) 33).2) (fsF tb br kd vo bc (luS (luC nc kd un x) nc (0, li) 33).2 (eu x / 2 ^ 6) (luS (luC nc kd un x) nc (0, li) 33).1) cc0 cp cu cd tc ts tf ox ((evF ev en eu nu nd (ceF ev cp cu cd (wsF (fsF tb br kd vo bc (luS (luC nc kd un x) nc (0, li) 33).2 (eu x / 2 ^ 6) (luS (luC nc kd un x) nc (0, li) 33).1) x ev ow (2 ^ popc ev 12)) cc0) nv).1) ob ra rb gc gr gk gg gp gt sa sb (((evF ev en eu nu nd (ceF ev cp cu cd (wsF (fsF tb br kd vo bc (luS (luC nc kd un x) nc (0, li) 33).2 (eu x / 2 ^ 6) (luS (luC nc kd un x) nc (0, li) 33).1) x ev ow (2 ^ popc ev 12)) cc0) nv).1) 0) ((evF ev en eu nu nd (ceF ev cp cu cd (wsF (fsF tb br kd vo bc (luS (luC nc kd un x) nc (0, li) 33).2 (eu x / 2 ^ 6) (luS (luC nc kd un x) nc (0, li) 33).1) x ev ow (2 ^ popc ev 12)) cc0) nv).2.1) hlim.1 hlim.2.1 hlim.2.2) hx hb hml hown hT hN tw_433 tw_434 tw_435 tw_7 tw_436 (by decide +kernel) rfl rfl ⟨Nat.le_of_ble_eq_true rfl, Nat.le_of_ble_eq_true rfl⟩ ⟨Nat.zero_le _, Nat.zero_le _⟩ hK hP hD hS hA rfl rfl rfl hl rfl (Nat.le_of_ble_eq_true rfl) d_Od_workExactly_214 (fun H locs hP hD hS => ?_)
              exact hret _ _ _ _ hP hD hS d_Od_workExactly_217
            · -- 115: not taken
              refine lv_aload_n hx hb d_Od_workExactly_118 rfl (lv_at hl 0 rfl) ?_
              refine va_get (D := g) (ci := 5) (v := .ref (a 1)) (C := R_Od) (T := F_Od) (N := 7) hx hb hT i_Od hown hK hP 5 rfl rfl 0 (by decide) (hT _ tw_170) (fun _ h9 => h9) rfl d_Od_workExactly_119 ?_
              refine va_getN (D := g) (ci := 1) (v := .ref (a 13)) (C := R_No) (T := F_No) (N := 13) hx hb hT i_No hown hK hP 1 rfl rfl 7 (by decide) (va_Nw.use rfl (hN _ tw_50)) (fun _ h9 => h9) rfl d_Od_workExactly_122 ?_
              refine lv_iload hx hb d_Od_workExactly_125 (lv_at hl 5 rfl) ?_
              have q7 := hen i
              refine my_iald (v := (nI (en i))) (i := i) hx hb hK hP 13 0 rfl rfl (by omega) (by decide) rfl d_Od_workExactly_127 ?_
              refine lv_istore (lv' := [(7, .int (nI (en i))), (0, .ref (a 5)), (1, .int (nI x)), (2, .int (nI ev)), (3, .long (lN wh)), (5, .int (nI lf)), (6, .int (nI i))]) hx hb d_Od_workExactly_128 hl (by decide) rfl (fun ls hl => ?_)
              refine lv_aload_n hx hb d_Od_workExactly_130 rfl (lv_at hl 1 rfl) ?_
              refine va_get (D := g) (ci := 5) (v := .ref (a 1)) (C := R_Od) (T := F_Od) (N := 7) hx hb hT i_Od hown hK hP 5 rfl rfl 0 (by decide) (hT _ tw_170) (fun _ h9 => h9) rfl d_Od_workExactly_131 ?_
              refine va_getN (D := g) (ci := 1) (v := .ref (a 17)) (C := R_No) (T := F_No) (N := 13) hx hb hT i_No hown hK hP 1 rfl rfl 11 (by decide) (va_Nw.use rfl (hN _ tw_62)) (fun _ h9 => h9) rfl d_Od_workExactly_134 ?_
              refine lv_iload hx hb d_Od_workExactly_137 (lv_at hl 0 rfl) ?_
              refine my_iald (v := (nI (eu (en i)))) (i := en i) hx hb hK hP 17 0 rfl rfl (by omega) (by decide) rfl d_Od_workExactly_139 ?_
              refine lv_istore (lv' := [(8, .int (nI (eu (en i)))), (7, .int (nI (en i))), (0, .ref (a 5)), (1, .int (nI x)), (2, .int (nI ev)), (3, .long (lN wh)), (5, .int (nI lf)), (6, .int (nI i))]) hx hb d_Od_workExactly_140 hl (by decide) rfl (fun ls hl => ?_)
              refine lv_iload_n hx hb d_Od_workExactly_142 rfl (lv_at hl 4 rfl) ?_
              refine lv_iload hx hb d_Od_workExactly_143 (lv_at hl 0 rfl) ?_
              refine lv_iand hx hb d_Od_workExactly_145 ?_
              refine my_ei (nx_and ev (eu (en i))) ?_
              have q8 : ev &&& eu (en i) < 4096 := Nat.lt_of_le_of_lt Nat.and_le_left hev
              refine my_if_eq (tgt := 197) (a := ev &&& (eu (en i))) hx hb d_Od_workExactly_146 (by decide) (by omega) (fun c_146 => ?_) (fun c_146 => ?_)
              · -- 146: taken
                refine lv_iinc (v := (nI (i + 1))) (lv' := [(6, .int (nI (i + 1))), (8, .int (nI (eu (en i)))), (7, .int (nI (en i))), (0, .ref (a 5)), (1, .int (nI x)), (2, .int (nI ev)), (3, .long (lN wh)), (5, .int (nI lf))]) hx hb d_Od_workExactly_197 hl (k := 7) rfl (nI_1 i) (by decide) rfl (fun ls hl => ?_)
                refine lv_goto (tgt := 106) hx hb d_Od_workExactly_200 (by decide) ?_
                refine ih_106 _ _ _ _ _ _ _ ?_ ?_ ?_ ?_ hP hD hS (lv_sub hl [3, 4, 5, 6, 7, 0] rfl)
                · omega
                · omega
                · exact hlf
                · have e1 : (evF ev en eu nu nd (ceF ev cp cu cd (wsF (fsF tb br kd vo bc (luS (luC nc kd un x) nc (0, li) 33).2 (eu x / 2 ^ 6) (luS (luC nc kd un x) nc (0, li) 33).1) x ev ow (2 ^ popc ev 12)) cc0) i).1 = m1 := by rw [← hf]
                  have e2 : (evF ev en eu nu nd (ceF ev cp cu cd (wsF (fsF tb br kd vo bc (luS (luC nc kd un x) nc (0, li) 33).2 (eu x / 2 ^ 6) (luS (luC nc kd un x) nc (0, li) 33).1) x ev ow (2 ^ popc ev 12)) cc0) i).2.1 = wh := by rw [← hf]
                  have e3 : (evF ev en eu nu nd (ceF ev cp cu cd (wsF (fsF tb br kd vo bc (luS (luC nc kd un x) nc (0, li) 33).2 (eu x / 2 ^ 6) (luS (luC nc kd un x) nc (0, li) 33).1) x ev ow (2 ^ popc ev 12)) cc0) i).2.2 = lf := by rw [← hf]
                  rw [evF_f c_146, hf]
              · -- 146: not taken
                have q9 : lf ^^^ eu (en i) < 4096 := Nat.xor_lt_two_pow (n := 12) hlf (heu _)
                refine lv_iload hx hb d_Od_workExactly_149 (lv_at hl 6 rfl) ?_
                refine lv_iload hx hb d_Od_workExactly_151 (lv_at hl 0 rfl) ?_
                refine lv_ixor hx hb d_Od_workExactly_153 ?_
                refine my_ei (nx_xor lf (eu (en i))) ?_
                refine lv_istore (lv' := [(5, .int (nI (lf ^^^ (eu (en i))))), (8, .int (nI (eu (en i)))), (7, .int (nI (en i))), (0, .ref (a 5)), (1, .int (nI x)), (2, .int (nI ev)), (3, .long (lN wh)), (6, .int (nI i))]) hx hb d_Od_workExactly_154 hl (by decide) rfl (fun ls hl => ?_)
                refine lv_aload_n hx hb d_Od_workExactly_156 rfl (lv_at hl 3 rfl) ?_
                refine lv_iload hx hb d_Od_workExactly_157 (lv_at hl 0 rfl) ?_
                refine lv_iload hx hb d_Od_workExactly_159 (lv_at hl 1 rfl) ?_
                refine lv_aload_n hx hb d_Od_workExactly_161 rfl (lv_at hl 3 rfl) ?_
                refine va_get (D := g) (ci := 5) (v := .ref (a 1)) (C := R_Od) (T := F_Od) (N := 7) hx hb hT i_Od hown hK hP 5 rfl rfl 0 (by decide) (hT _ tw_170) (fun _ h9 => h9) rfl d_Od_workExactly_162 ?_
                refine va_getN (D := g) (ci := 1) (v := .ref (a 11)) (C := R_No) (T := F_No) (N := 13) hx hb hT i_No hown hK hP 1 rfl rfl 5 (by decide) (va_Nw.use rfl (hN _ tw_46)) (fun _ h9 => h9) rfl d_Od_workExactly_165 ?_
                refine lv_iload hx hb d_Od_workExactly_168 (lv_at hl 2 rfl) ?_
                refine my_lald (v := (lN (nu (en i)))) (i := en i) hx hb hK hP 11 1 rfl rfl (by omega) (by decide) rfl d_Od_workExactly_170 ?_
                refine lv_aload_n hx hb d_Od_workExactly_171 rfl (lv_at hl 3 rfl) ?_
                refine va_get (D := g) (ci := 5) (v := .ref (a 1)) (C := R_Od) (T := F_Od) (N := 7) hx hb hT i_Od hown hK hP 5 rfl rfl 0 (by decide) (hT _ tw_170) (fun _ h9 => h9) rfl d_Od_workExactly_172 ?_
                refine va_getN (D := g) (ci := 1) (v := .ref (a 12)) (C := R_No) (T := F_No) (N := 13) hx hb hT i_No hown hK hP 1 rfl rfl 6 (by decide) (va_Nw.use rfl (hN _ tw_48)) (fun _ h9 => h9) rfl d_Od_workExactly_175 ?_
                refine lv_iload hx hb d_Od_workExactly_178 (lv_at hl 2 rfl) ?_
                refine my_lald (v := (lN (nd (en i)))) (i := en i) hx hb hK hP 12 1 rfl rfl (by omega) (by decide) rfl d_Od_workExactly_180 ?_
                refine my_V_v (q0 := 5) (ci := 5) (C := R_Od) (As := [.int (nI (lf ^^^ (eu (en i)))), .int (nI (eu (en i))), .long (lN (nu (en i))), .long (lN (nd (en i)))]) (n := 4) (k_Od_mix l g a rB rT cI cJ cII cJJ nc nv ng kd vo nu nd en br bc un eu ((luS (luC nc kd un x) nc (0, li) 33).2) (fsF tb br kd vo bc (luS (luC nc kd un x) nc (0, li) 33).2 (eu x / 2 ^ 6) (luS (luC nc kd un x) nc (0, li) 33).1) cc0 cp cu cd tc ts tf ox m1 ob ra rb gc gr gk gg gp gt sa sb (lf ^^^ (eu (en i))) (eu (en i)) (nu (en i)) (nd (en i)) q9 (heu _) (hnud _)) hx hb hml hown hT hN tw_429 tw_431 tp_9 tw_6 tw_432 (by decide +kernel) rfl rfl ⟨Nat.le_of_ble_eq_true rfl, Nat.le_of_ble_eq_true rfl⟩ ⟨Nat.zero_le _, Nat.zero_le _⟩ hK hP hD hS hA rfl rfl rfl hl rfl (Nat.le_of_ble_eq_true rfl) d_Od_workExactly_181 (fun H locs hP hD hS => ?_)
                refine lv_lload_n hx hb d_Od_workExactly_184 rfl (lv_at hl 6 rfl) ?_
                refine lv_aload_n hx hb d_Od_workExactly_185 rfl (lv_at hl 3 rfl) ?_
                refine va_get (D := g) (ci := 5) (v := .ref (a 1)) (C := R_Od) (T := F_Od) (N := 7) hx hb hT i_Od hown hK hP 5 rfl rfl 0 (by decide) (hT _ tw_170) (fun _ h9 => h9) rfl d_Od_workExactly_186 ?_
                refine va_getN (D := g) (ci := 1) (v := .ref (a 12)) (C := R_No) (T := F_No) (N := 13) hx hb hT i_No hown hK hP 1 rfl rfl 6 (by decide) (va_Nw.use rfl (hN _ tw_48)) (fun _ h9 => h9) rfl d_Od_workExactly_189 ?_
                refine lv_iload hx hb d_Od_workExactly_192 (lv_at hl 2 rfl) ?_
                refine my_lald (v := (lN (nd (en i)))) (i := en i) hx hb hK hP 12 1 rfl rfl (by omega) (by decide) rfl d_Od_workExactly_194 ?_
                refine lv_lmul hx hb d_Od_workExactly_195 ?_
                refine my_el (lN_mul wh (nd (en i))) ?_
                refine lv_lstore_n (lv' := [(3, .long (lN (wh * (nd (en i))))), (5, .int (nI (lf ^^^ (eu (en i))))), (8, .int (nI (eu (en i)))), (7, .int (nI (en i))), (0, .ref (a 5)), (1, .int (nI x)), (2, .int (nI ev)), (6, .int (nI i))]) hx hb d_Od_workExactly_196 rfl hl (by decide) rfl (fun ls hl => ?_)
                refine lv_iinc (v := (nI (i + 1))) (lv' := [(6, .int (nI (i + 1))), (3, .long (lN (wh * (nd (en i))))), (5, .int (nI (lf ^^^ (eu (en i))))), (8, .int (nI (eu (en i)))), (7, .int (nI (en i))), (0, .ref (a 5)), (1, .int (nI x)), (2, .int (nI ev))]) hx hb d_Od_workExactly_197 hl (k := 7) rfl (nI_1 i) (by decide) rfl (fun ls hl => ?_)
                refine lv_goto (tgt := 106) hx hb d_Od_workExactly_200 (by decide) ?_
                refine ih_106 _ _ _ _ _ _ _ ?_ ?_ ?_ ?_ hP hD hS (lv_sub hl [5, 6, 7, 1, 2, 0] rfl)
                · omega
                · omega
                · exact q9
                · have e1 : (evF ev en eu nu nd (ceF ev cp cu cd (wsF (fsF tb br kd vo bc (luS (luC nc kd un x) nc (0, li) 33).2 (eu x / 2 ^ 6) (luS (luC nc kd un x) nc (0, li) 33).1) x ev ow (2 ^ popc ev 12)) cc0) i).1 = m1 := by rw [← hf]
                  have e2 : (evF ev en eu nu nd (ceF ev cp cu cd (wsF (fsF tb br kd vo bc (luS (luC nc kd un x) nc (0, li) 33).2 (eu x / 2 ^ 6) (luS (luC nc kd un x) nc (0, li) 33).1) x ev ow (2 ^ popc ev 12)) cc0) i).2.1 = wh := by rw [← hf]
                  have e3 : (evF ev en eu nu nd (ceF ev cp cu cd (wsF (fsF tb br kd vo bc (luS (luC nc kd un x) nc (0, li) 33).2 (eu x / 2 ^ 6) (luS (luC nc kd un x) nc (0, li) 33).1) x ev ow (2 ^ popc ev 12)) cc0) i).2.2 = lf := by rw [← hf]
                  rw [evF_t (by omega), e1, e2, e3]
        refine lp_106 (nv + 1) _ _ _ _ _ _ _ ?_ ?_ ?_ ?_ hP hD hS (lv_sub hl [2, 3, 4, 5, 1, 0] rfl)
        · omega
        · omega
        · exact hev
        · rw [← show i = cc0 by omega]; show _ = ((ceF ev cp cu cd (wsF (fsF tb br kd vo bc (luS (luC nc kd un x) nc (0, li) 33).2 (eu x / 2 ^ 6) (luS (luC nc kd un x) nc (0, li) 33).1) x ev ow (2 ^ popc ev 12)) i).1, (ceF ev cp cu cd (wsF (fsF tb br kd vo bc (luS (luC nc kd un x) nc (0, li) 33).2 (eu x / 2 ^ 6) (luS (luC nc kd un x) nc (0, li) 33).1) x ev ow (2 ^ popc ev 12)) i).2, ev); rw [← hf]
      · -- 28: not taken
        refine lv_aload_n hx hb d_Od_workExactly_31 rfl (lv_at hl 0 rfl) ?_
        refine va_get (D := g) (ci := 5) (v := .ref (a 3)) (C := R_Od) (T := F_Od) (N := 7) hx hb hT i_Od hown hK hP 5 rfl rfl 2 (by decide) (hT _ tw_172) (fun _ h9 => h9) rfl d_Od_workExactly_32 ?_
        refine lv_iload hx hb d_Od_workExactly_35 (lv_at hl 4 rfl) ?_
        refine lv_iload_n hx hb d_Od_workExactly_37 rfl (lv_at hl 2 rfl) ?_
        refine my_V_i (q0 := 3) (ci := 3) (C := R_Ca) (As := [.int (nI i), .int (nI ev)]) (n := 2) (k_Ca_touches l g a rB rT cI cJ cII cJJ nc nv ng kd vo nu nd en br bc un eu ((luS (luC nc kd un x) nc (0, li) 33).2) (fsF tb br kd vo bc (luS (luC nc kd un x) nc (0, li) 33).2 (eu x / 2 ^ 6) (luS (luC nc kd un x) nc (0, li) 33).1) cc0 cp cu cd tc ts tf ox m1 ob ra rb gc gr gk gg gp gt sa sb i ev (by omega) hcp) hx hb hml hown hT hN tw_428 tw_411 tw_412 tw_4 tw_413 (by decide +kernel) rfl rfl ⟨Nat.le_of_ble_eq_true rfl, Nat.le_of_ble_eq_true rfl⟩ ⟨Nat.zero_le _, Nat.zero_le _⟩ hK hP hD hS hA rfl rfl rfl hl rfl (Nat.le_of_ble_eq_true rfl) d_Od_workExactly_38 (fun H locs hP hD hS => ?_)
        refine my_if_eq_b (tgt := 94) hx hb d_Od_workExactly_41 (by decide) (fun c_41 => ?_) (fun c_41 => ?_)
        · -- 41: taken
          refine lv_iinc (v := (nI (i + 1))) (lv' := [(5, .int (nI (i + 1))), (0, .ref (a 5)), (1, .int (nI x)), (2, .int (nI ev)), (3, .long (lN wh))]) hx hb d_Od_workExactly_94 hl (k := 4) rfl (nI_1 i) (by decide) rfl (fun ls hl => ?_)
          refine lv_goto (tgt := 19) hx hb d_Od_workExactly_97 (by decide) ?_
          refine ih_19 _ _ _ _ _ _ ?_ ?_ ?_ hP hD hS (lv_sub hl [1, 2, 3, 4, 0] rfl)
          · omega
          · omega
          · have e1 : (ceF ev cp cu cd (wsF (fsF tb br kd vo bc (luS (luC nc kd un x) nc (0, li) 33).2 (eu x / 2 ^ 6) (luS (luC nc kd un x) nc (0, li) 33).1) x ev ow (2 ^ popc ev 12)) i).1 = m1 := by rw [← hf]
            have e2 : (ceF ev cp cu cd (wsF (fsF tb br kd vo bc (luS (luC nc kd un x) nc (0, li) 33).2 (eu x / 2 ^ 6) (luS (luC nc kd un x) nc (0, li) 33).1) x ev ow (2 ^ popc ev 12)) i).2 = wh := by rw [← hf]
            rw [ceF_f (by simpa using c_41), hf]
        · -- 41: not taken
          refine lv_aload_n hx hb d_Od_workExactly_44 rfl (lv_at hl 0 rfl) ?_
          refine lv_iload_n hx hb d_Od_workExactly_45 rfl (lv_at hl 2 rfl) ?_
          refine lv_aload_n hx hb d_Od_workExactly_46 rfl (lv_at hl 0 rfl) ?_
          refine va_get (D := g) (ci := 5) (v := .ref (a 3)) (C := R_Od) (T := F_Od) (N := 7) hx hb hT i_Od hown hK hP 5 rfl rfl 2 (by decide) (hT _ tw_172) (fun _ h9 => h9) rfl d_Od_workExactly_47 ?_
          refine va_getN (D := g) (ci := 3) (v := .ref (a 20)) (C := R_Ca) (T := F_Ca) (N := 4) hx hb hT i_Ca hown hK hP 3 rfl rfl 1 (by decide) (va_Nw.use rfl (hN _ tw_121)) (fun _ h9 => h9) rfl d_Od_workExactly_50 ?_
          refine lv_iload hx hb d_Od_workExactly_53 (lv_at hl 4 rfl) ?_
          refine my_iald (v := (nI (cp i))) (i := i) hx hb hK hP 20 0 rfl rfl (by omega) (by decide) rfl d_Od_workExactly_55 ?_
          refine lv_iload_n hx hb d_Od_workExactly_56 rfl (lv_at hl 2 rfl) ?_
          refine lv_iand hx hb d_Od_workExactly_57 ?_
          refine my_ei (nx_and (cp i) ev) ?_
          refine lv_aload_n hx hb d_Od_workExactly_58 rfl (lv_at hl 0 rfl) ?_
          refine va_get (D := g) (ci := 5) (v := .ref (a 3)) (C := R_Od) (T := F_Od) (N := 7) hx hb hT i_Od hown hK hP 5 rfl rfl 2 (by decide) (hT _ tw_172) (fun _ h9 => h9) rfl d_Od_workExactly_59 ?_
          refine va_getN (D := g) (ci := 3) (v := .ref (a 21)) (C := R_Ca) (T := F_Ca) (N := 4) hx hb hT i_Ca hown hK hP 3 rfl rfl 2 (by decide) (va_Nw.use rfl (hN _ tw_123)) (fun _ h9 => h9) rfl d_Od_workExactly_62 ?_
          refine lv_iload hx hb d_Od_workExactly_65 (lv_at hl 4 rfl) ?_
          refine my_lald (v := (lN (cu i))) (i := i) hx hb hK hP 21 1 rfl rfl (by omega) (by decide) rfl d_Od_workExactly_67 ?_
          refine lv_aload_n hx hb d_Od_workExactly_68 rfl (lv_at hl 0 rfl) ?_
          refine va_get (D := g) (ci := 5) (v := .ref (a 3)) (C := R_Od) (T := F_Od) (N := 7) hx hb hT i_Od hown hK hP 5 rfl rfl 2 (by decide) (hT _ tw_172) (fun _ h9 => h9) rfl d_Od_workExactly_69 ?_
          refine va_getN (D := g) (ci := 3) (v := .ref (a 22)) (C := R_Ca) (T := F_Ca) (N := 4) hx hb hT i_Ca hown hK hP 3 rfl rfl 3 (by decide) (va_Nw.use rfl (hN _ tw_125)) (fun _ h9 => h9) rfl d_Od_workExactly_72 ?_
          refine lv_iload hx hb d_Od_workExactly_75 (lv_at hl 4 rfl) ?_
          refine my_lald (v := (lN (cd i))) (i := i) hx hb hK hP 22 1 rfl rfl (by omega) (by decide) rfl d_Od_workExactly_77 ?_
          refine my_V_v (q0 := 5) (ci := 5) (C := R_Od) (As := [.int (nI ev), .int (nI ((cp i) &&& ev)), .long (lN (cu i)), .long (lN (cd i))]) (n := 4) (k_Od_mix l g a rB rT cI cJ cII cJJ nc nv ng kd vo nu nd en br bc un eu ((luS (luC nc kd un x) nc (0, li) 33).2) (fsF tb br kd vo bc (luS (luC nc kd un x) nc (0, li) 33).2 (eu x / 2 ^ 6) (luS (luC nc kd un x) nc (0, li) 33).1) cc0 cp cu cd tc ts tf ox m1 ob ra rb gc gr gk gg gp gt sa sb ev ((cp i) &&& ev) (cu i) (cd i) hev (Nat.lt_of_le_of_lt Nat.and_le_right hev) (hcud i)) hx hb hml hown hT hN tw_429 tw_431 tp_9 tw_6 tw_432 (by decide +kernel) rfl rfl ⟨Nat.le_of_ble_eq_true rfl, Nat.le_of_ble_eq_true rfl⟩ ⟨Nat.zero_le _, Nat.zero_le _⟩ hK hP hD hS hA rfl rfl rfl hl rfl (Nat.le_of_ble_eq_true rfl) d_Od_workExactly_78 (fun H locs hP hD hS => ?_)
          refine lv_lload_n hx hb d_Od_workExactly_81 rfl (lv_at hl 3 rfl) ?_
          refine lv_aload_n hx hb d_Od_workExactly_82 rfl (lv_at hl 0 rfl) ?_
          refine va_get (D := g) (ci := 5) (v := .ref (a 3)) (C := R_Od) (T := F_Od) (N := 7) hx hb hT i_Od hown hK hP 5 rfl rfl 2 (by decide) (hT _ tw_172) (fun _ h9 => h9) rfl d_Od_workExactly_83 ?_
          refine va_getN (D := g) (ci := 3) (v := .ref (a 22)) (C := R_Ca) (T := F_Ca) (N := 4) hx hb hT i_Ca hown hK hP 3 rfl rfl 3 (by decide) (va_Nw.use rfl (hN _ tw_125)) (fun _ h9 => h9) rfl d_Od_workExactly_86 ?_
          refine lv_iload hx hb d_Od_workExactly_89 (lv_at hl 4 rfl) ?_
          refine my_lald (v := (lN (cd i))) (i := i) hx hb hK hP 22 1 rfl rfl (by omega) (by decide) rfl d_Od_workExactly_91 ?_
          refine lv_lmul hx hb d_Od_workExactly_92 ?_
          refine my_el (lN_mul wh (cd i)) ?_
          refine lv_lstore_n (lv' := [(3, .long (lN (wh * (cd i)))), (0, .ref (a 5)), (1, .int (nI x)), (2, .int (nI ev)), (5, .int (nI i))]) hx hb d_Od_workExactly_93 rfl hl (by decide) rfl (fun ls hl => ?_)
          refine lv_iinc (v := (nI (i + 1))) (lv' := [(5, .int (nI (i + 1))), (3, .long (lN (wh * (cd i)))), (0, .ref (a 5)), (1, .int (nI x)), (2, .int (nI ev))]) hx hb d_Od_workExactly_94 hl (k := 4) rfl (nI_1 i) (by decide) rfl (fun ls hl => ?_)
          refine lv_goto (tgt := 19) hx hb d_Od_workExactly_97 (by decide) ?_
          refine ih_19 _ _ _ _ _ _ ?_ ?_ ?_ hP hD hS (lv_sub hl [2, 3, 4, 1, 0] rfl)
          · omega
          · omega
          · have e1 : (ceF ev cp cu cd (wsF (fsF tb br kd vo bc (luS (luC nc kd un x) nc (0, li) 33).2 (eu x / 2 ^ 6) (luS (luC nc kd un x) nc (0, li) 33).1) x ev ow (2 ^ popc ev 12)) i).1 = m1 := by rw [← hf]
            have e2 : (ceF ev cp cu cd (wsF (fsF tb br kd vo bc (luS (luC nc kd un x) nc (0, li) 33).2 (eu x / 2 ^ 6) (luS (luC nc kd un x) nc (0, li) 33).1) x ev ow (2 ^ popc ev 12)) i).2 = wh := by rw [← hf]
            rw [ceF_t (by simpa using c_41), e1, e2]
  refine lp_19 (cc0 + 1) _ _ _ _ _ _ ?_ ?_ ?_ hP hD hS (lv_sub hl [2, 3, 4, 1, 0] rfl)
  · omega
  · omega
  · rfl
set_option maxHeartbeats 4000000 in
set_option maxRecDepth 100000 in
theorem k_Od_workBound (l : Launch) (g : va_G) (a rB rT : Nat → Nat) (cI cJ cII cJJ : ClassId) (nc : Nat) (nv : Nat) (ng : Nat) (kd : Nat → Int32) (vo : Nat → Nat) (nu : Nat → Nat) (nd : Nat → Nat) (en : Nat → Nat) (br : Nat → Nat → Nat) (bc : Nat → Nat) (un : Nat → Nat) (eu : Nat → Nat) (li : Nat → Nat) (tb : Nat → Nat → Int64) (cc0 : Nat) (cp : Nat → Nat) (cu : Nat → Nat) (cd : Nat → Nat) (tc : Nat) (ts : Nat → Nat) (tf : Nat → Nat) (ox : Bool) (ow : Nat → Nat) (ob : Nat → Nat) (ra : Nat) (rb : Nat) (gc : Nat) (gr : Nat) (gk : Nat → Nat) (gg : Nat → Nat) (gp : Nat → Nat) (gt : Nat → Nat) (sa : Nat) (sb : Nat) (x : Nat) (hx1 : x ≤ 32) (hnc : nc ≤ 32) (hun : ∀ j, un j < 2 ^ 33) (hbc : ∀ j, bc j ≤ 10) (hbr : ∀ j i, br j i ≤ 32) (hvo : ∀ j, vo j ≤ 10) (hcc : cc0 ≤ 4) (hnv : nv ≤ 12) (hcp : ∀ j, cp j < 4096) (hen : ∀ j, en j ≤ 32) (hnu : ∀ j, nu j ≤ 10) (hnd : ∀ j, nd j ≤ 10) (hcu : ∀ j, cu j ≤ 10) (hcd : ∀ j, cd j ≤ 10) (hob : ∀ j, ob j ≤ 2520) : ct_v l g vwCl (tyS cI cJ cII cJJ) y_Od_workBound c_Od_workBound 4 none ({ frames := 3, cells := 0, slots := 0, locals := 67 } : Room) [.ref (a 5), .int (nI x)] (stW a rB rT cI cJ cII cJJ nc nv ng kd vo nu nd en br bc un eu li tb cc0 cp cu cd tc ts tf ox ow ob ra rb gc gr gk gg gp gt sa sb) (stW a rB rT cI cJ cII cJJ nc nv ng kd vo nu nd en br bc un eu ((luS (luC nc kd un x) nc (0, li) 33).2) tb cc0 cp cu cd tc ts tf ox ow (bgF br bc vo kd (luS (luC nc kd un x) nc (0, li) 33).2 (beF (fun z => mnF (ebF nu nd eu cp cu cd z cc0) 2520) en ob nv) (luS (luC nc kd un x) nc (0, li) 33).1) ((bgF br bc vo kd (luS (luC nc kd un x) nc (0, li) 33).2 (beF (fun z => mnF (ebF nu nd eu cp cu cd z cc0) 2520) en ob nv) (luS (luC nc kd un x) nc (0, li) 33).1) x / cdF 100 ((bgF br bc vo kd (luS (luC nc kd un x) nc (0, li) 33).2 (beF (fun z => mnF (ebF nu nd eu cp cu cd z cc0) 2520) en ob nv) (luS (luC nc kd un x) nc (0, li) 33).1) x) 2520) (2520 / cdF 100 ((bgF br bc vo kd (luS (luC nc kd un x) nc (0, li) 33).2 (beF (fun z => mnF (ebF nu nd eu cp cu cd z cc0) 2520) en ob nv) (luS (luC nc kd un x) nc (0, li) 33).1) x) 2520) gc gr gk gg gp gt sa sb) := by
  refine ct_v.intro (by decide) (Nat.le_of_ble_eq_true rfl) ?_
  intro p e s m args below meth c Q A ls hx hb hml hT hown hA hK hN hret hP hD hS hl
  have hown : s.vm.findClass R_Od = some m.cls := hown
  have hl : lv_has ls 4 [(0, .ref (a 5)), (1, .int (nI x))] := hl
  have q2 := luS_le (luC nc kd un x) nc li 33
  have hE : ∀ z, (fun z => mnF (ebF nu nd eu cp cu cd z cc0) 2520) z ≤ 2520 := fun z => mnF_le _ _
  refine lv_iconst (v := (nI 0)) hx hb d_Od_workBound_0 (by decide) ?_
  refine lv_istore_n (lv' := [(2, .int (nI 0)), (0, .ref (a 5)), (1, .int (nI x))]) hx hb d_Od_workBound_1 rfl hl (by decide) rfl (fun ls hl => ?_)
  have lp_2 : ∀ (k : Nat) (i : Nat) (b1 : Nat → Nat) (H : Heap) (locs : List Loc) (ls : Array Slot), (nv < i + k) → (i ≤ nv) → (b1 = beF (fun z => mnF (ebF nu nd eu cp cu cd z cc0) 2520) en ob i) → va_P g vwCl (stW a rB rT cI cJ cII cJJ nc nv ng kd vo nu nd en br bc un eu li tb cc0 cp cu cd tc ts tf ox ow b1 ra rb gc gr gk gg gp gt sa sb) H → va_D A (stW a rB rT cI cJ cII cJJ nc nv ng kd vo nu nd en br bc un eu li tb cc0 cp cu cd tc ts tf ox ow b1 ra rb gc gr gk gg gp gt sa sb) → va_S A s.heap H locs → lv_has ls 4 [(0, .ref (a 5)), (1, .int (nI x)), (2, .int (nI i))] → W p l e ({ frames := 3, cells := 0, slots := 0, locals := 67 } : Room) s m args below meth c H locs 0 0 Q (F0 m 2 ls []) := by
    intro k
    induction k with
    | zero =>
      intro i b1 H locs ls hk hi hf hP hD hS hl
      exfalso
      omega
    | succ k ih_2 =>
      intro i b1 H locs ls hk hi hf hP hD hS hl
      refine lv_iload_n hx hb d_Od_workBound_2 rfl (lv_at hl 2 rfl) ?_
      refine lv_aload_n hx hb d_Od_workBound_3 rfl (lv_at hl 0 rfl) ?_
      refine va_get (D := g) (ci := 5) (v := .ref (a 1)) (C := R_Od) (T := F_Od) (N := 7) hx hb hT i_Od hown hK hP 5 rfl rfl 0 (by decide) (hT _ tw_170) (fun _ h9 => h9) rfl d_Od_workBound_4 ?_
      refine va_getN (D := g) (ci := 1) (v := .int (nI nv)) (C := R_No) (T := F_No) (N := 13) hx hb hT i_No hown hK hP 1 rfl rfl 1 (by decide) (va_Nw.use rfl (hN _ tw_36)) (fun _ h9 => h9) rfl d_Od_workBound_7 ?_
      refine my_icmp_ge (tgt := 40) (a := i) (b := nv) hx hb d_Od_workBound_10 (by decide) (by omega) (by omega) (fun c_10 => ?_) (fun c_10 => ?_)
      · -- 10: taken
        refine lv_aload_n hx hb d_Od_workBound_40 rfl (lv_at hl 0 rfl) ?_
        refine va_get (D := g) (ci := 5) (v := .ref (a 1)) (C := R_Od) (T := F_Od) (N := 7) hx hb hT i_Od hown hK hP 5 rfl rfl 0 (by decide) (hT _ tw_170) (fun _ h9 => h9) rfl d_Od_workBound_41 ?_
        refine lv_iload_n hx hb d_Od_workBound_44 rfl (lv_at hl 1 rfl) ?_
        refine my_V_i (q0 := 1) (ci := 1) (C := R_No) (As := [.int (nI x)]) (n := 1) (k_No_lineUp l g a rB rT cI cJ cII cJJ nc nv ng kd vo nu nd en br bc un eu li tb cc0 cp cu cd tc ts tf ox ow b1 ra rb gc gr gk gg gp gt sa sb x hx1 hnc hun) hx hb hml hown hT hN tw_455 tw_332 tw_333 tw_2 tw_334 (by decide +kernel) rfl rfl ⟨Nat.le_of_ble_eq_true rfl, Nat.le_of_ble_eq_true rfl⟩ ⟨Nat.zero_le _, Nat.zero_le _⟩ hK hP hD hS hA rfl rfl rfl hl rfl (Nat.le_of_ble_eq_true rfl) d_Od_workBound_45 (fun H locs hP hD hS => ?_)
        refine lv_istore_n (lv' := [(2, .int (nI ((luS (luC nc kd un x) nc (0, li) 33).1))), (0, .ref (a 5)), (1, .int (nI x))]) hx hb d_Od_workBound_48 rfl hl (by decide) rfl (fun ls hl => ?_)
        refine lv_iconst (v := (nI 0)) hx hb d_Od_workBound_49 (by decide) ?_
        refine lv_istore_n (lv' := [(3, .int (nI 0)), (2, .int (nI ((luS (luC nc kd un x) nc (0, li) 33).1))), (0, .ref (a 5)), (1, .int (nI x))]) hx hb d_Od_workBound_50 rfl hl (by decide) rfl (fun ls hl => ?_)
        have lp_51 : ∀ (k : Nat) (i : Nat) (b1 : Nat → Nat) (H : Heap) (locs : List Loc) (ls : Array Slot), ((luS (luC nc kd un x) nc (0, li) 33).1 < i + k) → (i ≤ (luS (luC nc kd un x) nc (0, li) 33).1) → (∀ j, b1 j ≤ 2520) → (b1 = (bgF br bc vo kd (luS (luC nc kd un x) nc (0, li) 33).2 (beF (fun z => mnF (ebF nu nd eu cp cu cd z cc0) 2520) en ob nv) i)) → va_P g vwCl (stW a rB rT cI cJ cII cJJ nc nv ng kd vo nu nd en br bc un eu ((luS (luC nc kd un x) nc (0, li) 33).2) tb cc0 cp cu cd tc ts tf ox ow b1 ra rb gc gr gk gg gp gt sa sb) H → va_D A (stW a rB rT cI cJ cII cJJ nc nv ng kd vo nu nd en br bc un eu ((luS (luC nc kd un x) nc (0, li) 33).2) tb cc0 cp cu cd tc ts tf ox ow b1 ra rb gc gr gk gg gp gt sa sb) → va_S A s.heap H locs → lv_has ls 4 [(0, .ref (a 5)), (1, .int (nI x)), (2, .int (nI ((luS (luC nc kd un x) nc (0, li) 33).1))), (3, .int (nI i))] → W p l e ({ frames := 3, cells := 0, slots := 0, locals := 67 } : Room) s m args below meth c H locs 0 0 Q (F0 m 51 ls []) := by
          intro k
          induction k with
          | zero =>
            intro i b1 H locs ls hk hi hb1 hf2 hP hD hS hl
            exfalso
            omega
          | succ k ih_51 =>
            intro i b1 H locs ls hk hi hb1 hf2 hP hD hS hl
            refine lv_iload_n hx hb d_Od_workBound_51 rfl (lv_at hl 3 rfl) ?_
            refine lv_iload_n hx hb d_Od_workBound_52 rfl (lv_at hl 2 rfl) ?_
            refine my_icmp_ge (tgt := 89) (a := i) (b := (luS (luC nc kd un x) nc (0, li) 33).1) hx hb d_Od_workBound_53 (by decide) (by omega) (by omega) (fun c_53 => ?_) (fun c_53 => ?_)
            · -- 53: taken
              have e1 : b1 = (bgF br bc vo kd (luS (luC nc kd un x) nc (0, li) 33).2 (beF (fun z => mnF (ebF nu nd eu cp cu cd z cc0) 2520) en ob nv) (luS (luC nc kd un x) nc (0, li) 33).1) := by rw [hf2, show i = (luS (luC nc kd un x) nc (0, li) 33).1 by omega]
              rw [e1] at hP hD
              have q10 : ∀ j, (bgF br bc vo kd (luS (luC nc kd un x) nc (0, li) 33).2 (beF (fun z => mnF (ebF nu nd eu cp cu cd z cc0) 2520) en ob nv) (luS (luC nc kd un x) nc (0, li) 33).1) j ≤ 2520 := bgF_le (beF_le hob hE _) _
              refine lv_aload_n hx hb d_Od_workBound_89 rfl (lv_at hl 0 rfl) ?_
              refine va_get (D := g) (ci := 5) (v := .ref (a 8)) (C := R_Od) (T := F_Od) (N := 7) hx hb hT i_Od hown hK hP 5 rfl rfl 3 (by decide) (hT _ tw_173) (fun _ h9 => h9) rfl d_Od_workBound_90 ?_
              refine lv_aload_n hx hb d_Od_workBound_93 rfl (lv_at hl 0 rfl) ?_
              refine va_get (D := g) (ci := 5) (v := .ref (a 26)) (C := R_Od) (T := F_Od) (N := 7) hx hb hT i_Od hown hK hP 5 rfl rfl 6 (by decide) (hT _ tw_178) (fun _ h9 => h9) rfl d_Od_workBound_94 ?_
              refine lv_iload_n hx hb d_Od_workBound_97 rfl (lv_at hl 1 rfl) ?_
              refine my_lald (v := (lN ((bgF br bc vo kd (luS (luC nc kd un x) nc (0, li) 33).2 (beF (fun z => mnF (ebF nu nd eu cp cu cd z cc0) 2520) en ob nv) (luS (luC nc kd un x) nc (0, li) 33).1) x))) (i := x) hx hb hK hP 26 1 rfl rfl (by omega) (by decide) rfl d_Od_workBound_98 ?_
              refine lv_ldc2 (v := (lN 2520)) hx hb hown (hT _ tw_451) d_Od_workBound_99 ?_
              refine my_V_v (q0 := 8) (ci := 7) (C := R_Fr) (As := [.long (lN ((bgF br bc vo kd (luS (luC nc kd un x) nc (0, li) 33).2 (beF (fun z => mnF (ebF nu nd eu cp cu cd z cc0) 2520) en ob nv) (luS (luC nc kd un x) nc (0, li) 33).1) x)), .long (lN 2520)]) (n := 2) (k_Fr_set8 l g a rB rT cI cJ cII cJJ nc nv ng kd vo nu nd en br bc un eu ((luS (luC nc kd un x) nc (0, li) 33).2) tb cc0 cp cu cd tc ts tf ox ow (bgF br bc vo kd (luS (luC nc kd un x) nc (0, li) 33).2 (beF (fun z => mnF (ebF nu nd eu cp cu cd z cc0) 2520) en ob nv) (luS (luC nc kd un x) nc (0, li) 33).1) ra rb gc gr gk gg gp gt sa sb ((bgF br bc vo kd (luS (luC nc kd un x) nc (0, li) 33).2 (beF (fun z => mnF (ebF nu nd eu cp cu cd z cc0) 2520) en ob nv) (luS (luC nc kd un x) nc (0, li) 33).1) x) 2520 (by have := q10 x; omega) (by decide) (by decide)) hx hb hml hown hT hN tw_433 tw_434 tw_435 tw_7 tw_436 (by decide +kernel) rfl rfl ⟨Nat.le_of_ble_eq_true rfl, Nat.le_of_ble_eq_true rfl⟩ ⟨Nat.zero_le _, Nat.zero_le _⟩ hK hP hD hS hA rfl rfl rfl hl rfl (Nat.le_of_ble_eq_true rfl) d_Od_workBound_102 (fun H locs hP hD hS => ?_)
              exact hret _ _ _ _ hP hD hS d_Od_workBound_105
            · -- 53: not taken
              have q8 := luS_in (luC nc kd un x) nc li 33 i c_53
              refine lv_aload_n hx hb d_Od_workBound_56 rfl (lv_at hl 0 rfl) ?_
              refine va_get (D := g) (ci := 5) (v := .ref (a 26)) (C := R_Od) (T := F_Od) (N := 7) hx hb hT i_Od hown hK hP 5 rfl rfl 6 (by decide) (hT _ tw_178) (fun _ h9 => h9) rfl d_Od_workBound_57 ?_
              refine lv_aload_n hx hb d_Od_workBound_60 rfl (lv_at hl 0 rfl) ?_
              refine va_get (D := g) (ci := 5) (v := .ref (a 1)) (C := R_Od) (T := F_Od) (N := 7) hx hb hT i_Od hown hK hP 5 rfl rfl 0 (by decide) (hT _ tw_170) (fun _ h9 => h9) rfl d_Od_workBound_61 ?_
              refine va_getN (D := g) (ci := 1) (v := .ref (a 18)) (C := R_No) (T := F_No) (N := 13) hx hb hT i_No hown hK hP 1 rfl rfl 12 (by decide) (va_Nw.use rfl (hN _ tw_66)) (fun _ h9 => h9) rfl d_Od_workBound_64 ?_
              refine lv_iload_n hx hb d_Od_workBound_67 rfl (lv_at hl 3 rfl) ?_
              refine my_iald (v := (nI (((luS (luC nc kd un x) nc (0, li) 33).2) i))) (i := i) hx hb hK hP 18 0 rfl rfl (by omega) (by decide) rfl d_Od_workBound_68 ?_
              refine lv_aload_n hx hb d_Od_workBound_69 rfl (lv_at hl 0 rfl) ?_
              refine lv_aload_n hx hb d_Od_workBound_70 rfl (lv_at hl 0 rfl) ?_
              refine va_get (D := g) (ci := 5) (v := .ref (a 1)) (C := R_Od) (T := F_Od) (N := 7) hx hb hT i_Od hown hK hP 5 rfl rfl 0 (by decide) (hT _ tw_170) (fun _ h9 => h9) rfl d_Od_workBound_71 ?_
              refine va_getN (D := g) (ci := 1) (v := .ref (a 18)) (C := R_No) (T := F_No) (N := 13) hx hb hT i_No hown hK hP 1 rfl rfl 12 (by decide) (va_Nw.use rfl (hN _ tw_66)) (fun _ h9 => h9) rfl d_Od_workBound_74 ?_
              refine lv_iload_n hx hb d_Od_workBound_77 rfl (lv_at hl 3 rfl) ?_
              refine my_iald (v := (nI (((luS (luC nc kd un x) nc (0, li) 33).2) i))) (i := i) hx hb hK hP 18 0 rfl rfl (by omega) (by decide) rfl d_Od_workBound_78 ?_
              refine my_V_l (q0 := 5) (ci := 5) (C := R_Od) (As := [.int (nI (((luS (luC nc kd un x) nc (0, li) 33).2) i))]) (n := 1) (k_Od_gateBound l g a rB rT cI cJ cII cJJ nc nv ng kd vo nu nd en br bc un eu ((luS (luC nc kd un x) nc (0, li) 33).2) tb cc0 cp cu cd tc ts tf ox ow b1 ra rb gc gr gk gg gp gt sa sb (((luS (luC nc kd un x) nc (0, li) 33).2) i) (by omega) hbc hbr hvo hb1) hx hb hml hown hT hN tw_456 tw_458 tp_12 tw_6 tw_459 (by decide +kernel) rfl rfl ⟨Nat.le_of_ble_eq_true rfl, Nat.le_of_ble_eq_true rfl⟩ ⟨Nat.zero_le _, Nat.zero_le _⟩ hK hP hD hS hA rfl rfl rfl hl rfl (Nat.le_of_ble_eq_true rfl) d_Od_workBound_79 (fun H locs hP hD hS => ?_)
              refine my_last (i := ((luS (luC nc kd un x) nc (0, li) 33).2) i) hx hb hK hP hD hS 26 1 rfl rfl (by omega) (by decide) (my_upL _ _ _) (w' := (stW a rB rT cI cJ cII cJJ nc nv ng kd vo nu nd en br bc un eu ((luS (luC nc kd un x) nc (0, li) 33).2) tb cc0 cp cu cd tc ts tf ox ow (va_up b1 (((luS (luC nc kd un x) nc (0, li) 33).2) i) (gbF b1 br bc vo kd (((luS (luC nc kd un x) nc (0, li) 33).2) i))) ra rb gc gr gk gg gp gt sa sb)) rfl d_Od_workBound_82 (fun H locs hP hD hS => ?_)
              refine lv_iinc (v := (nI (i + 1))) (lv' := [(3, .int (nI (i + 1))), (0, .ref (a 5)), (1, .int (nI x)), (2, .int (nI ((luS (luC nc kd un x) nc (0, li) 33).1)))]) hx hb d_Od_workBound_83 hl (k := 3) rfl (nI_1 i) (by decide) rfl (fun ls hl => ?_)
              refine lv_goto (tgt := 51) hx hb d_Od_workBound_86 (by decide) ?_
              refine ih_51 _ _ _ _ _ ?_ ?_ ?_ ?_ hP hD hS (lv_sub hl [1, 2, 3, 0] rfl)
              · omega
              · omega
              · rw [hf2]; exact bgF_le (beF_le hob hE _) (i + 1)
              · rw [hf2]; rfl
        refine lp_51 ((luS (luC nc kd un x) nc (0, li) 33).1 + 1) _ _ _ _ _ ?_ ?_ ?_ ?_ hP hD hS (lv_sub hl [2, 3, 1, 0] rfl)
        · omega
        · omega
        · rw [hf]; exact beF_le hob hE _
        · rw [hf, show i = nv by omega]; rfl
      · -- 10: not taken
        refine lv_aload_n hx hb d_Od_workBound_13 rfl (lv_at hl 0 rfl) ?_
        refine va_get (D := g) (ci := 5) (v := .ref (a 1)) (C := R_Od) (T := F_Od) (N := 7) hx hb hT i_Od hown hK hP 5 rfl rfl 0 (by decide) (hT _ tw_170) (fun _ h9 => h9) rfl d_Od_workBound_14 ?_
        refine va_getN (D := g) (ci := 1) (v := .ref (a 13)) (C := R_No) (T := F_No) (N := 13) hx hb hT i_No hown hK hP 1 rfl rfl 7 (by decide) (va_Nw.use rfl (hN _ tw_50)) (fun _ h9 => h9) rfl d_Od_workBound_17 ?_
        refine lv_iload_n hx hb d_Od_workBound_20 rfl (lv_at hl 2 rfl) ?_
        have q7 := hen i
        refine my_iald (v := (nI (en i))) (i := i) hx hb hK hP 13 0 rfl rfl (by omega) (by decide) rfl d_Od_workBound_21 ?_
        refine lv_istore_n (lv' := [(3, .int (nI (en i))), (0, .ref (a 5)), (1, .int (nI x)), (2, .int (nI i))]) hx hb d_Od_workBound_22 rfl hl (by decide) rfl (fun ls hl => ?_)
        refine lv_aload_n hx hb d_Od_workBound_23 rfl (lv_at hl 1 rfl) ?_
        refine va_get (D := g) (ci := 5) (v := .ref (a 26)) (C := R_Od) (T := F_Od) (N := 7) hx hb hT i_Od hown hK hP 5 rfl rfl 6 (by decide) (hT _ tw_178) (fun _ h9 => h9) rfl d_Od_workBound_24 ?_
        refine lv_iload_n hx hb d_Od_workBound_27 rfl (lv_at hl 0 rfl) ?_
        refine lv_aload_n hx hb d_Od_workBound_28 rfl (lv_at hl 1 rfl) ?_
        refine lv_iload_n hx hb d_Od_workBound_29 rfl (lv_at hl 0 rfl) ?_
        refine my_V_l (q0 := 5) (ci := 5) (C := R_Od) (As := [.int (nI (en i))]) (n := 1) (k_Od_eventBound l g a rB rT cI cJ cII cJJ nc nv ng kd vo nu nd en br bc un eu li tb cc0 cp cu cd tc ts tf ox ow b1 ra rb gc gr gk gg gp gt sa sb (en i) q7 hcc hcp hnu hnd hcu hcd) hx hb hml hown hT hN tw_444 tw_446 tp_11 tw_6 tw_447 (by decide +kernel) rfl rfl ⟨Nat.le_of_ble_eq_true rfl, Nat.le_of_ble_eq_true rfl⟩ ⟨Nat.zero_le _, Nat.zero_le _⟩ hK hP hD hS hA rfl rfl rfl hl rfl (Nat.le_of_ble_eq_true rfl) d_Od_workBound_30 (fun H locs hP hD hS => ?_)
        refine my_last (i := en i) hx hb hK hP hD hS 26 1 rfl rfl (by omega) (by decide) (my_upL _ _ _) (w' := (stW a rB rT cI cJ cII cJJ nc nv ng kd vo nu nd en br bc un eu li tb cc0 cp cu cd tc ts tf ox ow (va_up b1 (en i) (mnF (ebF nu nd eu cp cu cd (en i) cc0) 2520)) ra rb gc gr gk gg gp gt sa sb)) rfl d_Od_workBound_33 (fun H locs hP hD hS => ?_)
        refine lv_iinc (v := (nI (i + 1))) (lv' := [(2, .int (nI (i + 1))), (3, .int (nI (en i))), (0, .ref (a 5)), (1, .int (nI x))]) hx hb d_Od_workBound_34 hl (k := 3) rfl (nI_1 i) (by decide) rfl (fun ls hl => ?_)
        refine lv_goto (tgt := 2) hx hb d_Od_workBound_37 (by decide) ?_
        refine ih_2 _ _ _ _ _ ?_ ?_ ?_ hP hD hS (lv_sub hl [2, 3, 0] rfl)
        · omega
        · omega
        · rw [hf]; rfl
  refine lp_2 (nv + 1) _ _ _ _ _ ?_ ?_ ?_ hP hD hS (lv_sub hl [1, 2, 0] rfl)
  · omega
  · omega
  · rfl
