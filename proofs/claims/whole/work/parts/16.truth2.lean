set_option maxHeartbeats 4000000 in
set_option maxRecDepth 100000 in
theorem k_Tr_isTrue (l : Launch) (g : va_G) (a rB rT : Nat → Nat) (cI cJ cII cJJ : ClassId) (nc : Nat) (nv : Nat) (ng : Nat) (kd : Nat → Int32) (vo : Nat → Nat) (nu : Nat → Nat) (nd : Nat → Nat) (en : Nat → Nat) (br : Nat → Nat → Nat) (bc : Nat → Nat) (un : Nat → Nat) (eu : Nat → Nat) (li : Nat → Nat) (tb : Nat → Nat → Int64) (cc0 : Nat) (cp : Nat → Nat) (cu : Nat → Nat) (cd : Nat → Nat) (tc : Nat) (ts : Nat → Nat) (tf : Nat → Nat) (ox : Bool) (ow : Nat → Nat) (ob : Nat → Nat) (ra : Nat) (rb : Nat) (gc : Nat) (gr : Nat) (gk : Nat → Nat) (gg : Nat → Nat) (gp : Nat → Nat) (gt : Nat → Nat) (sa : Nat) (sb : Nat) (x : Nat) (s1 : Nat) (hx1 : x ≤ 32) (hs1 : s1 < 4096) : ct_i l g vwCl (tyS cI cJ cII cJJ) y_Tr_isTrue c_Tr_isTrue 4 (some .boolean) ({ frames := 0, cells := 0, slots := 0, locals := 0 } : Room) [.ref (a 2), .int (nI x), .int (nI s1)] (stW a rB rT cI cJ cII cJJ nc nv ng kd vo nu nd en br bc un eu li tb cc0 cp cu cd tc ts tf ox ow ob ra rb gc gr gk gg gp gt sa sb) (stW a rB rT cI cJ cII cJJ nc nv ng kd vo nu nd en br bc un eu li tb cc0 cp cu cd tc ts tf ox ow ob ra rb gc gr gk gg gp gt sa sb) (b2 (isT tb x s1)) := by
  refine ct_i.introZ (by decide) (Nat.le_of_ble_eq_true rfl) ?_
  intro p e s m args below meth c Q A ls hx hb hml hT hown hA hK hN hret hP hD hS hl
  have hown : s.vm.findClass R_Tr = some m.cls := hown
  have hl : lv_has ls 4 [(0, .ref (a 2)), (1, .int (nI x)), (2, .int (nI s1))] := hl
  have q1 : s1 / 2 ^ 6 &&& 63 < 64 := Nat.lt_of_le_of_lt Nat.and_le_right (by decide)
  have q2 : s1 &&& 63 < 64 := Nat.lt_of_le_of_lt Nat.and_le_right (by decide)
  refine lv_iload_n hx hb d_Tr_isTrue_0 rfl (lv_at hl 2 rfl) ?_
  refine lv_bipush (v := (nI 6)) hx hb d_Tr_isTrue_1 (by decide) ?_
  refine lv_ishr hx hb d_Tr_isTrue_3 ?_
  refine my_ei (pk_shrN (n := s1) (by omega) _ 6 (s_l 6 (by omega))) ?_
  refine lv_bipush (v := (nI 63)) hx hb d_Tr_isTrue_4 (by decide) ?_
  refine lv_iand hx hb d_Tr_isTrue_6 ?_
  refine my_ei (nx_and (s1 / 2 ^ 6) 63) ?_
  refine lv_istore_n (lv' := [(3, .int (nI ((s1 / 2 ^ 6) &&& 63))), (0, .ref (a 2)), (1, .int (nI x)), (2, .int (nI s1))]) hx hb d_Tr_isTrue_7 rfl hl (by decide) rfl (fun ls hl => ?_)
  refine lv_aload_n hx hb d_Tr_isTrue_8 rfl (lv_at hl 1 rfl) ?_
  refine va_get (D := g) (ci := 2) (v := .ref (a 19)) (C := R_Tr) (T := F_Tr) (N := 2) hx hb hT i_Tr hown hK hP 2 rfl rfl 1 (by decide) (hT _ tw_105) (fun _ h9 => h9) rfl d_Tr_isTrue_9 ?_
  refine lv_iload_n hx hb d_Tr_isTrue_12 rfl (lv_at hl 2 rfl) ?_
  refine my_aald (r := rT) (i := x) hx hb hK hP 19 3 rfl rfl (by omega) (by decide) d_Tr_isTrue_13 ?_
  refine lv_iload_n hx hb d_Tr_isTrue_14 rfl (lv_at hl 0 rfl) ?_
  refine my_lald (v := (tb x ((s1 / 2 ^ 6) &&& 63))) (i := (s1 / 2 ^ 6) &&& 63) hx hb hK hP (64 + x) 1 (stT_at (by omega)) rfl (by omega) (by decide) rfl d_Tr_isTrue_15 ?_
  refine lv_iload_n hx hb d_Tr_isTrue_16 rfl (lv_at hl 3 rfl) ?_
  refine lv_bipush (v := (nI 63)) hx hb d_Tr_isTrue_17 (by decide) ?_
  refine lv_iand hx hb d_Tr_isTrue_19 ?_
  refine my_ei (nx_and s1 63) ?_
  refine lv_lushr (v := ((tb x ((s1 / 2 ^ 6) &&& 63)).toUInt64 >>> ((nI (s1 &&& 63)).toInt64.toUInt64 &&& Int64.toUInt64 63)).toInt64) hx hb d_Tr_isTrue_20 rfl ?_
  refine lv_lconst (v := (lN 1)) hx hb d_Tr_isTrue_21 (by decide) ?_
  refine lv_land hx hb d_Tr_isTrue_22 ?_
  refine lv_lconst (v := (lN 0)) hx hb d_Tr_isTrue_23 (by decide) ?_
  refine my_lcmpR_eq (tgt := 32) hx hb d_Tr_isTrue_24 d_Tr_isTrue_25 (by decide) (fun c_24 => ?_) (fun c_24 => ?_)
  · -- 24: taken
    refine lv_iconst (v := (nI 0)) hx hb d_Tr_isTrue_32 (by decide) ?_
    refine hret _ _ _ _ _ hP hD hS d_Tr_isTrue_33 ?_
    exact b2F ((tbit0 q2).mp c_24)
  · -- 24: not taken
    refine lv_iconst (v := (nI 1)) hx hb d_Tr_isTrue_28 (by decide) ?_
    refine lv_goto (tgt := 33) hx hb d_Tr_isTrue_29 (by decide) ?_
    refine hret _ _ _ _ _ hP hD hS d_Tr_isTrue_33 ?_
    exact b2T (tbit1 q2 c_24)
set_option maxHeartbeats 4000000 in
set_option maxRecDepth 100000 in
theorem k_Tr_fillGate (l : Launch) (g : va_G) (a rB rT : Nat → Nat) (cI cJ cII cJJ : ClassId) (nc : Nat) (nv : Nat) (ng : Nat) (kd : Nat → Int32) (vo : Nat → Nat) (nu : Nat → Nat) (nd : Nat → Nat) (en : Nat → Nat) (br : Nat → Nat → Nat) (bc : Nat → Nat) (un : Nat → Nat) (eu : Nat → Nat) (li : Nat → Nat) (tb : Nat → Nat → Int64) (cc0 : Nat) (cp : Nat → Nat) (cu : Nat → Nat) (cd : Nat → Nat) (tc : Nat) (ts : Nat → Nat) (tf : Nat → Nat) (ox : Bool) (ow : Nat → Nat) (ob : Nat → Nat) (ra : Nat) (rb : Nat) (gc : Nat) (gr : Nat) (gk : Nat → Nat) (gg : Nat → Nat) (gp : Nat → Nat) (gt : Nat → Nat) (sa : Nat) (sb : Nat) (x : Nat) (r : Nat) (hx1 : x ≤ 32) (hbc : ∀ j, bc j ≤ 10) (hbr : ∀ j i, br j i ≤ 32) (hvo : ∀ j, vo j ≤ 10) : ct_v l g vwCl (tyS cI cJ cII cJJ) y_Tr_fillGate c_Tr_fillGate 4 none ({ frames := 3, cells := 0, slots := 0, locals := 85 } : Room) [.ref (a 2), .int (nI x), .int (nI r)] (stW a rB rT cI cJ cII cJJ nc nv ng kd vo nu nd en br bc un eu li tb cc0 cp cu cd tc ts tf ox ow ob ra rb gc gr gk gg gp gt sa sb) (stW a rB rT cI cJ cII cJJ nc nv ng kd vo nu nd en br bc un eu li (fgF tb br kd vo bc x r 64) cc0 cp cu cd tc ts tf ox ow ob ra rb gc gr gk gg gp gt sa sb) := by
  refine ct_v.intro (by decide) (Nat.le_of_ble_eq_true rfl) ?_
  intro p e s m args below meth c Q A ls hx hb hml hT hown hA hK hN hret hP hD hS hl
  have hown : s.vm.findClass R_Tr = some m.cls := hown
  have hl : lv_has ls 4 [(0, .ref (a 2)), (1, .int (nI x)), (2, .int (nI r))] := hl
  refine lv_iconst (v := (nI 0)) hx hb d_Tr_fillGate_0 (by decide) ?_
  refine lv_istore_n (lv' := [(3, .int (nI 0)), (0, .ref (a 2)), (1, .int (nI x)), (2, .int (nI r))]) hx hb d_Tr_fillGate_1 rfl hl (by decide) rfl (fun ls hl => ?_)
  have lp_2 : ∀ (k : Nat) (i : Nat) (t : Nat → Nat → Int64) (H : Heap) (locs : List Loc) (ls : Array Slot), (64 < i + k) → (i ≤ 64) → (t = fgF tb br kd vo bc x r i) → va_P g vwCl (stW a rB rT cI cJ cII cJJ nc nv ng kd vo nu nd en br bc un eu li t cc0 cp cu cd tc ts tf ox ow ob ra rb gc gr gk gg gp gt sa sb) H → va_D A (stW a rB rT cI cJ cII cJJ nc nv ng kd vo nu nd en br bc un eu li t cc0 cp cu cd tc ts tf ox ow ob ra rb gc gr gk gg gp gt sa sb) → va_S A s.heap H locs → lv_has ls 4 [(0, .ref (a 2)), (1, .int (nI x)), (2, .int (nI r)), (3, .int (nI i))] → W p l e ({ frames := 3, cells := 0, slots := 0, locals := 85 } : Room) s m args below meth c H locs 0 0 Q (F0 m 2 ls []) := by
    intro k
    induction k with
    | zero =>
      intro i t H locs ls hk hi hf hP hD hS hl
      exfalso
      omega
    | succ k ih_2 =>
      intro i t H locs ls hk hi hf hP hD hS hl
      refine lv_iload_n hx hb d_Tr_fillGate_2 rfl (lv_at hl 3 rfl) ?_
      refine lv_bipush (v := (nI 64)) hx hb d_Tr_fillGate_3 (by decide) ?_
      refine my_icmp_ge (tgt := 35) (a := i) (b := 64) hx hb d_Tr_fillGate_5 (by decide) (by omega) (by omega) (fun c_5 => ?_) (fun c_5 => ?_)
      · -- 5: taken
        have e1 : t = fgF tb br kd vo bc x r 64 := by rw [hf, show i = 64 by omega]
        rw [e1] at hP hD
        exact hret _ _ _ _ hP hD hS d_Tr_fillGate_35
      · -- 5: not taken
        refine lv_iload_n hx hb d_Tr_fillGate_8 rfl (lv_at hl 3 rfl) ?_
        refine lv_iload_n hx hb d_Tr_fillGate_9 rfl (lv_at hl 2 rfl) ?_
        refine lv_iand hx hb d_Tr_fillGate_10 ?_
        refine my_ei (nx_and i r) ?_
        refine lv_iload_n hx hb d_Tr_fillGate_11 rfl (lv_at hl 3 rfl) ?_
        have q1 : i &&& r < 64 := Nat.lt_of_le_of_lt Nat.and_le_left (by omega)
        refine my_icmp_ne (tgt := 29) (a := i &&& r) (b := i) hx hb d_Tr_fillGate_12 (by decide) (by omega) (by omega) (fun c_12 => ?_) (fun c_12 => ?_)
        · -- 12: taken
          refine lv_iinc (v := (nI (i + 1))) (lv' := [(3, .int (nI (i + 1))), (0, .ref (a 2)), (1, .int (nI x)), (2, .int (nI r))]) hx hb d_Tr_fillGate_29 hl (k := 3) rfl (nI_1 i) (by decide) rfl (fun ls hl => ?_)
          refine lv_goto (tgt := 2) hx hb d_Tr_fillGate_32 (by decide) ?_
          refine ih_2 _ _ _ _ _ ?_ ?_ ?_ hP hD hS (lv_sub hl [1, 2, 3, 0] rfl)
          · omega
          · omega
          · rw [hf]; exact ((if_neg c_12).symm)
        · -- 12: not taken
          refine lv_aload_n hx hb d_Tr_fillGate_15 rfl (lv_at hl 0 rfl) ?_
          refine va_get (D := g) (ci := 2) (v := .ref (a 19)) (C := R_Tr) (T := F_Tr) (N := 2) hx hb hT i_Tr hown hK hP 2 rfl rfl 1 (by decide) (hT _ tw_105) (fun _ h9 => h9) rfl d_Tr_fillGate_16 ?_
          refine lv_iload_n hx hb d_Tr_fillGate_19 rfl (lv_at hl 1 rfl) ?_
          refine my_aald (r := rT) (i := x) hx hb hK hP 19 3 rfl rfl (by omega) (by decide) d_Tr_fillGate_20 ?_
          refine lv_iload_n hx hb d_Tr_fillGate_21 rfl (lv_at hl 3 rfl) ?_
          refine lv_aload_n hx hb d_Tr_fillGate_22 rfl (lv_at hl 0 rfl) ?_
          refine lv_iload_n hx hb d_Tr_fillGate_23 rfl (lv_at hl 1 rfl) ?_
          refine lv_iload_n hx hb d_Tr_fillGate_24 rfl (lv_at hl 3 rfl) ?_
          refine my_V_l (q0 := 2) (ci := 2) (C := R_Tr) (As := [.int (nI x), .int (nI i)]) (n := 2) (k_Tr_gateWord l g a rB rT cI cJ cII cJJ nc nv ng kd vo nu nd en br bc un eu li t cc0 cp cu cd tc ts tf ox ow ob ra rb gc gr gk gg gp gt sa sb x i hx1 (by omega) hbc hbr hvo) hx hb hml hown hT hN tw_346 tw_348 tp_1 tw_3 tw_349 (by decide +kernel) rfl rfl ⟨Nat.le_of_ble_eq_true rfl, Nat.le_of_ble_eq_true rfl⟩ ⟨Nat.zero_le _, Nat.zero_le _⟩ hK hP hD hS hA rfl rfl rfl hl rfl (Nat.le_of_ble_eq_true rfl) d_Tr_fillGate_25 (fun H locs hP hD hS => ?_)
          refine my_last (i := i) hx hb hK hP hD hS (64 + x) 1 (stT_at (by omega)) rfl (by omega) (by decide) (my_upJ _ _ _) (stT_set (by omega)) d_Tr_fillGate_28 (fun H locs hP hD hS => ?_)
          have hP : va_P g vwCl (stW a rB rT cI cJ cII cJJ nc nv ng kd vo nu nd en br bc un eu li (va_up t x (va_up (t x) i (gwF t br kd vo bc x i))) cc0 cp cu cd tc ts tf ox ow ob ra rb gc gr gk gg gp gt sa sb) H := hP
          have hD : va_D A (stW a rB rT cI cJ cII cJJ nc nv ng kd vo nu nd en br bc un eu li (va_up t x (va_up (t x) i (gwF t br kd vo bc x i))) cc0 cp cu cd tc ts tf ox ow ob ra rb gc gr gk gg gp gt sa sb) := hD
          refine lv_iinc (v := (nI (i + 1))) (lv' := [(3, .int (nI (i + 1))), (0, .ref (a 2)), (1, .int (nI x)), (2, .int (nI r))]) hx hb d_Tr_fillGate_29 hl (k := 3) rfl (nI_1 i) (by decide) rfl (fun ls hl => ?_)
          refine lv_goto (tgt := 2) hx hb d_Tr_fillGate_32 (by decide) ?_
          refine ih_2 _ _ _ _ _ ?_ ?_ ?_ hP hD hS (lv_sub hl [1, 2, 3, 0] rfl)
          · omega
          · omega
          · rw [hf]; exact ((if_pos c_12).symm)
  refine lp_2 (65) _ _ _ _ _ ?_ ?_ ?_ hP hD hS (lv_sub hl [1, 2, 3, 0] rfl)
  · omega
  · omega
  · rfl
set_option maxHeartbeats 4000000 in
set_option maxRecDepth 100000 in
theorem k_Tr_fillGates (l : Launch) (g : va_G) (a rB rT : Nat → Nat) (cI cJ cII cJJ : ClassId) (nc : Nat) (nv : Nat) (ng : Nat) (kd : Nat → Int32) (vo : Nat → Nat) (nu : Nat → Nat) (nd : Nat → Nat) (en : Nat → Nat) (br : Nat → Nat → Nat) (bc : Nat → Nat) (un : Nat → Nat) (eu : Nat → Nat) (li : Nat → Nat) (tb : Nat → Nat → Int64) (cc0 : Nat) (cp : Nat → Nat) (cu : Nat → Nat) (cd : Nat → Nat) (tc : Nat) (ts : Nat → Nat) (tf : Nat → Nat) (ox : Bool) (ow : Nat → Nat) (ob : Nat → Nat) (ra : Nat) (rb : Nat) (gc : Nat) (gr : Nat) (gk : Nat → Nat) (gg : Nat → Nat) (gp : Nat → Nat) (gt : Nat → Nat) (sa : Nat) (sb : Nat) (x : Nat) (hx1 : x ≤ 32) (hnc : nc ≤ 32) (hun : ∀ j, un j < 2 ^ 33) (heu : ∀ j, eu j < 2 ^ 12) (hbc : ∀ j, bc j ≤ 10) (hbr : ∀ j i, br j i ≤ 32) (hvo : ∀ j, vo j ≤ 10) : ct_v l g vwCl (tyS cI cJ cII cJJ) y_Tr_fillGates c_Tr_fillGates 5 none ({ frames := 4, cells := 0, slots := 0, locals := 108 } : Room) [.ref (a 2), .int (nI x)] (stW a rB rT cI cJ cII cJJ nc nv ng kd vo nu nd en br bc un eu li tb cc0 cp cu cd tc ts tf ox ow ob ra rb gc gr gk gg gp gt sa sb) (stW a rB rT cI cJ cII cJJ nc nv ng kd vo nu nd en br bc un eu ((luS (luC nc kd un x) nc (0, li) 33).2) (fsF tb br kd vo bc (luS (luC nc kd un x) nc (0, li) 33).2 (eu x / 2 ^ 6) (luS (luC nc kd un x) nc (0, li) 33).1) cc0 cp cu cd tc ts tf ox ow ob ra rb gc gr gk gg gp gt sa sb) := by
  refine ct_v.intro (by decide) (Nat.le_of_ble_eq_true rfl) ?_
  intro p e s m args below meth c Q A ls hx hb hml hT hown hA hK hN hret hP hD hS hl
  have hown : s.vm.findClass R_Tr = some m.cls := hown
  have hl : lv_has ls 5 [(0, .ref (a 2)), (1, .int (nI x))] := hl
  have q1 := heu x
  have q2 := luS_le (luC nc kd un x) nc li 33
  refine lv_aload_n hx hb d_Tr_fillGates_0 rfl (lv_at hl 0 rfl) ?_
  refine va_get (D := g) (ci := 2) (v := .ref (a 1)) (C := R_Tr) (T := F_Tr) (N := 2) hx hb hT i_Tr hown hK hP 2 rfl rfl 0 (by decide) (hT _ tw_104) (fun _ h9 => h9) rfl d_Tr_fillGates_1 ?_
  refine va_getN (D := g) (ci := 1) (v := .ref (a 17)) (C := R_No) (T := F_No) (N := 13) hx hb hT i_No hown hK hP 1 rfl rfl 11 (by decide) (va_Nw.use rfl (hN _ tw_61)) (fun _ h9 => h9) rfl d_Tr_fillGates_4 ?_
  refine lv_iload_n hx hb d_Tr_fillGates_7 rfl (lv_at hl 1 rfl) ?_
  refine my_iald (v := (nI (eu x))) (i := x) hx hb hK hP 17 0 rfl rfl (by omega) (by decide) rfl d_Tr_fillGates_8 ?_
  refine lv_bipush (v := (nI 6)) hx hb d_Tr_fillGates_9 (by decide) ?_
  refine lv_ishr hx hb d_Tr_fillGates_11 ?_
  refine my_ei (pk_shrN (n := eu x) (by omega) _ 6 (s_l 6 (by omega))) ?_
  refine lv_istore_n (lv' := [(2, .int (nI ((eu x) / 2 ^ 6))), (0, .ref (a 2)), (1, .int (nI x))]) hx hb d_Tr_fillGates_12 rfl hl (by decide) rfl (fun ls hl => ?_)
  refine lv_aload_n hx hb d_Tr_fillGates_13 rfl (lv_at hl 1 rfl) ?_
  refine va_get (D := g) (ci := 2) (v := .ref (a 1)) (C := R_Tr) (T := F_Tr) (N := 2) hx hb hT i_Tr hown hK hP 2 rfl rfl 0 (by decide) (hT _ tw_104) (fun _ h9 => h9) rfl d_Tr_fillGates_14 ?_
  refine lv_iload_n hx hb d_Tr_fillGates_17 rfl (lv_at hl 2 rfl) ?_
  refine my_V_i (q0 := 1) (ci := 1) (C := R_No) (As := [.int (nI x)]) (n := 1) (k_No_lineUp l g a rB rT cI cJ cII cJJ nc nv ng kd vo nu nd en br bc un eu li tb cc0 cp cu cd tc ts tf ox ow ob ra rb gc gr gk gg gp gt sa sb x hx1 hnc hun) hx hb hml hown hT hN tw_331 tw_332 tw_333 tw_2 tw_334 (by decide +kernel) rfl rfl ⟨Nat.le_of_ble_eq_true rfl, Nat.le_of_ble_eq_true rfl⟩ ⟨Nat.zero_le _, Nat.zero_le _⟩ hK hP hD hS hA rfl rfl rfl hl rfl (Nat.le_of_ble_eq_true rfl) d_Tr_fillGates_18 (fun H locs hP hD hS => ?_)
  refine lv_istore_n (lv' := [(3, .int (nI ((luS (luC nc kd un x) nc (0, li) 33).1))), (2, .int (nI ((eu x) / 2 ^ 6))), (0, .ref (a 2)), (1, .int (nI x))]) hx hb d_Tr_fillGates_21 rfl hl (by decide) rfl (fun ls hl => ?_)
  refine lv_iconst (v := (nI 0)) hx hb d_Tr_fillGates_22 (by decide) ?_
  refine lv_istore (lv' := [(4, .int (nI 0)), (3, .int (nI ((luS (luC nc kd un x) nc (0, li) 33).1))), (2, .int (nI ((eu x) / 2 ^ 6))), (0, .ref (a 2)), (1, .int (nI x))]) hx hb d_Tr_fillGates_23 hl (by decide) rfl (fun ls hl => ?_)
  have lp_25 : ∀ (k : Nat) (i : Nat) (t : Nat → Nat → Int64) (H : Heap) (locs : List Loc) (ls : Array Slot), ((luS (luC nc kd un x) nc (0, li) 33).1 < i + k) → (i ≤ (luS (luC nc kd un x) nc (0, li) 33).1) → (t = fsF tb br kd vo bc (luS (luC nc kd un x) nc (0, li) 33).2 (eu x / 2 ^ 6) i) → va_P g vwCl (stW a rB rT cI cJ cII cJJ nc nv ng kd vo nu nd en br bc un eu ((luS (luC nc kd un x) nc (0, li) 33).2) t cc0 cp cu cd tc ts tf ox ow ob ra rb gc gr gk gg gp gt sa sb) H → va_D A (stW a rB rT cI cJ cII cJJ nc nv ng kd vo nu nd en br bc un eu ((luS (luC nc kd un x) nc (0, li) 33).2) t cc0 cp cu cd tc ts tf ox ow ob ra rb gc gr gk gg gp gt sa sb) → va_S A s.heap H locs → lv_has ls 5 [(0, .ref (a 2)), (1, .int (nI x)), (2, .int (nI (eu x / 2 ^ 6))), (3, .int (nI ((luS (luC nc kd un x) nc (0, li) 33).1))), (4, .int (nI i))] → W p l e ({ frames := 4, cells := 0, slots := 0, locals := 108 } : Room) s m args below meth c H locs 0 0 Q (F0 m 25 ls []) := by
    intro k
    induction k with
    | zero =>
      intro i t H locs ls hk hi hf hP hD hS hl
      exfalso
      omega
    | succ k ih_25 =>
      intro i t H locs ls hk hi hf hP hD hS hl
      refine lv_iload hx hb d_Tr_fillGates_25 (lv_at hl 4 rfl) ?_
      refine lv_iload_n hx hb d_Tr_fillGates_27 rfl (lv_at hl 3 rfl) ?_
      refine my_icmp_ge (tgt := 52) (a := i) (b := (luS (luC nc kd un x) nc (0, li) 33).1) hx hb d_Tr_fillGates_28 (by decide) (by omega) (by omega) (fun c_28 => ?_) (fun c_28 => ?_)
      · -- 28: taken
        have e1 : t = fsF tb br kd vo bc (luS (luC nc kd un x) nc (0, li) 33).2 (eu x / 2 ^ 6) (luS (luC nc kd un x) nc (0, li) 33).1 := by rw [hf, show i = (luS (luC nc kd un x) nc (0, li) 33).1 by omega]
        rw [e1] at hP hD
        exact hret _ _ _ _ hP hD hS d_Tr_fillGates_52
      · -- 28: not taken
        have q3 := luS_in (luC nc kd un x) nc li 33 i c_28
        refine lv_aload_n hx hb d_Tr_fillGates_31 rfl (lv_at hl 0 rfl) ?_
        refine lv_aload_n hx hb d_Tr_fillGates_32 rfl (lv_at hl 0 rfl) ?_
        refine va_get (D := g) (ci := 2) (v := .ref (a 1)) (C := R_Tr) (T := F_Tr) (N := 2) hx hb hT i_Tr hown hK hP 2 rfl rfl 0 (by decide) (hT _ tw_104) (fun _ h9 => h9) rfl d_Tr_fillGates_33 ?_
        refine va_getN (D := g) (ci := 1) (v := .ref (a 18)) (C := R_No) (T := F_No) (N := 13) hx hb hT i_No hown hK hP 1 rfl rfl 12 (by decide) (va_Nw.use rfl (hN _ tw_65)) (fun _ h9 => h9) rfl d_Tr_fillGates_36 ?_
        refine lv_iload hx hb d_Tr_fillGates_39 (lv_at hl 4 rfl) ?_
        refine my_iald (v := (nI (((luS (luC nc kd un x) nc (0, li) 33).2) i))) (i := i) hx hb hK hP 18 0 rfl rfl (by omega) (by decide) rfl d_Tr_fillGates_41 ?_
        refine lv_iload_n hx hb d_Tr_fillGates_42 rfl (lv_at hl 2 rfl) ?_
        refine my_V_v (q0 := 2) (ci := 2) (C := R_Tr) (As := [.int (nI (((luS (luC nc kd un x) nc (0, li) 33).2) i)), .int (nI (eu x / 2 ^ 6))]) (n := 2) (k_Tr_fillGate l g a rB rT cI cJ cII cJJ nc nv ng kd vo nu nd en br bc un eu ((luS (luC nc kd un x) nc (0, li) 33).2) t cc0 cp cu cd tc ts tf ox ow ob ra rb gc gr gk gg gp gt sa sb (((luS (luC nc kd un x) nc (0, li) 33).2) i) (eu x / 2 ^ 6) (by omega) hbc hbr hvo) hx hb hml hown hT hN tw_342 tw_344 tp_0 tw_3 tw_345 (by decide +kernel) rfl rfl ⟨Nat.le_of_ble_eq_true rfl, Nat.le_of_ble_eq_true rfl⟩ ⟨Nat.zero_le _, Nat.zero_le _⟩ hK hP hD hS hA rfl rfl rfl hl rfl (Nat.le_of_ble_eq_true rfl) d_Tr_fillGates_43 (fun H locs hP hD hS => ?_)
        refine lv_iinc (v := (nI (i + 1))) (lv' := [(4, .int (nI (i + 1))), (0, .ref (a 2)), (1, .int (nI x)), (2, .int (nI (eu x / 2 ^ 6))), (3, .int (nI ((luS (luC nc kd un x) nc (0, li) 33).1)))]) hx hb d_Tr_fillGates_46 hl (k := 4) rfl (nI_1 i) (by decide) rfl (fun ls hl => ?_)
        refine lv_goto (tgt := 25) hx hb d_Tr_fillGates_49 (by decide) ?_
        refine ih_25 _ _ _ _ _ ?_ ?_ ?_ hP hD hS (lv_sub hl [1, 2, 3, 4, 0] rfl)
        · omega
        · omega
        · rw [hf]; rfl
  refine lp_25 ((luS (luC nc kd un x) nc (0, li) 33).1 + 1) _ _ _ _ _ ?_ ?_ ?_ hP hD hS (lv_sub hl [3, 4, 2, 1, 0] rfl)
  · omega
  · omega
  · rfl
set_option maxHeartbeats 4000000 in
set_option maxRecDepth 100000 in
theorem k_Tr_countTrue (l : Launch) (g : va_G) (a rB rT : Nat → Nat) (cI cJ cII cJJ : ClassId) (nc : Nat) (nv : Nat) (ng : Nat) (kd : Nat → Int32) (vo : Nat → Nat) (nu : Nat → Nat) (nd : Nat → Nat) (en : Nat → Nat) (br : Nat → Nat → Nat) (bc : Nat → Nat) (un : Nat → Nat) (eu : Nat → Nat) (li : Nat → Nat) (tb : Nat → Nat → Int64) (cc0 : Nat) (cp : Nat → Nat) (cu : Nat → Nat) (cd : Nat → Nat) (tc : Nat) (ts : Nat → Nat) (tf : Nat → Nat) (ox : Bool) (ow : Nat → Nat) (ob : Nat → Nat) (ra : Nat) (rb : Nat) (gc : Nat) (gr : Nat) (gk : Nat → Nat) (gg : Nat → Nat) (gp : Nat → Nat) (gt : Nat → Nat) (sa : Nat) (sb : Nat) (x : Nat) (w : Nat) (hx1 : x ≤ 32) (hw : w < 4096) : ct_i l g vwCl (tyS cI cJ cII cJJ) y_Tr_countTrue c_Tr_countTrue 7 (some .int) ({ frames := 2, cells := 0, slots := 0, locals := 40 } : Room) [.ref (a 2), .int (nI x), .int (nI w)] (stW a rB rT cI cJ cII cJJ nc nv ng kd vo nu nd en br bc un eu li tb cc0 cp cu cd tc ts tf ox ow ob ra rb gc gr gk gg gp gt sa sb) (stW a rB rT cI cJ cII cJJ nc nv ng kd vo nu nd en br bc un eu li tb cc0 cp cu cd tc ts tf ox ow ob ra rb gc gr gk gg gp gt sa sb) (nI (ctF tb x w (2 ^ popc w 12))) := by
  refine ct_i.intro (by decide) (Nat.le_of_ble_eq_true rfl) ?_
  intro p e s m args below meth c Q A ls hx hb hml hT hown hA hK hN hret hP hD hS hl
  have hown : s.vm.findClass R_Tr = some m.cls := hown
  have hl : lv_has ls 7 [(0, .ref (a 2)), (1, .int (nI x)), (2, .int (nI w))] := hl
  have q1 := pop12 w
  have q0 : 0 < 2 ^ popc w 12 := Nat.two_pow_pos _
  refine lv_iload_n hx hb d_Tr_countTrue_0 rfl (lv_at hl 2 rfl) ?_
  refine my_SN_i (As := [.int (nI w)]) (n := 1) (k_ST_countOfSets l g vwCl (tyS cI cJ cII cJJ) (stW a rB rT cI cJ cII cJJ nc nv ng kd vo nu nd en br bc un eu li tb cc0 cp cu cd tc ts tf ox ow ob ra rb gc gr gk gg gp gt sa sb) w (by omega)) hx hb hml hown hT hN tw_536 tw_315 tw_1 tw_316 (by decide +kernel) rfl rfl ⟨Nat.le_of_ble_eq_true rfl, Nat.le_of_ble_eq_true rfl⟩ ⟨Nat.zero_le _, Nat.zero_le _⟩ hK hP hD hS hA rfl hl rfl (Nat.le_of_ble_eq_true rfl) d_Tr_countTrue_1 (fun H locs hP hD hS => ?_)
  refine lv_istore_n (lv' := [(3, .int (nI (2 ^ popc w 12))), (0, .ref (a 2)), (1, .int (nI x)), (2, .int (nI w))]) hx hb d_Tr_countTrue_4 rfl hl (by decide) rfl (fun ls hl => ?_)
  refine lv_iconst (v := (nI 0)) hx hb d_Tr_countTrue_5 (by decide) ?_
  refine lv_istore (lv' := [(4, .int (nI 0)), (3, .int (nI (2 ^ popc w 12))), (0, .ref (a 2)), (1, .int (nI x)), (2, .int (nI w))]) hx hb d_Tr_countTrue_6 hl (by decide) rfl (fun ls hl => ?_)
  refine lv_iconst (v := (nI 0)) hx hb d_Tr_countTrue_8 (by decide) ?_
  refine lv_istore (lv' := [(5, .int (nI 0)), (4, .int (nI 0)), (3, .int (nI (2 ^ popc w 12))), (0, .ref (a 2)), (1, .int (nI x)), (2, .int (nI w))]) hx hb d_Tr_countTrue_9 hl (by decide) rfl (fun ls hl => ?_)
  refine lv_iconst (v := (nI 0)) hx hb d_Tr_countTrue_11 (by decide) ?_
  refine lv_istore (lv' := [(6, .int (nI 0)), (5, .int (nI 0)), (4, .int (nI 0)), (3, .int (nI (2 ^ popc w 12))), (0, .ref (a 2)), (1, .int (nI x)), (2, .int (nI w))]) hx hb d_Tr_countTrue_12 hl (by decide) rfl (fun ls hl => ?_)
  have lp_14 : ∀ (k : Nat) (i : Nat) (v : Nat) (f : Nat) (H : Heap) (locs : List Loc) (ls : Array Slot), (2 ^ popc w 12 < i + k) → (i ≤ 2 ^ popc w 12) → (v < 4096) → (i < 2 ^ popc w 12 → v = pd 12 w i) → (f = ctF tb x w i) → va_P g vwCl (stW a rB rT cI cJ cII cJJ nc nv ng kd vo nu nd en br bc un eu li tb cc0 cp cu cd tc ts tf ox ow ob ra rb gc gr gk gg gp gt sa sb) H → va_D A (stW a rB rT cI cJ cII cJJ nc nv ng kd vo nu nd en br bc un eu li tb cc0 cp cu cd tc ts tf ox ow ob ra rb gc gr gk gg gp gt sa sb) → va_S A s.heap H locs → lv_has ls 7 [(0, .ref (a 2)), (1, .int (nI x)), (2, .int (nI w)), (3, .int (nI (2 ^ popc w 12))), (4, .int (nI v)), (5, .int (nI f)), (6, .int (nI i))] → W p l e ({ frames := 2, cells := 0, slots := 0, locals := 40 } : Room) s m args below meth c H locs 0 0 Q (F0 m 14 ls []) := by
    intro k
    induction k with
    | zero =>
      intro i v f H locs ls hk hi hv hp hf hP hD hS hl
      exfalso
      omega
    | succ k ih_14 =>
      intro i v f H locs ls hk hi hv hp hf hP hD hS hl
      refine lv_iload hx hb d_Tr_countTrue_14 (lv_at hl 6 rfl) ?_
      refine lv_iload_n hx hb d_Tr_countTrue_16 rfl (lv_at hl 3 rfl) ?_
      refine my_icmp_ge (tgt := 47) (a := i) (b := 2 ^ popc w 12) hx hb d_Tr_countTrue_17 (by decide) (by omega) (by omega) (fun c_17 => ?_) (fun c_17 => ?_)
      · -- 17: taken
        refine lv_iload hx hb d_Tr_countTrue_47 (lv_at hl 5 rfl) ?_
        refine hret _ _ _ _ _ hP hD hS d_Tr_countTrue_49 ?_
        rw [hf, show i = 2 ^ popc w 12 by omega]
      · -- 17: not taken
        refine lv_aload_n hx hb d_Tr_countTrue_20 rfl (lv_at hl 0 rfl) ?_
        refine lv_iload_n hx hb d_Tr_countTrue_21 rfl (lv_at hl 1 rfl) ?_
        refine lv_iload hx hb d_Tr_countTrue_22 (lv_at hl 4 rfl) ?_
        refine my_V_i (q0 := 2) (ci := 2) (C := R_Tr) (As := [.int (nI x), .int (nI v)]) (n := 2) (k_Tr_isTrue l g a rB rT cI cJ cII cJJ nc nv ng kd vo nu nd en br bc un eu li tb cc0 cp cu cd tc ts tf ox ow ob ra rb gc gr gk gg gp gt sa sb x v (by omega) (by omega)) hx hb hml hown hT hN tw_378 tw_379 tw_380 tw_3 tw_381 (by decide +kernel) rfl rfl ⟨Nat.le_of_ble_eq_true rfl, Nat.le_of_ble_eq_true rfl⟩ ⟨Nat.zero_le _, Nat.zero_le _⟩ hK hP hD hS hA rfl rfl rfl hl rfl (Nat.le_of_ble_eq_true rfl) d_Tr_countTrue_24 (fun H locs hP hD hS => ?_)
        refine my_if_eq_b (tgt := 33) hx hb d_Tr_countTrue_27 (by decide) (fun c_27 => ?_) (fun c_27 => ?_)
        · -- 27: taken
          refine lv_iload hx hb d_Tr_countTrue_33 (lv_at hl 4 rfl) ?_
          refine lv_iload_n hx hb d_Tr_countTrue_35 rfl (lv_at hl 2 rfl) ?_
          refine my_SN_i (As := [.int (nI v), .int (nI w)]) (n := 2) (k_ST_nextSet l g vwCl (tyS cI cJ cII cJJ) (stW a rB rT cI cJ cII cJJ nc nv ng kd vo nu nd en br bc un eu li tb cc0 cp cu cd tc ts tf ox ow ob ra rb gc gr gk gg gp gt sa sb) v w (by omega)) hx hb hml hown hT hN tw_537 tw_426 tw_1 tw_427 (by decide +kernel) rfl rfl ⟨Nat.le_of_ble_eq_true rfl, Nat.le_of_ble_eq_true rfl⟩ ⟨Nat.zero_le _, Nat.zero_le _⟩ hK hP hD hS hA rfl hl rfl (Nat.le_of_ble_eq_true rfl) d_Tr_countTrue_36 (fun H locs hP hD hS => ?_)
          refine lv_istore (lv' := [(4, .int (nI ((v + 2 ^ 32 - w) &&& w))), (0, .ref (a 2)), (1, .int (nI x)), (2, .int (nI w)), (3, .int (nI (2 ^ popc w 12))), (5, .int (nI f)), (6, .int (nI i))]) hx hb d_Tr_countTrue_39 hl (by decide) rfl (fun ls hl => ?_)
          refine lv_iinc (v := (nI (i + 1))) (lv' := [(6, .int (nI (i + 1))), (4, .int (nI ((v + 2 ^ 32 - w) &&& w))), (0, .ref (a 2)), (1, .int (nI x)), (2, .int (nI w)), (3, .int (nI (2 ^ popc w 12))), (5, .int (nI f))]) hx hb d_Tr_countTrue_41 hl (k := 6) rfl (nI_1 i) (by decide) rfl (fun ls hl => ?_)
          refine lv_goto (tgt := 14) hx hb d_Tr_countTrue_44 (by decide) ?_
          refine ih_14 _ _ _ _ _ _ ?_ ?_ ?_ ?_ ?_ hP hD hS (lv_sub hl [2, 3, 4, 5, 1, 6, 0] rfl)
          · omega
          · omega
          · exact Nat.lt_of_le_of_lt Nat.and_le_right hw
          · intro h; rw [hp (by omega)]; exact pd_next 12 w i 32 (by omega) hw h
          · rw [hf]; rw [hp (by omega)] at c_27; simp [ctF, c_27]
        · -- 27: not taken
          refine lv_iinc (v := (nI (f + 1))) (lv' := [(5, .int (nI (f + 1))), (0, .ref (a 2)), (1, .int (nI x)), (2, .int (nI w)), (3, .int (nI (2 ^ popc w 12))), (4, .int (nI v)), (6, .int (nI i))]) hx hb d_Tr_countTrue_30 hl (k := 5) rfl (nI_1 f) (by decide) rfl (fun ls hl => ?_)
          refine lv_iload hx hb d_Tr_countTrue_33 (lv_at hl 5 rfl) ?_
          refine lv_iload_n hx hb d_Tr_countTrue_35 rfl (lv_at hl 3 rfl) ?_
          refine my_SN_i (As := [.int (nI v), .int (nI w)]) (n := 2) (k_ST_nextSet l g vwCl (tyS cI cJ cII cJJ) (stW a rB rT cI cJ cII cJJ nc nv ng kd vo nu nd en br bc un eu li tb cc0 cp cu cd tc ts tf ox ow ob ra rb gc gr gk gg gp gt sa sb) v w (by omega)) hx hb hml hown hT hN tw_537 tw_426 tw_1 tw_427 (by decide +kernel) rfl rfl ⟨Nat.le_of_ble_eq_true rfl, Nat.le_of_ble_eq_true rfl⟩ ⟨Nat.zero_le _, Nat.zero_le _⟩ hK hP hD hS hA rfl hl rfl (Nat.le_of_ble_eq_true rfl) d_Tr_countTrue_36 (fun H locs hP hD hS => ?_)
          refine lv_istore (lv' := [(4, .int (nI ((v + 2 ^ 32 - w) &&& w))), (5, .int (nI (f + 1))), (0, .ref (a 2)), (1, .int (nI x)), (2, .int (nI w)), (3, .int (nI (2 ^ popc w 12))), (6, .int (nI i))]) hx hb d_Tr_countTrue_39 hl (by decide) rfl (fun ls hl => ?_)
          refine lv_iinc (v := (nI (i + 1))) (lv' := [(6, .int (nI (i + 1))), (4, .int (nI ((v + 2 ^ 32 - w) &&& w))), (5, .int (nI (f + 1))), (0, .ref (a 2)), (1, .int (nI x)), (2, .int (nI w)), (3, .int (nI (2 ^ popc w 12)))]) hx hb d_Tr_countTrue_41 hl (k := 6) rfl (nI_1 i) (by decide) rfl (fun ls hl => ?_)
          refine lv_goto (tgt := 14) hx hb d_Tr_countTrue_44 (by decide) ?_
          refine ih_14 _ _ _ _ _ _ ?_ ?_ ?_ ?_ ?_ hP hD hS (lv_sub hl [3, 4, 5, 6, 1, 2, 0] rfl)
          · omega
          · omega
          · exact Nat.lt_of_le_of_lt Nat.and_le_right hw
          · intro h; rw [hp (by omega)]; exact pd_next 12 w i 32 (by omega) hw h
          · rw [hf]; rw [hp (by omega)] at c_27; simp [ctF, c_27]
  refine lp_14 (2 ^ popc w 12 + 1) _ _ _ _ _ _ ?_ ?_ ?_ ?_ ?_ hP hD hS (lv_sub hl [4, 5, 6, 3, 2, 1, 0] rfl)
  · omega
  · omega
  · omega
  · intro _; exact (pd_0 12 w).symm
  · rfl
set_option maxHeartbeats 4000000 in
set_option maxRecDepth 100000 in
theorem k_Tr_isMinimal (l : Launch) (g : va_G) (a rB rT : Nat → Nat) (cI cJ cII cJJ : ClassId) (nc : Nat) (nv : Nat) (ng : Nat) (kd : Nat → Int32) (vo : Nat → Nat) (nu : Nat → Nat) (nd : Nat → Nat) (en : Nat → Nat) (br : Nat → Nat → Nat) (bc : Nat → Nat) (un : Nat → Nat) (eu : Nat → Nat) (li : Nat → Nat) (tb : Nat → Nat → Int64) (cc0 : Nat) (cp : Nat → Nat) (cu : Nat → Nat) (cd : Nat → Nat) (tc : Nat) (ts : Nat → Nat) (tf : Nat → Nat) (ox : Bool) (ow : Nat → Nat) (ob : Nat → Nat) (ra : Nat) (rb : Nat) (gc : Nat) (gr : Nat) (gk : Nat → Nat) (gg : Nat → Nat) (gp : Nat → Nat) (gt : Nat → Nat) (sa : Nat) (sb : Nat) (x : Nat) (s1 : Nat) (hx1 : x ≤ 32) (hs1 : s1 < 4096) : ct_i l g vwCl (tyS cI cJ cII cJJ) y_Tr_isMinimal c_Tr_isMinimal 4 (some .boolean) ({ frames := 1, cells := 0, slots := 0, locals := 23 } : Room) [.ref (a 2), .int (nI x), .int (nI s1)] (stW a rB rT cI cJ cII cJJ nc nv ng kd vo nu nd en br bc un eu li tb cc0 cp cu cd tc ts tf ox ow ob ra rb gc gr gk gg gp gt sa sb) (stW a rB rT cI cJ cII cJJ nc nv ng kd vo nu nd en br bc un eu li tb cc0 cp cu cd tc ts tf ox ow ob ra rb gc gr gk gg gp gt sa sb) (b2 (isM tb x s1)) := by
  refine ct_i.introZ (by decide) (Nat.le_of_ble_eq_true rfl) ?_
  intro p e s m args below meth c Q A ls hx hb hml hT hown hA hK hN hret hP hD hS hl
  have hown : s.vm.findClass R_Tr = some m.cls := hown
  have hl : lv_has ls 4 [(0, .ref (a 2)), (1, .int (nI x)), (2, .int (nI s1))] := hl
  refine lv_aload_n hx hb d_Tr_isMinimal_0 rfl (lv_at hl 0 rfl) ?_
  refine lv_iload_n hx hb d_Tr_isMinimal_1 rfl (lv_at hl 1 rfl) ?_
  refine lv_iload_n hx hb d_Tr_isMinimal_2 rfl (lv_at hl 2 rfl) ?_
  refine my_V_i (q0 := 2) (ci := 2) (C := R_Tr) (As := [.int (nI x), .int (nI s1)]) (n := 2) (k_Tr_isTrue l g a rB rT cI cJ cII cJJ nc nv ng kd vo nu nd en br bc un eu li tb cc0 cp cu cd tc ts tf ox ow ob ra rb gc gr gk gg gp gt sa sb x s1 (by omega) (by omega)) hx hb hml hown hT hN tw_378 tw_379 tw_380 tw_3 tw_381 (by decide +kernel) rfl rfl ⟨Nat.le_of_ble_eq_true rfl, Nat.le_of_ble_eq_true rfl⟩ ⟨Nat.zero_le _, Nat.zero_le _⟩ hK hP hD hS hA rfl rfl rfl hl rfl (Nat.le_of_ble_eq_true rfl) d_Tr_isMinimal_3 (fun H locs hP hD hS => ?_)
  refine my_if_ne_b (tgt := 11) hx hb d_Tr_isMinimal_6 (by decide) (fun c_6 => ?_) (fun c_6 => ?_)
  · -- 6: taken
    refine lv_iconst (v := (nI 1)) hx hb d_Tr_isMinimal_11 (by decide) ?_
    refine lv_istore_n (lv' := [(3, .int (nI 1)), (0, .ref (a 2)), (1, .int (nI x)), (2, .int (nI s1))]) hx hb d_Tr_isMinimal_12 rfl hl (by decide) rfl (fun ls hl => ?_)
    have lp_13 : ∀ (k : Nat) (i : Nat) (H : Heap) (locs : List Loc) (ls : Array Slot), (12 < i + k) → (i ≤ 12) → (imF tb x s1 i = true) → va_P g vwCl (stW a rB rT cI cJ cII cJJ nc nv ng kd vo nu nd en br bc un eu li tb cc0 cp cu cd tc ts tf ox ow ob ra rb gc gr gk gg gp gt sa sb) H → va_D A (stW a rB rT cI cJ cII cJJ nc nv ng kd vo nu nd en br bc un eu li tb cc0 cp cu cd tc ts tf ox ow ob ra rb gc gr gk gg gp gt sa sb) → va_S A s.heap H locs → lv_has ls 4 [(0, .ref (a 2)), (1, .int (nI x)), (2, .int (nI s1)), (3, .int (nI (2 ^ i)))] → W p l e ({ frames := 1, cells := 0, slots := 0, locals := 23 } : Room) s m args below meth c H locs 0 0 Q (F0 m 13 ls []) := by
      intro k
      induction k with
      | zero =>
        intro i H locs ls hk hi hf hP hD hS hl
        exfalso
        omega
      | succ k ih_13 =>
        intro i H locs ls hk hi hf hP hD hS hl
        have q1 : 2 ^ i ≤ 4096 := pw12c hi
        refine lv_iload_n hx hb d_Tr_isMinimal_13 rfl (lv_at hl 3 rfl) ?_
        refine lv_sipush (v := (nI 4096)) hx hb d_Tr_isMinimal_14 (by decide) ?_
        refine my_icmp_ge (tgt := 46) (a := 2 ^ i) (b := 4096) hx hb d_Tr_isMinimal_17 (by decide) (by omega) (by omega) (fun c_17 => ?_) (fun c_17 => ?_)
        · -- 17: taken
          have q3 : i = 12 := pw12a hi c_17
          subst q3
          refine lv_iconst (v := (nI 1)) hx hb d_Tr_isMinimal_46 (by decide) ?_
          refine hret _ _ _ _ _ hP hD hS d_Tr_isMinimal_47 ?_
          exact b2T (by rw [isM, c_6, hf]; rfl)
        · -- 17: not taken
          have q3 : i < 12 := pw12b c_17
          refine lv_iload_n hx hb d_Tr_isMinimal_20 rfl (lv_at hl 2 rfl) ?_
          refine lv_iload_n hx hb d_Tr_isMinimal_21 rfl (lv_at hl 3 rfl) ?_
          refine lv_iand hx hb d_Tr_isMinimal_22 ?_
          refine my_ei (nx_and s1 (2 ^ i)) ?_
          have q2 : s1 &&& 2 ^ i < 4096 := Nat.lt_of_le_of_lt Nat.and_le_left hs1
          refine my_if_eq (tgt := 39) (a := s1 &&& (2 ^ i)) hx hb d_Tr_isMinimal_23 (by decide) (by omega) (fun c_23 => ?_) (fun c_23 => ?_)
          · -- 23: taken
            refine lv_iload_n hx hb d_Tr_isMinimal_39 rfl (lv_at hl 3 rfl) ?_
            refine lv_iconst (v := (nI 1)) hx hb d_Tr_isMinimal_40 (by decide) ?_
            refine lv_ishl hx hb d_Tr_isMinimal_41 ?_
            refine my_ei (y := nI (2 ^ (i + 1))) ((pk_shlN (n := 2 ^ i) _ 1 (by decide) (by omega)).trans (congrArg nI (Nat.pow_add 2 i 1).symm)) ?_
            refine lv_istore_n (lv' := [(3, .int (nI (2 ^ (i + 1)))), (0, .ref (a 2)), (1, .int (nI x)), (2, .int (nI s1))]) hx hb d_Tr_isMinimal_42 rfl hl (by decide) rfl (fun ls hl => ?_)
            refine lv_goto (tgt := 13) hx hb d_Tr_isMinimal_43 (by decide) ?_
            refine ih_13 (i + 1) _ _ _ ?_ ?_ ?_ hP hD hS (lv_sub hl [1, 2, 3, 0] rfl)
            · omega
            · omega
            · simp [imF, hf, tbF c_23]
          · -- 23: not taken
            have q4 : s1 ^^^ 2 ^ i < 4096 := Nat.xor_lt_two_pow (n := 12) hs1 (Nat.pow_lt_pow_right (by decide) q3)
            have q5 := tbT (show ¬ s1 &&& 2 ^ i = 0 by omega)
            refine lv_aload_n hx hb d_Tr_isMinimal_26 rfl (lv_at hl 0 rfl) ?_
            refine lv_iload_n hx hb d_Tr_isMinimal_27 rfl (lv_at hl 1 rfl) ?_
            refine lv_iload_n hx hb d_Tr_isMinimal_28 rfl (lv_at hl 2 rfl) ?_
            refine lv_iload_n hx hb d_Tr_isMinimal_29 rfl (lv_at hl 3 rfl) ?_
            refine lv_ixor hx hb d_Tr_isMinimal_30 ?_
            refine my_ei (nx_xor s1 (2 ^ i)) ?_
            refine my_V_i (q0 := 2) (ci := 2) (C := R_Tr) (As := [.int (nI x), .int (nI (s1 ^^^ (2 ^ i)))]) (n := 2) (k_Tr_isTrue l g a rB rT cI cJ cII cJJ nc nv ng kd vo nu nd en br bc un eu li tb cc0 cp cu cd tc ts tf ox ow ob ra rb gc gr gk gg gp gt sa sb x (s1 ^^^ (2 ^ i)) (by omega) (by omega)) hx hb hml hown hT hN tw_378 tw_379 tw_380 tw_3 tw_381 (by decide +kernel) rfl rfl ⟨Nat.le_of_ble_eq_true rfl, Nat.le_of_ble_eq_true rfl⟩ ⟨Nat.zero_le _, Nat.zero_le _⟩ hK hP hD hS hA rfl rfl rfl hl rfl (Nat.le_of_ble_eq_true rfl) d_Tr_isMinimal_31 (fun H locs hP hD hS => ?_)
            refine my_if_eq_b (tgt := 39) hx hb d_Tr_isMinimal_34 (by decide) (fun c_34 => ?_) (fun c_34 => ?_)
            · -- 34: taken
              refine lv_iload_n hx hb d_Tr_isMinimal_39 rfl (lv_at hl 3 rfl) ?_
              refine lv_iconst (v := (nI 1)) hx hb d_Tr_isMinimal_40 (by decide) ?_
              refine lv_ishl hx hb d_Tr_isMinimal_41 ?_
              refine my_ei (y := nI (2 ^ (i + 1))) ((pk_shlN (n := 2 ^ i) _ 1 (by decide) (by omega)).trans (congrArg nI (Nat.pow_add 2 i 1).symm)) ?_
              refine lv_istore_n (lv' := [(3, .int (nI (2 ^ (i + 1)))), (0, .ref (a 2)), (1, .int (nI x)), (2, .int (nI s1))]) hx hb d_Tr_isMinimal_42 rfl hl (by decide) rfl (fun ls hl => ?_)
              refine lv_goto (tgt := 13) hx hb d_Tr_isMinimal_43 (by decide) ?_
              refine ih_13 (i + 1) _ _ _ ?_ ?_ ?_ hP hD hS (lv_sub hl [1, 2, 3, 0] rfl)
              · omega
              · omega
              · simp [imF, hf, c_34]
            · -- 34: not taken
              refine lv_iconst (v := (nI 0)) hx hb d_Tr_isMinimal_37 (by decide) ?_
              refine hret _ _ _ _ _ hP hD hS d_Tr_isMinimal_38 ?_
              exact b2F (by rw [isM, imF_f (i := i) (by simp [imF, q5, c_34]) 12 q3, Bool.and_false])
    refine lp_13 (13) 0 _ _ _ ?_ ?_ ?_ hP hD hS (lv_sub hl [1, 2, 3, 0] rfl)
    · omega
    · omega
    · rfl
  · -- 6: not taken
    refine lv_iconst (v := (nI 0)) hx hb d_Tr_isMinimal_9 (by decide) ?_
    refine hret _ _ _ _ _ hP hD hS d_Tr_isMinimal_10 ?_
    exact b2F (by simp [isM, c_6])
