def eWL (s1 w : Nat) : Nat → Nat → Int64
  | 0, _ => if w &&& s1 / 2 ^ 6 = 0 then lN 0 else -1
  | f + 1, j => if s1 = 2 ^ j then patV j else eWL s1 w f (j + 1)
def feF (tb : Nat → Nat → Int64) (x s1 : Nat) : Nat → (Nat → Nat → Int64)
  | 0 => tb
  | w + 1 => va_up (feF tb x s1 w) x (va_up (feF tb x s1 w x) w (eWL s1 w 6 0))
def evR (nc nv : Nat) (u d : Int64) : Int32 := if isD d = false ∨ u < lN 0 then -2 else if 12 ≤ nv then -4 else if u ≤ d then nI (nc + 1) else 0
set_option maxHeartbeats 4000000 in
set_option maxRecDepth 100000 in
theorem k_Tr_eventWord (tp : Nat) (l : Launch) (g : va_G) (cl : List vw_C) (tys : List (ClassId × FieldType)) (ww : va_W) (s1 : Nat) (wd : Nat) (hs1 : s1 < 4096) (hwd : wd < 64) : cp_l tp l g cl tys y_Tr_eventWord c_Tr_eventWord 3 (some .long) ({ frames := 0, cells := 0, slots := 0, locals := 0 } : Room) [.int (nI s1), .int (nI wd)] ww ww (eWL s1 wd 6 0) := by
  refine cp_l.intro (by decide) (Nat.le_of_ble_eq_true rfl) ?_
  intro p e s m args below meth c Q A ls hx hb hml hT hown hA hK hN hZ hret hP hD hS hl
  have hown : s.vm.findClass R_Tr = some m.cls := hown
  have hl : lv_has ls 3 [(0, .int (nI s1)), (1, .int (nI wd))] := hl
  refine lv_iconst (v := (nI 0)) hx hb d_Tr_eventWord_0 (by decide) ?_
  refine lv_istore_n (lv' := [(2, .int (nI 0)), (0, .int (nI s1)), (1, .int (nI wd))]) hx hb d_Tr_eventWord_1 rfl hl (by decide) rfl (fun ls hl => ?_)
  have lp_2 : ∀ (k : Nat) (j : Nat) (f : Nat) (H : Heap) (locs : List Loc) (ls : Array Slot), (6 < j + k) → (j + f = 6) → (eWL s1 wd f j = eWL s1 wd 6 0) → va_P g cl ww H → va_D A ww → va_S A s.heap H locs → lv_has ls 3 [(0, .int (nI s1)), (1, .int (nI wd)), (2, .int (nI j))] → W p l e ({ frames := 0, cells := 0, slots := 0, locals := 0 } : Room) s m args below meth c H locs 0 0 Q (F0 m 2 ls []) := by
    intro k
    induction k with
    | zero =>
      intro j f H locs ls hk hj hf hP hD hS hl
      exfalso
      omega
    | succ k ih_2 =>
      intro j f H locs ls hk hj hf hP hD hS hl
      refine lv_iload_n hx hb d_Tr_eventWord_2 rfl (lv_at hl 2 rfl) ?_
      refine lv_bipush (v := (nI 6)) hx hb d_Tr_eventWord_3 (by decide) ?_
      refine my_icmp_ge (tgt := 27) (a := j) (b := 6) hx hb d_Tr_eventWord_5 (by decide) (by omega) (by omega) (fun c_5 => ?_) (fun c_5 => ?_)
      · -- 5: taken
        have f0 : f = 0 := by omega
        subst f0
        refine lv_iload_n hx hb d_Tr_eventWord_27 rfl (lv_at hl 1 rfl) ?_
        refine lv_iload_n hx hb d_Tr_eventWord_28 rfl (lv_at hl 0 rfl) ?_
        refine lv_bipush (v := (nI 6)) hx hb d_Tr_eventWord_29 (by decide) ?_
        refine lv_ishr hx hb d_Tr_eventWord_31 ?_
        refine my_ei (pk_shrN (n := s1) (by omega) _ 6 (s_l 6 (by omega))) ?_
        refine lv_iand hx hb d_Tr_eventWord_32 ?_
        refine my_ei (nx_and wd (s1 / 2 ^ 6)) ?_
        have qa : wd &&& s1 / 2 ^ 6 ≤ wd := Nat.and_le_left
        refine my_if_eq (tgt := 42) (a := wd &&& (s1 / 2 ^ 6)) hx hb d_Tr_eventWord_33 (by decide) (by omega) (fun c_33 => ?_) (fun c_33 => ?_)
        · -- 33: taken
          refine lv_lconst (v := (lN 0)) hx hb d_Tr_eventWord_42 (by decide) ?_
          refine hret _ _ _ _ _ hP hD hS d_Tr_eventWord_43 ?_
          rw [← hf]; exact (if_pos c_33).symm
        · -- 33: not taken
          refine lv_ldc2 (v := (-1)) hx hb hown (hT _ tw_269) d_Tr_eventWord_36 ?_
          refine lv_goto (tgt := 43) hx hb d_Tr_eventWord_39 (by decide) ?_
          refine hret _ _ _ _ _ hP hD hS d_Tr_eventWord_43 ?_
          rw [← hf]; exact (if_neg (by omega)).symm
      · -- 5: not taken
        obtain ⟨f, rfl⟩ : ∃ q, f = q + 1 := ⟨f - 1, by omega⟩
        refine lv_iload_n hx hb d_Tr_eventWord_8 rfl (lv_at hl 0 rfl) ?_
        refine lv_iconst (v := (nI 1)) hx hb d_Tr_eventWord_9 (by decide) ?_
        refine lv_iload_n hx hb d_Tr_eventWord_10 rfl (lv_at hl 2 rfl) ?_
        refine lv_ishl hx hb d_Tr_eventWord_11 ?_
        refine my_ei (nx_shl1 j (by omega)) ?_
        have qp : 2 ^ j ≤ 64 := Nat.pow_le_pow_right (n := 2) (i := j) (j := 6) (by decide) (by omega)
        refine my_icmp_ne (tgt := 21) (a := s1) (b := 2 ^ j) hx hb d_Tr_eventWord_12 (by decide) (by omega) (by omega) (fun c_12 => ?_) (fun c_12 => ?_)
        · -- 12: taken
          refine lv_iinc (v := (nI (j + 1))) (lv' := [(2, .int (nI (j + 1))), (0, .int (nI s1)), (1, .int (nI wd))]) hx hb d_Tr_eventWord_21 hl (k := 2) rfl (nI_1 j) (by decide) rfl (fun ls hl => ?_)
          refine lv_goto (tgt := 2) hx hb d_Tr_eventWord_24 (by decide) ?_
          refine ih_2 _ f _ _ _ ?_ ?_ ?_ hP hD hS (lv_sub hl [1, 2, 0] rfl)
          · omega
          · omega
          · rw [← hf]; exact (if_neg c_12).symm
        · -- 12: not taken
          refine va_gets (C := "SafetyTrees$Truth") (n := "PATTERNS") (d := "[J") hx hb hZ.1 hS hown (hT _ tw_267) (fun _ h9 => h9) d_Tr_eventWord_15 ?_
          refine lv_iload_n hx hb d_Tr_eventWord_18 rfl (lv_at hl 2 rfl) ?_
          refine va_tl hx hb hZ.2 hS (vp_in_nI (n := j) (N := 6) (by omega) (by decide)) (v := .long (patV j)) (by rw [nI_clamp (by omega)]) d_Tr_eventWord_19 ?_
          refine hret _ _ _ _ _ hP hD hS d_Tr_eventWord_20 ?_
          rw [← hf]; exact (if_pos c_12).symm
  refine lp_2 (7) 0 6 _ _ _ ?_ ?_ ?_ hP hD hS (lv_sub hl [1, 2, 0] rfl)
  · omega
  · rfl
  · rfl
set_option maxHeartbeats 4000000 in
set_option maxRecDepth 100000 in
theorem k_Tr_fillEvent (tp : Nat) (l : Launch) (g : va_G) (a rB rT : Nat → Nat) (cI cJ cII cJJ : ClassId) (nc : Nat) (nv : Nat) (ng : Nat) (kd : Nat → Int32) (vo : Nat → Nat) (nu : Nat → Nat) (nd : Nat → Nat) (en : Nat → Nat) (br : Nat → Nat → Nat) (bc : Nat → Nat) (un : Nat → Nat) (eu : Nat → Nat) (li : Nat → Nat) (tb : Nat → Nat → Int64) (cc0 : Nat) (cp : Nat → Nat) (cu : Nat → Nat) (cd : Nat → Nat) (tc : Nat) (ts : Nat → Nat) (tf : Nat → Nat) (ox : Bool) (ow : Nat → Nat) (ob : Nat → Nat) (ra : Nat) (rb : Nat) (gc : Nat) (gr : Nat) (gk : Nat → Nat) (gg : Nat → Nat) (gp : Nat → Nat) (gt : Nat → Nat) (sa : Nat) (sb : Nat) (x : Nat) (hx1 : x ≤ 32) (heu : ∀ j, eu j < 2 ^ 12) : cp_v tp l g vwCl (tyS cI cJ cII cJJ) y_Tr_fillEvent c_Tr_fillEvent 4 none ({ frames := 1, cells := 0, slots := 0, locals := 22 } : Room) [.ref (a 2), .int (nI x)] (stW a rB rT cI cJ cII cJJ nc nv ng kd vo nu nd en br bc un eu li tb cc0 cp cu cd tc ts tf ox ow ob ra rb gc gr gk gg gp gt sa sb) (stW a rB rT cI cJ cII cJJ nc nv ng kd vo nu nd en br bc un eu li (feF tb x (eu x) 64) cc0 cp cu cd tc ts tf ox ow ob ra rb gc gr gk gg gp gt sa sb) := by
  refine cp_v.intro (by decide) (Nat.le_of_ble_eq_true rfl) ?_
  intro p e s m args below meth c Q A ls hx hb hml hT hown hA hK hN hZ hret hP hD hS hl
  have hown : s.vm.findClass R_Tr = some m.cls := hown
  have hl : lv_has ls 4 [(0, .ref (a 2)), (1, .int (nI x))] := hl
  have q1 := heu x
  refine lv_aload_n hx hb d_Tr_fillEvent_0 rfl (lv_at hl 0 rfl) ?_
  refine va_get (D := g) (ci := 2) (v := .ref (a 1)) (C := R_Tr) (T := F_Tr) (N := 2) hx hb hT i_Tr hown hK hP 2 rfl rfl 0 (by decide) (hT _ tw_104) (fun _ h9 => h9) rfl d_Tr_fillEvent_1 ?_
  refine va_getN (D := g) (ci := 1) (v := .ref (a 17)) (C := R_No) (T := F_No) (N := 13) hx hb hT i_No hown hK hP 1 rfl rfl 11 (by decide) (va_Nw.use rfl (hN _ tw_61)) (fun _ h9 => h9) rfl d_Tr_fillEvent_4 ?_
  refine lv_iload_n hx hb d_Tr_fillEvent_7 rfl (lv_at hl 1 rfl) ?_
  refine my_iald (v := (nI (eu x))) (i := x) hx hb hK hP 17 0 rfl rfl (by omega) (by decide) rfl d_Tr_fillEvent_8 ?_
  refine lv_istore_n (lv' := [(2, .int (nI (eu x))), (0, .ref (a 2)), (1, .int (nI x))]) hx hb d_Tr_fillEvent_9 rfl hl (by decide) rfl (fun ls hl => ?_)
  refine lv_iconst (v := (nI 0)) hx hb d_Tr_fillEvent_10 (by decide) ?_
  refine lv_istore_n (lv' := [(3, .int (nI 0)), (2, .int (nI (eu x))), (0, .ref (a 2)), (1, .int (nI x))]) hx hb d_Tr_fillEvent_11 rfl hl (by decide) rfl (fun ls hl => ?_)
  have lp_12 : ∀ (k : Nat) (i : Nat) (t : Nat → Nat → Int64) (H : Heap) (locs : List Loc) (ls : Array Slot), (64 < i + k) → (i ≤ 64) → (t = feF tb x (eu x) i) → va_P g vwCl (stW a rB rT cI cJ cII cJJ nc nv ng kd vo nu nd en br bc un eu li t cc0 cp cu cd tc ts tf ox ow ob ra rb gc gr gk gg gp gt sa sb) H → va_D A (stW a rB rT cI cJ cII cJJ nc nv ng kd vo nu nd en br bc un eu li t cc0 cp cu cd tc ts tf ox ow ob ra rb gc gr gk gg gp gt sa sb) → va_S A s.heap H locs → lv_has ls 4 [(0, .ref (a 2)), (1, .int (nI x)), (2, .int (nI (eu x))), (3, .int (nI i))] → W p l e ({ frames := 1, cells := 0, slots := 0, locals := 22 } : Room) s m args below meth c H locs 0 0 Q (F0 m 12 ls []) := by
    intro k
    induction k with
    | zero =>
      intro i t H locs ls hk hi hf hP hD hS hl
      exfalso
      omega
    | succ k ih_12 =>
      intro i t H locs ls hk hi hf hP hD hS hl
      refine lv_iload_n hx hb d_Tr_fillEvent_12 rfl (lv_at hl 3 rfl) ?_
      refine lv_bipush (v := (nI 64)) hx hb d_Tr_fillEvent_13 (by decide) ?_
      refine my_icmp_ge (tgt := 37) (a := i) (b := 64) hx hb d_Tr_fillEvent_15 (by decide) (by omega) (by omega) (fun c_15 => ?_) (fun c_15 => ?_)
      · -- 15: taken
        have e1 : t = feF tb x (eu x) 64 := by rw [hf, show i = 64 by omega]
        rw [e1] at hP hD
        exact hret _ _ _ _ hP hD hS d_Tr_fillEvent_37
      · -- 15: not taken
        refine lv_aload_n hx hb d_Tr_fillEvent_18 rfl (lv_at hl 0 rfl) ?_
        refine va_get (D := g) (ci := 2) (v := .ref (a 19)) (C := R_Tr) (T := F_Tr) (N := 2) hx hb hT i_Tr hown hK hP 2 rfl rfl 1 (by decide) (hT _ tw_105) (fun _ h9 => h9) rfl d_Tr_fillEvent_19 ?_
        refine lv_iload_n hx hb d_Tr_fillEvent_22 rfl (lv_at hl 1 rfl) ?_
        refine my_aald (r := rT) (i := x) hx hb hK hP 19 3 rfl rfl (by omega) (by decide) d_Tr_fillEvent_23 ?_
        refine lv_iload_n hx hb d_Tr_fillEvent_24 rfl (lv_at hl 3 rfl) ?_
        refine lv_iload_n hx hb d_Tr_fillEvent_25 rfl (lv_at hl 2 rfl) ?_
        refine lv_iload_n hx hb d_Tr_fillEvent_26 rfl (lv_at hl 3 rfl) ?_
        refine my_PS_l (As := [.int (nI (eu x)), .int (nI i)]) (n := 2) (k_Tr_eventWord tp l g vwCl (tyS cI cJ cII cJJ) (stW a rB rT cI cJ cII cJJ nc nv ng kd vo nu nd en br bc un eu li t cc0 cp cu cd tc ts tf ox ow ob ra rb gc gr gk gg gp gt sa sb) (eu x) i (heu x) (by omega)) hx hb hml hown hT hN hZ tw_264 tw_265 tw_3 tw_266 (by decide +kernel) rfl rfl ⟨Nat.le_of_ble_eq_true rfl, Nat.le_of_ble_eq_true rfl⟩ ⟨Nat.zero_le _, Nat.zero_le _⟩ hK hP hD hS hA rfl hl rfl (Nat.le_of_ble_eq_true rfl) d_Tr_fillEvent_27 (fun H locs hP hD hS => ?_)
        refine my_last (i := i) hx hb hK hP hD hS (64 + x) 1 (stT_at (by omega)) rfl (by omega) (by decide) (my_upJ _ _ _) (stT_set (by omega)) d_Tr_fillEvent_30 (fun H locs hP hD hS => ?_)
        have hP : va_P g vwCl (stW a rB rT cI cJ cII cJJ nc nv ng kd vo nu nd en br bc un eu li (va_up t x (va_up (t x) i (eWL (eu x) i 6 0))) cc0 cp cu cd tc ts tf ox ow ob ra rb gc gr gk gg gp gt sa sb) H := hP
        have hD : va_D A (stW a rB rT cI cJ cII cJJ nc nv ng kd vo nu nd en br bc un eu li (va_up t x (va_up (t x) i (eWL (eu x) i 6 0))) cc0 cp cu cd tc ts tf ox ow ob ra rb gc gr gk gg gp gt sa sb) := hD
        refine lv_iinc (v := (nI (i + 1))) (lv' := [(3, .int (nI (i + 1))), (0, .ref (a 2)), (1, .int (nI x)), (2, .int (nI (eu x)))]) hx hb d_Tr_fillEvent_31 hl (k := 3) rfl (nI_1 i) (by decide) rfl (fun ls hl => ?_)
        refine lv_goto (tgt := 12) hx hb d_Tr_fillEvent_34 (by decide) ?_
        refine ih_12 _ _ _ _ _ ?_ ?_ ?_ hP hD hS (lv_sub hl [1, 2, 3, 0] rfl)
        · omega
        · omega
        · rw [hf]; rfl
  refine lp_12 (65) _ _ _ _ _ ?_ ?_ ?_ hP hD hS (lv_sub hl [2, 3, 1, 0] rfl)
  · omega
  · omega
  · rfl
set_option maxHeartbeats 4000000 in
set_option maxRecDepth 100000 in
theorem k_ST_event (tp : Nat) (l : Launch) (g : va_G) (a rB rT : Nat → Nat) (cI cJ cII cJJ : ClassId) (nc : Nat) (nv : Nat) (ng : Nat) (kd : Nat → Int32) (vo : Nat → Nat) (nu : Nat → Nat) (nd : Nat → Nat) (en : Nat → Nat) (br : Nat → Nat → Nat) (bc : Nat → Nat) (un : Nat → Nat) (eu : Nat → Nat) (li : Nat → Nat) (tb : Nat → Nat → Int64) (cc0 : Nat) (cp : Nat → Nat) (cu : Nat → Nat) (cd : Nat → Nat) (tc : Nat) (ts : Nat → Nat) (tf : Nat → Nat) (ox : Bool) (ow : Nat → Nat) (ob : Nat → Nat) (ra : Nat) (rb : Nat) (gc : Nat) (gr : Nat) (gk : Nat → Nat) (gg : Nat → Nat) (gp : Nat → Nat) (gt : Nat → Nat) (sa : Nat) (sb : Nat) (u : Int64) (d : Int64) (hnc : nc = nv + ng) (hng : ng ≤ 20) (hnv : nv ≤ 12) (heu : ∀ j, eu j < 2 ^ 12) : cp_i tp l g vwCl (tyS cI cJ cII cJJ) y_ST_event c_ST_event 6 (some .int) ({ frames := 2, cells := 0, slots := 0, locals := 45 } : Room) [.ref (a 0), .long u, .long d] (stW a rB rT cI cJ cII cJJ nc nv ng kd vo nu nd en br bc un eu li tb cc0 cp cu cd tc ts tf ox ow ob ra rb gc gr gk gg gp gt sa sb) (if isD d = true ∧ ¬ u < lN 0 ∧ nv < 12 ∧ u ≤ d then (stW a rB rT cI cJ cII cJJ (nc + 1) (nv + 1) ng (va_up kd (nc + 1) (-1)) vo (va_up nu (nc + 1) (lnat u)) (va_up nd (nc + 1) (lnat d)) (va_up en nv (nc + 1)) br bc un (va_up eu (nc + 1) (2 ^ (11 - nv))) li (feF tb (nc + 1) ((va_up eu (nc + 1) (2 ^ (11 - nv))) (nc + 1)) 64) cc0 cp cu cd tc ts tf ox ow ob ra rb gc gr gk gg gp gt sa sb) else (stW a rB rT cI cJ cII cJJ nc nv ng kd vo nu nd en br bc un eu li tb cc0 cp cu cd tc ts tf ox ow ob ra rb gc gr gk gg gp gt sa sb)) (evR nc nv u d) := by
  refine cp_i.intro (by decide) (Nat.le_of_ble_eq_true rfl) ?_
  intro p e s m args below meth c Q A ls hx hb hml hT hown hA hK hN hZ hret hP hD hS hl
  have hown : s.vm.findClass R_ST = some m.cls := hown
  have hl : lv_has ls 6 [(0, .ref (a 0)), (1, .long u), (3, .long d)] := hl
  refine lv_lload_n hx hb d_ST_event_0 rfl (lv_at hl 2 rfl) ?_
  refine my_S_i (As := [.long d]) (n := 1) (k_ST_isDown l g vwCl (tyS cI cJ cII cJJ) (stW a rB rT cI cJ cII cJJ nc nv ng kd vo nu nd en br bc un eu li tb cc0 cp cu cd tc ts tf ox ow ob ra rb gc gr gk gg gp gt sa sb) d ) hx hb hml hown hT hN tw_249 tw_250 tw_1 tw_251 (by decide +kernel) rfl rfl ⟨Nat.le_of_ble_eq_true rfl, Nat.le_of_ble_eq_true rfl⟩ ⟨Nat.zero_le _, Nat.zero_le _⟩ hK hP hD hS hA rfl hl rfl (Nat.le_of_ble_eq_true rfl) d_ST_event_1 (fun H locs hP hD hS => ?_)
  refine my_if_eq_b (tgt := 13) hx hb d_ST_event_4 (by decide) (fun c_4 => ?_) (fun c_4 => ?_)
  · -- 4: taken
    refine lv_bipush (v := (-2)) hx hb d_ST_event_13 (by decide) ?_
    refine hret _ _ _ _ _ (by rw [if_neg (by intro hh; first | exact absurd (hh.1.symm.trans c_4) (by decide) | exact hh.2.1 c_9 | exact c_33 hh.2.2.2 | (have := hh.2.2.1; omega))]; exact hP) (by rw [if_neg (by intro hh; first | exact absurd (hh.1.symm.trans c_4) (by decide) | exact hh.2.1 c_9 | exact c_33 hh.2.2.2 | (have := hh.2.2.1; omega))]; exact hD) hS d_ST_event_15 ?_
    rw [evR, if_pos (by first | exact Or.inl c_4 | exact Or.inr c_9)]
  · -- 4: not taken
    refine lv_lload_n hx hb d_ST_event_7 rfl (lv_at hl 1 rfl) ?_
    refine lv_lconst (v := (lN 0)) hx hb d_ST_event_8 (by decide) ?_
    refine my_lcmpR_ge (tgt := 16) hx hb d_ST_event_9 d_ST_event_10 (by decide) (fun c_9 => ?_) (fun c_9 => ?_)
    · -- 9: taken
      have c_9 : ¬ u < lN 0 := (my_j0 _ _).mp c_9
      refine lv_aload_n hx hb d_ST_event_16 rfl (lv_at hl 0 rfl) ?_
      refine va_get (D := g) (ci := 0) (v := .ref (a 1)) (C := R_ST) (T := F_ST) (N := 7) hx hb hT i_ST hown hK hP 0 rfl rfl 0 (by decide) (hT _ tw_223) (fun _ h9 => h9) rfl d_ST_event_17 ?_
      refine va_getN (D := g) (ci := 1) (v := .int (nI nv)) (C := R_No) (T := F_No) (N := 13) hx hb hT i_No hown hK hP 1 rfl rfl 1 (by decide) (va_Nw.use rfl (hN _ tw_35)) (fun _ h9 => h9) rfl d_ST_event_20 ?_
      refine lv_bipush (v := (nI 12)) hx hb d_ST_event_23 (by decide) ?_
      refine my_icmp_lt (tgt := 31) (a := nv) (b := 12) hx hb d_ST_event_25 (by decide) (by omega) (by omega) (fun c_25 => ?_) (fun c_25 => ?_)
      · -- 25: taken
        refine lv_lload_n hx hb d_ST_event_31 rfl (lv_at hl 1 rfl) ?_
        refine lv_lload_n hx hb d_ST_event_32 rfl (lv_at hl 2 rfl) ?_
        refine my_lcmpR_le (tgt := 39) hx hb d_ST_event_33 d_ST_event_34 (by decide) (fun c_33 => ?_) (fun c_33 => ?_)
        · -- 33: taken
          obtain ⟨d1, hd1, hd2, rfl⟩ := isD_nat c_4
          obtain ⟨u1, hu1, rfl⟩ := u_nat c_9 c_33 (by omega)
          have hkc3 : lnat (lN d1) = d1 := lnat_lN (by omega)
          have hkc4 : lnat (lN u1) = u1 := lnat_lN (by omega)
          simp only [hkc3, hkc4] at hret
          refine lv_aload_n hx hb d_ST_event_39 rfl (lv_at hl 0 rfl) ?_
          refine va_get (D := g) (ci := 0) (v := .ref (a 1)) (C := R_ST) (T := F_ST) (N := 7) hx hb hT i_ST hown hK hP 0 rfl rfl 0 (by decide) (hT _ tw_223) (fun _ h9 => h9) rfl d_ST_event_40 ?_
          refine lv_lload_n hx hb d_ST_event_43 rfl (lv_at hl 1 rfl) ?_
          refine lv_lload_n hx hb d_ST_event_44 rfl (lv_at hl 2 rfl) ?_
          refine my_V_i (q0 := 1) (ci := 1) (C := R_No) (As := [.long (lN u1), .long (lN d1)]) (n := 2) (k_No_addEvent l g a rB rT cI cJ cII cJJ nc nv ng kd vo nu nd en br bc un eu li tb cc0 cp cu cd tc ts tf ox ow ob ra rb gc gr gk gg gp gt sa sb u1 d1 (by omega) (by omega)) hx hb hml hown hT hN tw_253 tw_254 tw_255 tw_2 tw_256 (by decide +kernel) rfl rfl ⟨Nat.le_of_ble_eq_true rfl, Nat.le_of_ble_eq_true rfl⟩ ⟨Nat.zero_le _, Nat.zero_le _⟩ hK hP hD hS hA rfl rfl rfl hl rfl (Nat.le_of_ble_eq_true rfl) d_ST_event_45 (fun H locs hP hD hS => ?_)
          refine lv_istore (lv' := [(5, .int (nI (nc + 1))), (0, .ref (a 0)), (1, .long (lN u1)), (3, .long (lN d1))]) hx hb d_ST_event_48 hl (by decide) rfl (fun ls hl => ?_)
          refine lv_aload_n hx hb d_ST_event_50 rfl (lv_at hl 1 rfl) ?_
          refine va_get (D := g) (ci := 0) (v := .ref (a 2)) (C := R_ST) (T := F_ST) (N := 7) hx hb hT i_ST hown hK hP 0 rfl rfl 1 (by decide) (hT _ tw_224) (fun _ h9 => h9) rfl d_ST_event_51 ?_
          refine lv_iload hx hb d_ST_event_54 (lv_at hl 0 rfl) ?_
          refine my_PV_v (q0 := 2) (ci := 2) (C := R_Tr) (As := [.int (nI (nc + 1))]) (n := 1) (k_Tr_fillEvent tp l g a rB rT cI cJ cII cJJ (nc + 1) (nv + 1) ng (va_up kd (nc + 1) (-1)) vo (va_up nu (nc + 1) u1) (va_up nd (nc + 1) d1) (va_up en nv (nc + 1)) br bc un (va_up eu (nc + 1) (2 ^ (11 - nv))) li tb cc0 cp cu cd tc ts tf ox ow ob ra rb gc gr gk gg gp gt sa sb (nc + 1) (by omega) (up_lt heu (Nat.pow_lt_pow_right (by decide) (by omega)))) hx hb hml hown hT hN hZ tw_260 tw_261 tw_262 tw_3 tw_263 (by decide +kernel) rfl rfl ⟨Nat.le_of_ble_eq_true rfl, Nat.le_of_ble_eq_true rfl⟩ ⟨Nat.zero_le _, Nat.zero_le _⟩ hK hP hD hS hA rfl rfl rfl hl rfl (Nat.le_of_ble_eq_true rfl) d_ST_event_56 (fun H locs hP hD hS => ?_)
          refine lv_iload hx hb d_ST_event_59 (lv_at hl 0 rfl) ?_
          refine hret _ _ _ _ _ (by rw [if_pos ⟨c_4, c_9, by omega, c_33⟩]; exact hP) (by rw [if_pos ⟨c_4, c_9, by omega, c_33⟩]; exact hD) hS d_ST_event_61 ?_
          rw [evR, if_neg (by simp [c_4, c_9]), if_neg (by omega), if_pos c_33]
        · -- 33: not taken
          refine lv_iconst (v := (nI 0)) hx hb d_ST_event_37 (by decide) ?_
          refine hret _ _ _ _ _ (by rw [if_neg (by intro hh; first | exact absurd (hh.1.symm.trans c_4) (by decide) | exact hh.2.1 c_9 | exact c_33 hh.2.2.2 | (have := hh.2.2.1; omega))]; exact hP) (by rw [if_neg (by intro hh; first | exact absurd (hh.1.symm.trans c_4) (by decide) | exact hh.2.1 c_9 | exact c_33 hh.2.2.2 | (have := hh.2.2.1; omega))]; exact hD) hS d_ST_event_38 ?_
          rw [evR, if_neg (by simp [c_4, c_9]), if_neg (by omega), if_neg c_33]; rfl
      · -- 25: not taken
        refine lv_bipush (v := (-4)) hx hb d_ST_event_28 (by decide) ?_
        refine hret _ _ _ _ _ (by rw [if_neg (by intro hh; first | exact absurd (hh.1.symm.trans c_4) (by decide) | exact hh.2.1 c_9 | exact c_33 hh.2.2.2 | (have := hh.2.2.1; omega))]; exact hP) (by rw [if_neg (by intro hh; first | exact absurd (hh.1.symm.trans c_4) (by decide) | exact hh.2.1 c_9 | exact c_33 hh.2.2.2 | (have := hh.2.2.1; omega))]; exact hD) hS d_ST_event_30 ?_
        rw [evR, if_neg (by simp [c_4, c_9]), if_pos (by omega)]
    · -- 9: not taken
      have c_9 : u < lN 0 := by rw [Int64.lt_iff_toInt_lt]; rw [Int64.le_iff_toInt_le] at c_9; omega
      refine lv_bipush (v := (-2)) hx hb d_ST_event_13 (by decide) ?_
      refine hret _ _ _ _ _ (by rw [if_neg (by intro hh; first | exact absurd (hh.1.symm.trans c_4) (by decide) | exact hh.2.1 c_9 | exact c_33 hh.2.2.2 | (have := hh.2.2.1; omega))]; exact hP) (by rw [if_neg (by intro hh; first | exact absurd (hh.1.symm.trans c_4) (by decide) | exact hh.2.1 c_9 | exact c_33 hh.2.2.2 | (have := hh.2.2.1; omega))]; exact hD) hS d_ST_event_15 ?_
      rw [evR, if_pos (by first | exact Or.inl c_4 | exact Or.inr c_9)]
