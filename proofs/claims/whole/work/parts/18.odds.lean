def mnF (x y : Nat) : Nat := if x ≤ y then x else y
theorem mnF_le (x y : Nat) : mnF x y ≤ y := by unfold mnF; split <;> omega
theorem mnF_le' (x y : Nat) : mnF x y ≤ x := by unfold mnF; split <;> omega
def ipF (u d : Nat) : Nat := if d < 1 then 0 else u * (2520 / d)
def wsF (tb : Nat → Nat → Int64) (x w : Nat) (ow : Nat → Nat) : Nat → (Nat → Nat)
  | 0 => ow
  | i + 1 => va_up (wsF tb x w ow i) (pd 12 w i) (if isT tb x (pd 12 w i) = true then 1 else 0)
def mxF (w ad u d : Nat) (ow : Nat → Nat) : Nat → (Nat → Nat)
  | 0 => ow
  | i + 1 => va_up (mxF w ad u d ow i) (pd 12 w i) ((d - u) * mxF w ad u d ow i (pd 12 w i) + u * mxF w ad u d ow i (pd 12 w i ||| ad))
/-- the causes folded in: weights, product of the downs -/
def ceF (ev : Nat) (cp cu cd : Nat → Nat) (m0 : Nat → Nat) : Nat → (Nat → Nat) × Nat
  | 0 => (m0, 1)
  | i + 1 => if cp i &&& ev = 0 then ceF ev cp cu cd m0 i else (mxF ev (cp i &&& ev) (cu i) (cd i) (ceF ev cp cu cd m0 i).1 (2 ^ popc ev 12), (ceF ev cp cu cd m0 i).2 * cd i)
/-- the events folded in: weights, product, what is left -/
def evF (ev : Nat) (en eu nu nd : Nat → Nat) (s : (Nat → Nat) × Nat) : Nat → (Nat → Nat) × Nat × Nat
  | 0 => (s.1, s.2, ev)
  | i + 1 => if ev &&& eu (en i) = 0 then evF ev en eu nu nd s i else
      (mxF ((evF ev en eu nu nd s i).2.2 ^^^ eu (en i)) (eu (en i)) (nu (en i)) (nd (en i)) (evF ev en eu nu nd s i).1 (2 ^ popc ((evF ev en eu nu nd s i).2.2 ^^^ eu (en i)) 12), (evF ev en eu nu nd s i).2.1 * nd (en i), (evF ev en eu nu nd s i).2.2 ^^^ eu (en i))
def ebF (nu nd eu cp cu cd : Nat → Nat) (x : Nat) : Nat → Nat
  | 0 => ipF (nu x) (nd x)
  | i + 1 => if cp i &&& eu x = 0 then ebF nu nd eu cp cu cd x i else ebF nu nd eu cp cu cd x i + ipF (cu i) (cd i)
/-- (least, sum) of what is below -/
def gsF (ob : Nat → Nat) (br : Nat → Nat → Nat) (x : Nat) : Nat → Nat × Nat
  | 0 => (2520, 0)
  | i + 1 => (mnF (gsF ob br x i).1 (ob (br x i)), (gsF ob br x i).2 + ob (br x i))
def gbF (ob : Nat → Nat) (br : Nat → Nat → Nat) (bc vo : Nat → Nat) (kd : Nat → Int32) (x : Nat) : Nat :=
  if kd x = 0 then (gsF ob br x (bc x)).1
  else if kd x = nI 2 ∧ 0 < vo x then mnF (((gsF ob br x (bc x)).2 + vo x - 1) / vo x) 2520 else mnF (gsF ob br x (bc x)).2 2520
def beF (eb : Nat → Nat) (en : Nat → Nat) (ob : Nat → Nat) : Nat → (Nat → Nat)
  | 0 => ob
  | i + 1 => va_up (beF eb en ob i) (en i) (eb (en i))
def bgF (br : Nat → Nat → Nat) (bc vo : Nat → Nat) (kd : Nat → Int32) (li ob : Nat → Nat) : Nat → (Nat → Nat)
  | 0 => ob
  | i + 1 => va_up (bgF br bc vo kd li ob i) (li i) (gbF (bgF br bc vo kd li ob i) br bc vo kd (li i))
theorem ipF_le {u d : Nat} (h : u ≤ 10) : ipF u d ≤ 25200 := by
  unfold ipF
  split
  · omega
  · have h1 : 2520 / d ≤ 2520 := Nat.div_le_self _ _
    have := Nat.mul_le_mul h h1
    omega
theorem ebF_le {nu nd eu cp cu cd : Nat → Nat} {x : Nat} (h1 : nu x ≤ 10) (h2 : ∀ j, cu j ≤ 10) : ∀ i, ebF nu nd eu cp cu cd x i ≤ 25200 + 25200 * i
  | 0 => ipF_le h1
  | i + 1 => by
    have := ebF_le (nd := nd) (eu := eu) (cp := cp) (cd := cd) h1 h2 i
    have := ipF_le (d := cd i) (h2 i)
    show (if cp i &&& eu x = 0 then ebF nu nd eu cp cu cd x i else ebF nu nd eu cp cu cd x i + ipF (cu i) (cd i)) ≤ _
    split <;> omega
theorem gsF_le {ob : Nat → Nat} {br : Nat → Nat → Nat} {x : Nat} (h : ∀ j, ob j ≤ 2520) : ∀ i, (gsF ob br x i).1 ≤ 2520 ∧ (gsF ob br x i).2 ≤ 2520 * i
  | 0 => ⟨Nat.le_refl _, Nat.le_refl _⟩
  | i + 1 => by
    have := gsF_le (br := br) (x := x) h i
    have h2 := h (br x i)
    refine ⟨Nat.le_trans (mnF_le _ _) h2, ?_⟩
    show (gsF ob br x i).2 + ob (br x i) ≤ _
    omega
theorem gbF_le {ob : Nat → Nat} {br : Nat → Nat → Nat} {bc vo : Nat → Nat} {kd : Nat → Int32} {x : Nat} (h : ∀ j, ob j ≤ 2520) : gbF ob br bc vo kd x ≤ 2520 := by
  unfold gbF
  split
  · exact (gsF_le h _).1
  · split <;> exact mnF_le _ _
theorem lN_mn {a b : Nat} (ha : a < 2 ^ 63) (hb : b < 2 ^ 63) : (if lN b < lN a then lN b else lN a) = lN (mnF a b) := by
  unfold mnF
  by_cases h : b < a
  · rw [if_pos ((pk_lLT hb ha).mpr h), if_neg (by omega)]
  · rw [if_neg (fun q => h ((pk_lLT hb ha).mp q)), if_pos (by omega)]
set_option maxHeartbeats 4000000 in
set_option maxRecDepth 100000 in
theorem k_Od_inParts (l : Launch) (g : va_G) (cl : List vw_C) (tys : List (ClassId × FieldType)) (ww : va_W) (u : Nat) (d : Nat) (hu : u ≤ 10) (hd : d ≤ 10) : ct_l l g cl tys y_Od_inParts c_Od_inParts 4 (some .long) ({ frames := 0, cells := 0, slots := 0, locals := 0 } : Room) [.long (lN u), .long (lN d)] ww ww (lN (ipF u d)) := by
  refine ct_l.intro (by decide) (Nat.le_of_ble_eq_true rfl) ?_
  intro p e s m args below meth c Q A ls hx hb hml hT hown hA hK hN hret hP hD hS hl
  have hown : s.vm.findClass R_Od = some m.cls := hown
  have hl : lv_has ls 4 [(0, .long (lN u)), (2, .long (lN d))] := hl
  refine lv_lload_n hx hb d_Od_inParts_0 rfl (lv_at hl 1 rfl) ?_
  refine lv_lconst (v := (lN 1)) hx hb d_Od_inParts_1 (by decide) ?_
  refine my_lcmp_ge (tgt := 10) (a := d) (b := 1) hx hb d_Od_inParts_2 d_Od_inParts_3 (by decide) (by omega) (by omega) (fun c_2 => ?_) (fun c_2 => ?_)
  · -- 2: taken
    refine lv_lload_n hx hb d_Od_inParts_10 rfl (lv_at hl 0 rfl) ?_
    refine lv_ldc2 (v := (lN 2520)) hx hb hown (hT _ tw_451) d_Od_inParts_11 ?_
    refine lv_lload_n hx hb d_Od_inParts_14 rfl (lv_at hl 1 rfl) ?_
    refine my_ldiv (a := 2520) (b := d) hx hb d_Od_inParts_15 (by omega) (by omega) (by omega) ?_
    refine lv_lmul hx hb d_Od_inParts_16 ?_
    refine my_el (lN_mul u (2520 / d)) ?_
    refine hret _ _ _ _ _ hP hD hS d_Od_inParts_17 ?_
    exact congrArg lN (by first | exact (if_pos (by omega)).symm | exact (if_neg (by omega)).symm)
  · -- 2: not taken
    refine lv_lconst (v := (lN 0)) hx hb d_Od_inParts_6 (by decide) ?_
    refine lv_goto (tgt := 17) hx hb d_Od_inParts_7 (by decide) ?_
    refine hret _ _ _ _ _ hP hD hS d_Od_inParts_17 ?_
    exact congrArg lN (by first | exact (if_pos (by omega)).symm | exact (if_neg (by omega)).symm)
set_option maxHeartbeats 4000000 in
set_option maxRecDepth 100000 in
theorem k_Od_weighSets (l : Launch) (g : va_G) (a rB rT : Nat → Nat) (cI cJ cII cJJ : ClassId) (nc : Nat) (nv : Nat) (ng : Nat) (kd : Nat → Int32) (vo : Nat → Nat) (nu : Nat → Nat) (nd : Nat → Nat) (en : Nat → Nat) (br : Nat → Nat → Nat) (bc : Nat → Nat) (un : Nat → Nat) (eu : Nat → Nat) (li : Nat → Nat) (tb : Nat → Nat → Int64) (cc0 : Nat) (cp : Nat → Nat) (cu : Nat → Nat) (cd : Nat → Nat) (tc : Nat) (ts : Nat → Nat) (tf : Nat → Nat) (ox : Bool) (ow : Nat → Nat) (ob : Nat → Nat) (ra : Nat) (rb : Nat) (gc : Nat) (gr : Nat) (gk : Nat → Nat) (gg : Nat → Nat) (gp : Nat → Nat) (gt : Nat → Nat) (sa : Nat) (sb : Nat) (x : Nat) (w : Nat) (hx1 : x ≤ 32) (hw : w < 4096) : ct_v l g vwCl (tyS cI cJ cII cJJ) y_Od_weighSets c_Od_weighSets 6 none ({ frames := 2, cells := 0, slots := 0, locals := 40 } : Room) [.ref (a 5), .int (nI x), .int (nI w)] (stW a rB rT cI cJ cII cJJ nc nv ng kd vo nu nd en br bc un eu li tb cc0 cp cu cd tc ts tf ox ow ob ra rb gc gr gk gg gp gt sa sb) (stW a rB rT cI cJ cII cJJ nc nv ng kd vo nu nd en br bc un eu li tb cc0 cp cu cd tc ts tf ox (wsF tb x w ow (2 ^ popc w 12)) ob ra rb gc gr gk gg gp gt sa sb) := by
  refine ct_v.intro (by decide) (Nat.le_of_ble_eq_true rfl) ?_
  intro p e s m args below meth c Q A ls hx hb hml hT hown hA hK hN hret hP hD hS hl
  have hown : s.vm.findClass R_Od = some m.cls := hown
  have hl : lv_has ls 6 [(0, .ref (a 5)), (1, .int (nI x)), (2, .int (nI w))] := hl
  have q1 := pop12 w
  have q0 : 0 < 2 ^ popc w 12 := Nat.two_pow_pos _
  refine lv_iload_n hx hb d_Od_weighSets_0 rfl (lv_at hl 2 rfl) ?_
  refine my_SN_i (As := [.int (nI w)]) (n := 1) (k_ST_countOfSets l g vwCl (tyS cI cJ cII cJJ) (stW a rB rT cI cJ cII cJJ nc nv ng kd vo nu nd en br bc un eu li tb cc0 cp cu cd tc ts tf ox ow ob ra rb gc gr gk gg gp gt sa sb) w (by omega)) hx hb hml hown hT hN tw_423 tw_315 tw_1 tw_316 (by decide +kernel) rfl rfl ⟨Nat.le_of_ble_eq_true rfl, Nat.le_of_ble_eq_true rfl⟩ ⟨Nat.zero_le _, Nat.zero_le _⟩ hK hP hD hS hA rfl hl rfl (Nat.le_of_ble_eq_true rfl) d_Od_weighSets_1 (fun H locs hP hD hS => ?_)
  refine lv_istore_n (lv' := [(3, .int (nI (2 ^ popc w 12))), (0, .ref (a 5)), (1, .int (nI x)), (2, .int (nI w))]) hx hb d_Od_weighSets_4 rfl hl (by decide) rfl (fun ls hl => ?_)
  refine lv_iconst (v := (nI 0)) hx hb d_Od_weighSets_5 (by decide) ?_
  refine lv_istore (lv' := [(4, .int (nI 0)), (3, .int (nI (2 ^ popc w 12))), (0, .ref (a 5)), (1, .int (nI x)), (2, .int (nI w))]) hx hb d_Od_weighSets_6 hl (by decide) rfl (fun ls hl => ?_)
  refine lv_iconst (v := (nI 0)) hx hb d_Od_weighSets_8 (by decide) ?_
  refine lv_istore (lv' := [(5, .int (nI 0)), (4, .int (nI 0)), (3, .int (nI (2 ^ popc w 12))), (0, .ref (a 5)), (1, .int (nI x)), (2, .int (nI w))]) hx hb d_Od_weighSets_9 hl (by decide) rfl (fun ls hl => ?_)
  have lp_11 : ∀ (k : Nat) (i : Nat) (v : Nat) (q : Nat → Nat) (H : Heap) (locs : List Loc) (ls : Array Slot), (2 ^ popc w 12 < i + k) → (i ≤ 2 ^ popc w 12) → (v < 4096) → (i < 2 ^ popc w 12 → v = pd 12 w i) → (q = wsF tb x w ow i) → va_P g vwCl (stW a rB rT cI cJ cII cJJ nc nv ng kd vo nu nd en br bc un eu li tb cc0 cp cu cd tc ts tf ox q ob ra rb gc gr gk gg gp gt sa sb) H → va_D A (stW a rB rT cI cJ cII cJJ nc nv ng kd vo nu nd en br bc un eu li tb cc0 cp cu cd tc ts tf ox q ob ra rb gc gr gk gg gp gt sa sb) → va_S A s.heap H locs → lv_has ls 6 [(0, .ref (a 5)), (1, .int (nI x)), (2, .int (nI w)), (3, .int (nI (2 ^ popc w 12))), (4, .int (nI v)), (5, .int (nI i))] → W p l e ({ frames := 2, cells := 0, slots := 0, locals := 40 } : Room) s m args below meth c H locs 0 0 Q (F0 m 11 ls []) := by
    intro k
    induction k with
    | zero =>
      intro i v q H locs ls hk hi hv hp hf hP hD hS hl
      exfalso
      omega
    | succ k ih_11 =>
      intro i v q H locs ls hk hi hv hp hf hP hD hS hl
      refine lv_iload hx hb d_Od_weighSets_11 (lv_at hl 5 rfl) ?_
      refine lv_iload_n hx hb d_Od_weighSets_13 rfl (lv_at hl 3 rfl) ?_
      refine my_icmp_ge (tgt := 56) (a := i) (b := 2 ^ popc w 12) hx hb d_Od_weighSets_14 (by decide) (by omega) (by omega) (fun c_14 => ?_) (fun c_14 => ?_)
      · -- 14: taken
        have e1 : q = wsF tb x w ow (2 ^ popc w 12) := by rw [hf, show i = 2 ^ popc w 12 by omega]
        rw [e1] at hP hD
        exact hret _ _ _ _ hP hD hS d_Od_weighSets_56
      · -- 14: not taken
        refine lv_aload_n hx hb d_Od_weighSets_17 rfl (lv_at hl 0 rfl) ?_
        refine va_get (D := g) (ci := 5) (v := .ref (a 25)) (C := R_Od) (T := F_Od) (N := 7) hx hb hT i_Od hown hK hP 5 rfl rfl 5 (by decide) (hT _ tw_177) (fun _ h9 => h9) rfl d_Od_weighSets_18 ?_
        refine lv_iload hx hb d_Od_weighSets_21 (lv_at hl 4 rfl) ?_
        refine lv_aload_n hx hb d_Od_weighSets_23 rfl (lv_at hl 0 rfl) ?_
        refine va_get (D := g) (ci := 5) (v := .ref (a 2)) (C := R_Od) (T := F_Od) (N := 7) hx hb hT i_Od hown hK hP 5 rfl rfl 1 (by decide) (hT _ tw_171) (fun _ h9 => h9) rfl d_Od_weighSets_24 ?_
        refine lv_iload_n hx hb d_Od_weighSets_27 rfl (lv_at hl 1 rfl) ?_
        refine lv_iload hx hb d_Od_weighSets_28 (lv_at hl 4 rfl) ?_
        refine my_V_i (q0 := 2) (ci := 2) (C := R_Tr) (As := [.int (nI x), .int (nI v)]) (n := 2) (k_Tr_isTrue l g a rB rT cI cJ cII cJJ nc nv ng kd vo nu nd en br bc un eu li tb cc0 cp cu cd tc ts tf ox q ob ra rb gc gr gk gg gp gt sa sb x v (by omega) (by omega)) hx hb hml hown hT hN tw_424 tw_379 tw_380 tw_3 tw_381 (by decide +kernel) rfl rfl ⟨Nat.le_of_ble_eq_true rfl, Nat.le_of_ble_eq_true rfl⟩ ⟨Nat.zero_le _, Nat.zero_le _⟩ hK hP hD hS hA rfl rfl rfl hl rfl (Nat.le_of_ble_eq_true rfl) d_Od_weighSets_30 (fun H locs hP hD hS => ?_)
        refine my_if_eq_b (tgt := 40) hx hb d_Od_weighSets_33 (by decide) (fun c_33 => ?_) (fun c_33 => ?_)
        · -- 33: taken
          refine lv_lconst (v := (lN 0)) hx hb d_Od_weighSets_40 (by decide) ?_
          refine my_last (i := v) hx hb hK hP hD hS 25 1 rfl rfl (by omega) (by decide) (my_upL _ _ _) (w' := (stW a rB rT cI cJ cII cJJ nc nv ng kd vo nu nd en br bc un eu li tb cc0 cp cu cd tc ts tf ox (va_up q v 0) ob ra rb gc gr gk gg gp gt sa sb)) rfl d_Od_weighSets_41 (fun H locs hP hD hS => ?_)
          refine lv_iload hx hb d_Od_weighSets_42 (lv_at hl 4 rfl) ?_
          refine lv_iload_n hx hb d_Od_weighSets_44 rfl (lv_at hl 2 rfl) ?_
          refine my_SN_i (As := [.int (nI v), .int (nI w)]) (n := 2) (k_ST_nextSet l g vwCl (tyS cI cJ cII cJJ) (stW a rB rT cI cJ cII cJJ nc nv ng kd vo nu nd en br bc un eu li tb cc0 cp cu cd tc ts tf ox (va_up q v 0) ob ra rb gc gr gk gg gp gt sa sb) v w (by omega)) hx hb hml hown hT hN tw_425 tw_426 tw_1 tw_427 (by decide +kernel) rfl rfl ⟨Nat.le_of_ble_eq_true rfl, Nat.le_of_ble_eq_true rfl⟩ ⟨Nat.zero_le _, Nat.zero_le _⟩ hK hP hD hS hA rfl hl rfl (Nat.le_of_ble_eq_true rfl) d_Od_weighSets_45 (fun H locs hP hD hS => ?_)
          refine lv_istore (lv' := [(4, .int (nI ((v + 2 ^ 32 - w) &&& w))), (0, .ref (a 5)), (1, .int (nI x)), (2, .int (nI w)), (3, .int (nI (2 ^ popc w 12))), (5, .int (nI i))]) hx hb d_Od_weighSets_48 hl (by decide) rfl (fun ls hl => ?_)
          refine lv_iinc (v := (nI (i + 1))) (lv' := [(5, .int (nI (i + 1))), (4, .int (nI ((v + 2 ^ 32 - w) &&& w))), (0, .ref (a 5)), (1, .int (nI x)), (2, .int (nI w)), (3, .int (nI (2 ^ popc w 12)))]) hx hb d_Od_weighSets_50 hl (k := 5) rfl (nI_1 i) (by decide) rfl (fun ls hl => ?_)
          refine lv_goto (tgt := 11) hx hb d_Od_weighSets_53 (by decide) ?_
          refine ih_11 _ _ _ _ _ _ ?_ ?_ ?_ ?_ ?_ hP hD hS (lv_sub hl [2, 3, 4, 5, 1, 0] rfl)
          · omega
          · omega
          · exact Nat.lt_of_le_of_lt Nat.and_le_right hw
          · intro h; rw [hp (by omega)]; exact pd_next 12 w i 32 (by omega) hw h
          · have e3 := hp (by omega)
            rw [hf]
            show va_up _ v _ = va_up _ (pd 12 w i) (if isT tb x (pd 12 w i) = true then 1 else 0)
            rw [← e3, c_33]; rfl
        · -- 33: not taken
          refine lv_lconst (v := (lN 1)) hx hb d_Od_weighSets_36 (by decide) ?_
          refine lv_goto (tgt := 41) hx hb d_Od_weighSets_37 (by decide) ?_
          refine my_last (i := v) hx hb hK hP hD hS 25 1 rfl rfl (by omega) (by decide) (my_upL _ _ _) (w' := (stW a rB rT cI cJ cII cJJ nc nv ng kd vo nu nd en br bc un eu li tb cc0 cp cu cd tc ts tf ox (va_up q v 1) ob ra rb gc gr gk gg gp gt sa sb)) rfl d_Od_weighSets_41 (fun H locs hP hD hS => ?_)
          refine lv_iload hx hb d_Od_weighSets_42 (lv_at hl 4 rfl) ?_
          refine lv_iload_n hx hb d_Od_weighSets_44 rfl (lv_at hl 2 rfl) ?_
          refine my_SN_i (As := [.int (nI v), .int (nI w)]) (n := 2) (k_ST_nextSet l g vwCl (tyS cI cJ cII cJJ) (stW a rB rT cI cJ cII cJJ nc nv ng kd vo nu nd en br bc un eu li tb cc0 cp cu cd tc ts tf ox (va_up q v 1) ob ra rb gc gr gk gg gp gt sa sb) v w (by omega)) hx hb hml hown hT hN tw_425 tw_426 tw_1 tw_427 (by decide +kernel) rfl rfl ⟨Nat.le_of_ble_eq_true rfl, Nat.le_of_ble_eq_true rfl⟩ ⟨Nat.zero_le _, Nat.zero_le _⟩ hK hP hD hS hA rfl hl rfl (Nat.le_of_ble_eq_true rfl) d_Od_weighSets_45 (fun H locs hP hD hS => ?_)
          refine lv_istore (lv' := [(4, .int (nI ((v + 2 ^ 32 - w) &&& w))), (0, .ref (a 5)), (1, .int (nI x)), (2, .int (nI w)), (3, .int (nI (2 ^ popc w 12))), (5, .int (nI i))]) hx hb d_Od_weighSets_48 hl (by decide) rfl (fun ls hl => ?_)
          refine lv_iinc (v := (nI (i + 1))) (lv' := [(5, .int (nI (i + 1))), (4, .int (nI ((v + 2 ^ 32 - w) &&& w))), (0, .ref (a 5)), (1, .int (nI x)), (2, .int (nI w)), (3, .int (nI (2 ^ popc w 12)))]) hx hb d_Od_weighSets_50 hl (k := 5) rfl (nI_1 i) (by decide) rfl (fun ls hl => ?_)
          refine lv_goto (tgt := 11) hx hb d_Od_weighSets_53 (by decide) ?_
          refine ih_11 _ _ _ _ _ _ ?_ ?_ ?_ ?_ ?_ hP hD hS (lv_sub hl [2, 3, 4, 5, 1, 0] rfl)
          · omega
          · omega
          · exact Nat.lt_of_le_of_lt Nat.and_le_right hw
          · intro h; rw [hp (by omega)]; exact pd_next 12 w i 32 (by omega) hw h
          · have e3 := hp (by omega)
            rw [hf]
            show va_up _ v _ = va_up _ (pd 12 w i) (if isT tb x (pd 12 w i) = true then 1 else 0)
            rw [← e3, c_33]; rfl
  refine lp_11 (2 ^ popc w 12 + 1) _ _ _ _ _ _ ?_ ?_ ?_ ?_ ?_ hP hD hS (lv_sub hl [3, 4, 5, 2, 1, 0] rfl)
  · omega
  · omega
  · omega
  · intro _; exact (pd_0 12 w).symm
  · rfl
set_option maxHeartbeats 4000000 in
set_option maxRecDepth 100000 in
theorem k_Od_mix (l : Launch) (g : va_G) (a rB rT : Nat → Nat) (cI cJ cII cJJ : ClassId) (nc : Nat) (nv : Nat) (ng : Nat) (kd : Nat → Int32) (vo : Nat → Nat) (nu : Nat → Nat) (nd : Nat → Nat) (en : Nat → Nat) (br : Nat → Nat → Nat) (bc : Nat → Nat) (un : Nat → Nat) (eu : Nat → Nat) (li : Nat → Nat) (tb : Nat → Nat → Int64) (cc0 : Nat) (cp : Nat → Nat) (cu : Nat → Nat) (cd : Nat → Nat) (tc : Nat) (ts : Nat → Nat) (tf : Nat → Nat) (ox : Bool) (ow : Nat → Nat) (ob : Nat → Nat) (ra : Nat) (rb : Nat) (gc : Nat) (gr : Nat) (gk : Nat → Nat) (gg : Nat → Nat) (gp : Nat → Nat) (gt : Nat → Nat) (sa : Nat) (sb : Nat) (w : Nat) (ad : Nat) (u : Nat) (d : Nat) (hw : w < 4096) (had : ad < 4096) (hud : u ≤ d) : ct_v l g vwCl (tyS cI cJ cII cJJ) y_Od_mix c_Od_mix 10 none ({ frames := 2, cells := 0, slots := 0, locals := 40 } : Room) [.ref (a 5), .int (nI w), .int (nI ad), .long (lN u), .long (lN d)] (stW a rB rT cI cJ cII cJJ nc nv ng kd vo nu nd en br bc un eu li tb cc0 cp cu cd tc ts tf ox ow ob ra rb gc gr gk gg gp gt sa sb) (stW a rB rT cI cJ cII cJJ nc nv ng kd vo nu nd en br bc un eu li tb cc0 cp cu cd tc ts tf ox (mxF w ad u d ow (2 ^ popc w 12)) ob ra rb gc gr gk gg gp gt sa sb) := by
  refine ct_v.intro (by decide) (Nat.le_of_ble_eq_true rfl) ?_
  intro p e s m args below meth c Q A ls hx hb hml hT hown hA hK hN hret hP hD hS hl
  have hown : s.vm.findClass R_Od = some m.cls := hown
  have hl : lv_has ls 10 [(0, .ref (a 5)), (1, .int (nI w)), (2, .int (nI ad)), (3, .long (lN u)), (5, .long (lN d))] := hl
  have q1 := pop12 w
  have q0 : 0 < 2 ^ popc w 12 := Nat.two_pow_pos _
  refine lv_iload_n hx hb d_Od_mix_0 rfl (lv_at hl 1 rfl) ?_
  refine my_SN_i (As := [.int (nI w)]) (n := 1) (k_ST_countOfSets l g vwCl (tyS cI cJ cII cJJ) (stW a rB rT cI cJ cII cJJ nc nv ng kd vo nu nd en br bc un eu li tb cc0 cp cu cd tc ts tf ox ow ob ra rb gc gr gk gg gp gt sa sb) w (by omega)) hx hb hml hown hT hN tw_423 tw_315 tw_1 tw_316 (by decide +kernel) rfl rfl ⟨Nat.le_of_ble_eq_true rfl, Nat.le_of_ble_eq_true rfl⟩ ⟨Nat.zero_le _, Nat.zero_le _⟩ hK hP hD hS hA rfl hl rfl (Nat.le_of_ble_eq_true rfl) d_Od_mix_1 (fun H locs hP hD hS => ?_)
  refine lv_istore (lv' := [(7, .int (nI (2 ^ popc w 12))), (0, .ref (a 5)), (1, .int (nI w)), (2, .int (nI ad)), (3, .long (lN u)), (5, .long (lN d))]) hx hb d_Od_mix_4 hl (by decide) rfl (fun ls hl => ?_)
  refine lv_iconst (v := (nI 0)) hx hb d_Od_mix_6 (by decide) ?_
  refine lv_istore (lv' := [(8, .int (nI 0)), (7, .int (nI (2 ^ popc w 12))), (0, .ref (a 5)), (1, .int (nI w)), (2, .int (nI ad)), (3, .long (lN u)), (5, .long (lN d))]) hx hb d_Od_mix_7 hl (by decide) rfl (fun ls hl => ?_)
  refine lv_iconst (v := (nI 0)) hx hb d_Od_mix_9 (by decide) ?_
  refine lv_istore (lv' := [(9, .int (nI 0)), (8, .int (nI 0)), (7, .int (nI (2 ^ popc w 12))), (0, .ref (a 5)), (1, .int (nI w)), (2, .int (nI ad)), (3, .long (lN u)), (5, .long (lN d))]) hx hb d_Od_mix_10 hl (by decide) rfl (fun ls hl => ?_)
  have lp_12 : ∀ (k : Nat) (i : Nat) (v : Nat) (q : Nat → Nat) (H : Heap) (locs : List Loc) (ls : Array Slot), (2 ^ popc w 12 < i + k) → (i ≤ 2 ^ popc w 12) → (v < 4096) → (i < 2 ^ popc w 12 → v = pd 12 w i) → (q = mxF w ad u d ow i) → va_P g vwCl (stW a rB rT cI cJ cII cJJ nc nv ng kd vo nu nd en br bc un eu li tb cc0 cp cu cd tc ts tf ox q ob ra rb gc gr gk gg gp gt sa sb) H → va_D A (stW a rB rT cI cJ cII cJJ nc nv ng kd vo nu nd en br bc un eu li tb cc0 cp cu cd tc ts tf ox q ob ra rb gc gr gk gg gp gt sa sb) → va_S A s.heap H locs → lv_has ls 10 [(0, .ref (a 5)), (1, .int (nI w)), (2, .int (nI ad)), (3, .long (lN u)), (5, .long (lN d)), (7, .int (nI (2 ^ popc w 12))), (8, .int (nI v)), (9, .int (nI i))] → W p l e ({ frames := 2, cells := 0, slots := 0, locals := 40 } : Room) s m args below meth c H locs 0 0 Q (F0 m 12 ls []) := by
    intro k
    induction k with
    | zero =>
      intro i v q H locs ls hk hi hv hp hf hP hD hS hl
      exfalso
      omega
    | succ k ih_12 =>
      intro i v q H locs ls hk hi hv hp hf hP hD hS hl
      refine lv_iload hx hb d_Od_mix_12 (lv_at hl 7 rfl) ?_
      refine lv_iload hx hb d_Od_mix_14 (lv_at hl 5 rfl) ?_
      refine my_icmp_ge (tgt := 64) (a := i) (b := 2 ^ popc w 12) hx hb d_Od_mix_16 (by decide) (by omega) (by omega) (fun c_16 => ?_) (fun c_16 => ?_)
      · -- 16: taken
        have e1 : q = mxF w ad u d ow (2 ^ popc w 12) := by rw [hf, show i = 2 ^ popc w 12 by omega]
        rw [e1] at hP hD
        exact hret _ _ _ _ hP hD hS d_Od_mix_64
      · -- 16: not taken
        refine lv_aload_n hx hb d_Od_mix_19 rfl (lv_at hl 0 rfl) ?_
        refine va_get (D := g) (ci := 5) (v := .ref (a 25)) (C := R_Od) (T := F_Od) (N := 7) hx hb hT i_Od hown hK hP 5 rfl rfl 5 (by decide) (hT _ tw_177) (fun _ h9 => h9) rfl d_Od_mix_20 ?_
        refine lv_iload hx hb d_Od_mix_23 (lv_at hl 6 rfl) ?_
        refine lv_lload hx hb d_Od_mix_25 (lv_at hl 4 rfl) ?_
        refine lv_lload_n hx hb d_Od_mix_27 rfl (lv_at hl 3 rfl) ?_
        refine lv_lsub hx hb d_Od_mix_28 ?_
        refine my_el (lN_sub (a := d) (b := u) (by omega)) ?_
        refine lv_aload_n hx hb d_Od_mix_29 rfl (lv_at hl 0 rfl) ?_
        refine va_get (D := g) (ci := 5) (v := .ref (a 25)) (C := R_Od) (T := F_Od) (N := 7) hx hb hT i_Od hown hK hP 5 rfl rfl 5 (by decide) (hT _ tw_177) (fun _ h9 => h9) rfl d_Od_mix_30 ?_
        refine lv_iload hx hb d_Od_mix_33 (lv_at hl 6 rfl) ?_
        refine my_lald (v := (lN (q v))) (i := v) hx hb hK hP 25 1 rfl rfl (by omega) (by decide) rfl d_Od_mix_35 ?_
        refine lv_lmul hx hb d_Od_mix_36 ?_
        refine my_el (lN_mul (d - u) (q v)) ?_
        refine lv_lload_n hx hb d_Od_mix_37 rfl (lv_at hl 3 rfl) ?_
        refine lv_aload_n hx hb d_Od_mix_38 rfl (lv_at hl 0 rfl) ?_
        refine va_get (D := g) (ci := 5) (v := .ref (a 25)) (C := R_Od) (T := F_Od) (N := 7) hx hb hT i_Od hown hK hP 5 rfl rfl 5 (by decide) (hT _ tw_177) (fun _ h9 => h9) rfl d_Od_mix_39 ?_
        refine lv_iload hx hb d_Od_mix_42 (lv_at hl 6 rfl) ?_
        refine lv_iload_n hx hb d_Od_mix_44 rfl (lv_at hl 2 rfl) ?_
        refine lv_ior hx hb d_Od_mix_45 ?_
        refine my_ei (nx_or v ad) ?_
        have q3 : v ||| ad < 4096 := or_lt (k := 12) hv had
        refine my_lald (v := (lN (q (v ||| ad)))) (i := v ||| ad) hx hb hK hP 25 1 rfl rfl (by omega) (by decide) rfl d_Od_mix_46 ?_
        refine lv_lmul hx hb d_Od_mix_47 ?_
        refine my_el (lN_mul u (q (v ||| ad))) ?_
        refine lv_ladd hx hb d_Od_mix_48 ?_
        refine my_el (lN_add ((d - u) * (q v)) (u * (q (v ||| ad)))) ?_
        refine my_last (i := v) hx hb hK hP hD hS 25 1 rfl rfl (by omega) (by decide) (my_upL _ _ _) (w' := (stW a rB rT cI cJ cII cJJ nc nv ng kd vo nu nd en br bc un eu li tb cc0 cp cu cd tc ts tf ox (va_up q v (((d - u) * (q v)) + (u * (q (v ||| ad))))) ob ra rb gc gr gk gg gp gt sa sb)) rfl d_Od_mix_49 (fun H locs hP hD hS => ?_)
        refine lv_iload hx hb d_Od_mix_50 (lv_at hl 6 rfl) ?_
        refine lv_iload_n hx hb d_Od_mix_52 rfl (lv_at hl 1 rfl) ?_
        refine my_SN_i (As := [.int (nI v), .int (nI w)]) (n := 2) (k_ST_nextSet l g vwCl (tyS cI cJ cII cJJ) (stW a rB rT cI cJ cII cJJ nc nv ng kd vo nu nd en br bc un eu li tb cc0 cp cu cd tc ts tf ox (va_up q v (((d - u) * (q v)) + (u * (q (v ||| ad))))) ob ra rb gc gr gk gg gp gt sa sb) v w (by omega)) hx hb hml hown hT hN tw_425 tw_426 tw_1 tw_427 (by decide +kernel) rfl rfl ⟨Nat.le_of_ble_eq_true rfl, Nat.le_of_ble_eq_true rfl⟩ ⟨Nat.zero_le _, Nat.zero_le _⟩ hK hP hD hS hA rfl hl rfl (Nat.le_of_ble_eq_true rfl) d_Od_mix_53 (fun H locs hP hD hS => ?_)
        refine lv_istore (lv' := [(8, .int (nI ((v + 2 ^ 32 - w) &&& w))), (0, .ref (a 5)), (1, .int (nI w)), (2, .int (nI ad)), (3, .long (lN u)), (5, .long (lN d)), (7, .int (nI (2 ^ popc w 12))), (9, .int (nI i))]) hx hb d_Od_mix_56 hl (by decide) rfl (fun ls hl => ?_)
        refine lv_iinc (v := (nI (i + 1))) (lv' := [(9, .int (nI (i + 1))), (8, .int (nI ((v + 2 ^ 32 - w) &&& w))), (0, .ref (a 5)), (1, .int (nI w)), (2, .int (nI ad)), (3, .long (lN u)), (5, .long (lN d)), (7, .int (nI (2 ^ popc w 12)))]) hx hb d_Od_mix_58 hl (k := 7) rfl (nI_1 i) (by decide) rfl (fun ls hl => ?_)
        refine lv_goto (tgt := 12) hx hb d_Od_mix_61 (by decide) ?_
        refine ih_12 _ _ _ _ _ _ ?_ ?_ ?_ ?_ ?_ hP hD hS (lv_sub hl [2, 3, 4, 5, 6, 7, 1, 0] rfl)
        · omega
        · omega
        · exact Nat.lt_of_le_of_lt Nat.and_le_right hw
        · intro h; rw [hp (by omega)]; exact pd_next 12 w i 32 (by omega) hw h
        · have e3 := hp (by omega)
          rw [hf, e3]; rfl
  refine lp_12 (2 ^ popc w 12 + 1) _ _ _ _ _ _ ?_ ?_ ?_ ?_ ?_ hP hD hS (lv_sub hl [3, 4, 5, 6, 7, 2, 1, 0] rfl)
  · omega
  · omega
  · omega
  · intro _; exact (pd_0 12 w).symm
  · rfl
set_option maxHeartbeats 4000000 in
set_option maxRecDepth 100000 in
theorem k_Od_eventBound (l : Launch) (g : va_G) (a rB rT : Nat → Nat) (cI cJ cII cJJ : ClassId) (nc : Nat) (nv : Nat) (ng : Nat) (kd : Nat → Int32) (vo : Nat → Nat) (nu : Nat → Nat) (nd : Nat → Nat) (en : Nat → Nat) (br : Nat → Nat → Nat) (bc : Nat → Nat) (un : Nat → Nat) (eu : Nat → Nat) (li : Nat → Nat) (tb : Nat → Nat → Int64) (cc0 : Nat) (cp : Nat → Nat) (cu : Nat → Nat) (cd : Nat → Nat) (tc : Nat) (ts : Nat → Nat) (tf : Nat → Nat) (ox : Bool) (ow : Nat → Nat) (ob : Nat → Nat) (ra : Nat) (rb : Nat) (gc : Nat) (gr : Nat) (gk : Nat → Nat) (gg : Nat → Nat) (gp : Nat → Nat) (gt : Nat → Nat) (sa : Nat) (sb : Nat) (x : Nat) (hx1 : x ≤ 32) (hc : cc0 ≤ 4) (hp : ∀ j, cp j < 4096) (hnu : ∀ j, nu j ≤ 10) (hnd : ∀ j, nd j ≤ 10) (hcu : ∀ j, cu j ≤ 10) (hcd : ∀ j, cd j ≤ 10) : ct_l l g vwCl (tyS cI cJ cII cJJ) y_Od_eventBound c_Od_eventBound 5 (some .long) ({ frames := 1, cells := 0, slots := 0, locals := 23 } : Room) [.ref (a 5), .int (nI x)] (stW a rB rT cI cJ cII cJJ nc nv ng kd vo nu nd en br bc un eu li tb cc0 cp cu cd tc ts tf ox ow ob ra rb gc gr gk gg gp gt sa sb) (stW a rB rT cI cJ cII cJJ nc nv ng kd vo nu nd en br bc un eu li tb cc0 cp cu cd tc ts tf ox ow ob ra rb gc gr gk gg gp gt sa sb) (lN (mnF (ebF nu nd eu cp cu cd x cc0) 2520)) := by
  refine ct_l.intro (by decide) (Nat.le_of_ble_eq_true rfl) ?_
  intro p e s m args below meth c Q A ls hx hb hml hT hown hA hK hN hret hP hD hS hl
  have hown : s.vm.findClass R_Od = some m.cls := hown
  have hl : lv_has ls 5 [(0, .ref (a 5)), (1, .int (nI x))] := hl
  refine lv_aload_n hx hb d_Od_eventBound_0 rfl (lv_at hl 0 rfl) ?_
  refine va_get (D := g) (ci := 5) (v := .ref (a 1)) (C := R_Od) (T := F_Od) (N := 7) hx hb hT i_Od hown hK hP 5 rfl rfl 0 (by decide) (hT _ tw_170) (fun _ h9 => h9) rfl d_Od_eventBound_1 ?_
  refine va_getN (D := g) (ci := 1) (v := .ref (a 11)) (C := R_No) (T := F_No) (N := 13) hx hb hT i_No hown hK hP 1 rfl rfl 5 (by decide) (va_Nw.use rfl (hN _ tw_46)) (fun _ h9 => h9) rfl d_Od_eventBound_4 ?_
  refine lv_iload_n hx hb d_Od_eventBound_7 rfl (lv_at hl 1 rfl) ?_
  refine my_lald (v := (lN (nu x))) (i := x) hx hb hK hP 11 1 rfl rfl (by omega) (by decide) rfl d_Od_eventBound_8 ?_
  refine lv_aload_n hx hb d_Od_eventBound_9 rfl (lv_at hl 0 rfl) ?_
  refine va_get (D := g) (ci := 5) (v := .ref (a 1)) (C := R_Od) (T := F_Od) (N := 7) hx hb hT i_Od hown hK hP 5 rfl rfl 0 (by decide) (hT _ tw_170) (fun _ h9 => h9) rfl d_Od_eventBound_10 ?_
  refine va_getN (D := g) (ci := 1) (v := .ref (a 12)) (C := R_No) (T := F_No) (N := 13) hx hb hT i_No hown hK hP 1 rfl rfl 6 (by decide) (va_Nw.use rfl (hN _ tw_48)) (fun _ h9 => h9) rfl d_Od_eventBound_13 ?_
  refine lv_iload_n hx hb d_Od_eventBound_16 rfl (lv_at hl 1 rfl) ?_
  refine my_lald (v := (lN (nd x))) (i := x) hx hb hK hP 12 1 rfl rfl (by omega) (by decide) rfl d_Od_eventBound_17 ?_
  refine my_S_l (As := [.long (lN (nu x)), .long (lN (nd x))]) (n := 2) (k_Od_inParts l g vwCl (tyS cI cJ cII cJJ) (stW a rB rT cI cJ cII cJJ nc nv ng kd vo nu nd en br bc un eu li tb cc0 cp cu cd tc ts tf ox ow ob ra rb gc gr gk gg gp gt sa sb) (nu x) (nd x) (hnu x) (hnd x)) hx hb hml hown hT hN tw_448 tw_449 tw_6 tw_450 (by decide +kernel) rfl rfl ⟨Nat.le_of_ble_eq_true rfl, Nat.le_of_ble_eq_true rfl⟩ ⟨Nat.zero_le _, Nat.zero_le _⟩ hK hP hD hS hA rfl hl rfl (Nat.le_of_ble_eq_true rfl) d_Od_eventBound_18 (fun H locs hP hD hS => ?_)
  refine lv_lstore_n (lv' := [(2, .long (lN (ipF (nu x) (nd x)))), (0, .ref (a 5)), (1, .int (nI x))]) hx hb d_Od_eventBound_21 rfl hl (by decide) rfl (fun ls hl => ?_)
  refine lv_iconst (v := (nI 0)) hx hb d_Od_eventBound_22 (by decide) ?_
  refine lv_istore (lv' := [(4, .int (nI 0)), (2, .long (lN (ipF (nu x) (nd x)))), (0, .ref (a 5)), (1, .int (nI x))]) hx hb d_Od_eventBound_23 hl (by decide) rfl (fun ls hl => ?_)
  have lp_25 : ∀ (k : Nat) (i : Nat) (f : Nat) (H : Heap) (locs : List Loc) (ls : Array Slot), (cc0 < i + k) → (i ≤ cc0) → (f = ebF nu nd eu cp cu cd x i) → va_P g vwCl (stW a rB rT cI cJ cII cJJ nc nv ng kd vo nu nd en br bc un eu li tb cc0 cp cu cd tc ts tf ox ow ob ra rb gc gr gk gg gp gt sa sb) H → va_D A (stW a rB rT cI cJ cII cJJ nc nv ng kd vo nu nd en br bc un eu li tb cc0 cp cu cd tc ts tf ox ow ob ra rb gc gr gk gg gp gt sa sb) → va_S A s.heap H locs → lv_has ls 5 [(0, .ref (a 5)), (1, .int (nI x)), (2, .long (lN f)), (4, .int (nI i))] → W p l e ({ frames := 1, cells := 0, slots := 0, locals := 23 } : Room) s m args below meth c H locs 0 0 Q (F0 m 25 ls []) := by
    intro k
    induction k with
    | zero =>
      intro i f H locs ls hk hi hf hP hD hS hl
      exfalso
      omega
    | succ k ih_25 =>
      intro i f H locs ls hk hi hf hP hD hS hl
      refine lv_iload hx hb d_Od_eventBound_25 (lv_at hl 3 rfl) ?_
      refine lv_aload_n hx hb d_Od_eventBound_27 rfl (lv_at hl 0 rfl) ?_
      refine va_get (D := g) (ci := 5) (v := .ref (a 3)) (C := R_Od) (T := F_Od) (N := 7) hx hb hT i_Od hown hK hP 5 rfl rfl 2 (by decide) (hT _ tw_172) (fun _ h9 => h9) rfl d_Od_eventBound_28 ?_
      refine va_getN (D := g) (ci := 3) (v := .int (nI cc0)) (C := R_Ca) (T := F_Ca) (N := 4) hx hb hT i_Ca hown hK hP 3 rfl rfl 0 (by decide) (va_Nw.use rfl (hN _ tw_118)) (fun _ h9 => h9) rfl d_Od_eventBound_31 ?_
      refine my_icmp_ge (tgt := 90) (a := i) (b := cc0) hx hb d_Od_eventBound_34 (by decide) (by omega) (by omega) (fun c_34 => ?_) (fun c_34 => ?_)
      · -- 34: taken
        have q1 := ebF_le (nd := nd) (eu := eu) (cp := cp) (cd := cd) (hnu x) hcu i
        refine lv_lload_n hx hb d_Od_eventBound_90 rfl (lv_at hl 2 rfl) ?_
        refine lv_ldc2 (v := (lN 2520)) hx hb hown (hT _ tw_451) d_Od_eventBound_91 ?_
        refine va_mmin_long hx hb (hml.trans hl.1.symm) hown (hT _ tw_452) (hT _ tw_453) (hT _ tw_12) (hT _ tw_454) (Nat.le_of_ble_eq_true rfl) (Nat.le_of_ble_eq_true rfl) (Nat.zero_le _) (Nat.zero_le _) d_Od_eventBound_94 ?_
        refine my_el (lN_mn (a := f) (b := 2520) (by omega) (by omega)) ?_
        refine hret _ _ _ _ _ hP hD hS d_Od_eventBound_97 ?_
        rw [hf, show i = cc0 by omega]
      · -- 34: not taken
        refine lv_aload_n hx hb d_Od_eventBound_37 rfl (lv_at hl 0 rfl) ?_
        refine va_get (D := g) (ci := 5) (v := .ref (a 3)) (C := R_Od) (T := F_Od) (N := 7) hx hb hT i_Od hown hK hP 5 rfl rfl 2 (by decide) (hT _ tw_172) (fun _ h9 => h9) rfl d_Od_eventBound_38 ?_
        refine lv_iload hx hb d_Od_eventBound_41 (lv_at hl 3 rfl) ?_
        refine lv_aload_n hx hb d_Od_eventBound_43 rfl (lv_at hl 0 rfl) ?_
        refine va_get (D := g) (ci := 5) (v := .ref (a 1)) (C := R_Od) (T := F_Od) (N := 7) hx hb hT i_Od hown hK hP 5 rfl rfl 0 (by decide) (hT _ tw_170) (fun _ h9 => h9) rfl d_Od_eventBound_44 ?_
        refine va_getN (D := g) (ci := 1) (v := .ref (a 17)) (C := R_No) (T := F_No) (N := 13) hx hb hT i_No hown hK hP 1 rfl rfl 11 (by decide) (va_Nw.use rfl (hN _ tw_62)) (fun _ h9 => h9) rfl d_Od_eventBound_47 ?_
        refine lv_iload_n hx hb d_Od_eventBound_50 rfl (lv_at hl 1 rfl) ?_
        refine my_iald (v := (nI (eu x))) (i := x) hx hb hK hP 17 0 rfl rfl (by omega) (by decide) rfl d_Od_eventBound_51 ?_
        refine my_V_i (q0 := 3) (ci := 3) (C := R_Ca) (As := [.int (nI i), .int (nI (eu x))]) (n := 2) (k_Ca_touches l g a rB rT cI cJ cII cJJ nc nv ng kd vo nu nd en br bc un eu li tb cc0 cp cu cd tc ts tf ox ow ob ra rb gc gr gk gg gp gt sa sb i (eu x) (by omega) hp) hx hb hml hown hT hN tw_428 tw_411 tw_412 tw_4 tw_413 (by decide +kernel) rfl rfl ⟨Nat.le_of_ble_eq_true rfl, Nat.le_of_ble_eq_true rfl⟩ ⟨Nat.zero_le _, Nat.zero_le _⟩ hK hP hD hS hA rfl rfl rfl hl rfl (Nat.le_of_ble_eq_true rfl) d_Od_eventBound_52 (fun H locs hP hD hS => ?_)
        refine my_if_eq_b (tgt := 84) hx hb d_Od_eventBound_55 (by decide) (fun c_55 => ?_) (fun c_55 => ?_)
        · -- 55: taken
          refine lv_iinc (v := (nI (i + 1))) (lv' := [(4, .int (nI (i + 1))), (0, .ref (a 5)), (1, .int (nI x)), (2, .long (lN f))]) hx hb d_Od_eventBound_84 hl (k := 3) rfl (nI_1 i) (by decide) rfl (fun ls hl => ?_)
          refine lv_goto (tgt := 25) hx hb d_Od_eventBound_87 (by decide) ?_
          refine ih_25 _ _ _ _ _ ?_ ?_ ?_ hP hD hS (lv_sub hl [1, 2, 3, 0] rfl)
          · omega
          · omega
          · rw [hf]; simp at c_55; simp [ebF, c_55]
        · -- 55: not taken
          refine lv_lload_n hx hb d_Od_eventBound_58 rfl (lv_at hl 2 rfl) ?_
          refine lv_aload_n hx hb d_Od_eventBound_59 rfl (lv_at hl 0 rfl) ?_
          refine va_get (D := g) (ci := 5) (v := .ref (a 3)) (C := R_Od) (T := F_Od) (N := 7) hx hb hT i_Od hown hK hP 5 rfl rfl 2 (by decide) (hT _ tw_172) (fun _ h9 => h9) rfl d_Od_eventBound_60 ?_
          refine va_getN (D := g) (ci := 3) (v := .ref (a 21)) (C := R_Ca) (T := F_Ca) (N := 4) hx hb hT i_Ca hown hK hP 3 rfl rfl 2 (by decide) (va_Nw.use rfl (hN _ tw_123)) (fun _ h9 => h9) rfl d_Od_eventBound_63 ?_
          refine lv_iload hx hb d_Od_eventBound_66 (lv_at hl 3 rfl) ?_
          refine my_lald (v := (lN (cu i))) (i := i) hx hb hK hP 21 1 rfl rfl (by omega) (by decide) rfl d_Od_eventBound_68 ?_
          refine lv_aload_n hx hb d_Od_eventBound_69 rfl (lv_at hl 0 rfl) ?_
          refine va_get (D := g) (ci := 5) (v := .ref (a 3)) (C := R_Od) (T := F_Od) (N := 7) hx hb hT i_Od hown hK hP 5 rfl rfl 2 (by decide) (hT _ tw_172) (fun _ h9 => h9) rfl d_Od_eventBound_70 ?_
          refine va_getN (D := g) (ci := 3) (v := .ref (a 22)) (C := R_Ca) (T := F_Ca) (N := 4) hx hb hT i_Ca hown hK hP 3 rfl rfl 3 (by decide) (va_Nw.use rfl (hN _ tw_125)) (fun _ h9 => h9) rfl d_Od_eventBound_73 ?_
          refine lv_iload hx hb d_Od_eventBound_76 (lv_at hl 3 rfl) ?_
          refine my_lald (v := (lN (cd i))) (i := i) hx hb hK hP 22 1 rfl rfl (by omega) (by decide) rfl d_Od_eventBound_78 ?_
          refine my_S_l (As := [.long (lN (cu i)), .long (lN (cd i))]) (n := 2) (k_Od_inParts l g vwCl (tyS cI cJ cII cJJ) (stW a rB rT cI cJ cII cJJ nc nv ng kd vo nu nd en br bc un eu li tb cc0 cp cu cd tc ts tf ox ow ob ra rb gc gr gk gg gp gt sa sb) (cu i) (cd i) (hcu i) (hcd i)) hx hb hml hown hT hN tw_448 tw_449 tw_6 tw_450 (by decide +kernel) rfl rfl ⟨Nat.le_of_ble_eq_true rfl, Nat.le_of_ble_eq_true rfl⟩ ⟨Nat.zero_le _, Nat.zero_le _⟩ hK hP hD hS hA rfl hl rfl (Nat.le_of_ble_eq_true rfl) d_Od_eventBound_79 (fun H locs hP hD hS => ?_)
          refine lv_ladd hx hb d_Od_eventBound_82 ?_
          refine my_el (lN_add f (ipF (cu i) (cd i))) ?_
          refine lv_lstore_n (lv' := [(2, .long (lN (f + (ipF (cu i) (cd i))))), (0, .ref (a 5)), (1, .int (nI x)), (4, .int (nI i))]) hx hb d_Od_eventBound_83 rfl hl (by decide) rfl (fun ls hl => ?_)
          refine lv_iinc (v := (nI (i + 1))) (lv' := [(4, .int (nI (i + 1))), (2, .long (lN (f + (ipF (cu i) (cd i))))), (0, .ref (a 5)), (1, .int (nI x))]) hx hb d_Od_eventBound_84 hl (k := 3) rfl (nI_1 i) (by decide) rfl (fun ls hl => ?_)
          refine lv_goto (tgt := 25) hx hb d_Od_eventBound_87 (by decide) ?_
          refine ih_25 _ _ _ _ _ ?_ ?_ ?_ hP hD hS (lv_sub hl [2, 3, 1, 0] rfl)
          · omega
          · omega
          · rw [hf]; simp at c_55; simp [ebF, c_55]
  refine lp_25 (cc0 + 1) _ _ _ _ _ ?_ ?_ ?_ hP hD hS (lv_sub hl [2, 3, 1, 0] rfl)
  · omega
  · omega
  · rfl
set_option maxHeartbeats 4000000 in
set_option maxRecDepth 100000 in
theorem k_Od_gateBound (l : Launch) (g : va_G) (a rB rT : Nat → Nat) (cI cJ cII cJJ : ClassId) (nc : Nat) (nv : Nat) (ng : Nat) (kd : Nat → Int32) (vo : Nat → Nat) (nu : Nat → Nat) (nd : Nat → Nat) (en : Nat → Nat) (br : Nat → Nat → Nat) (bc : Nat → Nat) (un : Nat → Nat) (eu : Nat → Nat) (li : Nat → Nat) (tb : Nat → Nat → Int64) (cc0 : Nat) (cp : Nat → Nat) (cu : Nat → Nat) (cd : Nat → Nat) (tc : Nat) (ts : Nat → Nat) (tf : Nat → Nat) (ox : Bool) (ow : Nat → Nat) (ob : Nat → Nat) (ra : Nat) (rb : Nat) (gc : Nat) (gr : Nat) (gk : Nat → Nat) (gg : Nat → Nat) (gp : Nat → Nat) (gt : Nat → Nat) (sa : Nat) (sb : Nat) (x : Nat) (hx1 : x ≤ 32) (hbc : ∀ j, bc j ≤ 10) (hbr : ∀ j i, br j i ≤ 32) (hvo : ∀ j, vo j ≤ 10) (hob : ∀ j, ob j ≤ 2520) : ct_l l g vwCl (tyS cI cJ cII cJJ) y_Od_gateBound c_Od_gateBound 9 (some .long) ({ frames := 1, cells := 0, slots := 0, locals := 23 } : Room) [.ref (a 5), .int (nI x)] (stW a rB rT cI cJ cII cJJ nc nv ng kd vo nu nd en br bc un eu li tb cc0 cp cu cd tc ts tf ox ow ob ra rb gc gr gk gg gp gt sa sb) (stW a rB rT cI cJ cII cJJ nc nv ng kd vo nu nd en br bc un eu li tb cc0 cp cu cd tc ts tf ox ow ob ra rb gc gr gk gg gp gt sa sb) (lN (gbF ob br bc vo kd x)) := by
  refine ct_l.intro (by decide) (Nat.le_of_ble_eq_true rfl) ?_
  intro p e s m args below meth c Q A ls hx hb hml hT hown hA hK hN hret hP hD hS hl
  have hown : s.vm.findClass R_Od = some m.cls := hown
  have hl : lv_has ls 9 [(0, .ref (a 5)), (1, .int (nI x))] := hl
  have q1 := hbc x
  have q3 := hvo x
  refine lv_ldc2 (v := (lN 2520)) hx hb hown (hT _ tw_451) d_Od_gateBound_0 ?_
  refine lv_lstore_n (lv' := [(2, .long (lN 2520)), (0, .ref (a 5)), (1, .int (nI x))]) hx hb d_Od_gateBound_3 rfl hl (by decide) rfl (fun ls hl => ?_)
  refine lv_lconst (v := (lN 0)) hx hb d_Od_gateBound_4 (by decide) ?_
  refine lv_lstore (lv' := [(4, .long (lN 0)), (2, .long (lN 2520)), (0, .ref (a 5)), (1, .int (nI x))]) hx hb d_Od_gateBound_5 hl (by decide) rfl (fun ls hl => ?_)
  refine lv_iconst (v := (nI 0)) hx hb d_Od_gateBound_7 (by decide) ?_
  refine lv_istore (lv' := [(6, .int (nI 0)), (4, .long (lN 0)), (2, .long (lN 2520)), (0, .ref (a 5)), (1, .int (nI x))]) hx hb d_Od_gateBound_8 hl (by decide) rfl (fun ls hl => ?_)
  have lp_10 : ∀ (k : Nat) (i : Nat) (a1 : Nat) (b1 : Nat) (H : Heap) (locs : List Loc) (ls : Array Slot), (bc x < i + k) → (i ≤ bc x) → ((a1, b1) = (gsF ob br x i)) → va_P g vwCl (stW a rB rT cI cJ cII cJJ nc nv ng kd vo nu nd en br bc un eu li tb cc0 cp cu cd tc ts tf ox ow ob ra rb gc gr gk gg gp gt sa sb) H → va_D A (stW a rB rT cI cJ cII cJJ nc nv ng kd vo nu nd en br bc un eu li tb cc0 cp cu cd tc ts tf ox ow ob ra rb gc gr gk gg gp gt sa sb) → va_S A s.heap H locs → lv_has ls 9 [(0, .ref (a 5)), (1, .int (nI x)), (2, .long (lN a1)), (4, .long (lN b1)), (6, .int (nI i))] → W p l e ({ frames := 1, cells := 0, slots := 0, locals := 23 } : Room) s m args below meth c H locs 0 0 Q (F0 m 10 ls []) := by
    intro k
    induction k with
    | zero =>
      intro i a1 b1 H locs ls hk hi hf hP hD hS hl
      exfalso
      omega
    | succ k ih_10 =>
      intro i a1 b1 H locs ls hk hi hf hP hD hS hl
      have q4 := gsF_le (br := br) (x := x) hob i
      rw [← hf] at q4
      have q4 : a1 ≤ 2520 ∧ b1 ≤ 2520 * i := q4
      refine lv_iload hx hb d_Od_gateBound_10 (lv_at hl 4 rfl) ?_
      refine lv_aload_n hx hb d_Od_gateBound_12 rfl (lv_at hl 0 rfl) ?_
      refine va_get (D := g) (ci := 5) (v := .ref (a 1)) (C := R_Od) (T := F_Od) (N := 7) hx hb hT i_Od hown hK hP 5 rfl rfl 0 (by decide) (hT _ tw_170) (fun _ h9 => h9) rfl d_Od_gateBound_13 ?_
      refine va_getN (D := g) (ci := 1) (v := .ref (a 15)) (C := R_No) (T := F_No) (N := 13) hx hb hT i_No hown hK hP 1 rfl rfl 9 (by decide) (va_Nw.use rfl (hN _ tw_58)) (fun _ h9 => h9) rfl d_Od_gateBound_16 ?_
      refine lv_iload_n hx hb d_Od_gateBound_19 rfl (lv_at hl 1 rfl) ?_
      refine my_iald (v := (nI (bc x))) (i := x) hx hb hK hP 15 0 rfl rfl (by omega) (by decide) rfl d_Od_gateBound_20 ?_
      refine my_icmp_ge (tgt := 63) (a := i) (b := bc x) hx hb d_Od_gateBound_21 (by decide) (by omega) (by omega) (fun c_21 => ?_) (fun c_21 => ?_)
      · -- 21: taken
        have eF : gsF ob br x (bc x) = (a1, b1) := by rw [hf, show i = bc x by omega]
        refine lv_aload_n hx hb d_Od_gateBound_63 rfl (lv_at hl 0 rfl) ?_
        refine va_get (D := g) (ci := 5) (v := .ref (a 1)) (C := R_Od) (T := F_Od) (N := 7) hx hb hT i_Od hown hK hP 5 rfl rfl 0 (by decide) (hT _ tw_170) (fun _ h9 => h9) rfl d_Od_gateBound_64 ?_
        refine va_getN (D := g) (ci := 1) (v := .ref (a 9)) (C := R_No) (T := F_No) (N := 13) hx hb hT i_No hown hK hP 1 rfl rfl 3 (by decide) (va_Nw.use rfl (hN _ tw_41)) (fun _ h9 => h9) rfl d_Od_gateBound_67 ?_
        refine lv_iload_n hx hb d_Od_gateBound_70 rfl (lv_at hl 1 rfl) ?_
        refine my_iald (v := (kd x)) (i := x) hx hb hK hP 9 0 rfl rfl (by omega) (by decide) rfl d_Od_gateBound_71 ?_
        refine lv_if_ne (tgt := 77) hx hb d_Od_gateBound_72 (by decide) (fun c_72 => ?_) (fun c_72 => ?_)
        · -- 72: taken
          refine lv_aload_n hx hb d_Od_gateBound_77 rfl (lv_at hl 0 rfl) ?_
          refine va_get (D := g) (ci := 5) (v := .ref (a 1)) (C := R_Od) (T := F_Od) (N := 7) hx hb hT i_Od hown hK hP 5 rfl rfl 0 (by decide) (hT _ tw_170) (fun _ h9 => h9) rfl d_Od_gateBound_78 ?_
          refine va_getN (D := g) (ci := 1) (v := .ref (a 10)) (C := R_No) (T := F_No) (N := 13) hx hb hT i_No hown hK hP 1 rfl rfl 4 (by decide) (va_Nw.use rfl (hN _ tw_43)) (fun _ h9 => h9) rfl d_Od_gateBound_81 ?_
          refine lv_iload_n hx hb d_Od_gateBound_84 rfl (lv_at hl 1 rfl) ?_
          refine my_iald (v := (nI (vo x))) (i := x) hx hb hK hP 10 0 rfl rfl (by omega) (by decide) rfl d_Od_gateBound_85 ?_
          refine lv_i2l (v := lN (vo x)) hx hb d_Od_gateBound_86 (nI_l (by omega)) ?_
          refine lv_lstore (lv' := [(6, .long (lN (vo x))), (0, .ref (a 5)), (1, .int (nI x)), (2, .long (lN a1)), (4, .long (lN b1))]) hx hb d_Od_gateBound_87 hl (by decide) rfl (fun ls hl => ?_)
          refine lv_aload_n hx hb d_Od_gateBound_89 rfl (lv_at hl 1 rfl) ?_
          refine va_get (D := g) (ci := 5) (v := .ref (a 1)) (C := R_Od) (T := F_Od) (N := 7) hx hb hT i_Od hown hK hP 5 rfl rfl 0 (by decide) (hT _ tw_170) (fun _ h9 => h9) rfl d_Od_gateBound_90 ?_
          refine va_getN (D := g) (ci := 1) (v := .ref (a 9)) (C := R_No) (T := F_No) (N := 13) hx hb hT i_No hown hK hP 1 rfl rfl 3 (by decide) (va_Nw.use rfl (hN _ tw_41)) (fun _ h9 => h9) rfl d_Od_gateBound_93 ?_
          refine lv_iload_n hx hb d_Od_gateBound_96 rfl (lv_at hl 2 rfl) ?_
          refine my_iald (v := (kd x)) (i := x) hx hb hK hP 9 0 rfl rfl (by omega) (by decide) rfl d_Od_gateBound_97 ?_
          refine lv_iconst (v := (nI 2)) hx hb d_Od_gateBound_98 (by decide) ?_
          refine lv_icmp_ne (tgt := 121) hx hb d_Od_gateBound_99 (by decide) (fun c_99 => ?_) (fun c_99 => ?_)
          · -- 99: taken
            refine lv_lload hx hb d_Od_gateBound_121 (lv_at hl 4 rfl) ?_
            refine lv_ldc2 (v := (lN 2520)) hx hb hown (hT _ tw_451) d_Od_gateBound_123 ?_
            refine va_mmin_long hx hb (hml.trans hl.1.symm) hown (hT _ tw_452) (hT _ tw_453) (hT _ tw_12) (hT _ tw_454) (Nat.le_of_ble_eq_true rfl) (Nat.le_of_ble_eq_true rfl) (Nat.zero_le _) (Nat.zero_le _) d_Od_gateBound_126 ?_
            refine my_el (lN_mn (a := b1) (b := 2520) (by omega) (by omega)) ?_
            refine hret _ _ _ _ _ hP hD hS d_Od_gateBound_129 ?_
            rw [gbF, if_neg c_72, eF]; exact congrArg lN ((if_neg (fun hh => c_99 hh.1)).symm)
          · -- 99: not taken
            refine lv_lload hx hb d_Od_gateBound_102 (lv_at hl 0 rfl) ?_
            refine lv_lconst (v := (lN 0)) hx hb d_Od_gateBound_104 (by decide) ?_
            refine my_lcmp_le (tgt := 121) (a := vo x) (b := 0) hx hb d_Od_gateBound_105 d_Od_gateBound_106 (by decide) (by omega) (by omega) (fun c_105 => ?_) (fun c_105 => ?_)
            · -- 105: taken
              refine lv_lload hx hb d_Od_gateBound_121 (lv_at hl 4 rfl) ?_
              refine lv_ldc2 (v := (lN 2520)) hx hb hown (hT _ tw_451) d_Od_gateBound_123 ?_
              refine va_mmin_long hx hb (hml.trans hl.1.symm) hown (hT _ tw_452) (hT _ tw_453) (hT _ tw_12) (hT _ tw_454) (Nat.le_of_ble_eq_true rfl) (Nat.le_of_ble_eq_true rfl) (Nat.zero_le _) (Nat.zero_le _) d_Od_gateBound_126 ?_
              refine my_el (lN_mn (a := b1) (b := 2520) (by omega) (by omega)) ?_
              refine hret _ _ _ _ _ hP hD hS d_Od_gateBound_129 ?_
              rw [gbF, if_neg c_72, eF]; exact congrArg lN ((if_neg (by omega)).symm)
            · -- 105: not taken
              have q6 : (b1 + vo x - 1) / vo x ≤ b1 + vo x - 1 := Nat.div_le_self _ _
              refine lv_lload hx hb d_Od_gateBound_109 (lv_at hl 4 rfl) ?_
              refine lv_lload hx hb d_Od_gateBound_111 (lv_at hl 0 rfl) ?_
              refine lv_ladd hx hb d_Od_gateBound_113 ?_
              refine my_el (lN_add b1 (vo x)) ?_
              refine lv_lconst (v := (lN 1)) hx hb d_Od_gateBound_114 (by decide) ?_
              refine lv_lsub hx hb d_Od_gateBound_115 ?_
              refine my_el (lN_sub (a := b1 + (vo x)) (b := 1) (by omega)) ?_
              refine lv_lload hx hb d_Od_gateBound_116 (lv_at hl 0 rfl) ?_
              refine my_ldiv (a := (b1 + (vo x)) - 1) (b := vo x) hx hb d_Od_gateBound_118 (by omega) (by omega) (by omega) ?_
              refine lv_lstore (lv' := [(4, .long (lN (((b1 + (vo x)) - 1) / (vo x)))), (6, .long (lN (vo x))), (0, .ref (a 5)), (1, .int (nI x)), (2, .long (lN a1))]) hx hb d_Od_gateBound_119 hl (by decide) rfl (fun ls hl => ?_)
              refine lv_lload hx hb d_Od_gateBound_121 (lv_at hl 0 rfl) ?_
              refine lv_ldc2 (v := (lN 2520)) hx hb hown (hT _ tw_451) d_Od_gateBound_123 ?_
              refine va_mmin_long hx hb (hml.trans hl.1.symm) hown (hT _ tw_452) (hT _ tw_453) (hT _ tw_12) (hT _ tw_454) (Nat.le_of_ble_eq_true rfl) (Nat.le_of_ble_eq_true rfl) (Nat.zero_le _) (Nat.zero_le _) d_Od_gateBound_126 ?_
              refine my_el (lN_mn (a := ((b1 + (vo x)) - 1) / (vo x)) (b := 2520) (by omega) (by omega)) ?_
              refine hret _ _ _ _ _ hP hD hS d_Od_gateBound_129 ?_
              rw [gbF, if_neg c_72, eF]; exact congrArg lN ((if_pos ⟨c_99, c_105⟩).symm)
        · -- 72: not taken
          refine lv_lload_n hx hb d_Od_gateBound_75 rfl (lv_at hl 2 rfl) ?_
          refine hret _ _ _ _ _ hP hD hS d_Od_gateBound_76 ?_
          rw [gbF, if_pos c_72, eF]
      · -- 21: not taken
        have q2 := hbr x i
        have q5 := hob (br x i)
        refine lv_aload_n hx hb d_Od_gateBound_24 rfl (lv_at hl 0 rfl) ?_
        refine va_get (D := g) (ci := 5) (v := .ref (a 26)) (C := R_Od) (T := F_Od) (N := 7) hx hb hT i_Od hown hK hP 5 rfl rfl 6 (by decide) (hT _ tw_178) (fun _ h9 => h9) rfl d_Od_gateBound_25 ?_
        refine lv_aload_n hx hb d_Od_gateBound_28 rfl (lv_at hl 0 rfl) ?_
        refine va_get (D := g) (ci := 5) (v := .ref (a 1)) (C := R_Od) (T := F_Od) (N := 7) hx hb hT i_Od hown hK hP 5 rfl rfl 0 (by decide) (hT _ tw_170) (fun _ h9 => h9) rfl d_Od_gateBound_29 ?_
        refine va_getN (D := g) (ci := 1) (v := .ref (a 14)) (C := R_No) (T := F_No) (N := 13) hx hb hT i_No hown hK hP 1 rfl rfl 8 (by decide) (va_Nw.use rfl (hN _ tw_54)) (fun _ h9 => h9) rfl d_Od_gateBound_32 ?_
        refine lv_iload_n hx hb d_Od_gateBound_35 rfl (lv_at hl 1 rfl) ?_
        refine my_aald (r := rB) (i := x) hx hb hK hP 14 2 rfl rfl (by omega) (by decide) d_Od_gateBound_36 ?_
        refine lv_iload hx hb d_Od_gateBound_37 (lv_at hl 4 rfl) ?_
        refine my_iald (v := (nI (br x i))) (i := i) hx hb hK hP (31 + x) 0 (stB_at (by omega)) rfl (by omega) (by decide) rfl d_Od_gateBound_39 ?_
        refine my_lald (v := (lN (ob (br x i)))) (i := br x i) hx hb hK hP 26 1 rfl rfl (by omega) (by decide) rfl d_Od_gateBound_40 ?_
        refine lv_lstore (lv' := [(7, .long (lN (ob (br x i)))), (0, .ref (a 5)), (1, .int (nI x)), (2, .long (lN a1)), (4, .long (lN b1)), (6, .int (nI i))]) hx hb d_Od_gateBound_41 hl (by decide) rfl (fun ls hl => ?_)
        refine lv_lload_n hx hb d_Od_gateBound_43 rfl (lv_at hl 3 rfl) ?_
        refine lv_lload hx hb d_Od_gateBound_44 (lv_at hl 0 rfl) ?_
        refine va_mmin_long hx hb (hml.trans hl.1.symm) hown (hT _ tw_452) (hT _ tw_453) (hT _ tw_12) (hT _ tw_454) (Nat.le_of_ble_eq_true rfl) (Nat.le_of_ble_eq_true rfl) (Nat.zero_le _) (Nat.zero_le _) d_Od_gateBound_46 ?_
        refine my_el (lN_mn (a := a1) (b := ob (br x i)) (by omega) (by omega)) ?_
        refine lv_lstore_n (lv' := [(2, .long (lN (mnF a1 (ob (br x i))))), (7, .long (lN (ob (br x i)))), (0, .ref (a 5)), (1, .int (nI x)), (4, .long (lN b1)), (6, .int (nI i))]) hx hb d_Od_gateBound_49 rfl hl (by decide) rfl (fun ls hl => ?_)
        refine lv_lload hx hb d_Od_gateBound_50 (lv_at hl 4 rfl) ?_
        refine lv_lload hx hb d_Od_gateBound_52 (lv_at hl 1 rfl) ?_
        refine lv_ladd hx hb d_Od_gateBound_54 ?_
        refine my_el (lN_add b1 (ob (br x i))) ?_
        refine lv_lstore (lv' := [(4, .long (lN (b1 + (ob (br x i))))), (2, .long (lN (mnF a1 (ob (br x i))))), (7, .long (lN (ob (br x i)))), (0, .ref (a 5)), (1, .int (nI x)), (6, .int (nI i))]) hx hb d_Od_gateBound_55 hl (by decide) rfl (fun ls hl => ?_)
        refine lv_iinc (v := (nI (i + 1))) (lv' := [(6, .int (nI (i + 1))), (4, .long (lN (b1 + (ob (br x i))))), (2, .long (lN (mnF a1 (ob (br x i))))), (7, .long (lN (ob (br x i)))), (0, .ref (a 5)), (1, .int (nI x))]) hx hb d_Od_gateBound_57 hl (k := 5) rfl (nI_1 i) (by decide) rfl (fun ls hl => ?_)
        refine lv_goto (tgt := 10) hx hb d_Od_gateBound_60 (by decide) ?_
        refine ih_10 _ _ _ _ _ _ ?_ ?_ ?_ hP hD hS (lv_sub hl [4, 5, 2, 1, 0] rfl)
        · omega
        · omega
        · simp only [gsF, ← hf]
  refine lp_10 (bc x + 1) _ _ _ _ _ _ ?_ ?_ ?_ hP hD hS (lv_sub hl [3, 4, 2, 1, 0] rfl)
  · omega
  · omega
  · rfl
