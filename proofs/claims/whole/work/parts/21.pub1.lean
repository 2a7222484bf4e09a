theorem isG_nat {nc : Nat} {kd : Nat → Int32} {x : Int32} (hnc : nc ≤ 32) (h : isG nc kd x = true) : ∃ k : Nat, 1 ≤ k ∧ k ≤ nc ∧ x = nI k := by
  simp only [isG, Bool.and_eq_true] at h
  exact isN_nat hnc h.1
theorem isE_nat {nc : Nat} {kd : Nat → Int32} {x : Int32} (hnc : nc ≤ 32) (h : isE nc kd x = true) : ∃ k : Nat, 1 ≤ k ∧ k ≤ nc ∧ x = nI k := by
  simp only [isE, Bool.and_eq_true] at h
  exact isN_nat hnc h.1
theorem isW_nat {a b : Nat} {x : Int32} (ha : a < 2 ^ 31) (hb : b < 2 ^ 31) (h : isW x (nI a) (nI b) = true) : ∃ k : Nat, a ≤ k ∧ k ≤ b ∧ x = nI k := by
  simp only [isW, Bool.and_eq_true, decide_eq_true_eq] at h
  obtain ⟨h1, h2⟩ := h
  have h0 : ¬ x < 0 := fun q => h1 (by
    rw [Int32.lt_iff_toInt_lt] at q ⊢
    rw [nI_toInt ha]
    rw [Int32.toInt_zero] at q
    omega)
  obtain ⟨j, hj, rfl⟩ := nI_of h0
  rw [nI_ltI hj ha] at h1
  rw [nI_ltI hb hj] at h2
  exact ⟨j, by omega, by omega, rfl⟩
def lnat (x : Int64) : Nat := x.toInt.toNat
theorem lnat_lN {n : Nat} (h : n < 2 ^ 63) : lnat (lN n) = n := by
  unfold lnat
  rw [pk_lT h]
  rfl
theorem isD_nat {d : Int64} (h : isD d = true) : ∃ k : Nat, 1 ≤ k ∧ k ≤ 10 ∧ d = lN k := by
  simp only [isD, Bool.and_eq_true, decide_eq_true_eq] at h
  obtain ⟨h1, h2⟩ := h
  have h0 : ¬ d < 0 := fun q => h1 (by
    rw [Int64.lt_iff_toInt_lt] at q ⊢
    rw [pk_lT (by decide)]
    rw [Int64.toInt_zero] at q
    omega)
  obtain ⟨k, hk, rfl⟩ := pk_lOf h0
  rw [pk_lLT hk (by decide)] at h1
  rw [pk_lLT (by decide) hk] at h2
  exact ⟨k, by omega, by omega, rfl⟩
theorem u_nat {u : Int64} {d : Nat} (h0 : ¬ u < lN 0) (h : u ≤ lN d) (hd : d < 2 ^ 63) : ∃ k : Nat, k ≤ d ∧ u = lN k := by
  obtain ⟨k, hk, rfl⟩ := pk_lOf (show ¬ u < 0 from h0)
  rw [pk_lLE hk hd] at h
  exact ⟨k, h, rfl⟩
theorem isK_nat {k n : Int32} (h : isK k n = true) : ∃ j : Nat, j ≤ 10 ∧ n = nI j := by
  unfold isK at h
  by_cases c : k = nI 2
  · rw [if_pos c] at h
    obtain ⟨j, h1, h2, h3⟩ := isW_nat (by decide) (by decide) h
    exact ⟨j, h2, h3⟩
  · rw [if_neg c] at h
    simp only [Bool.and_eq_true, decide_eq_true_eq] at h
    exact ⟨0, by omega, h.2⟩
def grR (a b c : Int32) : Int32 := if isW a (nI 0) (nI 3) = false ∨ isW b (nI 0) (nI 4) = false ∨ isW c (nI 0) (nI 3) = false then -2 else if a = 0 ∨ b = 0 ∨ c = 0 ∨ ¬ nI 7 ≤ a + b + c then 0 else a + b + c - nI 6
def goR (gc : Nat) (x : Int32) : Int32 := if isW x (nI 0) (nI 4) = false then -2 else if 30 ≤ gc then -4 else nI (gc + 1)
def trR (gc : Nat) (gg gp gt : Nat → Nat) (gr : Nat) (x y z : Int32) : Int32 := if isW x (nI 1) (nI gc) = false then -1 else if isW y (nI 1) (nI 50) = false ∨ isW z (nI 0) (nI 50) = false then -2 else if hR gg gp gt x.toNatClampNeg y.toNatClampNeg z.toNatClampNeg gr = true then -3 else if 100 ≤ gr then -4 else nI (gr + 1)
def gaR (nc ng : Nat) (k n : Int32) : Int32 := if isK k n = false then -2 else if 20 ≤ ng then -4 else nI (nc + 1)
def ctR (en : Nat → Nat) (e : Int32) : Int32 := if e < 0 ∨ nI 12 ≤ e then 0 else nI (en e.toNatClampNeg)
def coR (nc : Nat) (kd : Nat → Int32) (cc0 : Nat) (x y : Int32) (u d : Int64) : Int32 := if isE nc kd x = false ∨ isE nc kd y = false then -1 else if x = y ∨ isD d = false ∨ u < lN 0 ∨ ¬ u ≤ d then -2 else if 4 ≤ cc0 then -4 else nI (cc0 + 1)
def beR (nc : Nat) (kd : Nat → Int32) (br : Nat → Nat → Nat) (bc un : Nat → Nat) (x y : Int32) : Int32 := if isG nc kd x = false ∨ isN nc y = false then -1 else if iB br x.toNatClampNeg y.toNatClampNeg (bc x.toNatClampNeg) = true then -3 else if 10 ≤ bc x.toNatClampNeg then -4 else if y.toNatClampNeg = x.toNatClampNeg ∨ (un y.toNatClampNeg).testBit x.toNatClampNeg = true then 0 else 1
set_option maxHeartbeats 4000000 in
set_option maxRecDepth 100000 in
theorem k_Ca_add (l : Launch) (g : va_G) (a rB rT : Nat → Nat) (cI cJ cII cJJ : ClassId) (nc : Nat) (nv : Nat) (ng : Nat) (kd : Nat → Int32) (vo : Nat → Nat) (nu : Nat → Nat) (nd : Nat → Nat) (en : Nat → Nat) (br : Nat → Nat → Nat) (bc : Nat → Nat) (un : Nat → Nat) (eu : Nat → Nat) (li : Nat → Nat) (tb : Nat → Nat → Int64) (cc0 : Nat) (cp : Nat → Nat) (cu : Nat → Nat) (cd : Nat → Nat) (tc : Nat) (ts : Nat → Nat) (tf : Nat → Nat) (ox : Bool) (ow : Nat → Nat) (ob : Nat → Nat) (ra : Nat) (rb : Nat) (gc : Nat) (gr : Nat) (gk : Nat → Nat) (gg : Nat → Nat) (gp : Nat → Nat) (gt : Nat → Nat) (sa : Nat) (sb : Nat) (x : Nat) (u : Nat) (d : Nat) (hc : cc0 < 4) : ct_i l g vwCl (tyS cI cJ cII cJJ) y_Ca_add c_Ca_add 6 (some .int) ({ frames := 0, cells := 0, slots := 0, locals := 0 } : Room) [.ref (a 3), .int (nI x), .long (lN u), .long (lN d)] (stW a rB rT cI cJ cII cJJ nc nv ng kd vo nu nd en br bc un eu li tb cc0 cp cu cd tc ts tf ox ow ob ra rb gc gr gk gg gp gt sa sb) (stW a rB rT cI cJ cII cJJ nc nv ng kd vo nu nd en br bc un eu li tb (cc0 + 1) (va_up cp cc0 x) (va_up cu cc0 u) (va_up cd cc0 d) tc ts tf ox ow ob ra rb gc gr gk gg gp gt sa sb) (nI (cc0 + 1)) := by
  refine ct_i.intro (by decide) (Nat.le_of_ble_eq_true rfl) ?_
  intro p e s m args below meth c Q A ls hx hb hml hT hown hA hK hN hret hP hD hS hl
  have hown : s.vm.findClass R_Ca = some m.cls := hown
  have hl : lv_has ls 6 [(0, .ref (a 3)), (1, .int (nI x)), (2, .long (lN u)), (4, .long (lN d))] := hl
  refine lv_aload_n hx hb d_Ca_add_0 rfl (lv_at hl 0 rfl) ?_
  refine va_get (D := g) (ci := 3) (v := .ref (a 20)) (C := R_Ca) (T := F_Ca) (N := 4) hx hb hT i_Ca hown hK hP 3 rfl rfl 1 (by decide) (hT _ tw_120) (fun _ h9 => h9) rfl d_Ca_add_1 ?_
  refine lv_aload_n hx hb d_Ca_add_4 rfl (lv_at hl 0 rfl) ?_
  refine va_get (D := g) (ci := 3) (v := .int (nI cc0)) (C := R_Ca) (T := F_Ca) (N := 4) hx hb hT i_Ca hown hK hP 3 rfl rfl 0 (by decide) (hT _ tw_117) (fun _ h9 => h9) rfl d_Ca_add_5 ?_
  refine lv_iload_n hx hb d_Ca_add_8 rfl (lv_at hl 1 rfl) ?_
  refine my_iast (i := cc0) hx hb hK hP hD hS 20 0 rfl rfl (by omega) (by decide) (my_upN _ _ _) (w' := (stW a rB rT cI cJ cII cJJ nc nv ng kd vo nu nd en br bc un eu li tb cc0 (va_up cp cc0 x) cu cd tc ts tf ox ow ob ra rb gc gr gk gg gp gt sa sb)) rfl d_Ca_add_9 (fun H locs hP hD hS => ?_)
  refine lv_aload_n hx hb d_Ca_add_10 rfl (lv_at hl 0 rfl) ?_
  refine va_get (D := g) (ci := 3) (v := .ref (a 21)) (C := R_Ca) (T := F_Ca) (N := 4) hx hb hT i_Ca hown hK hP 3 rfl rfl 2 (by decide) (hT _ tw_122) (fun _ h9 => h9) rfl d_Ca_add_11 ?_
  refine lv_aload_n hx hb d_Ca_add_14 rfl (lv_at hl 0 rfl) ?_
  refine va_get (D := g) (ci := 3) (v := .int (nI cc0)) (C := R_Ca) (T := F_Ca) (N := 4) hx hb hT i_Ca hown hK hP 3 rfl rfl 0 (by decide) (hT _ tw_117) (fun _ h9 => h9) rfl d_Ca_add_15 ?_
  refine lv_lload_n hx hb d_Ca_add_18 rfl (lv_at hl 2 rfl) ?_
  refine my_last (i := cc0) hx hb hK hP hD hS 21 1 rfl rfl (by omega) (by decide) (my_upL _ _ _) (w' := (stW a rB rT cI cJ cII cJJ nc nv ng kd vo nu nd en br bc un eu li tb cc0 (va_up cp cc0 x) (va_up cu cc0 u) cd tc ts tf ox ow ob ra rb gc gr gk gg gp gt sa sb)) rfl d_Ca_add_19 (fun H locs hP hD hS => ?_)
  refine lv_aload_n hx hb d_Ca_add_20 rfl (lv_at hl 0 rfl) ?_
  refine va_get (D := g) (ci := 3) (v := .ref (a 22)) (C := R_Ca) (T := F_Ca) (N := 4) hx hb hT i_Ca hown hK hP 3 rfl rfl 3 (by decide) (hT _ tw_124) (fun _ h9 => h9) rfl d_Ca_add_21 ?_
  refine lv_aload_n hx hb d_Ca_add_24 rfl (lv_at hl 0 rfl) ?_
  refine va_get (D := g) (ci := 3) (v := .int (nI cc0)) (C := R_Ca) (T := F_Ca) (N := 4) hx hb hT i_Ca hown hK hP 3 rfl rfl 0 (by decide) (hT _ tw_117) (fun _ h9 => h9) rfl d_Ca_add_25 ?_
  refine lv_lload hx hb d_Ca_add_28 (lv_at hl 3 rfl) ?_
  refine my_last (i := cc0) hx hb hK hP hD hS 22 1 rfl rfl (by omega) (by decide) (my_upL _ _ _) (w' := (stW a rB rT cI cJ cII cJJ nc nv ng kd vo nu nd en br bc un eu li tb cc0 (va_up cp cc0 x) (va_up cu cc0 u) (va_up cd cc0 d) tc ts tf ox ow ob ra rb gc gr gk gg gp gt sa sb)) rfl d_Ca_add_30 (fun H locs hP hD hS => ?_)
  refine lv_aload_n hx hb d_Ca_add_31 rfl (lv_at hl 0 rfl) ?_
  refine lv_dup hx hb d_Ca_add_32 rfl ?_
  refine va_get (D := g) (ci := 3) (v := .int (nI cc0)) (C := R_Ca) (T := F_Ca) (N := 4) hx hb hT i_Ca hown hK hP 3 rfl rfl 0 (by decide) (hT _ tw_117) (fun _ h9 => h9) rfl d_Ca_add_33 ?_
  refine lv_iconst (v := (nI 1)) hx hb d_Ca_add_36 (by decide) ?_
  refine lv_iadd hx hb d_Ca_add_37 ?_
  refine my_ei (nI_add cc0 1) ?_
  refine va_put (D := g) (ci := 3) (v := .int (nI (cc0 + 1))) (ty := .int) (C := R_Ca) (T := F_Ca) (N := 4) hx hb hT i_Ca t_Ca t_Ca_ok n_Ca hown hK hP hD hS 3 rfl rfl 0 (by decide) (hT _ tw_117) (fun _ h9 => h9) rfl (by decide +kernel) rfl rfl (Nat.le_of_ble_eq_true rfl) d_Ca_add_38 (fun H locs hP hD hS => ?_)
  have hP : va_P g vwCl (stW a rB rT cI cJ cII cJJ nc nv ng kd vo nu nd en br bc un eu li tb (cc0 + 1) (va_up cp cc0 x) (va_up cu cc0 u) (va_up cd cc0 d) tc ts tf ox ow ob ra rb gc gr gk gg gp gt sa sb) H := hP
  have hD : va_D A (stW a rB rT cI cJ cII cJJ nc nv ng kd vo nu nd en br bc un eu li tb (cc0 + 1) (va_up cp cc0 x) (va_up cu cc0 u) (va_up cd cc0 d) tc ts tf ox ow ob ra rb gc gr gk gg gp gt sa sb) := hD
  refine lv_aload_n hx hb d_Ca_add_41 rfl (lv_at hl 0 rfl) ?_
  refine va_get (D := g) (ci := 3) (v := .int (nI (cc0 + 1))) (C := R_Ca) (T := F_Ca) (N := 4) hx hb hT i_Ca hown hK hP 3 rfl rfl 0 (by decide) (hT _ tw_117) (fun _ h9 => h9) rfl d_Ca_add_42 ?_
  refine hret _ _ _ _ _ hP hD hS d_Ca_add_45 ?_
  rfl
set_option maxHeartbeats 4000000 in
set_option maxRecDepth 100000 in
theorem k_ST_exact (l : Launch) (g : va_G) (a rB rT : Nat → Nat) (cI cJ cII cJJ : ClassId) (nc : Nat) (nv : Nat) (ng : Nat) (kd : Nat → Int32) (vo : Nat → Nat) (nu : Nat → Nat) (nd : Nat → Nat) (en : Nat → Nat) (br : Nat → Nat → Nat) (bc : Nat → Nat) (un : Nat → Nat) (eu : Nat → Nat) (li : Nat → Nat) (tb : Nat → Nat → Int64) (cc0 : Nat) (cp : Nat → Nat) (cu : Nat → Nat) (cd : Nat → Nat) (tc : Nat) (ts : Nat → Nat) (tf : Nat → Nat) (ox : Bool) (ow : Nat → Nat) (ob : Nat → Nat) (ra : Nat) (rb : Nat) (gc : Nat) (gr : Nat) (gk : Nat → Nat) (gg : Nat → Nat) (gp : Nat → Nat) (gt : Nat → Nat) (sa : Nat) (sb : Nat)   : ct_i l g vwCl (tyS cI cJ cII cJJ) y_ST_exact c_ST_exact 1 (some .boolean) ({ frames := 0, cells := 0, slots := 0, locals := 0 } : Room) [.ref (a 0)] (stW a rB rT cI cJ cII cJJ nc nv ng kd vo nu nd en br bc un eu li tb cc0 cp cu cd tc ts tf ox ow ob ra rb gc gr gk gg gp gt sa sb) (stW a rB rT cI cJ cII cJJ nc nv ng kd vo nu nd en br bc un eu li tb cc0 cp cu cd tc ts tf ox ow ob ra rb gc gr gk gg gp gt sa sb) (b2 ox) := by
  refine ct_i.introZ (by decide) (Nat.le_of_ble_eq_true rfl) ?_
  intro p e s m args below meth c Q A ls hx hb hml hT hown hA hK hN hret hP hD hS hl
  have hown : s.vm.findClass R_ST = some m.cls := hown
  have hl : lv_has ls 1 [(0, .ref (a 0))] := hl
  refine lv_aload_n hx hb d_ST_exact_0 rfl (lv_at hl 0 rfl) ?_
  refine va_get (D := g) (ci := 0) (v := .ref (a 5)) (C := R_ST) (T := F_ST) (N := 7) hx hb hT i_ST hown hK hP 0 rfl rfl 4 (by decide) (hT _ tw_227) (fun _ h9 => h9) rfl d_ST_exact_1 ?_
  refine va_getN (D := g) (ci := 5) (v := .int (b2 ox)) (C := R_Od) (T := F_Od) (N := 7) hx hb hT i_Od hown hK hP 5 rfl rfl 4 (by decide) (va_Nw.use rfl (hN _ tw_176)) (fun _ h9 => h9) rfl d_ST_exact_4 ?_
  refine hret _ _ _ _ _ hP hD hS d_ST_exact_7 ?_
  rfl
set_option maxHeartbeats 4000000 in
set_option maxRecDepth 100000 in
theorem k_ST_grade (l : Launch) (g : va_G) (a rB rT : Nat → Nat) (cI cJ cII cJJ : ClassId) (nc : Nat) (nv : Nat) (ng : Nat) (kd : Nat → Int32) (vo : Nat → Nat) (nu : Nat → Nat) (nd : Nat → Nat) (en : Nat → Nat) (br : Nat → Nat → Nat) (bc : Nat → Nat) (un : Nat → Nat) (eu : Nat → Nat) (li : Nat → Nat) (tb : Nat → Nat → Int64) (cc0 : Nat) (cp : Nat → Nat) (cu : Nat → Nat) (cd : Nat → Nat) (tc : Nat) (ts : Nat → Nat) (tf : Nat → Nat) (ox : Bool) (ow : Nat → Nat) (ob : Nat → Nat) (ra : Nat) (rb : Nat) (gc : Nat) (gr : Nat) (gk : Nat → Nat) (gg : Nat → Nat) (gp : Nat → Nat) (gt : Nat → Nat) (sa : Nat) (sb : Nat) (x : Int32) (y : Int32) (z : Int32)  : ct_i l g vwCl (tyS cI cJ cII cJJ) y_ST_grade c_ST_grade 5 (some .int) ({ frames := 1, cells := 0, slots := 0, locals := 22 } : Room) [.ref (a 0), .int x, .int y, .int z] (stW a rB rT cI cJ cII cJJ nc nv ng kd vo nu nd en br bc un eu li tb cc0 cp cu cd tc ts tf ox ow ob ra rb gc gr gk gg gp gt sa sb) (stW a rB rT cI cJ cII cJJ nc nv ng kd vo nu nd en br bc un eu li tb cc0 cp cu cd tc ts tf ox ow ob ra rb gc gr gk gg gp gt sa sb) (grR x y z) := by
  refine ct_i.intro (by decide) (Nat.le_of_ble_eq_true rfl) ?_
  intro p e s m args below meth c Q A ls hx hb hml hT hown hA hK hN hret hP hD hS hl
  have hown : s.vm.findClass R_ST = some m.cls := hown
  have hl : lv_has ls 5 [(0, .ref (a 0)), (1, .int x), (2, .int y), (3, .int z)] := hl
  refine lv_iload_n hx hb d_ST_grade_0 rfl (lv_at hl 1 rfl) ?_
  refine lv_iconst (v := (nI 0)) hx hb d_ST_grade_1 (by decide) ?_
  refine lv_iconst (v := (nI 3)) hx hb d_ST_grade_2 (by decide) ?_
  refine my_S_i (As := [.int x, .int (nI 0), .int (nI 3)]) (n := 3) (k_ST_isWithin l g vwCl (tyS cI cJ cII cJJ) (stW a rB rT cI cJ cII cJJ nc nv ng kd vo nu nd en br bc un eu li tb cc0 cp cu cd tc ts tf ox ow ob ra rb gc gr gk gg gp gt sa sb) x (nI 0) (nI 3) ) hx hb hml hown hT hN tw_277 tw_278 tw_1 tw_279 (by decide +kernel) rfl rfl ⟨Nat.le_of_ble_eq_true rfl, Nat.le_of_ble_eq_true rfl⟩ ⟨Nat.zero_le _, Nat.zero_le _⟩ hK hP hD hS hA rfl hl rfl (Nat.le_of_ble_eq_true rfl) d_ST_grade_3 (fun H locs hP hD hS => ?_)
  refine my_if_eq_b (tgt := 27) hx hb d_ST_grade_6 (by decide) (fun c_6 => ?_) (fun c_6 => ?_)
  · -- 6: taken
    refine lv_bipush (v := (-2)) hx hb d_ST_grade_27 (by decide) ?_
    refine hret _ _ _ _ _ hP hD hS d_ST_grade_29 ?_
    rw [grR, if_pos (by first | (simp [c_6]; done) | (simp [c_6]; omega) | (simp [c_6]; rfl))]
  · -- 6: not taken
    refine lv_iload_n hx hb d_ST_grade_9 rfl (lv_at hl 2 rfl) ?_
    refine lv_iconst (v := (nI 0)) hx hb d_ST_grade_10 (by decide) ?_
    refine lv_iconst (v := (nI 4)) hx hb d_ST_grade_11 (by decide) ?_
    refine my_S_i (As := [.int y, .int (nI 0), .int (nI 4)]) (n := 3) (k_ST_isWithin l g vwCl (tyS cI cJ cII cJJ) (stW a rB rT cI cJ cII cJJ nc nv ng kd vo nu nd en br bc un eu li tb cc0 cp cu cd tc ts tf ox ow ob ra rb gc gr gk gg gp gt sa sb) y (nI 0) (nI 4) ) hx hb hml hown hT hN tw_277 tw_278 tw_1 tw_279 (by decide +kernel) rfl rfl ⟨Nat.le_of_ble_eq_true rfl, Nat.le_of_ble_eq_true rfl⟩ ⟨Nat.zero_le _, Nat.zero_le _⟩ hK hP hD hS hA rfl hl rfl (Nat.le_of_ble_eq_true rfl) d_ST_grade_12 (fun H locs hP hD hS => ?_)
    refine my_if_eq_b (tgt := 27) hx hb d_ST_grade_15 (by decide) (fun c_15 => ?_) (fun c_15 => ?_)
    · -- 15: taken
      refine lv_bipush (v := (-2)) hx hb d_ST_grade_27 (by decide) ?_
      refine hret _ _ _ _ _ hP hD hS d_ST_grade_29 ?_
      rw [grR, if_pos (by first | (simp [c_15]; done) | (simp [c_15]; omega) | (simp [c_15]; rfl))]
    · -- 15: not taken
      refine lv_iload_n hx hb d_ST_grade_18 rfl (lv_at hl 3 rfl) ?_
      refine lv_iconst (v := (nI 0)) hx hb d_ST_grade_19 (by decide) ?_
      refine lv_iconst (v := (nI 3)) hx hb d_ST_grade_20 (by decide) ?_
      refine my_S_i (As := [.int z, .int (nI 0), .int (nI 3)]) (n := 3) (k_ST_isWithin l g vwCl (tyS cI cJ cII cJJ) (stW a rB rT cI cJ cII cJJ nc nv ng kd vo nu nd en br bc un eu li tb cc0 cp cu cd tc ts tf ox ow ob ra rb gc gr gk gg gp gt sa sb) z (nI 0) (nI 3) ) hx hb hml hown hT hN tw_277 tw_278 tw_1 tw_279 (by decide +kernel) rfl rfl ⟨Nat.le_of_ble_eq_true rfl, Nat.le_of_ble_eq_true rfl⟩ ⟨Nat.zero_le _, Nat.zero_le _⟩ hK hP hD hS hA rfl hl rfl (Nat.le_of_ble_eq_true rfl) d_ST_grade_21 (fun H locs hP hD hS => ?_)
      refine my_if_ne_b (tgt := 30) hx hb d_ST_grade_24 (by decide) (fun c_24 => ?_) (fun c_24 => ?_)
      · -- 24: taken
        refine lv_iload_n hx hb d_ST_grade_30 rfl (lv_at hl 1 rfl) ?_
        refine lv_iload_n hx hb d_ST_grade_31 rfl (lv_at hl 2 rfl) ?_
        refine lv_iadd hx hb d_ST_grade_32 ?_
        refine lv_iload_n hx hb d_ST_grade_33 rfl (lv_at hl 3 rfl) ?_
        refine lv_iadd hx hb d_ST_grade_34 ?_
        refine lv_istore (lv' := [(4, .int ((x + y) + z)), (0, .ref (a 0)), (1, .int x), (2, .int y), (3, .int z)]) hx hb d_ST_grade_35 hl (by decide) rfl (fun ls hl => ?_)
        refine lv_iload_n hx hb d_ST_grade_37 rfl (lv_at hl 2 rfl) ?_
        refine lv_if_eq (tgt := 56) hx hb d_ST_grade_38 (by decide) (fun c_38 => ?_) (fun c_38 => ?_)
        · -- 38: taken
          refine lv_iconst (v := (nI 0)) hx hb d_ST_grade_56 (by decide) ?_
          refine hret _ _ _ _ _ hP hD hS d_ST_grade_57 ?_
          rw [grR, if_neg (by first | (simp [c_6, c_15, c_24]; done) | (simp [c_6, c_15, c_24]; omega) | (simp [c_6, c_15, c_24]; rfl)), if_pos (by first | exact Or.inl c_38 | exact Or.inr (Or.inl c_42) | exact Or.inr (Or.inr (Or.inl c_46)) | exact Or.inr (Or.inr (Or.inr c_53)))]; rfl
        · -- 38: not taken
          refine lv_iload_n hx hb d_ST_grade_41 rfl (lv_at hl 3 rfl) ?_
          refine lv_if_eq (tgt := 56) hx hb d_ST_grade_42 (by decide) (fun c_42 => ?_) (fun c_42 => ?_)
          · -- 42: taken
            refine lv_iconst (v := (nI 0)) hx hb d_ST_grade_56 (by decide) ?_
            refine hret _ _ _ _ _ hP hD hS d_ST_grade_57 ?_
            rw [grR, if_neg (by first | (simp [c_6, c_15, c_24]; done) | (simp [c_6, c_15, c_24]; omega) | (simp [c_6, c_15, c_24]; rfl)), if_pos (by first | exact Or.inl c_38 | exact Or.inr (Or.inl c_42) | exact Or.inr (Or.inr (Or.inl c_46)) | exact Or.inr (Or.inr (Or.inr c_53)))]; rfl
          · -- 42: not taken
            refine lv_iload_n hx hb d_ST_grade_45 rfl (lv_at hl 4 rfl) ?_
            refine lv_if_eq (tgt := 56) hx hb d_ST_grade_46 (by decide) (fun c_46 => ?_) (fun c_46 => ?_)
            · -- 46: taken
              refine lv_iconst (v := (nI 0)) hx hb d_ST_grade_56 (by decide) ?_
              refine hret _ _ _ _ _ hP hD hS d_ST_grade_57 ?_
              rw [grR, if_neg (by first | (simp [c_6, c_15, c_24]; done) | (simp [c_6, c_15, c_24]; omega) | (simp [c_6, c_15, c_24]; rfl)), if_pos (by first | exact Or.inl c_38 | exact Or.inr (Or.inl c_42) | exact Or.inr (Or.inr (Or.inl c_46)) | exact Or.inr (Or.inr (Or.inr c_53)))]; rfl
            · -- 46: not taken
              refine lv_iload hx hb d_ST_grade_49 (lv_at hl 0 rfl) ?_
              refine lv_bipush (v := (nI 7)) hx hb d_ST_grade_51 (by decide) ?_
              refine lv_icmp_ge (tgt := 58) hx hb d_ST_grade_53 (by decide) (fun c_53 => ?_) (fun c_53 => ?_)
              · -- 53: taken
                refine lv_iload hx hb d_ST_grade_58 (lv_at hl 0 rfl) ?_
                refine lv_bipush (v := (nI 6)) hx hb d_ST_grade_60 (by decide) ?_
                refine lv_isub hx hb d_ST_grade_62 ?_
                refine hret _ _ _ _ _ hP hD hS d_ST_grade_63 ?_
                rw [grR, if_neg (by first | (simp [c_6, c_15, c_24]; done) | (simp [c_6, c_15, c_24]; omega) | (simp [c_6, c_15, c_24]; rfl)), if_neg (by intro hh; rcases hh with hh | hh | hh | hh; exact c_38 hh; exact c_42 hh; exact c_46 hh; exact hh c_53)]
              · -- 53: not taken
                refine lv_iconst (v := (nI 0)) hx hb d_ST_grade_56 (by decide) ?_
                refine hret _ _ _ _ _ hP hD hS d_ST_grade_57 ?_
                rw [grR, if_neg (by first | (simp [c_6, c_15, c_24]; done) | (simp [c_6, c_15, c_24]; omega) | (simp [c_6, c_15, c_24]; rfl)), if_pos (by first | exact Or.inl c_38 | exact Or.inr (Or.inl c_42) | exact Or.inr (Or.inr (Or.inl c_46)) | exact Or.inr (Or.inr (Or.inr c_53)))]; rfl
      · -- 24: not taken
        refine lv_bipush (v := (-2)) hx hb d_ST_grade_27 (by decide) ?_
        refine hret _ _ _ _ _ hP hD hS d_ST_grade_29 ?_
        rw [grR, if_pos (by first | (simp [c_24]; done) | (simp [c_24]; omega) | (simp [c_24]; rfl))]
set_option maxHeartbeats 4000000 in
set_option maxRecDepth 100000 in
theorem k_ST_goal (l : Launch) (g : va_G) (a rB rT : Nat → Nat) (cI cJ cII cJJ : ClassId) (nc : Nat) (nv : Nat) (ng : Nat) (kd : Nat → Int32) (vo : Nat → Nat) (nu : Nat → Nat) (nd : Nat → Nat) (en : Nat → Nat) (br : Nat → Nat → Nat) (bc : Nat → Nat) (un : Nat → Nat) (eu : Nat → Nat) (li : Nat → Nat) (tb : Nat → Nat → Int64) (cc0 : Nat) (cp : Nat → Nat) (cu : Nat → Nat) (cd : Nat → Nat) (tc : Nat) (ts : Nat → Nat) (tf : Nat → Nat) (ox : Bool) (ow : Nat → Nat) (ob : Nat → Nat) (ra : Nat) (rb : Nat) (gc : Nat) (gr : Nat) (gk : Nat → Nat) (gg : Nat → Nat) (gp : Nat → Nat) (gt : Nat → Nat) (sa : Nat) (sb : Nat) (x : Int32) (hgc : gc ≤ 30) : ct_i l g vwCl (tyS cI cJ cII cJJ) y_ST_goal c_ST_goal 2 (some .int) ({ frames := 1, cells := 0, slots := 0, locals := 22 } : Room) [.ref (a 0), .int x] (stW a rB rT cI cJ cII cJJ nc nv ng kd vo nu nd en br bc un eu li tb cc0 cp cu cd tc ts tf ox ow ob ra rb gc gr gk gg gp gt sa sb) (if isW x (nI 0) (nI 4) = true ∧ gc < 30 then (stW a rB rT cI cJ cII cJJ nc nv ng kd vo nu nd en br bc un eu li tb cc0 cp cu cd tc ts tf ox ow ob ra rb (gc + 1) gr (va_up gk (gc + 1) x.toNatClampNeg) gg gp gt sa sb) else (stW a rB rT cI cJ cII cJJ nc nv ng kd vo nu nd en br bc un eu li tb cc0 cp cu cd tc ts tf ox ow ob ra rb gc gr gk gg gp gt sa sb)) (goR gc x) := by
  refine ct_i.intro (by decide) (Nat.le_of_ble_eq_true rfl) ?_
  intro p e s m args below meth c Q A ls hx hb hml hT hown hA hK hN hret hP hD hS hl
  have hown : s.vm.findClass R_ST = some m.cls := hown
  have hl : lv_has ls 2 [(0, .ref (a 0)), (1, .int x)] := hl
  refine lv_iload_n hx hb d_ST_goal_0 rfl (lv_at hl 1 rfl) ?_
  refine lv_iconst (v := (nI 0)) hx hb d_ST_goal_1 (by decide) ?_
  refine lv_iconst (v := (nI 4)) hx hb d_ST_goal_2 (by decide) ?_
  refine my_S_i (As := [.int x, .int (nI 0), .int (nI 4)]) (n := 3) (k_ST_isWithin l g vwCl (tyS cI cJ cII cJJ) (stW a rB rT cI cJ cII cJJ nc nv ng kd vo nu nd en br bc un eu li tb cc0 cp cu cd tc ts tf ox ow ob ra rb gc gr gk gg gp gt sa sb) x (nI 0) (nI 4) ) hx hb hml hown hT hN tw_277 tw_278 tw_1 tw_279 (by decide +kernel) rfl rfl ⟨Nat.le_of_ble_eq_true rfl, Nat.le_of_ble_eq_true rfl⟩ ⟨Nat.zero_le _, Nat.zero_le _⟩ hK hP hD hS hA rfl hl rfl (Nat.le_of_ble_eq_true rfl) d_ST_goal_3 (fun H locs hP hD hS => ?_)
  refine my_if_ne_b (tgt := 12) hx hb d_ST_goal_6 (by decide) (fun c_6 => ?_) (fun c_6 => ?_)
  · -- 6: taken
    obtain ⟨k, hk1, hk2, rfl⟩ := isW_nat (by decide) (by decide) c_6
    have hkc : (nI k).toNatClampNeg = k := nI_clamp (by omega)
    simp only [hkc] at hret
    refine lv_aload_n hx hb d_ST_goal_12 rfl (lv_at hl 0 rfl) ?_
    refine va_get (D := g) (ci := 0) (v := .ref (a 6)) (C := R_ST) (T := F_ST) (N := 7) hx hb hT i_ST hown hK hP 0 rfl rfl 5 (by decide) (hT _ tw_228) (fun _ h9 => h9) rfl d_ST_goal_13 ?_
    refine va_getN (D := g) (ci := 6) (v := .int (nI gc)) (C := R_Go) (T := F_Go) (N := 6) hx hb hT i_Go hown hK hP 6 rfl rfl 0 (by decide) (va_Nw.use rfl (hN _ tw_201)) (fun _ h9 => h9) rfl d_ST_goal_16 ?_
    refine lv_bipush (v := (nI 30)) hx hb d_ST_goal_19 (by decide) ?_
    refine my_icmp_lt (tgt := 27) (a := gc) (b := 30) hx hb d_ST_goal_21 (by decide) (by omega) (by omega) (fun c_21 => ?_) (fun c_21 => ?_)
    · -- 21: taken
      refine lv_aload_n hx hb d_ST_goal_27 rfl (lv_at hl 0 rfl) ?_
      refine va_get (D := g) (ci := 0) (v := .ref (a 6)) (C := R_ST) (T := F_ST) (N := 7) hx hb hT i_ST hown hK hP 0 rfl rfl 5 (by decide) (hT _ tw_228) (fun _ h9 => h9) rfl d_ST_goal_28 ?_
      refine lv_iload_n hx hb d_ST_goal_31 rfl (lv_at hl 1 rfl) ?_
      refine my_V_i (q0 := 6) (ci := 6) (C := R_Go) (As := [.int (nI k)]) (n := 1) (k_Go_add l g a rB rT cI cJ cII cJJ nc nv ng kd vo nu nd en br bc un eu li tb cc0 cp cu cd tc ts tf ox ow ob ra rb gc gr gk gg gp gt sa sb k (by omega)) hx hb hml hown hT hN tw_488 tw_489 tw_490 tw_8 tw_491 (by decide +kernel) rfl rfl ⟨Nat.le_of_ble_eq_true rfl, Nat.le_of_ble_eq_true rfl⟩ ⟨Nat.zero_le _, Nat.zero_le _⟩ hK hP hD hS hA rfl rfl rfl hl rfl (Nat.le_of_ble_eq_true rfl) d_ST_goal_32 (fun H locs hP hD hS => ?_)
      refine hret _ _ _ _ _ (by rw [if_pos (by first | (simp [c_6, c_21]; done) | (simp [c_6, c_21]; omega) | (simp [c_6, c_21]; rfl))]; exact hP) (by rw [if_pos (by first | (simp [c_6, c_21]; done) | (simp [c_6, c_21]; omega) | (simp [c_6, c_21]; rfl))]; exact hD) hS d_ST_goal_35 ?_
      first | (simp [goR, c_6, hkc, c_21]; done) | (simp [goR, c_6, hkc, c_21]; omega) | (simp [goR, c_6, hkc, c_21]; rfl)
    · -- 21: not taken
      refine lv_bipush (v := (-4)) hx hb d_ST_goal_24 (by decide) ?_
      refine hret _ _ _ _ _ (by rw [if_neg (by first | (simp [c_6, c_21]; done) | (simp [c_6, c_21]; omega) | (simp [c_6, c_21]; rfl))]; exact hP) (by rw [if_neg (by first | (simp [c_6, c_21]; done) | (simp [c_6, c_21]; omega) | (simp [c_6, c_21]; rfl))]; exact hD) hS d_ST_goal_26 ?_
      first | (simp [goR, c_6, hkc, c_21]; done) | (simp [goR, c_6, hkc, c_21]; omega) | (simp [goR, c_6, hkc, c_21]; rfl)
  · -- 6: not taken
    refine lv_bipush (v := (-2)) hx hb d_ST_goal_9 (by decide) ?_
    refine hret _ _ _ _ _ (by rw [if_neg (by first | (simp [c_6]; done) | (simp [c_6]; omega) | (simp [c_6]; rfl))]; exact hP) (by rw [if_neg (by first | (simp [c_6]; done) | (simp [c_6]; omega) | (simp [c_6]; rfl))]; exact hD) hS d_ST_goal_11 ?_
    first | (simp [goR, c_6]; done) | (simp [goR, c_6]; omega) | (simp [goR, c_6]; rfl)
set_option maxHeartbeats 4000000 in
set_option maxRecDepth 100000 in
theorem k_ST_trace (l : Launch) (g : va_G) (a rB rT : Nat → Nat) (cI cJ cII cJJ : ClassId) (nc : Nat) (nv : Nat) (ng : Nat) (kd : Nat → Int32) (vo : Nat → Nat) (nu : Nat → Nat) (nd : Nat → Nat) (en : Nat → Nat) (br : Nat → Nat → Nat) (bc : Nat → Nat) (un : Nat → Nat) (eu : Nat → Nat) (li : Nat → Nat) (tb : Nat → Nat → Int64) (cc0 : Nat) (cp : Nat → Nat) (cu : Nat → Nat) (cd : Nat → Nat) (tc : Nat) (ts : Nat → Nat) (tf : Nat → Nat) (ox : Bool) (ow : Nat → Nat) (ob : Nat → Nat) (ra : Nat) (rb : Nat) (gc : Nat) (gr : Nat) (gk : Nat → Nat) (gg : Nat → Nat) (gp : Nat → Nat) (gt : Nat → Nat) (sa : Nat) (sb : Nat) (x : Int32) (y : Int32) (z : Int32) (hgc : gc ≤ 30) (hr : gr ≤ 100) (hgg : ∀ j, gg j < 1000) (hgp : ∀ j, gp j < 1000) (hgt : ∀ j, gt j < 1000) : ct_i l g vwCl (tyS cI cJ cII cJJ) y_ST_trace c_ST_trace 4 (some .int) ({ frames := 1, cells := 0, slots := 0, locals := 24 } : Room) [.ref (a 0), .int x, .int y, .int z] (stW a rB rT cI cJ cII cJJ nc nv ng kd vo nu nd en br bc un eu li tb cc0 cp cu cd tc ts tf ox ow ob ra rb gc gr gk gg gp gt sa sb) (if isW x (nI 1) (nI gc) = true ∧ isW y (nI 1) (nI 50) = true ∧ isW z (nI 0) (nI 50) = true ∧ hR gg gp gt x.toNatClampNeg y.toNatClampNeg z.toNatClampNeg gr = false ∧ gr < 100 then (stW a rB rT cI cJ cII cJJ nc nv ng kd vo nu nd en br bc un eu li tb cc0 cp cu cd tc ts tf ox ow ob ra rb gc (gr + 1) gk (va_up gg gr x.toNatClampNeg) (va_up gp gr y.toNatClampNeg) (va_up gt gr z.toNatClampNeg) sa sb) else (stW a rB rT cI cJ cII cJJ nc nv ng kd vo nu nd en br bc un eu li tb cc0 cp cu cd tc ts tf ox ow ob ra rb gc gr gk gg gp gt sa sb)) (trR gc gg gp gt gr x y z) := by
  refine ct_i.intro (by decide) (Nat.le_of_ble_eq_true rfl) ?_
  intro p e s m args below meth c Q A ls hx hb hml hT hown hA hK hN hret hP hD hS hl
  have hown : s.vm.findClass R_ST = some m.cls := hown
  have hl : lv_has ls 4 [(0, .ref (a 0)), (1, .int x), (2, .int y), (3, .int z)] := hl
  refine lv_iload_n hx hb d_ST_trace_0 rfl (lv_at hl 1 rfl) ?_
  refine lv_iconst (v := (nI 1)) hx hb d_ST_trace_1 (by decide) ?_
  refine lv_aload_n hx hb d_ST_trace_2 rfl (lv_at hl 0 rfl) ?_
  refine va_get (D := g) (ci := 0) (v := .ref (a 6)) (C := R_ST) (T := F_ST) (N := 7) hx hb hT i_ST hown hK hP 0 rfl rfl 5 (by decide) (hT _ tw_228) (fun _ h9 => h9) rfl d_ST_trace_3 ?_
  refine va_getN (D := g) (ci := 6) (v := .int (nI gc)) (C := R_Go) (T := F_Go) (N := 6) hx hb hT i_Go hown hK hP 6 rfl rfl 0 (by decide) (va_Nw.use rfl (hN _ tw_201)) (fun _ h9 => h9) rfl d_ST_trace_6 ?_
  refine my_S_i (As := [.int x, .int (nI 1), .int (nI gc)]) (n := 3) (k_ST_isWithin l g vwCl (tyS cI cJ cII cJJ) (stW a rB rT cI cJ cII cJJ nc nv ng kd vo nu nd en br bc un eu li tb cc0 cp cu cd tc ts tf ox ow ob ra rb gc gr gk gg gp gt sa sb) x (nI 1) (nI gc) ) hx hb hml hown hT hN tw_277 tw_278 tw_1 tw_279 (by decide +kernel) rfl rfl ⟨Nat.le_of_ble_eq_true rfl, Nat.le_of_ble_eq_true rfl⟩ ⟨Nat.zero_le _, Nat.zero_le _⟩ hK hP hD hS hA rfl hl rfl (Nat.le_of_ble_eq_true rfl) d_ST_trace_9 (fun H locs hP hD hS => ?_)
  refine my_if_ne_b (tgt := 17) hx hb d_ST_trace_12 (by decide) (fun c_12 => ?_) (fun c_12 => ?_)
  · -- 12: taken
    refine lv_iload_n hx hb d_ST_trace_17 rfl (lv_at hl 2 rfl) ?_
    refine lv_iconst (v := (nI 1)) hx hb d_ST_trace_18 (by decide) ?_
    refine lv_bipush (v := (nI 50)) hx hb d_ST_trace_19 (by decide) ?_
    refine my_S_i (As := [.int y, .int (nI 1), .int (nI 50)]) (n := 3) (k_ST_isWithin l g vwCl (tyS cI cJ cII cJJ) (stW a rB rT cI cJ cII cJJ nc nv ng kd vo nu nd en br bc un eu li tb cc0 cp cu cd tc ts tf ox ow ob ra rb gc gr gk gg gp gt sa sb) y (nI 1) (nI 50) ) hx hb hml hown hT hN tw_277 tw_278 tw_1 tw_279 (by decide +kernel) rfl rfl ⟨Nat.le_of_ble_eq_true rfl, Nat.le_of_ble_eq_true rfl⟩ ⟨Nat.zero_le _, Nat.zero_le _⟩ hK hP hD hS hA rfl hl rfl (Nat.le_of_ble_eq_true rfl) d_ST_trace_21 (fun H locs hP hD hS => ?_)
    refine my_if_eq_b (tgt := 37) hx hb d_ST_trace_24 (by decide) (fun c_24 => ?_) (fun c_24 => ?_)
    · -- 24: taken
      refine lv_bipush (v := (-2)) hx hb d_ST_trace_37 (by decide) ?_
      refine hret _ _ _ _ _ (by rw [if_neg (by first | (simp [c_12, c_24]; done) | (simp [c_12, c_24]; omega) | (simp [c_12, c_24]; rfl))]; exact hP) (by rw [if_neg (by first | (simp [c_12, c_24]; done) | (simp [c_12, c_24]; omega) | (simp [c_12, c_24]; rfl))]; exact hD) hS d_ST_trace_39 ?_
      first | (simp [trR, c_12, c_24]; done) | (simp [trR, c_12, c_24]; omega) | (simp [trR, c_12, c_24]; rfl)
    · -- 24: not taken
      refine lv_iload_n hx hb d_ST_trace_27 rfl (lv_at hl 3 rfl) ?_
      refine lv_iconst (v := (nI 0)) hx hb d_ST_trace_28 (by decide) ?_
      refine lv_bipush (v := (nI 50)) hx hb d_ST_trace_29 (by decide) ?_
      refine my_S_i (As := [.int z, .int (nI 0), .int (nI 50)]) (n := 3) (k_ST_isWithin l g vwCl (tyS cI cJ cII cJJ) (stW a rB rT cI cJ cII cJJ nc nv ng kd vo nu nd en br bc un eu li tb cc0 cp cu cd tc ts tf ox ow ob ra rb gc gr gk gg gp gt sa sb) z (nI 0) (nI 50) ) hx hb hml hown hT hN tw_277 tw_278 tw_1 tw_279 (by decide +kernel) rfl rfl ⟨Nat.le_of_ble_eq_true rfl, Nat.le_of_ble_eq_true rfl⟩ ⟨Nat.zero_le _, Nat.zero_le _⟩ hK hP hD hS hA rfl hl rfl (Nat.le_of_ble_eq_true rfl) d_ST_trace_31 (fun H locs hP hD hS => ?_)
      refine my_if_ne_b (tgt := 40) hx hb d_ST_trace_34 (by decide) (fun c_34 => ?_) (fun c_34 => ?_)
      · -- 34: taken
        obtain ⟨x1, hx11, hx12, rfl⟩ := isW_nat (by decide) (by omega) c_12
        have hkc : (nI x1).toNatClampNeg = x1 := nI_clamp (by omega)
        simp only [hkc] at hret
        obtain ⟨y1, hy11, hy12, rfl⟩ := isW_nat (by decide) (by decide) c_24
        have hkc2 : (nI y1).toNatClampNeg = y1 := nI_clamp (by omega)
        simp only [hkc2] at hret
        obtain ⟨z1, hz11, hz12, rfl⟩ := isW_nat (by decide) (by decide) c_34
        have hkc3 : (nI z1).toNatClampNeg = z1 := nI_clamp (by omega)
        simp only [hkc3] at hret
        refine lv_aload_n hx hb d_ST_trace_40 rfl (lv_at hl 0 rfl) ?_
        refine va_get (D := g) (ci := 0) (v := .ref (a 6)) (C := R_ST) (T := F_ST) (N := 7) hx hb hT i_ST hown hK hP 0 rfl rfl 5 (by decide) (hT _ tw_228) (fun _ h9 => h9) rfl d_ST_trace_41 ?_
        refine lv_iload_n hx hb d_ST_trace_44 rfl (lv_at hl 1 rfl) ?_
        refine lv_iload_n hx hb d_ST_trace_45 rfl (lv_at hl 2 rfl) ?_
        refine lv_iload_n hx hb d_ST_trace_46 rfl (lv_at hl 3 rfl) ?_
        refine my_V_i (q0 := 6) (ci := 6) (C := R_Go) (As := [.int (nI x1), .int (nI y1), .int (nI z1)]) (n := 3) (k_Go_hasRow l g a rB rT cI cJ cII cJJ nc nv ng kd vo nu nd en br bc un eu li tb cc0 cp cu cd tc ts tf ox ow ob ra rb gc gr gk gg gp gt sa sb x1 y1 z1 hr (by omega) (by omega) (by omega) hgg hgp hgt) hx hb hml hown hT hN tw_496 tw_497 tw_498 tw_8 tw_499 (by decide +kernel) rfl rfl ⟨Nat.le_of_ble_eq_true rfl, Nat.le_of_ble_eq_true rfl⟩ ⟨Nat.zero_le _, Nat.zero_le _⟩ hK hP hD hS hA rfl rfl rfl hl rfl (Nat.le_of_ble_eq_true rfl) d_ST_trace_47 (fun H locs hP hD hS => ?_)
        refine my_if_eq_b (tgt := 56) hx hb d_ST_trace_50 (by decide) (fun c_50 => ?_) (fun c_50 => ?_)
        · -- 50: taken
          refine lv_aload_n hx hb d_ST_trace_56 rfl (lv_at hl 0 rfl) ?_
          refine va_get (D := g) (ci := 0) (v := .ref (a 6)) (C := R_ST) (T := F_ST) (N := 7) hx hb hT i_ST hown hK hP 0 rfl rfl 5 (by decide) (hT _ tw_228) (fun _ h9 => h9) rfl d_ST_trace_57 ?_
          refine va_getN (D := g) (ci := 6) (v := .int (nI gr)) (C := R_Go) (T := F_Go) (N := 6) hx hb hT i_Go hown hK hP 6 rfl rfl 1 (by decide) (va_Nw.use rfl (hN _ tw_203)) (fun _ h9 => h9) rfl d_ST_trace_60 ?_
          refine lv_bipush (v := (nI 100)) hx hb d_ST_trace_63 (by decide) ?_
          refine my_icmp_lt (tgt := 71) (a := gr) (b := 100) hx hb d_ST_trace_65 (by decide) (by omega) (by omega) (fun c_65 => ?_) (fun c_65 => ?_)
          · -- 65: taken
            refine lv_aload_n hx hb d_ST_trace_71 rfl (lv_at hl 0 rfl) ?_
            refine va_get (D := g) (ci := 0) (v := .ref (a 6)) (C := R_ST) (T := F_ST) (N := 7) hx hb hT i_ST hown hK hP 0 rfl rfl 5 (by decide) (hT _ tw_228) (fun _ h9 => h9) rfl d_ST_trace_72 ?_
            refine lv_iload_n hx hb d_ST_trace_75 rfl (lv_at hl 1 rfl) ?_
            refine lv_iload_n hx hb d_ST_trace_76 rfl (lv_at hl 2 rfl) ?_
            refine lv_iload_n hx hb d_ST_trace_77 rfl (lv_at hl 3 rfl) ?_
            refine my_V_i (q0 := 6) (ci := 6) (C := R_Go) (As := [.int (nI x1), .int (nI y1), .int (nI z1)]) (n := 3) (k_Go_addRow l g a rB rT cI cJ cII cJJ nc nv ng kd vo nu nd en br bc un eu li tb cc0 cp cu cd tc ts tf ox ow ob ra rb gc gr gk gg gp gt sa sb x1 y1 z1 (by omega)) hx hb hml hown hT hN tw_500 tw_501 tw_502 tw_8 tw_503 (by decide +kernel) rfl rfl ⟨Nat.le_of_ble_eq_true rfl, Nat.le_of_ble_eq_true rfl⟩ ⟨Nat.zero_le _, Nat.zero_le _⟩ hK hP hD hS hA rfl rfl rfl hl rfl (Nat.le_of_ble_eq_true rfl) d_ST_trace_78 (fun H locs hP hD hS => ?_)
            refine hret _ _ _ _ _ (by rw [if_pos (by first | (simp [c_12, c_24, c_34, c_50, c_65]; done) | (simp [c_12, c_24, c_34, c_50, c_65]; omega) | (simp [c_12, c_24, c_34, c_50, c_65]; rfl))]; exact hP) (by rw [if_pos (by first | (simp [c_12, c_24, c_34, c_50, c_65]; done) | (simp [c_12, c_24, c_34, c_50, c_65]; omega) | (simp [c_12, c_24, c_34, c_50, c_65]; rfl))]; exact hD) hS d_ST_trace_81 ?_
            first | (simp [trR, c_12, c_24, c_34, hkc, hkc2, hkc3, c_50, c_65]; done) | (simp [trR, c_12, c_24, c_34, hkc, hkc2, hkc3, c_50, c_65]; omega) | (simp [trR, c_12, c_24, c_34, hkc, hkc2, hkc3, c_50, c_65]; rfl)
          · -- 65: not taken
            refine lv_bipush (v := (-4)) hx hb d_ST_trace_68 (by decide) ?_
            refine hret _ _ _ _ _ (by rw [if_neg (by first | (simp [c_12, c_24, c_34, c_50, c_65]; done) | (simp [c_12, c_24, c_34, c_50, c_65]; omega) | (simp [c_12, c_24, c_34, c_50, c_65]; rfl))]; exact hP) (by rw [if_neg (by first | (simp [c_12, c_24, c_34, c_50, c_65]; done) | (simp [c_12, c_24, c_34, c_50, c_65]; omega) | (simp [c_12, c_24, c_34, c_50, c_65]; rfl))]; exact hD) hS d_ST_trace_70 ?_
            first | (simp [trR, c_12, c_24, c_34, hkc, hkc2, hkc3, c_50, c_65]; done) | (simp [trR, c_12, c_24, c_34, hkc, hkc2, hkc3, c_50, c_65]; omega) | (simp [trR, c_12, c_24, c_34, hkc, hkc2, hkc3, c_50, c_65]; rfl)
        · -- 50: not taken
          refine lv_bipush (v := (-3)) hx hb d_ST_trace_53 (by decide) ?_
          refine hret _ _ _ _ _ (by rw [if_neg (by first | (simp [c_12, c_24, c_34, c_50]; done) | (simp [c_12, c_24, c_34, c_50]; omega) | (simp [c_12, c_24, c_34, c_50]; rfl))]; exact hP) (by rw [if_neg (by first | (simp [c_12, c_24, c_34, c_50]; done) | (simp [c_12, c_24, c_34, c_50]; omega) | (simp [c_12, c_24, c_34, c_50]; rfl))]; exact hD) hS d_ST_trace_55 ?_
          first | (simp [trR, c_12, c_24, c_34, hkc, hkc2, hkc3, c_50]; done) | (simp [trR, c_12, c_24, c_34, hkc, hkc2, hkc3, c_50]; omega) | (simp [trR, c_12, c_24, c_34, hkc, hkc2, hkc3, c_50]; rfl)
      · -- 34: not taken
        refine lv_bipush (v := (-2)) hx hb d_ST_trace_37 (by decide) ?_
        refine hret _ _ _ _ _ (by rw [if_neg (by first | (simp [c_12, c_24, c_34]; done) | (simp [c_12, c_24, c_34]; omega) | (simp [c_12, c_24, c_34]; rfl))]; exact hP) (by rw [if_neg (by first | (simp [c_12, c_24, c_34]; done) | (simp [c_12, c_24, c_34]; omega) | (simp [c_12, c_24, c_34]; rfl))]; exact hD) hS d_ST_trace_39 ?_
        first | (simp [trR, c_12, c_24, c_34]; done) | (simp [trR, c_12, c_24, c_34]; omega) | (simp [trR, c_12, c_24, c_34]; rfl)
  · -- 12: not taken
    refine lv_iconst (v := (-1)) hx hb d_ST_trace_15 (by decide) ?_
    refine hret _ _ _ _ _ (by rw [if_neg (by first | (simp [c_12]; done) | (simp [c_12]; omega) | (simp [c_12]; rfl))]; exact hP) (by rw [if_neg (by first | (simp [c_12]; done) | (simp [c_12]; omega) | (simp [c_12]; rfl))]; exact hD) hS d_ST_trace_16 ?_
    first | (simp [trR, c_12]; done) | (simp [trR, c_12]; omega) | (simp [trR, c_12]; rfl)
set_option maxHeartbeats 4000000 in
set_option maxRecDepth 100000 in
theorem k_ST_open (l : Launch) (g : va_G) (a rB rT : Nat → Nat) (cI cJ cII cJJ : ClassId) (nc : Nat) (nv : Nat) (ng : Nat) (kd : Nat → Int32) (vo : Nat → Nat) (nu : Nat → Nat) (nd : Nat → Nat) (en : Nat → Nat) (br : Nat → Nat → Nat) (bc : Nat → Nat) (un : Nat → Nat) (eu : Nat → Nat) (li : Nat → Nat) (tb : Nat → Nat → Int64) (cc0 : Nat) (cp : Nat → Nat) (cu : Nat → Nat) (cd : Nat → Nat) (tc : Nat) (ts : Nat → Nat) (tf : Nat → Nat) (ox : Bool) (ow : Nat → Nat) (ob : Nat → Nat) (ra : Nat) (rb : Nat) (gc : Nat) (gr : Nat) (gk : Nat → Nat) (gg : Nat → Nat) (gp : Nat → Nat) (gt : Nat → Nat) (sa : Nat) (sb : Nat) (x : Int32) (hc : gc ≤ 30) (hr : gr ≤ 100) (hgk : ∀ j, gk j < 1000) (hgg : ∀ j, gg j < 1000) (hgt : ∀ j, gt j < 1000) : ct_i l g vwCl (tyS cI cJ cII cJJ) y_ST_open c_ST_open 2 (some .int) ({ frames := 3, cells := 0, slots := 0, locals := 67 } : Room) [.ref (a 0), .int x] (stW a rB rT cI cJ cII cJJ nc nv ng kd vo nu nd en br bc un eu li tb cc0 cp cu cd tc ts tf ox ow ob ra rb gc gr gk gg gp gt sa sb) (stW a rB rT cI cJ cII cJJ nc nv ng kd vo nu nd en br bc un eu li tb cc0 cp cu cd tc ts tf ox ow ob ra rb gc gr gk gg gp gt sa sb) (if x < 0 then 0 else fO (gOp gk gg gt gr) (pOp gp gt gr) gc x.toNatClampNeg) := by
  refine ct_i.intro (by decide) (Nat.le_of_ble_eq_true rfl) ?_
  intro p e s m args below meth c Q A ls hx hb hml hT hown hA hK hN hret hP hD hS hl
  have hown : s.vm.findClass R_ST = some m.cls := hown
  have hl : lv_has ls 2 [(0, .ref (a 0)), (1, .int x)] := hl
  refine lv_iload_n hx hb d_ST_open_0 rfl (lv_at hl 1 rfl) ?_
  refine lv_if_ge (tgt := 8) hx hb d_ST_open_1 (by decide) (fun c_1 => ?_) (fun c_1 => ?_)
  · -- 1: taken
    have c_1 : ¬ x < 0 := (my_i0 x).1.mp c_1
    obtain ⟨k, hk1, rfl⟩ := nI_of c_1
    have hkc : (nI k).toNatClampNeg = k := nI_clamp hk1
    refine lv_aload_n hx hb d_ST_open_8 rfl (lv_at hl 0 rfl) ?_
    refine va_get (D := g) (ci := 0) (v := .ref (a 6)) (C := R_ST) (T := F_ST) (N := 7) hx hb hT i_ST hown hK hP 0 rfl rfl 5 (by decide) (hT _ tw_228) (fun _ h9 => h9) rfl d_ST_open_9 ?_
    refine lv_iload_n hx hb d_ST_open_12 rfl (lv_at hl 1 rfl) ?_
    refine my_V_i (q0 := 6) (ci := 6) (C := R_Go) (As := [.int (nI k)]) (n := 1) (k_Go_findOpen l g a rB rT cI cJ cII cJJ nc nv ng kd vo nu nd en br bc un eu li tb cc0 cp cu cd tc ts tf ox ow ob ra rb gc gr gk gg gp gt sa sb k hk1 hc hr hgk hgg hgt) hx hb hml hown hT hN tw_508 tw_509 tw_510 tw_8 tw_511 (by decide +kernel) rfl rfl ⟨Nat.le_of_ble_eq_true rfl, Nat.le_of_ble_eq_true rfl⟩ ⟨Nat.zero_le _, Nat.zero_le _⟩ hK hP hD hS hA rfl rfl rfl hl rfl (Nat.le_of_ble_eq_true rfl) d_ST_open_13 (fun H locs hP hD hS => ?_)
    refine hret _ _ _ _ _ hP hD hS d_ST_open_16 ?_
    rw [if_neg c_1, hkc]
  · -- 1: not taken
    refine lv_iconst (v := (nI 0)) hx hb d_ST_open_4 (by decide) ?_
    refine lv_goto (tgt := 16) hx hb d_ST_open_5 (by decide) ?_
    refine hret _ _ _ _ _ hP hD hS d_ST_open_16 ?_
    rw [if_pos (by rw [Int32.lt_iff_toInt_lt]; rw [Int32.le_iff_toInt_le] at c_1; omega)]; rfl
set_option maxHeartbeats 4000000 in
set_option maxRecDepth 100000 in
theorem k_ST_gate (l : Launch) (g : va_G) (a rB rT : Nat → Nat) (cI cJ cII cJJ : ClassId) (nc : Nat) (nv : Nat) (ng : Nat) (kd : Nat → Int32) (vo : Nat → Nat) (nu : Nat → Nat) (nd : Nat → Nat) (en : Nat → Nat) (br : Nat → Nat → Nat) (bc : Nat → Nat) (un : Nat → Nat) (eu : Nat → Nat) (li : Nat → Nat) (tb : Nat → Nat → Int64) (cc0 : Nat) (cp : Nat → Nat) (cu : Nat → Nat) (cd : Nat → Nat) (tc : Nat) (ts : Nat → Nat) (tf : Nat → Nat) (ox : Bool) (ow : Nat → Nat) (ob : Nat → Nat) (ra : Nat) (rb : Nat) (gc : Nat) (gr : Nat) (gk : Nat → Nat) (gg : Nat → Nat) (gp : Nat → Nat) (gt : Nat → Nat) (sa : Nat) (sb : Nat) (k : Int32) (n : Int32) (hnc : nc = nv + ng) (hnv : nv ≤ 12) (hng : ng ≤ 20) : ct_i l g vwCl (tyS cI cJ cII cJJ) y_ST_gate c_ST_gate 3 (some .int) ({ frames := 2, cells := 0, slots := 0, locals := 43 } : Room) [.ref (a 0), .int k, .int n] (stW a rB rT cI cJ cII cJJ nc nv ng kd vo nu nd en br bc un eu li tb cc0 cp cu cd tc ts tf ox ow ob ra rb gc gr gk gg gp gt sa sb) (if isK k n = true ∧ ng < 20 then (stW a rB rT cI cJ cII cJJ (nc + 1) nv (ng + 1) (va_up kd (nc + 1) k) (va_up vo (nc + 1) n.toNatClampNeg) nu nd en br bc un eu li tb cc0 cp cu cd tc ts tf ox ow ob ra rb gc gr gk gg gp gt sa sb) else (stW a rB rT cI cJ cII cJJ nc nv ng kd vo nu nd en br bc un eu li tb cc0 cp cu cd tc ts tf ox ow ob ra rb gc gr gk gg gp gt sa sb)) (gaR nc ng k n) := by
  refine ct_i.intro (by decide) (Nat.le_of_ble_eq_true rfl) ?_
  intro p e s m args below meth c Q A ls hx hb hml hT hown hA hK hN hret hP hD hS hl
  have hown : s.vm.findClass R_ST = some m.cls := hown
  have hl : lv_has ls 3 [(0, .ref (a 0)), (1, .int k), (2, .int n)] := hl
  refine lv_iload_n hx hb d_ST_gate_0 rfl (lv_at hl 1 rfl) ?_
  refine lv_iload_n hx hb d_ST_gate_1 rfl (lv_at hl 2 rfl) ?_
  refine my_S_i (As := [.int k, .int n]) (n := 2) (k_ST_isKind l g vwCl (tyS cI cJ cII cJJ) (stW a rB rT cI cJ cII cJJ nc nv ng kd vo nu nd en br bc un eu li tb cc0 cp cu cd tc ts tf ox ow ob ra rb gc gr gk gg gp gt sa sb) k n ) hx hb hml hown hT hN tw_274 tw_275 tw_1 tw_276 (by decide +kernel) rfl rfl ⟨Nat.le_of_ble_eq_true rfl, Nat.le_of_ble_eq_true rfl⟩ ⟨Nat.zero_le _, Nat.zero_le _⟩ hK hP hD hS hA rfl hl rfl (Nat.le_of_ble_eq_true rfl) d_ST_gate_2 (fun H locs hP hD hS => ?_)
  refine my_if_ne_b (tgt := 11) hx hb d_ST_gate_5 (by decide) (fun c_5 => ?_) (fun c_5 => ?_)
  · -- 5: taken
    obtain ⟨n1, hn1, rfl⟩ := isK_nat c_5
    have hkc : (nI n1).toNatClampNeg = n1 := nI_clamp (by omega)
    simp only [hkc] at hret
    refine lv_aload_n hx hb d_ST_gate_11 rfl (lv_at hl 0 rfl) ?_
    refine va_get (D := g) (ci := 0) (v := .ref (a 1)) (C := R_ST) (T := F_ST) (N := 7) hx hb hT i_ST hown hK hP 0 rfl rfl 0 (by decide) (hT _ tw_223) (fun _ h9 => h9) rfl d_ST_gate_12 ?_
    refine va_getN (D := g) (ci := 1) (v := .int (nI ng)) (C := R_No) (T := F_No) (N := 13) hx hb hT i_No hown hK hP 1 rfl rfl 2 (by decide) (va_Nw.use rfl (hN _ tw_38)) (fun _ h9 => h9) rfl d_ST_gate_15 ?_
    refine lv_bipush (v := (nI 20)) hx hb d_ST_gate_18 (by decide) ?_
    refine my_icmp_lt (tgt := 26) (a := ng) (b := 20) hx hb d_ST_gate_20 (by decide) (by omega) (by omega) (fun c_20 => ?_) (fun c_20 => ?_)
    · -- 20: taken
      refine lv_aload_n hx hb d_ST_gate_26 rfl (lv_at hl 0 rfl) ?_
      refine va_get (D := g) (ci := 0) (v := .ref (a 1)) (C := R_ST) (T := F_ST) (N := 7) hx hb hT i_ST hown hK hP 0 rfl rfl 0 (by decide) (hT _ tw_223) (fun _ h9 => h9) rfl d_ST_gate_27 ?_
      refine lv_iload_n hx hb d_ST_gate_30 rfl (lv_at hl 1 rfl) ?_
      refine lv_iload_n hx hb d_ST_gate_31 rfl (lv_at hl 2 rfl) ?_
      refine my_V_i (q0 := 1) (ci := 1) (C := R_No) (As := [.int k, .int (nI n1)]) (n := 2) (k_No_addGate l g a rB rT cI cJ cII cJJ nc nv ng kd vo nu nd en br bc un eu li tb cc0 cp cu cd tc ts tf ox ow ob ra rb gc gr gk gg gp gt sa sb k n1 (by omega)) hx hb hml hown hT hN tw_280 tw_281 tw_282 tw_2 tw_283 (by decide +kernel) rfl rfl ⟨Nat.le_of_ble_eq_true rfl, Nat.le_of_ble_eq_true rfl⟩ ⟨Nat.zero_le _, Nat.zero_le _⟩ hK hP hD hS hA rfl rfl rfl hl rfl (Nat.le_of_ble_eq_true rfl) d_ST_gate_32 (fun H locs hP hD hS => ?_)
      refine hret _ _ _ _ _ (by rw [if_pos (by first | (simp [c_5, c_20]; done) | (simp [c_5, c_20]; omega) | (simp [c_5, c_20]; rfl))]; exact hP) (by rw [if_pos (by first | (simp [c_5, c_20]; done) | (simp [c_5, c_20]; omega) | (simp [c_5, c_20]; rfl))]; exact hD) hS d_ST_gate_35 ?_
      first | (simp [gaR, c_5, hkc, c_20]; done) | (simp [gaR, c_5, hkc, c_20]; omega) | (simp [gaR, c_5, hkc, c_20]; rfl)
    · -- 20: not taken
      refine lv_bipush (v := (-4)) hx hb d_ST_gate_23 (by decide) ?_
      refine hret _ _ _ _ _ (by rw [if_neg (by first | (simp [c_5, c_20]; done) | (simp [c_5, c_20]; omega) | (simp [c_5, c_20]; rfl))]; exact hP) (by rw [if_neg (by first | (simp [c_5, c_20]; done) | (simp [c_5, c_20]; omega) | (simp [c_5, c_20]; rfl))]; exact hD) hS d_ST_gate_25 ?_
      first | (simp [gaR, c_5, hkc, c_20]; done) | (simp [gaR, c_5, hkc, c_20]; omega) | (simp [gaR, c_5, hkc, c_20]; rfl)
  · -- 5: not taken
    refine lv_bipush (v := (-2)) hx hb d_ST_gate_8 (by decide) ?_
    refine hret _ _ _ _ _ (by rw [if_neg (by first | (simp [c_5]; done) | (simp [c_5]; omega) | (simp [c_5]; rfl))]; exact hP) (by rw [if_neg (by first | (simp [c_5]; done) | (simp [c_5]; omega) | (simp [c_5]; rfl))]; exact hD) hS d_ST_gate_10 ?_
    first | (simp [gaR, c_5]; done) | (simp [gaR, c_5]; omega) | (simp [gaR, c_5]; rfl)
