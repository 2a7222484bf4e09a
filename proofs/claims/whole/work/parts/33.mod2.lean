def mK (k n : Int32) : Bool := isI k.toInt64 (lN 0) (lN 2) && (if k = nI 2 then isI n.toInt64 (lN 1) (lN 10) else decide (n = 0))
theorem mK_nat {k n : Int32} (h : mK k n = true) : (∃ j : Nat, j ≤ 2 ∧ k = nI j) ∧ ∃ j : Nat, j ≤ 10 ∧ n = nI j := by
  simp only [mK, Bool.and_eq_true] at h
  obtain ⟨h1, h2⟩ := h
  obtain ⟨j, -, hj, e⟩ := isI_nat (by decide) (by decide) h1
  refine ⟨⟨j, hj, e⟩, ?_⟩
  by_cases c : k = nI 2
  · rw [if_pos c] at h2
    obtain ⟨i, -, hi, e2⟩ := isI_nat (by decide) (by decide) h2
    exact ⟨i, hi, e2⟩
  · rw [if_neg c, decide_eq_true_eq] at h2
    exact ⟨0, by omega, h2⟩
def mgaR (mn mg : Nat) (k n : Int32) : Int32 := if mK k n = false then -2 else if mg = 20 then -4 else nI (mn + 1)
def mevR (mn mv : Nat) (u d : Int64) : Int32 := if isI d (lN 1) (lN 10) = false ∨ u < lN 0 then -2 else if mv = 12 then -4 else if u ≤ d then nI (mn + 1) else 0
def mgrR (a b c : Int32) : Int32 := if isI a.toInt64 (lN 0) (lN 3) = false ∨ isI b.toInt64 (lN 0) (lN 4) = false ∨ isI c.toInt64 (lN 0) (lN 3) = false then -2 else if a = 0 ∨ b = 0 ∨ c = 0 ∨ ¬ nI 7 ≤ a + b + c then 0 else a + b + c - nI 6
def mgoR (gs : Nat) (x : Int32) : Int32 := if isI x.toInt64 (lN 0) (lN 4) = false then -2 else if gs = 30 then -4 else nI (gs + 1)
def mtrR (gs : Nat) (rg rp rt : Nat → Nat) (rs : Nat) (x y z : Int32) : Int32 := if isI x.toInt64 (lN 1) (lN gs) = false then -1 else if isI y.toInt64 (lN 1) (lN 50) = false ∨ isI z.toInt64 (lN 0) (lN 50) = false then -2 else if hR rg rp rt x.toNatClampNeg y.toNatClampNeg z.toNatClampNeg rs = true then -3 else if rs = 100 then -4 else nI (rs + 1)
def mcoR (mn : Nat) (mk : Nat → Nat) (mc : Nat) (x y : Int32) (u d : Int64) : Int32 := if miE mn mk x = false ∨ miE mn mk y = false then -1 else if x = y ∨ isI d (lN 1) (lN 10) = false ∨ isI u (lN 0) d = false then -2 else if mc = 4 then -4 else nI (mc + 1)
theorem miE_nat {mn : Nat} {mk : Nat → Nat} {x : Int32} (hmn : mn ≤ 32) (h : miE mn mk x = true) : ∃ k : Nat, 1 ≤ k ∧ k ≤ mn ∧ x = nI k := by
  simp only [miE, Bool.and_eq_true] at h
  exact isI_nat (by decide) (by omega) h.1
theorem miG_nat {mn : Nat} {mk : Nat → Nat} {x : Int32} (hmn : mn ≤ 32) (h : miG mn mk x = true) : ∃ k : Nat, 1 ≤ k ∧ k ≤ mn ∧ x = nI k := by
  simp only [miG, Bool.and_eq_true] at h
  exact isI_nat (by decide) (by omega) h.1
theorem isI_u {u : Int64} {d : Nat} (hd : d < 2 ^ 63) (h : isI u (lN 0) (lN d) = true) : ∃ k : Nat, k ≤ d ∧ u = lN k := by
  simp only [isI, Bool.and_eq_true, decide_eq_true_eq] at h
  exact u_nat h.1 ((my_j0 _ _).mpr h.2) hd
def roF (rg rp rt : Nat → Nat) (x y : Nat) (t : Bool) : Nat → Nat
  | 0 => 0
  | i + 1 => roF rg rp rt x y t i + (if (x = 0 ∨ rg i = x) ∧ (y = 0 ∨ rp i = y) ∧ (t = false ∨ 0 < rt i) then 1 else 0)
theorem roF_le (rg rp rt : Nat → Nat) (x y : Nat) (t : Bool) : ∀ i, roF rg rp rt x y t i ≤ i
  | 0 => Nat.le_refl _
  | i + 1 => by
    have := roF_le rg rp rt x y t i
    show roF rg rp rt x y t i + _ ≤ i + 1
    split <;> omega
def oL (op : Nat → Bool) (x : Int32) : Nat → Nat → Nat → Nat × Nat
  | 0, _, n => (0, n)
  | f + 1, j, n => if op j = true then (if nI n = x then (j, n) else oL op x f (j + 1) (n + 1)) else oL op x f (j + 1) n
def mo1 (gl rg rp rt : Nat → Nat) (rs j : Nat) : Bool := decide (0 < gl j) && decide (roF rg rp rt j 0 true rs = 0)
def mo2 (rg rp rt : Nat → Nat) (rs j : Nat) : Bool := decide (0 < roF rg rp rt 0 j false rs) && decide (roF rg rp rt 0 j true rs = 0)
def moR (op1 op2 : Nat → Bool) (gs : Nat) (x : Int32) : Int32 :=
  if (oL op1 x gs 1 0).1 = 0 then (if (oL op2 x 50 1 (oL op1 x gs 1 0).2).1 = 0 then 0 else -(nI (oL op2 x 50 1 (oL op1 x gs 1 0).2).1)) else nI (oL op1 x gs 1 0).1
set_option maxHeartbeats 4000000 in
set_option maxRecDepth 100000 in
theorem k_Mo_event (l : Launch) (g : va_G) (b : Nat → Nat) (cI cJ cZ : ClassId) (f0 : Nat) (mn : Nat) (mv : Nat) (mg : Nat) (mk : Nat → Nat) (mo : Nat → Nat) (mu : Nat → Nat) (md : Nat → Nat) (ms : Nat → Nat) (mb : Nat → Nat) (mc : Nat) (m1 : Nat → Nat) (m2 : Nat → Nat) (m3 : Nat → Nat) (m4 : Nat → Nat) (we : Bool) (ud : Nat → Bool) (my : Nat) (ea : Nat → Nat) (od : Nat) (oo : Nat → Nat) (dn : Nat → Bool) (va : Nat → Nat) (ho : Nat → Bool) (wt : Nat → Nat) (cm : Nat) (co : Nat → Nat) (te : Nat → Nat) (tm : Nat) (gs : Nat) (gl : Nat → Nat) (rs : Nat) (rg : Nat → Nat) (rp : Nat → Nat) (rt : Nat → Nat) (u : Int64) (d : Int64) (hmn : mn ≤ 32) (hmv : mv ≤ 12) (hml : mv < 12 → mn < 32) : ct_i l g vwCl (tyM cI cJ cZ) y_Mo_event c_Mo_event 5 (some .int) ({ frames := 1, cells := 0, slots := 0, locals := 25 } : Room) [.ref (b 0), .long u, .long d] (moW b cI cJ cZ f0 mn mv mg mk mo mu md ms mb mc m1 m2 m3 m4 we ud my ea od oo dn va ho wt cm co te tm gs gl rs rg rp rt) (if isI d (lN 1) (lN 10) = true ∧ ¬ u < lN 0 ∧ ¬ mv = 12 ∧ u ≤ d then (moW b cI cJ cZ 0 (mn + 1) (mv + 1) mg (va_up mk (mn + 1) 0) mo (va_up mu (mn + 1) (lnat u)) (va_up md (mn + 1) (lnat d)) ms mb mc m1 m2 m3 m4 we ud my ea od oo dn va ho wt cm co te tm gs gl rs rg rp rt) else (moW b cI cJ cZ 0 mn mv mg mk mo mu md ms mb mc m1 m2 m3 m4 we ud my ea od oo dn va ho wt cm co te tm gs gl rs rg rp rt)) (mevR mn mv u d) := by
  refine ct_i.intro (by decide) (Nat.le_of_ble_eq_true rfl) ?_
  intro p e s m args below meth c Q A ls hx hb hml hT hown hA hK hN hret hP hD hS hl
  have hown : s.vm.findClass R_Mo = some m.cls := hown
  have hl : lv_has ls 5 [(0, .ref (b 0)), (1, .long u), (3, .long d)] := hl
  refine lv_aload_n hx hb d_Mo_event_0 rfl (lv_at hl 0 rfl) ?_
  refine lv_iconst (v := (nI 0)) hx hb d_Mo_event_1 (by decide) ?_
  refine va_put (D := g) (ci := 8) (v := .int (nI 0)) (ty := .int) (C := R_Mo) (T := F_Mo) (N := 35) hx hb hT i_Mo t_Mo t_Mo_ok n_Mo hown hK hP hD hS 0 rfl rfl 0 (by decide) (hT _ tw_621) (fun _ h9 => h9) rfl (by decide +kernel) rfl rfl (Nat.le_of_ble_eq_true rfl) d_Mo_event_2 (fun H locs hP hD hS => ?_)
  have hP : va_P g vwCl (moW b cI cJ cZ 0 mn mv mg mk mo mu md ms mb mc m1 m2 m3 m4 we ud my ea od oo dn va ho wt cm co te tm gs gl rs rg rp rt) H := hP
  have hD : va_D A (moW b cI cJ cZ 0 mn mv mg mk mo mu md ms mb mc m1 m2 m3 m4 we ud my ea od oo dn va ho wt cm co te tm gs gl rs rg rp rt) := hD
  refine lv_lload_n hx hb d_Mo_event_5 rfl (lv_at hl 2 rfl) ?_
  refine lv_lconst (v := (lN 1)) hx hb d_Mo_event_6 (by decide) ?_
  refine lv_ldc2 (v := (lN 10)) hx hb hown (hT _ tw_736) d_Mo_event_7 ?_
  refine my_S_i (As := [.long d, .long (lN 1), .long (lN 10)]) (n := 3) (k_Mo_isIn l g vwCl (tyM cI cJ cZ) (moW b cI cJ cZ 0 mn mv mg mk mo mu md ms mb mc m1 m2 m3 m4 we ud my ea od oo dn va ho wt cm co te tm gs gl rs rg rp rt) d (lN 1) (lN 10) ) hx hb hml hown hT hN tw_737 tw_738 tw_9 tw_739 (by decide +kernel) rfl rfl ⟨Nat.le_of_ble_eq_true rfl, Nat.le_of_ble_eq_true rfl⟩ ⟨Nat.zero_le _, Nat.zero_le _⟩ hK hP hD hS hA rfl hl rfl (Nat.le_of_ble_eq_true rfl) d_Mo_event_10 (fun H locs hP hD hS => ?_)
  refine my_if_eq_b (tgt := 22) hx hb d_Mo_event_13 (by decide) (fun c_13 => ?_) (fun c_13 => ?_)
  · -- 13: taken
    refine lv_bipush (v := (-2)) hx hb d_Mo_event_22 (by decide) ?_
    refine hret _ _ _ _ _ (by rw [if_neg (by intro hh; first | exact absurd (hh.1.symm.trans c_13) (by decide) | exact hh.2.1 c_18 | exact hh.2.2.1 c_31 | exact c_39 hh.2.2.2)]; exact hP) (by rw [if_neg (by intro hh; first | exact absurd (hh.1.symm.trans c_13) (by decide) | exact hh.2.1 c_18 | exact hh.2.2.1 c_31 | exact c_39 hh.2.2.2)]; exact hD) hS d_Mo_event_24 ?_
    rw [mevR, if_pos (by first | exact Or.inl c_13 | exact Or.inr c_18)]
  · -- 13: not taken
    refine lv_lload_n hx hb d_Mo_event_16 rfl (lv_at hl 1 rfl) ?_
    refine lv_lconst (v := (lN 0)) hx hb d_Mo_event_17 (by decide) ?_
    refine my_lcmpR_ge (tgt := 25) hx hb d_Mo_event_18 d_Mo_event_19 (by decide) (fun c_18 => ?_) (fun c_18 => ?_)
    · -- 18: taken
      have c_18 : ¬ u < lN 0 := (my_j0 _ _).mp c_18
      refine lv_aload_n hx hb d_Mo_event_25 rfl (lv_at hl 0 rfl) ?_
      refine va_get (D := g) (ci := 8) (v := .int (nI mv)) (C := R_Mo) (T := F_Mo) (N := 35) hx hb hT i_Mo hown hK hP 0 rfl rfl 2 (by decide) (hT _ tw_623) (fun _ h9 => h9) rfl d_Mo_event_26 ?_
      refine lv_bipush (v := (nI 12)) hx hb d_Mo_event_29 (by decide) ?_
      refine my_icmp_ne (tgt := 37) (a := mv) (b := 12) hx hb d_Mo_event_31 (by decide) (by omega) (by omega) (fun c_31 => ?_) (fun c_31 => ?_)
      · -- 31: taken
        refine lv_lload_n hx hb d_Mo_event_37 rfl (lv_at hl 1 rfl) ?_
        refine lv_lload_n hx hb d_Mo_event_38 rfl (lv_at hl 2 rfl) ?_
        refine my_lcmpR_le (tgt := 45) hx hb d_Mo_event_39 d_Mo_event_40 (by decide) (fun c_39 => ?_) (fun c_39 => ?_)
        · -- 39: taken
          obtain ⟨d1, hd1, hd2, rfl⟩ := isD_nat c_13
          obtain ⟨u1, hu1, rfl⟩ := u_nat c_18 c_39 (by omega)
          have hkc3 : lnat (lN d1) = d1 := lnat_lN (by omega)
          have hkc4 : lnat (lN u1) = u1 := lnat_lN (by omega)
          simp only [hkc3, hkc4] at hret
          refine lv_aload_n hx hb d_Mo_event_45 rfl (lv_at hl 0 rfl) ?_
          refine lv_dup hx hb d_Mo_event_46 rfl ?_
          refine va_get (D := g) (ci := 8) (v := .int (nI mn)) (C := R_Mo) (T := F_Mo) (N := 35) hx hb hT i_Mo hown hK hP 0 rfl rfl 1 (by decide) (hT _ tw_622) (fun _ h9 => h9) rfl d_Mo_event_47 ?_
          refine lv_iconst (v := (nI 1)) hx hb d_Mo_event_50 (by decide) ?_
          refine lv_iadd hx hb d_Mo_event_51 ?_
          refine my_ei (nI_add mn 1) ?_
          refine va_put (D := g) (ci := 8) (v := .int (nI (mn + 1))) (ty := .int) (C := R_Mo) (T := F_Mo) (N := 35) hx hb hT i_Mo t_Mo t_Mo_ok n_Mo hown hK hP hD hS 0 rfl rfl 1 (by decide) (hT _ tw_622) (fun _ h9 => h9) rfl (by decide +kernel) rfl rfl (Nat.le_of_ble_eq_true rfl) d_Mo_event_52 (fun H locs hP hD hS => ?_)
          have hP : va_P g vwCl (moW b cI cJ cZ 0 (mn + 1) mv mg mk mo mu md ms mb mc m1 m2 m3 m4 we ud my ea od oo dn va ho wt cm co te tm gs gl rs rg rp rt) H := hP
          have hD : va_D A (moW b cI cJ cZ 0 (mn + 1) mv mg mk mo mu md ms mb mc m1 m2 m3 m4 we ud my ea od oo dn va ho wt cm co te tm gs gl rs rg rp rt) := hD
          refine lv_aload_n hx hb d_Mo_event_55 rfl (lv_at hl 0 rfl) ?_
          refine lv_dup hx hb d_Mo_event_56 rfl ?_
          refine va_get (D := g) (ci := 8) (v := .int (nI mv)) (C := R_Mo) (T := F_Mo) (N := 35) hx hb hT i_Mo hown hK hP 0 rfl rfl 2 (by decide) (hT _ tw_623) (fun _ h9 => h9) rfl d_Mo_event_57 ?_
          refine lv_iconst (v := (nI 1)) hx hb d_Mo_event_60 (by decide) ?_
          refine lv_iadd hx hb d_Mo_event_61 ?_
          refine my_ei (nI_add mv 1) ?_
          refine va_put (D := g) (ci := 8) (v := .int (nI (mv + 1))) (ty := .int) (C := R_Mo) (T := F_Mo) (N := 35) hx hb hT i_Mo t_Mo t_Mo_ok n_Mo hown hK hP hD hS 0 rfl rfl 2 (by decide) (hT _ tw_623) (fun _ h9 => h9) rfl (by decide +kernel) rfl rfl (Nat.le_of_ble_eq_true rfl) d_Mo_event_62 (fun H locs hP hD hS => ?_)
          have hP : va_P g vwCl (moW b cI cJ cZ 0 (mn + 1) (mv + 1) mg mk mo mu md ms mb mc m1 m2 m3 m4 we ud my ea od oo dn va ho wt cm co te tm gs gl rs rg rp rt) H := hP
          have hD : va_D A (moW b cI cJ cZ 0 (mn + 1) (mv + 1) mg mk mo mu md ms mb mc m1 m2 m3 m4 we ud my ea od oo dn va ho wt cm co te tm gs gl rs rg rp rt) := hD
          refine lv_aload_n hx hb d_Mo_event_65 rfl (lv_at hl 0 rfl) ?_
          refine va_get (D := g) (ci := 8) (v := .ref (b 1)) (C := R_Mo) (T := F_Mo) (N := 35) hx hb hT i_Mo hown hK hP 0 rfl rfl 4 (by decide) (hT _ tw_625) (fun _ h9 => h9) rfl d_Mo_event_66 ?_
          refine lv_aload_n hx hb d_Mo_event_69 rfl (lv_at hl 0 rfl) ?_
          refine va_get (D := g) (ci := 8) (v := .int (nI (mn + 1))) (C := R_Mo) (T := F_Mo) (N := 35) hx hb hT i_Mo hown hK hP 0 rfl rfl 1 (by decide) (hT _ tw_622) (fun _ h9 => h9) rfl d_Mo_event_70 ?_
          refine lv_iconst (v := (nI 0)) hx hb d_Mo_event_73 (by decide) ?_
          refine my_iast (i := mn + 1) hx hb hK hP hD hS 1 0 rfl rfl (by omega) (by decide) (my_upN _ _ _) (w' := (moW b cI cJ cZ 0 (mn + 1) (mv + 1) mg (va_up mk (mn + 1) 0) mo mu md ms mb mc m1 m2 m3 m4 we ud my ea od oo dn va ho wt cm co te tm gs gl rs rg rp rt)) rfl d_Mo_event_74 (fun H locs hP hD hS => ?_)
          refine lv_aload_n hx hb d_Mo_event_75 rfl (lv_at hl 0 rfl) ?_
          refine va_get (D := g) (ci := 8) (v := .ref (b 3)) (C := R_Mo) (T := F_Mo) (N := 35) hx hb hT i_Mo hown hK hP 0 rfl rfl 6 (by decide) (hT _ tw_627) (fun _ h9 => h9) rfl d_Mo_event_76 ?_
          refine lv_aload_n hx hb d_Mo_event_79 rfl (lv_at hl 0 rfl) ?_
          refine va_get (D := g) (ci := 8) (v := .int (nI (mn + 1))) (C := R_Mo) (T := F_Mo) (N := 35) hx hb hT i_Mo hown hK hP 0 rfl rfl 1 (by decide) (hT _ tw_622) (fun _ h9 => h9) rfl d_Mo_event_80 ?_
          refine lv_lload_n hx hb d_Mo_event_83 rfl (lv_at hl 1 rfl) ?_
          refine lv_l2i (v := nI u1) hx hb d_Mo_event_84 (lN_i _) ?_
          refine my_iast (i := mn + 1) hx hb hK hP hD hS 3 0 rfl rfl (by omega) (by decide) (my_upN _ _ _) (w' := (moW b cI cJ cZ 0 (mn + 1) (mv + 1) mg (va_up mk (mn + 1) 0) mo (va_up mu (mn + 1) u1) md ms mb mc m1 m2 m3 m4 we ud my ea od oo dn va ho wt cm co te tm gs gl rs rg rp rt)) rfl d_Mo_event_85 (fun H locs hP hD hS => ?_)
          refine lv_aload_n hx hb d_Mo_event_86 rfl (lv_at hl 0 rfl) ?_
          refine va_get (D := g) (ci := 8) (v := .ref (b 4)) (C := R_Mo) (T := F_Mo) (N := 35) hx hb hT i_Mo hown hK hP 0 rfl rfl 7 (by decide) (hT _ tw_628) (fun _ h9 => h9) rfl d_Mo_event_87 ?_
          refine lv_aload_n hx hb d_Mo_event_90 rfl (lv_at hl 0 rfl) ?_
          refine va_get (D := g) (ci := 8) (v := .int (nI (mn + 1))) (C := R_Mo) (T := F_Mo) (N := 35) hx hb hT i_Mo hown hK hP 0 rfl rfl 1 (by decide) (hT _ tw_622) (fun _ h9 => h9) rfl d_Mo_event_91 ?_
          refine lv_lload_n hx hb d_Mo_event_94 rfl (lv_at hl 2 rfl) ?_
          refine lv_l2i (v := nI d1) hx hb d_Mo_event_95 (lN_i _) ?_
          refine my_iast (i := mn + 1) hx hb hK hP hD hS 4 0 rfl rfl (by omega) (by decide) (my_upN _ _ _) (w' := (moW b cI cJ cZ 0 (mn + 1) (mv + 1) mg (va_up mk (mn + 1) 0) mo (va_up mu (mn + 1) u1) (va_up md (mn + 1) d1) ms mb mc m1 m2 m3 m4 we ud my ea od oo dn va ho wt cm co te tm gs gl rs rg rp rt)) rfl d_Mo_event_96 (fun H locs hP hD hS => ?_)
          refine lv_aload_n hx hb d_Mo_event_97 rfl (lv_at hl 0 rfl) ?_
          refine va_get (D := g) (ci := 8) (v := .int (nI (mn + 1))) (C := R_Mo) (T := F_Mo) (N := 35) hx hb hT i_Mo hown hK hP 0 rfl rfl 1 (by decide) (hT _ tw_622) (fun _ h9 => h9) rfl d_Mo_event_98 ?_
          refine hret _ _ _ _ _ (by rw [if_pos ⟨c_13, c_18, c_31, c_39⟩]; exact hP) (by rw [if_pos ⟨c_13, c_18, c_31, c_39⟩]; exact hD) hS d_Mo_event_101 ?_
          rw [mevR, if_neg (by simp [c_13, c_18]), if_neg c_31, if_pos c_39]
        · -- 39: not taken
          refine lv_iconst (v := (nI 0)) hx hb d_Mo_event_43 (by decide) ?_
          refine hret _ _ _ _ _ (by rw [if_neg (by intro hh; first | exact absurd (hh.1.symm.trans c_13) (by decide) | exact hh.2.1 c_18 | exact hh.2.2.1 c_31 | exact c_39 hh.2.2.2)]; exact hP) (by rw [if_neg (by intro hh; first | exact absurd (hh.1.symm.trans c_13) (by decide) | exact hh.2.1 c_18 | exact hh.2.2.1 c_31 | exact c_39 hh.2.2.2)]; exact hD) hS d_Mo_event_44 ?_
          rw [mevR, if_neg (by simp [c_13, c_18]), if_neg c_31, if_neg c_39]; rfl
      · -- 31: not taken
        refine lv_bipush (v := (-4)) hx hb d_Mo_event_34 (by decide) ?_
        refine hret _ _ _ _ _ (by rw [if_neg (by intro hh; first | exact absurd (hh.1.symm.trans c_13) (by decide) | exact hh.2.1 c_18 | exact hh.2.2.1 c_31 | exact c_39 hh.2.2.2)]; exact hP) (by rw [if_neg (by intro hh; first | exact absurd (hh.1.symm.trans c_13) (by decide) | exact hh.2.1 c_18 | exact hh.2.2.1 c_31 | exact c_39 hh.2.2.2)]; exact hD) hS d_Mo_event_36 ?_
        rw [mevR, if_neg (by simp [c_13, c_18]), if_pos c_31]
    · -- 18: not taken
      have c_18 : u < lN 0 := by rw [Int64.lt_iff_toInt_lt]; rw [Int64.le_iff_toInt_le] at c_18; omega
      refine lv_bipush (v := (-2)) hx hb d_Mo_event_22 (by decide) ?_
      refine hret _ _ _ _ _ (by rw [if_neg (by intro hh; first | exact absurd (hh.1.symm.trans c_13) (by decide) | exact hh.2.1 c_18 | exact hh.2.2.1 c_31 | exact c_39 hh.2.2.2)]; exact hP) (by rw [if_neg (by intro hh; first | exact absurd (hh.1.symm.trans c_13) (by decide) | exact hh.2.1 c_18 | exact hh.2.2.1 c_31 | exact c_39 hh.2.2.2)]; exact hD) hS d_Mo_event_24 ?_
      rw [mevR, if_pos (by first | exact Or.inl c_13 | exact Or.inr c_18)]
set_option maxHeartbeats 4000000 in
set_option maxRecDepth 100000 in
theorem k_Mo_gate (l : Launch) (g : va_G) (b : Nat → Nat) (cI cJ cZ : ClassId) (f0 : Nat) (mn : Nat) (mv : Nat) (mg : Nat) (mk : Nat → Nat) (mo : Nat → Nat) (mu : Nat → Nat) (md : Nat → Nat) (ms : Nat → Nat) (mb : Nat → Nat) (mc : Nat) (m1 : Nat → Nat) (m2 : Nat → Nat) (m3 : Nat → Nat) (m4 : Nat → Nat) (we : Bool) (ud : Nat → Bool) (my : Nat) (ea : Nat → Nat) (od : Nat) (oo : Nat → Nat) (dn : Nat → Bool) (va : Nat → Nat) (ho : Nat → Bool) (wt : Nat → Nat) (cm : Nat) (co : Nat → Nat) (te : Nat → Nat) (tm : Nat) (gs : Nat) (gl : Nat → Nat) (rs : Nat) (rg : Nat → Nat) (rp : Nat → Nat) (rt : Nat → Nat) (k : Int32) (n : Int32) (hmn : mn < 33) (hmg : mg ≤ 20) (hng : mg < 20 → mn < 32) : ct_i l g vwCl (tyM cI cJ cZ) y_Mo_gate c_Mo_gate 3 (some .int) ({ frames := 1, cells := 0, slots := 0, locals := 25 } : Room) [.ref (b 0), .int k, .int n] (moW b cI cJ cZ f0 mn mv mg mk mo mu md ms mb mc m1 m2 m3 m4 we ud my ea od oo dn va ho wt cm co te tm gs gl rs rg rp rt) (if mK k n = true ∧ ¬ mg = 20 then (moW b cI cJ cZ 0 (mn + 1) mv (mg + 1) (va_up mk (mn + 1) (k.toNatClampNeg + 1)) (va_up mo (mn + 1) n.toNatClampNeg) mu md ms mb mc m1 m2 m3 m4 we ud my ea od oo dn va ho wt cm co te tm gs gl rs rg rp rt) else (moW b cI cJ cZ 0 mn mv mg mk mo mu md ms mb mc m1 m2 m3 m4 we ud my ea od oo dn va ho wt cm co te tm gs gl rs rg rp rt)) (mgaR mn mg k n) := by
  refine ct_i.intro (by decide) (Nat.le_of_ble_eq_true rfl) ?_
  intro p e s m args below meth c Q A ls hx hb hml hT hown hA hK hN hret hP hD hS hl
  have hown : s.vm.findClass R_Mo = some m.cls := hown
  have hl : lv_has ls 3 [(0, .ref (b 0)), (1, .int k), (2, .int n)] := hl
  refine lv_aload_n hx hb d_Mo_gate_0 rfl (lv_at hl 0 rfl) ?_
  refine lv_iconst (v := (nI 0)) hx hb d_Mo_gate_1 (by decide) ?_
  refine va_put (D := g) (ci := 8) (v := .int (nI 0)) (ty := .int) (C := R_Mo) (T := F_Mo) (N := 35) hx hb hT i_Mo t_Mo t_Mo_ok n_Mo hown hK hP hD hS 0 rfl rfl 0 (by decide) (hT _ tw_621) (fun _ h9 => h9) rfl (by decide +kernel) rfl rfl (Nat.le_of_ble_eq_true rfl) d_Mo_gate_2 (fun H locs hP hD hS => ?_)
  have hP : va_P g vwCl (moW b cI cJ cZ 0 mn mv mg mk mo mu md ms mb mc m1 m2 m3 m4 we ud my ea od oo dn va ho wt cm co te tm gs gl rs rg rp rt) H := hP
  have hD : va_D A (moW b cI cJ cZ 0 mn mv mg mk mo mu md ms mb mc m1 m2 m3 m4 we ud my ea od oo dn va ho wt cm co te tm gs gl rs rg rp rt) := hD
  refine lv_iload_n hx hb d_Mo_gate_5 rfl (lv_at hl 1 rfl) ?_
  refine lv_i2l (v := k.toInt64) hx hb d_Mo_gate_6 rfl ?_
  refine lv_lconst (v := (lN 0)) hx hb d_Mo_gate_7 (by decide) ?_
  refine lv_ldc2 (v := (lN 2)) hx hb hown (hT _ tw_744) d_Mo_gate_8 ?_
  refine my_S_i (As := [.long k.toInt64, .long (lN 0), .long (lN 2)]) (n := 3) (k_Mo_isIn l g vwCl (tyM cI cJ cZ) (moW b cI cJ cZ 0 mn mv mg mk mo mu md ms mb mc m1 m2 m3 m4 we ud my ea od oo dn va ho wt cm co te tm gs gl rs rg rp rt) k.toInt64 (lN 0) (lN 2) ) hx hb hml hown hT hN tw_737 tw_738 tw_9 tw_739 (by decide +kernel) rfl rfl ⟨Nat.le_of_ble_eq_true rfl, Nat.le_of_ble_eq_true rfl⟩ ⟨Nat.zero_le _, Nat.zero_le _⟩ hK hP hD hS hA rfl hl rfl (Nat.le_of_ble_eq_true rfl) d_Mo_gate_11 (fun H locs hP hD hS => ?_)
  refine my_if_eq_b (tgt := 41) hx hb d_Mo_gate_14 (by decide) (fun c_14 => ?_) (fun c_14 => ?_)
  · -- 14: taken
    have hmK : mK k n = false := by rw [mK, c_14]; rfl
    refine lv_bipush (v := (-2)) hx hb d_Mo_gate_41 (by decide) ?_
    refine hret _ _ _ _ _ (by rw [if_neg (by intro hh; first | exact absurd (hh.1.symm.trans hmK) (by decide) | exact hh.2 c_50)]; exact hP) (by rw [if_neg (by intro hh; first | exact absurd (hh.1.symm.trans hmK) (by decide) | exact hh.2 c_50)]; exact hD) hS d_Mo_gate_43 ?_
    rw [mgaR, if_pos hmK]
  · -- 14: not taken
    refine lv_iload_n hx hb d_Mo_gate_17 rfl (lv_at hl 1 rfl) ?_
    refine lv_iconst (v := (nI 2)) hx hb d_Mo_gate_18 (by decide) ?_
    refine lv_icmp_ne (tgt := 37) hx hb d_Mo_gate_19 (by decide) (fun c_19 => ?_) (fun c_19 => ?_)
    · -- 19: taken
      refine lv_iload_n hx hb d_Mo_gate_37 rfl (lv_at hl 2 rfl) ?_
      refine lv_if_eq (tgt := 44) hx hb d_Mo_gate_38 (by decide) (fun c_38 => ?_) (fun c_38 => ?_)
      · -- 38: taken
        have hmK : mK k n = true := by rw [mK, c_14, if_neg c_19, decide_eq_true c_38]; rfl
        refine lv_aload_n hx hb d_Mo_gate_44 rfl (lv_at hl 0 rfl) ?_
        refine va_get (D := g) (ci := 8) (v := .int (nI mg)) (C := R_Mo) (T := F_Mo) (N := 35) hx hb hT i_Mo hown hK hP 0 rfl rfl 3 (by decide) (hT _ tw_624) (fun _ h9 => h9) rfl d_Mo_gate_45 ?_
        refine lv_bipush (v := (nI 20)) hx hb d_Mo_gate_48 (by decide) ?_
        refine my_icmp_ne (tgt := 56) (a := mg) (b := 20) hx hb d_Mo_gate_50 (by decide) (by omega) (by omega) (fun c_50 => ?_) (fun c_50 => ?_)
        · -- 50: taken
          have hnn := hng (by omega)
          obtain ⟨⟨k1, hk1, rfl⟩, ⟨n1, hn1, rfl⟩⟩ := mK_nat hmK
          have hkc : (nI n1).toNatClampNeg = n1 := nI_clamp (by omega)
          have hkc2 : (nI k1).toNatClampNeg = k1 := nI_clamp (by omega)
          simp only [hkc, hkc2] at hret
          refine lv_aload_n hx hb d_Mo_gate_56 rfl (lv_at hl 0 rfl) ?_
          refine lv_dup hx hb d_Mo_gate_57 rfl ?_
          refine va_get (D := g) (ci := 8) (v := .int (nI mn)) (C := R_Mo) (T := F_Mo) (N := 35) hx hb hT i_Mo hown hK hP 0 rfl rfl 1 (by decide) (hT _ tw_622) (fun _ h9 => h9) rfl d_Mo_gate_58 ?_
          refine lv_iconst (v := (nI 1)) hx hb d_Mo_gate_61 (by decide) ?_
          refine lv_iadd hx hb d_Mo_gate_62 ?_
          refine my_ei (nI_add mn 1) ?_
          refine va_put (D := g) (ci := 8) (v := .int (nI (mn + 1))) (ty := .int) (C := R_Mo) (T := F_Mo) (N := 35) hx hb hT i_Mo t_Mo t_Mo_ok n_Mo hown hK hP hD hS 0 rfl rfl 1 (by decide) (hT _ tw_622) (fun _ h9 => h9) rfl (by decide +kernel) rfl rfl (Nat.le_of_ble_eq_true rfl) d_Mo_gate_63 (fun H locs hP hD hS => ?_)
          have hP : va_P g vwCl (moW b cI cJ cZ 0 (mn + 1) mv mg mk mo mu md ms mb mc m1 m2 m3 m4 we ud my ea od oo dn va ho wt cm co te tm gs gl rs rg rp rt) H := hP
          have hD : va_D A (moW b cI cJ cZ 0 (mn + 1) mv mg mk mo mu md ms mb mc m1 m2 m3 m4 we ud my ea od oo dn va ho wt cm co te tm gs gl rs rg rp rt) := hD
          refine lv_aload_n hx hb d_Mo_gate_66 rfl (lv_at hl 0 rfl) ?_
          refine lv_dup hx hb d_Mo_gate_67 rfl ?_
          refine va_get (D := g) (ci := 8) (v := .int (nI mg)) (C := R_Mo) (T := F_Mo) (N := 35) hx hb hT i_Mo hown hK hP 0 rfl rfl 3 (by decide) (hT _ tw_624) (fun _ h9 => h9) rfl d_Mo_gate_68 ?_
          refine lv_iconst (v := (nI 1)) hx hb d_Mo_gate_71 (by decide) ?_
          refine lv_iadd hx hb d_Mo_gate_72 ?_
          refine my_ei (nI_add mg 1) ?_
          refine va_put (D := g) (ci := 8) (v := .int (nI (mg + 1))) (ty := .int) (C := R_Mo) (T := F_Mo) (N := 35) hx hb hT i_Mo t_Mo t_Mo_ok n_Mo hown hK hP hD hS 0 rfl rfl 3 (by decide) (hT _ tw_624) (fun _ h9 => h9) rfl (by decide +kernel) rfl rfl (Nat.le_of_ble_eq_true rfl) d_Mo_gate_73 (fun H locs hP hD hS => ?_)
          have hP : va_P g vwCl (moW b cI cJ cZ 0 (mn + 1) mv (mg + 1) mk mo mu md ms mb mc m1 m2 m3 m4 we ud my ea od oo dn va ho wt cm co te tm gs gl rs rg rp rt) H := hP
          have hD : va_D A (moW b cI cJ cZ 0 (mn + 1) mv (mg + 1) mk mo mu md ms mb mc m1 m2 m3 m4 we ud my ea od oo dn va ho wt cm co te tm gs gl rs rg rp rt) := hD
          refine lv_aload_n hx hb d_Mo_gate_76 rfl (lv_at hl 0 rfl) ?_
          refine va_get (D := g) (ci := 8) (v := .ref (b 1)) (C := R_Mo) (T := F_Mo) (N := 35) hx hb hT i_Mo hown hK hP 0 rfl rfl 4 (by decide) (hT _ tw_625) (fun _ h9 => h9) rfl d_Mo_gate_77 ?_
          refine lv_aload_n hx hb d_Mo_gate_80 rfl (lv_at hl 0 rfl) ?_
          refine va_get (D := g) (ci := 8) (v := .int (nI (mn + 1))) (C := R_Mo) (T := F_Mo) (N := 35) hx hb hT i_Mo hown hK hP 0 rfl rfl 1 (by decide) (hT _ tw_622) (fun _ h9 => h9) rfl d_Mo_gate_81 ?_
          refine lv_iload_n hx hb d_Mo_gate_84 rfl (lv_at hl 1 rfl) ?_
          refine lv_iconst (v := (nI 1)) hx hb d_Mo_gate_85 (by decide) ?_
          refine lv_iadd hx hb d_Mo_gate_86 ?_
          refine my_ei (nI_add k1 1) ?_
          refine my_iast (i := mn + 1) hx hb hK hP hD hS 1 0 rfl rfl (by omega) (by decide) (my_upN _ _ _) (w' := (moW b cI cJ cZ 0 (mn + 1) mv (mg + 1) (va_up mk (mn + 1) (k1 + 1)) mo mu md ms mb mc m1 m2 m3 m4 we ud my ea od oo dn va ho wt cm co te tm gs gl rs rg rp rt)) rfl d_Mo_gate_87 (fun H locs hP hD hS => ?_)
          refine lv_aload_n hx hb d_Mo_gate_88 rfl (lv_at hl 0 rfl) ?_
          refine va_get (D := g) (ci := 8) (v := .ref (b 2)) (C := R_Mo) (T := F_Mo) (N := 35) hx hb hT i_Mo hown hK hP 0 rfl rfl 5 (by decide) (hT _ tw_626) (fun _ h9 => h9) rfl d_Mo_gate_89 ?_
          refine lv_aload_n hx hb d_Mo_gate_92 rfl (lv_at hl 0 rfl) ?_
          refine va_get (D := g) (ci := 8) (v := .int (nI (mn + 1))) (C := R_Mo) (T := F_Mo) (N := 35) hx hb hT i_Mo hown hK hP 0 rfl rfl 1 (by decide) (hT _ tw_622) (fun _ h9 => h9) rfl d_Mo_gate_93 ?_
          refine lv_iload_n hx hb d_Mo_gate_96 rfl (lv_at hl 2 rfl) ?_
          refine my_iast (i := mn + 1) hx hb hK hP hD hS 2 0 rfl rfl (by omega) (by decide) (my_upN _ _ _) (w' := (moW b cI cJ cZ 0 (mn + 1) mv (mg + 1) (va_up mk (mn + 1) (k1 + 1)) (va_up mo (mn + 1) n1) mu md ms mb mc m1 m2 m3 m4 we ud my ea od oo dn va ho wt cm co te tm gs gl rs rg rp rt)) rfl d_Mo_gate_97 (fun H locs hP hD hS => ?_)
          refine lv_aload_n hx hb d_Mo_gate_98 rfl (lv_at hl 0 rfl) ?_
          refine va_get (D := g) (ci := 8) (v := .int (nI (mn + 1))) (C := R_Mo) (T := F_Mo) (N := 35) hx hb hT i_Mo hown hK hP 0 rfl rfl 1 (by decide) (hT _ tw_622) (fun _ h9 => h9) rfl d_Mo_gate_99 ?_
          refine hret _ _ _ _ _ (by rw [if_pos ⟨hmK, c_50⟩]; exact hP) (by rw [if_pos ⟨hmK, c_50⟩]; exact hD) hS d_Mo_gate_102 ?_
          rw [mgaR, if_neg (by simp [hmK]), if_neg c_50]
        · -- 50: not taken
          refine lv_bipush (v := (-4)) hx hb d_Mo_gate_53 (by decide) ?_
          refine hret _ _ _ _ _ (by rw [if_neg (by intro hh; first | exact absurd (hh.1.symm.trans hmK) (by decide) | exact hh.2 c_50)]; exact hP) (by rw [if_neg (by intro hh; first | exact absurd (hh.1.symm.trans hmK) (by decide) | exact hh.2 c_50)]; exact hD) hS d_Mo_gate_55 ?_
          rw [mgaR, if_neg (by simp [hmK]), if_pos c_50]
      · -- 38: not taken
        have hmK : mK k n = false := by rw [mK, c_14, if_neg c_19, decide_eq_false c_38]; rfl
        refine lv_bipush (v := (-2)) hx hb d_Mo_gate_41 (by decide) ?_
        refine hret _ _ _ _ _ (by rw [if_neg (by intro hh; first | exact absurd (hh.1.symm.trans hmK) (by decide) | exact hh.2 c_50)]; exact hP) (by rw [if_neg (by intro hh; first | exact absurd (hh.1.symm.trans hmK) (by decide) | exact hh.2 c_50)]; exact hD) hS d_Mo_gate_43 ?_
        rw [mgaR, if_pos hmK]
    · -- 19: not taken
      refine lv_iload_n hx hb d_Mo_gate_22 rfl (lv_at hl 2 rfl) ?_
      refine lv_i2l (v := n.toInt64) hx hb d_Mo_gate_23 rfl ?_
      refine lv_lconst (v := (lN 1)) hx hb d_Mo_gate_24 (by decide) ?_
      refine lv_ldc2 (v := (lN 10)) hx hb hown (hT _ tw_736) d_Mo_gate_25 ?_
      refine my_S_i (As := [.long n.toInt64, .long (lN 1), .long (lN 10)]) (n := 3) (k_Mo_isIn l g vwCl (tyM cI cJ cZ) (moW b cI cJ cZ 0 mn mv mg mk mo mu md ms mb mc m1 m2 m3 m4 we ud my ea od oo dn va ho wt cm co te tm gs gl rs rg rp rt) n.toInt64 (lN 1) (lN 10) ) hx hb hml hown hT hN tw_737 tw_738 tw_9 tw_739 (by decide +kernel) rfl rfl ⟨Nat.le_of_ble_eq_true rfl, Nat.le_of_ble_eq_true rfl⟩ ⟨Nat.zero_le _, Nat.zero_le _⟩ hK hP hD hS hA rfl hl rfl (Nat.le_of_ble_eq_true rfl) d_Mo_gate_28 (fun H locs hP hD hS => ?_)
      refine my_if_ne_b (tgt := 44) hx hb d_Mo_gate_31 (by decide) (fun c_31 => ?_) (fun c_31 => ?_)
      · -- 31: taken
        have hmK : mK k n = true := by rw [mK, c_14, if_pos c_19, c_31]; rfl
        refine lv_aload_n hx hb d_Mo_gate_44 rfl (lv_at hl 0 rfl) ?_
        refine va_get (D := g) (ci := 8) (v := .int (nI mg)) (C := R_Mo) (T := F_Mo) (N := 35) hx hb hT i_Mo hown hK hP 0 rfl rfl 3 (by decide) (hT _ tw_624) (fun _ h9 => h9) rfl d_Mo_gate_45 ?_
        refine lv_bipush (v := (nI 20)) hx hb d_Mo_gate_48 (by decide) ?_
        refine my_icmp_ne (tgt := 56) (a := mg) (b := 20) hx hb d_Mo_gate_50 (by decide) (by omega) (by omega) (fun c_50 => ?_) (fun c_50 => ?_)
        · -- 50: taken
          have hnn := hng (by omega)
          obtain ⟨⟨k1, hk1, rfl⟩, ⟨n1, hn1, rfl⟩⟩ := mK_nat hmK
          have hkc : (nI n1).toNatClampNeg = n1 := nI_clamp (by omega)
          have hkc2 : (nI k1).toNatClampNeg = k1 := nI_clamp (by omega)
          simp only [hkc, hkc2] at hret
          refine lv_aload_n hx hb d_Mo_gate_56 rfl (lv_at hl 0 rfl) ?_
          refine lv_dup hx hb d_Mo_gate_57 rfl ?_
          refine va_get (D := g) (ci := 8) (v := .int (nI mn)) (C := R_Mo) (T := F_Mo) (N := 35) hx hb hT i_Mo hown hK hP 0 rfl rfl 1 (by decide) (hT _ tw_622) (fun _ h9 => h9) rfl d_Mo_gate_58 ?_
          refine lv_iconst (v := (nI 1)) hx hb d_Mo_gate_61 (by decide) ?_
          refine lv_iadd hx hb d_Mo_gate_62 ?_
          refine my_ei (nI_add mn 1) ?_
          refine va_put (D := g) (ci := 8) (v := .int (nI (mn + 1))) (ty := .int) (C := R_Mo) (T := F_Mo) (N := 35) hx hb hT i_Mo t_Mo t_Mo_ok n_Mo hown hK hP hD hS 0 rfl rfl 1 (by decide) (hT _ tw_622) (fun _ h9 => h9) rfl (by decide +kernel) rfl rfl (Nat.le_of_ble_eq_true rfl) d_Mo_gate_63 (fun H locs hP hD hS => ?_)
          have hP : va_P g vwCl (moW b cI cJ cZ 0 (mn + 1) mv mg mk mo mu md ms mb mc m1 m2 m3 m4 we ud my ea od oo dn va ho wt cm co te tm gs gl rs rg rp rt) H := hP
          have hD : va_D A (moW b cI cJ cZ 0 (mn + 1) mv mg mk mo mu md ms mb mc m1 m2 m3 m4 we ud my ea od oo dn va ho wt cm co te tm gs gl rs rg rp rt) := hD
          refine lv_aload_n hx hb d_Mo_gate_66 rfl (lv_at hl 0 rfl) ?_
          refine lv_dup hx hb d_Mo_gate_67 rfl ?_
          refine va_get (D := g) (ci := 8) (v := .int (nI mg)) (C := R_Mo) (T := F_Mo) (N := 35) hx hb hT i_Mo hown hK hP 0 rfl rfl 3 (by decide) (hT _ tw_624) (fun _ h9 => h9) rfl d_Mo_gate_68 ?_
          refine lv_iconst (v := (nI 1)) hx hb d_Mo_gate_71 (by decide) ?_
          refine lv_iadd hx hb d_Mo_gate_72 ?_
          refine my_ei (nI_add mg 1) ?_
          refine va_put (D := g) (ci := 8) (v := .int (nI (mg + 1))) (ty := .int) (C := R_Mo) (T := F_Mo) (N := 35) hx hb hT i_Mo t_Mo t_Mo_ok n_Mo hown hK hP hD hS 0 rfl rfl 3 (by decide) (hT _ tw_624) (fun _ h9 => h9) rfl (by decide +kernel) rfl rfl (Nat.le_of_ble_eq_true rfl) d_Mo_gate_73 (fun H locs hP hD hS => ?_)
          have hP : va_P g vwCl (moW b cI cJ cZ 0 (mn + 1) mv (mg + 1) mk mo mu md ms mb mc m1 m2 m3 m4 we ud my ea od oo dn va ho wt cm co te tm gs gl rs rg rp rt) H := hP
          have hD : va_D A (moW b cI cJ cZ 0 (mn + 1) mv (mg + 1) mk mo mu md ms mb mc m1 m2 m3 m4 we ud my ea od oo dn va ho wt cm co te tm gs gl rs rg rp rt) := hD
          refine lv_aload_n hx hb d_Mo_gate_76 rfl (lv_at hl 0 rfl) ?_
          refine va_get (D := g) (ci := 8) (v := .ref (b 1)) (C := R_Mo) (T := F_Mo) (N := 35) hx hb hT i_Mo hown hK hP 0 rfl rfl 4 (by decide) (hT _ tw_625) (fun _ h9 => h9) rfl d_Mo_gate_77 ?_
          refine lv_aload_n hx hb d_Mo_gate_80 rfl (lv_at hl 0 rfl) ?_
          refine va_get (D := g) (ci := 8) (v := .int (nI (mn + 1))) (C := R_Mo) (T := F_Mo) (N := 35) hx hb hT i_Mo hown hK hP 0 rfl rfl 1 (by decide) (hT _ tw_622) (fun _ h9 => h9) rfl d_Mo_gate_81 ?_
          refine lv_iload_n hx hb d_Mo_gate_84 rfl (lv_at hl 1 rfl) ?_
          refine lv_iconst (v := (nI 1)) hx hb d_Mo_gate_85 (by decide) ?_
          refine lv_iadd hx hb d_Mo_gate_86 ?_
          refine my_ei (nI_add k1 1) ?_
          refine my_iast (i := mn + 1) hx hb hK hP hD hS 1 0 rfl rfl (by omega) (by decide) (my_upN _ _ _) (w' := (moW b cI cJ cZ 0 (mn + 1) mv (mg + 1) (va_up mk (mn + 1) (k1 + 1)) mo mu md ms mb mc m1 m2 m3 m4 we ud my ea od oo dn va ho wt cm co te tm gs gl rs rg rp rt)) rfl d_Mo_gate_87 (fun H locs hP hD hS => ?_)
          refine lv_aload_n hx hb d_Mo_gate_88 rfl (lv_at hl 0 rfl) ?_
          refine va_get (D := g) (ci := 8) (v := .ref (b 2)) (C := R_Mo) (T := F_Mo) (N := 35) hx hb hT i_Mo hown hK hP 0 rfl rfl 5 (by decide) (hT _ tw_626) (fun _ h9 => h9) rfl d_Mo_gate_89 ?_
          refine lv_aload_n hx hb d_Mo_gate_92 rfl (lv_at hl 0 rfl) ?_
          refine va_get (D := g) (ci := 8) (v := .int (nI (mn + 1))) (C := R_Mo) (T := F_Mo) (N := 35) hx hb hT i_Mo hown hK hP 0 rfl rfl 1 (by decide) (hT _ tw_622) (fun _ h9 => h9) rfl d_Mo_gate_93 ?_
          refine lv_iload_n hx hb d_Mo_gate_96 rfl (lv_at hl 2 rfl) ?_
          refine my_iast (i := mn + 1) hx hb hK hP hD hS 2 0 rfl rfl (by omega) (by decide) (my_upN _ _ _) (w' := (moW b cI cJ cZ 0 (mn + 1) mv (mg + 1) (va_up mk (mn + 1) (k1 + 1)) (va_up mo (mn + 1) n1) mu md ms mb mc m1 m2 m3 m4 we ud my ea od oo dn va ho wt cm co te tm gs gl rs rg rp rt)) rfl d_Mo_gate_97 (fun H locs hP hD hS => ?_)
          refine lv_aload_n hx hb d_Mo_gate_98 rfl (lv_at hl 0 rfl) ?_
          refine va_get (D := g) (ci := 8) (v := .int (nI (mn + 1))) (C := R_Mo) (T := F_Mo) (N := 35) hx hb hT i_Mo hown hK hP 0 rfl rfl 1 (by decide) (hT _ tw_622) (fun _ h9 => h9) rfl d_Mo_gate_99 ?_
          refine hret _ _ _ _ _ (by rw [if_pos ⟨hmK, c_50⟩]; exact hP) (by rw [if_pos ⟨hmK, c_50⟩]; exact hD) hS d_Mo_gate_102 ?_
          rw [mgaR, if_neg (by simp [hmK]), if_neg c_50]
        · -- 50: not taken
          refine lv_bipush (v := (-4)) hx hb d_Mo_gate_53 (by decide) ?_
          refine hret _ _ _ _ _ (by rw [if_neg (by intro hh; first | exact absurd (hh.1.symm.trans hmK) (by decide) | exact hh.2 c_50)]; exact hP) (by rw [if_neg (by intro hh; first | exact absurd (hh.1.symm.trans hmK) (by decide) | exact hh.2 c_50)]; exact hD) hS d_Mo_gate_55 ?_
          rw [mgaR, if_neg (by simp [hmK]), if_pos c_50]
      · -- 31: not taken
        have hmK : mK k n = false := by rw [mK, c_14, if_pos c_19, c_31]; rfl
        refine lv_goto (tgt := 41) hx hb d_Mo_gate_34 (by decide) ?_
        refine lv_bipush (v := (-2)) hx hb d_Mo_gate_41 (by decide) ?_
        refine hret _ _ _ _ _ (by rw [if_neg (by intro hh; first | exact absurd (hh.1.symm.trans hmK) (by decide) | exact hh.2 c_50)]; exact hP) (by rw [if_neg (by intro hh; first | exact absurd (hh.1.symm.trans hmK) (by decide) | exact hh.2 c_50)]; exact hD) hS d_Mo_gate_43 ?_
        rw [mgaR, if_pos hmK]
set_option maxHeartbeats 4000000 in
set_option maxRecDepth 100000 in
theorem k_Mo_grade (l : Launch) (g : va_G) (b : Nat → Nat) (cI cJ cZ : ClassId) (f0 : Nat) (mn : Nat) (mv : Nat) (mg : Nat) (mk : Nat → Nat) (mo : Nat → Nat) (mu : Nat → Nat) (md : Nat → Nat) (ms : Nat → Nat) (mb : Nat → Nat) (mc : Nat) (m1 : Nat → Nat) (m2 : Nat → Nat) (m3 : Nat → Nat) (m4 : Nat → Nat) (we : Bool) (ud : Nat → Bool) (my : Nat) (ea : Nat → Nat) (od : Nat) (oo : Nat → Nat) (dn : Nat → Bool) (va : Nat → Nat) (ho : Nat → Bool) (wt : Nat → Nat) (cm : Nat) (co : Nat → Nat) (te : Nat → Nat) (tm : Nat) (gs : Nat) (gl : Nat → Nat) (rs : Nat) (rg : Nat → Nat) (rp : Nat → Nat) (rt : Nat → Nat) (x : Int32) (y : Int32) (z : Int32)  : ct_i l g vwCl (tyM cI cJ cZ) y_Mo_grade c_Mo_grade 5 (some .int) ({ frames := 1, cells := 0, slots := 0, locals := 25 } : Room) [.ref (b 0), .int x, .int y, .int z] (moW b cI cJ cZ f0 mn mv mg mk mo mu md ms mb mc m1 m2 m3 m4 we ud my ea od oo dn va ho wt cm co te tm gs gl rs rg rp rt) (moW b cI cJ cZ 0 mn mv mg mk mo mu md ms mb mc m1 m2 m3 m4 we ud my ea od oo dn va ho wt cm co te tm gs gl rs rg rp rt) (mgrR x y z) := by
  refine ct_i.intro (by decide) (Nat.le_of_ble_eq_true rfl) ?_
  intro p e s m args below meth c Q A ls hx hb hml hT hown hA hK hN hret hP hD hS hl
  have hown : s.vm.findClass R_Mo = some m.cls := hown
  have hl : lv_has ls 5 [(0, .ref (b 0)), (1, .int x), (2, .int y), (3, .int z)] := hl
  refine lv_aload_n hx hb d_Mo_grade_0 rfl (lv_at hl 0 rfl) ?_
  refine lv_iconst (v := (nI 0)) hx hb d_Mo_grade_1 (by decide) ?_
  refine va_put (D := g) (ci := 8) (v := .int (nI 0)) (ty := .int) (C := R_Mo) (T := F_Mo) (N := 35) hx hb hT i_Mo t_Mo t_Mo_ok n_Mo hown hK hP hD hS 0 rfl rfl 0 (by decide) (hT _ tw_621) (fun _ h9 => h9) rfl (by decide +kernel) rfl rfl (Nat.le_of_ble_eq_true rfl) d_Mo_grade_2 (fun H locs hP hD hS => ?_)
  have hP : va_P g vwCl (moW b cI cJ cZ 0 mn mv mg mk mo mu md ms mb mc m1 m2 m3 m4 we ud my ea od oo dn va ho wt cm co te tm gs gl rs rg rp rt) H := hP
  have hD : va_D A (moW b cI cJ cZ 0 mn mv mg mk mo mu md ms mb mc m1 m2 m3 m4 we ud my ea od oo dn va ho wt cm co te tm gs gl rs rg rp rt) := hD
  refine lv_iload_n hx hb d_Mo_grade_5 rfl (lv_at hl 1 rfl) ?_
  refine lv_i2l (v := x.toInt64) hx hb d_Mo_grade_6 rfl ?_
  refine lv_lconst (v := (lN 0)) hx hb d_Mo_grade_7 (by decide) ?_
  refine lv_ldc2 (v := (lN 3)) hx hb hown (hT _ tw_840) d_Mo_grade_8 ?_
  refine my_S_i (As := [.long x.toInt64, .long (lN 0), .long (lN 3)]) (n := 3) (k_Mo_isIn l g vwCl (tyM cI cJ cZ) (moW b cI cJ cZ 0 mn mv mg mk mo mu md ms mb mc m1 m2 m3 m4 we ud my ea od oo dn va ho wt cm co te tm gs gl rs rg rp rt) x.toInt64 (lN 0) (lN 3) ) hx hb hml hown hT hN tw_737 tw_738 tw_9 tw_739 (by decide +kernel) rfl rfl ⟨Nat.le_of_ble_eq_true rfl, Nat.le_of_ble_eq_true rfl⟩ ⟨Nat.zero_le _, Nat.zero_le _⟩ hK hP hD hS hA rfl hl rfl (Nat.le_of_ble_eq_true rfl) d_Mo_grade_11 (fun H locs hP hD hS => ?_)
  refine my_if_eq_b (tgt := 41) hx hb d_Mo_grade_14 (by decide) (fun c_14 => ?_) (fun c_14 => ?_)
  · -- 14: taken
    refine lv_bipush (v := (-2)) hx hb d_Mo_grade_41 (by decide) ?_
    refine hret _ _ _ _ _ hP hD hS d_Mo_grade_43 ?_
    rw [mgrR, if_pos (by first | (simp [c_14]; done) | (simp [c_14]; omega) | (simp [c_14]; rfl))]
  · -- 14: not taken
    refine lv_iload_n hx hb d_Mo_grade_17 rfl (lv_at hl 2 rfl) ?_
    refine lv_i2l (v := y.toInt64) hx hb d_Mo_grade_18 rfl ?_
    refine lv_lconst (v := (lN 0)) hx hb d_Mo_grade_19 (by decide) ?_
    refine lv_ldc2 (v := (lN 4)) hx hb hown (hT _ tw_841) d_Mo_grade_20 ?_
    refine my_S_i (As := [.long y.toInt64, .long (lN 0), .long (lN 4)]) (n := 3) (k_Mo_isIn l g vwCl (tyM cI cJ cZ) (moW b cI cJ cZ 0 mn mv mg mk mo mu md ms mb mc m1 m2 m3 m4 we ud my ea od oo dn va ho wt cm co te tm gs gl rs rg rp rt) y.toInt64 (lN 0) (lN 4) ) hx hb hml hown hT hN tw_737 tw_738 tw_9 tw_739 (by decide +kernel) rfl rfl ⟨Nat.le_of_ble_eq_true rfl, Nat.le_of_ble_eq_true rfl⟩ ⟨Nat.zero_le _, Nat.zero_le _⟩ hK hP hD hS hA rfl hl rfl (Nat.le_of_ble_eq_true rfl) d_Mo_grade_23 (fun H locs hP hD hS => ?_)
    refine my_if_eq_b (tgt := 41) hx hb d_Mo_grade_26 (by decide) (fun c_26 => ?_) (fun c_26 => ?_)
    · -- 26: taken
      refine lv_bipush (v := (-2)) hx hb d_Mo_grade_41 (by decide) ?_
      refine hret _ _ _ _ _ hP hD hS d_Mo_grade_43 ?_
      rw [mgrR, if_pos (by first | (simp [c_26]; done) | (simp [c_26]; omega) | (simp [c_26]; rfl))]
    · -- 26: not taken
      refine lv_iload_n hx hb d_Mo_grade_29 rfl (lv_at hl 3 rfl) ?_
      refine lv_i2l (v := z.toInt64) hx hb d_Mo_grade_30 rfl ?_
      refine lv_lconst (v := (lN 0)) hx hb d_Mo_grade_31 (by decide) ?_
      refine lv_ldc2 (v := (lN 3)) hx hb hown (hT _ tw_840) d_Mo_grade_32 ?_
      refine my_S_i (As := [.long z.toInt64, .long (lN 0), .long (lN 3)]) (n := 3) (k_Mo_isIn l g vwCl (tyM cI cJ cZ) (moW b cI cJ cZ 0 mn mv mg mk mo mu md ms mb mc m1 m2 m3 m4 we ud my ea od oo dn va ho wt cm co te tm gs gl rs rg rp rt) z.toInt64 (lN 0) (lN 3) ) hx hb hml hown hT hN tw_737 tw_738 tw_9 tw_739 (by decide +kernel) rfl rfl ⟨Nat.le_of_ble_eq_true rfl, Nat.le_of_ble_eq_true rfl⟩ ⟨Nat.zero_le _, Nat.zero_le _⟩ hK hP hD hS hA rfl hl rfl (Nat.le_of_ble_eq_true rfl) d_Mo_grade_35 (fun H locs hP hD hS => ?_)
      refine my_if_ne_b (tgt := 44) hx hb d_Mo_grade_38 (by decide) (fun c_38 => ?_) (fun c_38 => ?_)
      · -- 38: taken
        refine lv_iload_n hx hb d_Mo_grade_44 rfl (lv_at hl 1 rfl) ?_
        refine lv_if_eq (tgt := 66) hx hb d_Mo_grade_45 (by decide) (fun c_45 => ?_) (fun c_45 => ?_)
        · -- 45: taken
          refine lv_iconst (v := (nI 1)) hx hb d_Mo_grade_66 (by decide) ?_
          refine lv_goto (tgt := 71) hx hb d_Mo_grade_67 (by decide) ?_
          refine lv_istore (lv' := [(4, .int (nI 1)), (0, .ref (b 0)), (1, .int x), (2, .int y), (3, .int z)]) hx hb d_Mo_grade_71 hl (by decide) rfl (fun ls hl => ?_)
          refine lv_iload hx hb d_Mo_grade_73 (lv_at hl 0 rfl) ?_
          refine lv_if_eq (tgt := 82) hx hb d_Mo_grade_75 (by decide) (fun q => absurd q (by decide)) (fun _ => ?_)
          refine lv_iconst (v := (nI 0)) hx hb d_Mo_grade_78 (by decide) ?_
          refine lv_goto (tgt := 90) hx hb d_Mo_grade_79 (by decide) ?_
          refine hret _ _ _ _ _ hP hD hS d_Mo_grade_90 ?_
          rw [mgrR, if_neg (by first | (simp [c_14, c_26, c_38]; done) | (simp [c_14, c_26, c_38]; omega) | (simp [c_14, c_26, c_38]; rfl)), if_pos (by first | exact Or.inl c_45 | exact Or.inr (Or.inl c_49) | exact Or.inr (Or.inr (Or.inl c_53)) | exact Or.inr (Or.inr (Or.inr c_63)))]; rfl
        · -- 45: not taken
          refine lv_iload_n hx hb d_Mo_grade_48 rfl (lv_at hl 2 rfl) ?_
          refine lv_if_eq (tgt := 66) hx hb d_Mo_grade_49 (by decide) (fun c_49 => ?_) (fun c_49 => ?_)
          · -- 49: taken
            refine lv_iconst (v := (nI 1)) hx hb d_Mo_grade_66 (by decide) ?_
            refine lv_goto (tgt := 71) hx hb d_Mo_grade_67 (by decide) ?_
            refine lv_istore (lv' := [(4, .int (nI 1)), (0, .ref (b 0)), (1, .int x), (2, .int y), (3, .int z)]) hx hb d_Mo_grade_71 hl (by decide) rfl (fun ls hl => ?_)
            refine lv_iload hx hb d_Mo_grade_73 (lv_at hl 0 rfl) ?_
            refine lv_if_eq (tgt := 82) hx hb d_Mo_grade_75 (by decide) (fun q => absurd q (by decide)) (fun _ => ?_)
            refine lv_iconst (v := (nI 0)) hx hb d_Mo_grade_78 (by decide) ?_
            refine lv_goto (tgt := 90) hx hb d_Mo_grade_79 (by decide) ?_
            refine hret _ _ _ _ _ hP hD hS d_Mo_grade_90 ?_
            rw [mgrR, if_neg (by first | (simp [c_14, c_26, c_38]; done) | (simp [c_14, c_26, c_38]; omega) | (simp [c_14, c_26, c_38]; rfl)), if_pos (by first | exact Or.inl c_45 | exact Or.inr (Or.inl c_49) | exact Or.inr (Or.inr (Or.inl c_53)) | exact Or.inr (Or.inr (Or.inr c_63)))]; rfl
          · -- 49: not taken
            refine lv_iload_n hx hb d_Mo_grade_52 rfl (lv_at hl 3 rfl) ?_
            refine lv_if_eq (tgt := 66) hx hb d_Mo_grade_53 (by decide) (fun c_53 => ?_) (fun c_53 => ?_)
            · -- 53: taken
              refine lv_iconst (v := (nI 1)) hx hb d_Mo_grade_66 (by decide) ?_
              refine lv_goto (tgt := 71) hx hb d_Mo_grade_67 (by decide) ?_
              refine lv_istore (lv' := [(4, .int (nI 1)), (0, .ref (b 0)), (1, .int x), (2, .int y), (3, .int z)]) hx hb d_Mo_grade_71 hl (by decide) rfl (fun ls hl => ?_)
              refine lv_iload hx hb d_Mo_grade_73 (lv_at hl 0 rfl) ?_
              refine lv_if_eq (tgt := 82) hx hb d_Mo_grade_75 (by decide) (fun q => absurd q (by decide)) (fun _ => ?_)
              refine lv_iconst (v := (nI 0)) hx hb d_Mo_grade_78 (by decide) ?_
              refine lv_goto (tgt := 90) hx hb d_Mo_grade_79 (by decide) ?_
              refine hret _ _ _ _ _ hP hD hS d_Mo_grade_90 ?_
              rw [mgrR, if_neg (by first | (simp [c_14, c_26, c_38]; done) | (simp [c_14, c_26, c_38]; omega) | (simp [c_14, c_26, c_38]; rfl)), if_pos (by first | exact Or.inl c_45 | exact Or.inr (Or.inl c_49) | exact Or.inr (Or.inr (Or.inl c_53)) | exact Or.inr (Or.inr (Or.inr c_63)))]; rfl
            · -- 53: not taken
              refine lv_iload_n hx hb d_Mo_grade_56 rfl (lv_at hl 1 rfl) ?_
              refine lv_iload_n hx hb d_Mo_grade_57 rfl (lv_at hl 2 rfl) ?_
              refine lv_iadd hx hb d_Mo_grade_58 ?_
              refine lv_iload_n hx hb d_Mo_grade_59 rfl (lv_at hl 3 rfl) ?_
              refine lv_iadd hx hb d_Mo_grade_60 ?_
              refine lv_bipush (v := (nI 7)) hx hb d_Mo_grade_61 (by decide) ?_
              refine lv_icmp_ge (tgt := 70) hx hb d_Mo_grade_63 (by decide) (fun c_63 => ?_) (fun c_63 => ?_)
              · -- 63: taken
                refine lv_iconst (v := (nI 0)) hx hb d_Mo_grade_70 (by decide) ?_
                refine lv_istore (lv' := [(4, .int (nI 0)), (0, .ref (b 0)), (1, .int x), (2, .int y), (3, .int z)]) hx hb d_Mo_grade_71 hl (by decide) rfl (fun ls hl => ?_)
                refine lv_iload hx hb d_Mo_grade_73 (lv_at hl 0 rfl) ?_
                refine lv_if_eq (tgt := 82) hx hb d_Mo_grade_75 (by decide) (fun _ => ?_) (fun q => absurd (by decide) q)
                refine lv_iload_n hx hb d_Mo_grade_82 rfl (lv_at hl 2 rfl) ?_
                refine lv_iload_n hx hb d_Mo_grade_83 rfl (lv_at hl 3 rfl) ?_
                refine lv_iadd hx hb d_Mo_grade_84 ?_
                refine lv_iload_n hx hb d_Mo_grade_85 rfl (lv_at hl 4 rfl) ?_
                refine lv_iadd hx hb d_Mo_grade_86 ?_
                refine lv_bipush (v := (nI 6)) hx hb d_Mo_grade_87 (by decide) ?_
                refine lv_isub hx hb d_Mo_grade_89 ?_
                refine hret _ _ _ _ _ hP hD hS d_Mo_grade_90 ?_
                rw [mgrR, if_neg (by first | (simp [c_14, c_26, c_38]; done) | (simp [c_14, c_26, c_38]; omega) | (simp [c_14, c_26, c_38]; rfl)), if_neg (by intro hh; rcases hh with hh | hh | hh | hh; exact c_45 hh; exact c_49 hh; exact c_53 hh; exact hh c_63)]
              · -- 63: not taken
                refine lv_iconst (v := (nI 1)) hx hb d_Mo_grade_66 (by decide) ?_
                refine lv_goto (tgt := 71) hx hb d_Mo_grade_67 (by decide) ?_
                refine lv_istore (lv' := [(4, .int (nI 1)), (0, .ref (b 0)), (1, .int x), (2, .int y), (3, .int z)]) hx hb d_Mo_grade_71 hl (by decide) rfl (fun ls hl => ?_)
                refine lv_iload hx hb d_Mo_grade_73 (lv_at hl 0 rfl) ?_
                refine lv_if_eq (tgt := 82) hx hb d_Mo_grade_75 (by decide) (fun q => absurd q (by decide)) (fun _ => ?_)
                refine lv_iconst (v := (nI 0)) hx hb d_Mo_grade_78 (by decide) ?_
                refine lv_goto (tgt := 90) hx hb d_Mo_grade_79 (by decide) ?_
                refine hret _ _ _ _ _ hP hD hS d_Mo_grade_90 ?_
                rw [mgrR, if_neg (by first | (simp [c_14, c_26, c_38]; done) | (simp [c_14, c_26, c_38]; omega) | (simp [c_14, c_26, c_38]; rfl)), if_pos (by first | exact Or.inl c_45 | exact Or.inr (Or.inl c_49) | exact Or.inr (Or.inr (Or.inl c_53)) | exact Or.inr (Or.inr (Or.inr c_63)))]; rfl
      · -- 38: not taken
        refine lv_bipush (v := (-2)) hx hb d_Mo_grade_41 (by decide) ?_
        refine hret _ _ _ _ _ hP hD hS d_Mo_grade_43 ?_
        rw [mgrR, if_pos (by first | (simp [c_38]; done) | (simp [c_38]; omega) | (simp [c_38]; rfl))]
set_option maxHeartbeats 4000000 in
set_option maxRecDepth 100000 in
theorem k_Mo_goal (l : Launch) (g : va_G) (b : Nat → Nat) (cI cJ cZ : ClassId) (f0 : Nat) (mn : Nat) (mv : Nat) (mg : Nat) (mk : Nat → Nat) (mo : Nat → Nat) (mu : Nat → Nat) (md : Nat → Nat) (ms : Nat → Nat) (mb : Nat → Nat) (mc : Nat) (m1 : Nat → Nat) (m2 : Nat → Nat) (m3 : Nat → Nat) (m4 : Nat → Nat) (we : Bool) (ud : Nat → Bool) (my : Nat) (ea : Nat → Nat) (od : Nat) (oo : Nat → Nat) (dn : Nat → Bool) (va : Nat → Nat) (ho : Nat → Bool) (wt : Nat → Nat) (cm : Nat) (co : Nat → Nat) (te : Nat → Nat) (tm : Nat) (gs : Nat) (gl : Nat → Nat) (rs : Nat) (rg : Nat → Nat) (rp : Nat → Nat) (rt : Nat → Nat) (x : Int32) (hgs : gs ≤ 30) : ct_i l g vwCl (tyM cI cJ cZ) y_Mo_goal c_Mo_goal 2 (some .int) ({ frames := 1, cells := 0, slots := 0, locals := 25 } : Room) [.ref (b 0), .int x] (moW b cI cJ cZ f0 mn mv mg mk mo mu md ms mb mc m1 m2 m3 m4 we ud my ea od oo dn va ho wt cm co te tm gs gl rs rg rp rt) (if isI x.toInt64 (lN 0) (lN 4) = true ∧ ¬ gs = 30 then (moW b cI cJ cZ 0 mn mv mg mk mo mu md ms mb mc m1 m2 m3 m4 we ud my ea od oo dn va ho wt cm co te tm (gs + 1) (va_up gl (gs + 1) x.toNatClampNeg) rs rg rp rt) else (moW b cI cJ cZ 0 mn mv mg mk mo mu md ms mb mc m1 m2 m3 m4 we ud my ea od oo dn va ho wt cm co te tm gs gl rs rg rp rt)) (mgoR gs x) := by
  refine ct_i.intro (by decide) (Nat.le_of_ble_eq_true rfl) ?_
  intro p e s m args below meth c Q A ls hx hb hml hT hown hA hK hN hret hP hD hS hl
  have hown : s.vm.findClass R_Mo = some m.cls := hown
  have hl : lv_has ls 2 [(0, .ref (b 0)), (1, .int x)] := hl
  refine lv_aload_n hx hb d_Mo_goal_0 rfl (lv_at hl 0 rfl) ?_
  refine lv_iconst (v := (nI 0)) hx hb d_Mo_goal_1 (by decide) ?_
  refine va_put (D := g) (ci := 8) (v := .int (nI 0)) (ty := .int) (C := R_Mo) (T := F_Mo) (N := 35) hx hb hT i_Mo t_Mo t_Mo_ok n_Mo hown hK hP hD hS 0 rfl rfl 0 (by decide) (hT _ tw_621) (fun _ h9 => h9) rfl (by decide +kernel) rfl rfl (Nat.le_of_ble_eq_true rfl) d_Mo_goal_2 (fun H locs hP hD hS => ?_)
  have hP : va_P g vwCl (moW b cI cJ cZ 0 mn mv mg mk mo mu md ms mb mc m1 m2 m3 m4 we ud my ea od oo dn va ho wt cm co te tm gs gl rs rg rp rt) H := hP
  have hD : va_D A (moW b cI cJ cZ 0 mn mv mg mk mo mu md ms mb mc m1 m2 m3 m4 we ud my ea od oo dn va ho wt cm co te tm gs gl rs rg rp rt) := hD
  refine lv_iload_n hx hb d_Mo_goal_5 rfl (lv_at hl 1 rfl) ?_
  refine lv_i2l (v := x.toInt64) hx hb d_Mo_goal_6 rfl ?_
  refine lv_lconst (v := (lN 0)) hx hb d_Mo_goal_7 (by decide) ?_
  refine lv_ldc2 (v := (lN 4)) hx hb hown (hT _ tw_841) d_Mo_goal_8 ?_
  refine my_S_i (As := [.long x.toInt64, .long (lN 0), .long (lN 4)]) (n := 3) (k_Mo_isIn l g vwCl (tyM cI cJ cZ) (moW b cI cJ cZ 0 mn mv mg mk mo mu md ms mb mc m1 m2 m3 m4 we ud my ea od oo dn va ho wt cm co te tm gs gl rs rg rp rt) x.toInt64 (lN 0) (lN 4) ) hx hb hml hown hT hN tw_737 tw_738 tw_9 tw_739 (by decide +kernel) rfl rfl ⟨Nat.le_of_ble_eq_true rfl, Nat.le_of_ble_eq_true rfl⟩ ⟨Nat.zero_le _, Nat.zero_le _⟩ hK hP hD hS hA rfl hl rfl (Nat.le_of_ble_eq_true rfl) d_Mo_goal_11 (fun H locs hP hD hS => ?_)
  refine my_if_ne_b (tgt := 20) hx hb d_Mo_goal_14 (by decide) (fun c_14 => ?_) (fun c_14 => ?_)
  · -- 14: taken
    obtain ⟨k, hk1, hk2, rfl⟩ := isI_nat (by decide) (by decide) c_14
    have hkc : (nI k).toNatClampNeg = k := nI_clamp (by omega)
    simp only [hkc] at hret
    refine lv_aload_n hx hb d_Mo_goal_20 rfl (lv_at hl 0 rfl) ?_
    refine va_get (D := g) (ci := 8) (v := .int (nI gs)) (C := R_Mo) (T := F_Mo) (N := 35) hx hb hT i_Mo hown hK hP 0 rfl rfl 29 (by decide) (hT _ tw_650) (fun _ h9 => h9) rfl d_Mo_goal_21 ?_
    refine lv_bipush (v := (nI 30)) hx hb d_Mo_goal_24 (by decide) ?_
    refine my_icmp_ne (tgt := 32) (a := gs) (b := 30) hx hb d_Mo_goal_26 (by decide) (by omega) (by omega) (fun c_26 => ?_) (fun c_26 => ?_)
    · -- 26: taken
      refine lv_aload_n hx hb d_Mo_goal_32 rfl (lv_at hl 0 rfl) ?_
      refine lv_dup hx hb d_Mo_goal_33 rfl ?_
      refine va_get (D := g) (ci := 8) (v := .int (nI gs)) (C := R_Mo) (T := F_Mo) (N := 35) hx hb hT i_Mo hown hK hP 0 rfl rfl 29 (by decide) (hT _ tw_650) (fun _ h9 => h9) rfl d_Mo_goal_34 ?_
      refine lv_iconst (v := (nI 1)) hx hb d_Mo_goal_37 (by decide) ?_
      refine lv_iadd hx hb d_Mo_goal_38 ?_
      refine my_ei (nI_add gs 1) ?_
      refine va_put (D := g) (ci := 8) (v := .int (nI (gs + 1))) (ty := .int) (C := R_Mo) (T := F_Mo) (N := 35) hx hb hT i_Mo t_Mo t_Mo_ok n_Mo hown hK hP hD hS 0 rfl rfl 29 (by decide) (hT _ tw_650) (fun _ h9 => h9) rfl (by decide +kernel) rfl rfl (Nat.le_of_ble_eq_true rfl) d_Mo_goal_39 (fun H locs hP hD hS => ?_)
      have hP : va_P g vwCl (moW b cI cJ cZ 0 mn mv mg mk mo mu md ms mb mc m1 m2 m3 m4 we ud my ea od oo dn va ho wt cm co te tm (gs + 1) gl rs rg rp rt) H := hP
      have hD : va_D A (moW b cI cJ cZ 0 mn mv mg mk mo mu md ms mb mc m1 m2 m3 m4 we ud my ea od oo dn va ho wt cm co te tm (gs + 1) gl rs rg rp rt) := hD
      refine lv_aload_n hx hb d_Mo_goal_42 rfl (lv_at hl 0 rfl) ?_
      refine va_get (D := g) (ci := 8) (v := .ref (b 20)) (C := R_Mo) (T := F_Mo) (N := 35) hx hb hT i_Mo hown hK hP 0 rfl rfl 30 (by decide) (hT _ tw_651) (fun _ h9 => h9) rfl d_Mo_goal_43 ?_
      refine lv_aload_n hx hb d_Mo_goal_46 rfl (lv_at hl 0 rfl) ?_
      refine va_get (D := g) (ci := 8) (v := .int (nI (gs + 1))) (C := R_Mo) (T := F_Mo) (N := 35) hx hb hT i_Mo hown hK hP 0 rfl rfl 29 (by decide) (hT _ tw_650) (fun _ h9 => h9) rfl d_Mo_goal_47 ?_
      refine lv_iload_n hx hb d_Mo_goal_50 rfl (lv_at hl 1 rfl) ?_
      refine my_iast (i := gs + 1) hx hb hK hP hD hS 20 0 rfl rfl (by omega) (by decide) (my_upN _ _ _) (w' := (moW b cI cJ cZ 0 mn mv mg mk mo mu md ms mb mc m1 m2 m3 m4 we ud my ea od oo dn va ho wt cm co te tm (gs + 1) (va_up gl (gs + 1) k) rs rg rp rt)) rfl d_Mo_goal_51 (fun H locs hP hD hS => ?_)
      refine lv_aload_n hx hb d_Mo_goal_52 rfl (lv_at hl 0 rfl) ?_
      refine va_get (D := g) (ci := 8) (v := .int (nI (gs + 1))) (C := R_Mo) (T := F_Mo) (N := 35) hx hb hT i_Mo hown hK hP 0 rfl rfl 29 (by decide) (hT _ tw_650) (fun _ h9 => h9) rfl d_Mo_goal_53 ?_
      refine hret _ _ _ _ _ (by rw [if_pos ⟨c_14, c_26⟩]; exact hP) (by rw [if_pos ⟨c_14, c_26⟩]; exact hD) hS d_Mo_goal_56 ?_
      rw [mgoR, if_neg (by simp [c_14]), if_neg c_26]
    · -- 26: not taken
      refine lv_bipush (v := (-4)) hx hb d_Mo_goal_29 (by decide) ?_
      refine hret _ _ _ _ _ (by rw [if_neg (by intro hh; first | exact absurd (hh.1.symm.trans c_14) (by decide) | exact hh.2 c_26)]; exact hP) (by rw [if_neg (by intro hh; first | exact absurd (hh.1.symm.trans c_14) (by decide) | exact hh.2 c_26)]; exact hD) hS d_Mo_goal_31 ?_
      rw [mgoR, if_neg (by simp [c_14]), if_pos c_26]
  · -- 14: not taken
    refine lv_bipush (v := (-2)) hx hb d_Mo_goal_17 (by decide) ?_
    refine hret _ _ _ _ _ (by rw [if_neg (by intro hh; first | exact absurd (hh.1.symm.trans c_14) (by decide) | exact hh.2 c_26)]; exact hP) (by rw [if_neg (by intro hh; first | exact absurd (hh.1.symm.trans c_14) (by decide) | exact hh.2 c_26)]; exact hD) hS d_Mo_goal_19 ?_
    rw [mgoR, if_pos c_14]
set_option maxHeartbeats 4000000 in
set_option maxRecDepth 100000 in
theorem k_Mo_trace (l : Launch) (g : va_G) (b : Nat → Nat) (cI cJ cZ : ClassId) (f0 : Nat) (mn : Nat) (mv : Nat) (mg : Nat) (mk : Nat → Nat) (mo : Nat → Nat) (mu : Nat → Nat) (md : Nat → Nat) (ms : Nat → Nat) (mb : Nat → Nat) (mc : Nat) (m1 : Nat → Nat) (m2 : Nat → Nat) (m3 : Nat → Nat) (m4 : Nat → Nat) (we : Bool) (ud : Nat → Bool) (my : Nat) (ea : Nat → Nat) (od : Nat) (oo : Nat → Nat) (dn : Nat → Bool) (va : Nat → Nat) (ho : Nat → Bool) (wt : Nat → Nat) (cm : Nat) (co : Nat → Nat) (te : Nat → Nat) (tm : Nat) (gs : Nat) (gl : Nat → Nat) (rs : Nat) (rg : Nat → Nat) (rp : Nat → Nat) (rt : Nat → Nat) (x : Int32) (y : Int32) (z : Int32) (hgs : gs ≤ 30) (hr : rs ≤ 100) (hrg : ∀ j, rg j < 1000) (hrp : ∀ j, rp j < 1000) (hrt : ∀ j, rt j < 1000) : ct_i l g vwCl (tyM cI cJ cZ) y_Mo_trace c_Mo_trace 5 (some .int) ({ frames := 1, cells := 0, slots := 0, locals := 25 } : Room) [.ref (b 0), .int x, .int y, .int z] (moW b cI cJ cZ f0 mn mv mg mk mo mu md ms mb mc m1 m2 m3 m4 we ud my ea od oo dn va ho wt cm co te tm gs gl rs rg rp rt) (if isI x.toInt64 (lN 1) (lN gs) = true ∧ isI y.toInt64 (lN 1) (lN 50) = true ∧ isI z.toInt64 (lN 0) (lN 50) = true ∧ hR rg rp rt x.toNatClampNeg y.toNatClampNeg z.toNatClampNeg rs = false ∧ ¬ rs = 100 then (moW b cI cJ cZ 0 mn mv mg mk mo mu md ms mb mc m1 m2 m3 m4 we ud my ea od oo dn va ho wt cm co te tm gs gl (rs + 1) (va_up rg rs x.toNatClampNeg) (va_up rp rs y.toNatClampNeg) (va_up rt rs z.toNatClampNeg)) else (moW b cI cJ cZ 0 mn mv mg mk mo mu md ms mb mc m1 m2 m3 m4 we ud my ea od oo dn va ho wt cm co te tm gs gl rs rg rp rt)) (mtrR gs rg rp rt rs x y z) := by
  refine ct_i.intro (by decide) (Nat.le_of_ble_eq_true rfl) ?_
  intro p e s m args below meth c Q A ls hx hb hml hT hown hA hK hN hret hP hD hS hl
  have hown : s.vm.findClass R_Mo = some m.cls := hown
  have hl : lv_has ls 5 [(0, .ref (b 0)), (1, .int x), (2, .int y), (3, .int z)] := hl
  refine lv_aload_n hx hb d_Mo_trace_0 rfl (lv_at hl 0 rfl) ?_
  refine lv_iconst (v := (nI 0)) hx hb d_Mo_trace_1 (by decide) ?_
  refine va_put (D := g) (ci := 8) (v := .int (nI 0)) (ty := .int) (C := R_Mo) (T := F_Mo) (N := 35) hx hb hT i_Mo t_Mo t_Mo_ok n_Mo hown hK hP hD hS 0 rfl rfl 0 (by decide) (hT _ tw_621) (fun _ h9 => h9) rfl (by decide +kernel) rfl rfl (Nat.le_of_ble_eq_true rfl) d_Mo_trace_2 (fun H locs hP hD hS => ?_)
  have hP : va_P g vwCl (moW b cI cJ cZ 0 mn mv mg mk mo mu md ms mb mc m1 m2 m3 m4 we ud my ea od oo dn va ho wt cm co te tm gs gl rs rg rp rt) H := hP
  have hD : va_D A (moW b cI cJ cZ 0 mn mv mg mk mo mu md ms mb mc m1 m2 m3 m4 we ud my ea od oo dn va ho wt cm co te tm gs gl rs rg rp rt) := hD
  refine lv_iload_n hx hb d_Mo_trace_5 rfl (lv_at hl 1 rfl) ?_
  refine lv_i2l (v := x.toInt64) hx hb d_Mo_trace_6 rfl ?_
  refine lv_lconst (v := (lN 1)) hx hb d_Mo_trace_7 (by decide) ?_
  refine lv_aload_n hx hb d_Mo_trace_8 rfl (lv_at hl 0 rfl) ?_
  refine va_get (D := g) (ci := 8) (v := .int (nI gs)) (C := R_Mo) (T := F_Mo) (N := 35) hx hb hT i_Mo hown hK hP 0 rfl rfl 29 (by decide) (hT _ tw_650) (fun _ h9 => h9) rfl d_Mo_trace_9 ?_
  refine lv_i2l (v := lN gs) hx hb d_Mo_trace_12 (nI_l (by omega)) ?_
  refine my_S_i (As := [.long x.toInt64, .long (lN 1), .long (lN gs)]) (n := 3) (k_Mo_isIn l g vwCl (tyM cI cJ cZ) (moW b cI cJ cZ 0 mn mv mg mk mo mu md ms mb mc m1 m2 m3 m4 we ud my ea od oo dn va ho wt cm co te tm gs gl rs rg rp rt) x.toInt64 (lN 1) (lN gs) ) hx hb hml hown hT hN tw_737 tw_738 tw_9 tw_739 (by decide +kernel) rfl rfl ⟨Nat.le_of_ble_eq_true rfl, Nat.le_of_ble_eq_true rfl⟩ ⟨Nat.zero_le _, Nat.zero_le _⟩ hK hP hD hS hA rfl hl rfl (Nat.le_of_ble_eq_true rfl) d_Mo_trace_13 (fun H locs hP hD hS => ?_)
  refine my_if_ne_b (tgt := 21) hx hb d_Mo_trace_16 (by decide) (fun c_16 => ?_) (fun c_16 => ?_)
  · -- 16: taken
    refine lv_iload_n hx hb d_Mo_trace_21 rfl (lv_at hl 2 rfl) ?_
    refine lv_i2l (v := y.toInt64) hx hb d_Mo_trace_22 rfl ?_
    refine lv_lconst (v := (lN 1)) hx hb d_Mo_trace_23 (by decide) ?_
    refine lv_ldc2 (v := (lN 50)) hx hb hown (hT _ tw_850) d_Mo_trace_24 ?_
    refine my_S_i (As := [.long y.toInt64, .long (lN 1), .long (lN 50)]) (n := 3) (k_Mo_isIn l g vwCl (tyM cI cJ cZ) (moW b cI cJ cZ 0 mn mv mg mk mo mu md ms mb mc m1 m2 m3 m4 we ud my ea od oo dn va ho wt cm co te tm gs gl rs rg rp rt) y.toInt64 (lN 1) (lN 50) ) hx hb hml hown hT hN tw_737 tw_738 tw_9 tw_739 (by decide +kernel) rfl rfl ⟨Nat.le_of_ble_eq_true rfl, Nat.le_of_ble_eq_true rfl⟩ ⟨Nat.zero_le _, Nat.zero_le _⟩ hK hP hD hS hA rfl hl rfl (Nat.le_of_ble_eq_true rfl) d_Mo_trace_27 (fun H locs hP hD hS => ?_)
    refine my_if_eq_b (tgt := 45) hx hb d_Mo_trace_30 (by decide) (fun c_30 => ?_) (fun c_30 => ?_)
    · -- 30: taken
      refine lv_bipush (v := (-2)) hx hb d_Mo_trace_45 (by decide) ?_
      refine hret _ _ _ _ _ (by rw [if_neg (by intro hh; first | exact absurd (hh.1.symm.trans c_16) (by decide) | exact absurd (hh.2.1.symm.trans c_30) (by decide) | exact absurd (hh.2.2.1.symm.trans c_42) (by decide) | exact absurd (hh.2.2.2.1.symm.trans (hR_t rs (by omega) c_68 c_79 c_90)) (by decide) | exact hh.2.2.2.2 c_108)]; exact hP) (by rw [if_neg (by intro hh; first | exact absurd (hh.1.symm.trans c_16) (by decide) | exact absurd (hh.2.1.symm.trans c_30) (by decide) | exact absurd (hh.2.2.1.symm.trans c_42) (by decide) | exact absurd (hh.2.2.2.1.symm.trans (hR_t rs (by omega) c_68 c_79 c_90)) (by decide) | exact hh.2.2.2.2 c_108)]; exact hD) hS d_Mo_trace_47 ?_
      rw [mtrR, if_neg (by simp [c_16]), if_pos (by first | exact Or.inl c_30 | exact Or.inr c_42)]
    · -- 30: not taken
      refine lv_iload_n hx hb d_Mo_trace_33 rfl (lv_at hl 3 rfl) ?_
      refine lv_i2l (v := z.toInt64) hx hb d_Mo_trace_34 rfl ?_
      refine lv_lconst (v := (lN 0)) hx hb d_Mo_trace_35 (by decide) ?_
      refine lv_ldc2 (v := (lN 50)) hx hb hown (hT _ tw_850) d_Mo_trace_36 ?_
      refine my_S_i (As := [.long z.toInt64, .long (lN 0), .long (lN 50)]) (n := 3) (k_Mo_isIn l g vwCl (tyM cI cJ cZ) (moW b cI cJ cZ 0 mn mv mg mk mo mu md ms mb mc m1 m2 m3 m4 we ud my ea od oo dn va ho wt cm co te tm gs gl rs rg rp rt) z.toInt64 (lN 0) (lN 50) ) hx hb hml hown hT hN tw_737 tw_738 tw_9 tw_739 (by decide +kernel) rfl rfl ⟨Nat.le_of_ble_eq_true rfl, Nat.le_of_ble_eq_true rfl⟩ ⟨Nat.zero_le _, Nat.zero_le _⟩ hK hP hD hS hA rfl hl rfl (Nat.le_of_ble_eq_true rfl) d_Mo_trace_39 (fun H locs hP hD hS => ?_)
      refine my_if_ne_b (tgt := 48) hx hb d_Mo_trace_42 (by decide) (fun c_42 => ?_) (fun c_42 => ?_)
      · -- 42: taken
        obtain ⟨x1, hx11, hx12, rfl⟩ := isI_nat (by decide) (by omega) c_16
        have hkc : (nI x1).toNatClampNeg = x1 := nI_clamp (by omega)
        simp only [hkc] at hret
        obtain ⟨y1, hy11, hy12, rfl⟩ := isI_nat (by decide) (by decide) c_30
        have hkc2 : (nI y1).toNatClampNeg = y1 := nI_clamp (by omega)
        simp only [hkc2] at hret
        obtain ⟨z1, hz11, hz12, rfl⟩ := isI_nat (by decide) (by decide) c_42
        have hkc3 : (nI z1).toNatClampNeg = z1 := nI_clamp (by omega)
        simp only [hkc3] at hret
        refine lv_iconst (v := (nI 0)) hx hb d_Mo_trace_48 (by decide) ?_
        refine lv_istore (lv' := [(4, .int (nI 0)), (0, .ref (b 0)), (1, .int (nI x1)), (2, .int (nI y1)), (3, .int (nI z1))]) hx hb d_Mo_trace_49 hl (by decide) rfl (fun ls hl => ?_)
        have lp_51 : ∀ (k : Nat) (i : Nat) (H : Heap) (locs : List Loc) (ls : Array Slot), (rs < i + k) → (i ≤ rs) → (hR rg rp rt x1 y1 z1 i = false) → va_P g vwCl (moW b cI cJ cZ 0 mn mv mg mk mo mu md ms mb mc m1 m2 m3 m4 we ud my ea od oo dn va ho wt cm co te tm gs gl rs rg rp rt) H → va_D A (moW b cI cJ cZ 0 mn mv mg mk mo mu md ms mb mc m1 m2 m3 m4 we ud my ea od oo dn va ho wt cm co te tm gs gl rs rg rp rt) → va_S A s.heap H locs → lv_has ls 5 [(0, .ref (b 0)), (1, .int (nI x1)), (2, .int (nI y1)), (3, .int (nI z1)), (4, .int (nI i))] → W p l e ({ frames := 1, cells := 0, slots := 0, locals := 25 } : Room) s m args below meth c H locs 0 0 Q (F0 m 51 ls []) := by
          intro k
          induction k with
          | zero =>
            intro i H locs ls hk hi hf hP hD hS hl
            exfalso
            omega
          | succ k ih_51 =>
            intro i H locs ls hk hi hf hP hD hS hl
            refine lv_iload hx hb d_Mo_trace_51 (lv_at hl 4 rfl) ?_
            refine lv_aload_n hx hb d_Mo_trace_53 rfl (lv_at hl 0 rfl) ?_
            refine va_get (D := g) (ci := 8) (v := .int (nI rs)) (C := R_Mo) (T := F_Mo) (N := 35) hx hb hT i_Mo hown hK hP 0 rfl rfl 31 (by decide) (hT _ tw_652) (fun _ h9 => h9) rfl d_Mo_trace_54 ?_
            refine my_icmp_ge (tgt := 102) (a := i) (b := rs) hx hb d_Mo_trace_57 (by decide) (by omega) (by omega) (fun c_57 => ?_) (fun c_57 => ?_)
            · -- 57: taken
              have hR0 : hR rg rp rt x1 y1 z1 rs = false := by rw [← hf, show i = rs by omega]
              refine lv_aload_n hx hb d_Mo_trace_102 rfl (lv_at hl 0 rfl) ?_
              refine va_get (D := g) (ci := 8) (v := .int (nI rs)) (C := R_Mo) (T := F_Mo) (N := 35) hx hb hT i_Mo hown hK hP 0 rfl rfl 31 (by decide) (hT _ tw_652) (fun _ h9 => h9) rfl d_Mo_trace_103 ?_
              refine lv_bipush (v := (nI 100)) hx hb d_Mo_trace_106 (by decide) ?_
              refine my_icmp_ne (tgt := 114) (a := rs) (b := 100) hx hb d_Mo_trace_108 (by decide) (by omega) (by omega) (fun c_108 => ?_) (fun c_108 => ?_)
              · -- 108: taken
                refine lv_aload_n hx hb d_Mo_trace_114 rfl (lv_at hl 0 rfl) ?_
                refine va_get (D := g) (ci := 8) (v := .ref (b 21)) (C := R_Mo) (T := F_Mo) (N := 35) hx hb hT i_Mo hown hK hP 0 rfl rfl 32 (by decide) (hT _ tw_653) (fun _ h9 => h9) rfl d_Mo_trace_115 ?_
                refine lv_aload_n hx hb d_Mo_trace_118 rfl (lv_at hl 0 rfl) ?_
                refine va_get (D := g) (ci := 8) (v := .int (nI rs)) (C := R_Mo) (T := F_Mo) (N := 35) hx hb hT i_Mo hown hK hP 0 rfl rfl 31 (by decide) (hT _ tw_652) (fun _ h9 => h9) rfl d_Mo_trace_119 ?_
                refine lv_iload_n hx hb d_Mo_trace_122 rfl (lv_at hl 1 rfl) ?_
                refine my_iast (i := rs) hx hb hK hP hD hS 21 0 rfl rfl (by omega) (by decide) (my_upN _ _ _) (w' := (moW b cI cJ cZ 0 mn mv mg mk mo mu md ms mb mc m1 m2 m3 m4 we ud my ea od oo dn va ho wt cm co te tm gs gl rs (va_up rg rs x1) rp rt)) rfl d_Mo_trace_123 (fun H locs hP hD hS => ?_)
                refine lv_aload_n hx hb d_Mo_trace_124 rfl (lv_at hl 0 rfl) ?_
                refine va_get (D := g) (ci := 8) (v := .ref (b 22)) (C := R_Mo) (T := F_Mo) (N := 35) hx hb hT i_Mo hown hK hP 0 rfl rfl 33 (by decide) (hT _ tw_654) (fun _ h9 => h9) rfl d_Mo_trace_125 ?_
                refine lv_aload_n hx hb d_Mo_trace_128 rfl (lv_at hl 0 rfl) ?_
                refine va_get (D := g) (ci := 8) (v := .int (nI rs)) (C := R_Mo) (T := F_Mo) (N := 35) hx hb hT i_Mo hown hK hP 0 rfl rfl 31 (by decide) (hT _ tw_652) (fun _ h9 => h9) rfl d_Mo_trace_129 ?_
                refine lv_iload_n hx hb d_Mo_trace_132 rfl (lv_at hl 2 rfl) ?_
                refine my_iast (i := rs) hx hb hK hP hD hS 22 0 rfl rfl (by omega) (by decide) (my_upN _ _ _) (w' := (moW b cI cJ cZ 0 mn mv mg mk mo mu md ms mb mc m1 m2 m3 m4 we ud my ea od oo dn va ho wt cm co te tm gs gl rs (va_up rg rs x1) (va_up rp rs y1) rt)) rfl d_Mo_trace_133 (fun H locs hP hD hS => ?_)
                refine lv_aload_n hx hb d_Mo_trace_134 rfl (lv_at hl 0 rfl) ?_
                refine va_get (D := g) (ci := 8) (v := .ref (b 23)) (C := R_Mo) (T := F_Mo) (N := 35) hx hb hT i_Mo hown hK hP 0 rfl rfl 34 (by decide) (hT _ tw_655) (fun _ h9 => h9) rfl d_Mo_trace_135 ?_
                refine lv_aload_n hx hb d_Mo_trace_138 rfl (lv_at hl 0 rfl) ?_
                refine va_get (D := g) (ci := 8) (v := .int (nI rs)) (C := R_Mo) (T := F_Mo) (N := 35) hx hb hT i_Mo hown hK hP 0 rfl rfl 31 (by decide) (hT _ tw_652) (fun _ h9 => h9) rfl d_Mo_trace_139 ?_
                refine lv_iload_n hx hb d_Mo_trace_142 rfl (lv_at hl 3 rfl) ?_
                refine my_iast (i := rs) hx hb hK hP hD hS 23 0 rfl rfl (by omega) (by decide) (my_upN _ _ _) (w' := (moW b cI cJ cZ 0 mn mv mg mk mo mu md ms mb mc m1 m2 m3 m4 we ud my ea od oo dn va ho wt cm co te tm gs gl rs (va_up rg rs x1) (va_up rp rs y1) (va_up rt rs z1))) rfl d_Mo_trace_143 (fun H locs hP hD hS => ?_)
                refine lv_aload_n hx hb d_Mo_trace_144 rfl (lv_at hl 0 rfl) ?_
                refine lv_dup hx hb d_Mo_trace_145 rfl ?_
                refine va_get (D := g) (ci := 8) (v := .int (nI rs)) (C := R_Mo) (T := F_Mo) (N := 35) hx hb hT i_Mo hown hK hP 0 rfl rfl 31 (by decide) (hT _ tw_652) (fun _ h9 => h9) rfl d_Mo_trace_146 ?_
                refine lv_iconst (v := (nI 1)) hx hb d_Mo_trace_149 (by decide) ?_
                refine lv_iadd hx hb d_Mo_trace_150 ?_
                refine my_ei (nI_add rs 1) ?_
                refine va_put (D := g) (ci := 8) (v := .int (nI (rs + 1))) (ty := .int) (C := R_Mo) (T := F_Mo) (N := 35) hx hb hT i_Mo t_Mo t_Mo_ok n_Mo hown hK hP hD hS 0 rfl rfl 31 (by decide) (hT _ tw_652) (fun _ h9 => h9) rfl (by decide +kernel) rfl rfl (Nat.le_of_ble_eq_true rfl) d_Mo_trace_151 (fun H locs hP hD hS => ?_)
                have hP : va_P g vwCl (moW b cI cJ cZ 0 mn mv mg mk mo mu md ms mb mc m1 m2 m3 m4 we ud my ea od oo dn va ho wt cm co te tm gs gl (rs + 1) (va_up rg rs x1) (va_up rp rs y1) (va_up rt rs z1)) H := hP
                have hD : va_D A (moW b cI cJ cZ 0 mn mv mg mk mo mu md ms mb mc m1 m2 m3 m4 we ud my ea od oo dn va ho wt cm co te tm gs gl (rs + 1) (va_up rg rs x1) (va_up rp rs y1) (va_up rt rs z1)) := hD
                refine lv_aload_n hx hb d_Mo_trace_154 rfl (lv_at hl 0 rfl) ?_
                refine va_get (D := g) (ci := 8) (v := .int (nI (rs + 1))) (C := R_Mo) (T := F_Mo) (N := 35) hx hb hT i_Mo hown hK hP 0 rfl rfl 31 (by decide) (hT _ tw_652) (fun _ h9 => h9) rfl d_Mo_trace_155 ?_
                refine hret _ _ _ _ _ (by rw [if_pos ⟨c_16, c_30, c_42, hR0, c_108⟩]; exact hP) (by rw [if_pos ⟨c_16, c_30, c_42, hR0, c_108⟩]; exact hD) hS d_Mo_trace_158 ?_
                rw [mtrR, if_neg (by simp [c_16]), if_neg (by simp [c_30, c_42]), hkc, hkc2, hkc3, if_neg (by simp [hR0]), if_neg c_108]
              · -- 108: not taken
                refine lv_bipush (v := (-4)) hx hb d_Mo_trace_111 (by decide) ?_
                refine hret _ _ _ _ _ (by rw [if_neg (by intro hh; first | exact absurd (hh.1.symm.trans c_16) (by decide) | exact absurd (hh.2.1.symm.trans c_30) (by decide) | exact absurd (hh.2.2.1.symm.trans c_42) (by decide) | exact absurd (hh.2.2.2.1.symm.trans (hR_t rs (by omega) c_68 c_79 c_90)) (by decide) | exact hh.2.2.2.2 c_108)]; exact hP) (by rw [if_neg (by intro hh; first | exact absurd (hh.1.symm.trans c_16) (by decide) | exact absurd (hh.2.1.symm.trans c_30) (by decide) | exact absurd (hh.2.2.1.symm.trans c_42) (by decide) | exact absurd (hh.2.2.2.1.symm.trans (hR_t rs (by omega) c_68 c_79 c_90)) (by decide) | exact hh.2.2.2.2 c_108)]; exact hD) hS d_Mo_trace_113 ?_
                rw [mtrR, if_neg (by simp [c_16]), if_neg (by simp [c_30, c_42]), hkc, hkc2, hkc3, if_neg (by simp [hR0]), if_pos c_108]
            · -- 57: not taken
              have q1 := hrg i; have q2 := hrp i; have q3 := hrt i
              refine lv_aload_n hx hb d_Mo_trace_60 rfl (lv_at hl 0 rfl) ?_
              refine va_get (D := g) (ci := 8) (v := .ref (b 21)) (C := R_Mo) (T := F_Mo) (N := 35) hx hb hT i_Mo hown hK hP 0 rfl rfl 32 (by decide) (hT _ tw_653) (fun _ h9 => h9) rfl d_Mo_trace_61 ?_
              refine lv_iload hx hb d_Mo_trace_64 (lv_at hl 4 rfl) ?_
              refine my_iald (v := (nI (rg i))) (i := i) hx hb hK hP 21 0 rfl rfl (by omega) (by decide) rfl d_Mo_trace_66 ?_
              refine lv_iload_n hx hb d_Mo_trace_67 rfl (lv_at hl 1 rfl) ?_
              refine my_icmp_ne (tgt := 96) (a := rg i) (b := x1) hx hb d_Mo_trace_68 (by decide) (by omega) (by omega) (fun c_68 => ?_) (fun c_68 => ?_)
              · -- 68: taken
                refine lv_iinc (v := (nI (i + 1))) (lv' := [(4, .int (nI (i + 1))), (0, .ref (b 0)), (1, .int (nI x1)), (2, .int (nI y1)), (3, .int (nI z1))]) hx hb d_Mo_trace_96 hl (k := 4) rfl (nI_1 i) (by decide) rfl (fun ls hl => ?_)
                refine lv_goto (tgt := 51) hx hb d_Mo_trace_99 (by decide) ?_
                refine ih_51 _ _ _ _ ?_ ?_ ?_ hP hD hS (lv_sub hl [1, 2, 3, 4, 0] rfl)
                · omega
                · omega
                · simp [hR, hf, c_68]
              · -- 68: not taken
                refine lv_aload_n hx hb d_Mo_trace_71 rfl (lv_at hl 0 rfl) ?_
                refine va_get (D := g) (ci := 8) (v := .ref (b 22)) (C := R_Mo) (T := F_Mo) (N := 35) hx hb hT i_Mo hown hK hP 0 rfl rfl 33 (by decide) (hT _ tw_654) (fun _ h9 => h9) rfl d_Mo_trace_72 ?_
                refine lv_iload hx hb d_Mo_trace_75 (lv_at hl 4 rfl) ?_
                refine my_iald (v := (nI (rp i))) (i := i) hx hb hK hP 22 0 rfl rfl (by omega) (by decide) rfl d_Mo_trace_77 ?_
                refine lv_iload_n hx hb d_Mo_trace_78 rfl (lv_at hl 2 rfl) ?_
                refine my_icmp_ne (tgt := 96) (a := rp i) (b := y1) hx hb d_Mo_trace_79 (by decide) (by omega) (by omega) (fun c_79 => ?_) (fun c_79 => ?_)
                · -- 79: taken
                  refine lv_iinc (v := (nI (i + 1))) (lv' := [(4, .int (nI (i + 1))), (0, .ref (b 0)), (1, .int (nI x1)), (2, .int (nI y1)), (3, .int (nI z1))]) hx hb d_Mo_trace_96 hl (k := 4) rfl (nI_1 i) (by decide) rfl (fun ls hl => ?_)
                  refine lv_goto (tgt := 51) hx hb d_Mo_trace_99 (by decide) ?_
                  refine ih_51 _ _ _ _ ?_ ?_ ?_ hP hD hS (lv_sub hl [1, 2, 3, 4, 0] rfl)
                  · omega
                  · omega
                  · simp [hR, hf, c_68, c_79]
                · -- 79: not taken
                  refine lv_aload_n hx hb d_Mo_trace_82 rfl (lv_at hl 0 rfl) ?_
                  refine va_get (D := g) (ci := 8) (v := .ref (b 23)) (C := R_Mo) (T := F_Mo) (N := 35) hx hb hT i_Mo hown hK hP 0 rfl rfl 34 (by decide) (hT _ tw_655) (fun _ h9 => h9) rfl d_Mo_trace_83 ?_
                  refine lv_iload hx hb d_Mo_trace_86 (lv_at hl 4 rfl) ?_
                  refine my_iald (v := (nI (rt i))) (i := i) hx hb hK hP 23 0 rfl rfl (by omega) (by decide) rfl d_Mo_trace_88 ?_
                  refine lv_iload_n hx hb d_Mo_trace_89 rfl (lv_at hl 3 rfl) ?_
                  refine my_icmp_ne (tgt := 96) (a := rt i) (b := z1) hx hb d_Mo_trace_90 (by decide) (by omega) (by omega) (fun c_90 => ?_) (fun c_90 => ?_)
                  · -- 90: taken
                    refine lv_iinc (v := (nI (i + 1))) (lv' := [(4, .int (nI (i + 1))), (0, .ref (b 0)), (1, .int (nI x1)), (2, .int (nI y1)), (3, .int (nI z1))]) hx hb d_Mo_trace_96 hl (k := 4) rfl (nI_1 i) (by decide) rfl (fun ls hl => ?_)
                    refine lv_goto (tgt := 51) hx hb d_Mo_trace_99 (by decide) ?_
                    refine ih_51 _ _ _ _ ?_ ?_ ?_ hP hD hS (lv_sub hl [1, 2, 3, 4, 0] rfl)
                    · omega
                    · omega
                    · simp [hR, hf, c_68, c_79, c_90]
                  · -- 90: not taken
                    refine lv_bipush (v := (-3)) hx hb d_Mo_trace_93 (by decide) ?_
                    refine hret _ _ _ _ _ (by rw [if_neg (by intro hh; first | exact absurd (hh.1.symm.trans c_16) (by decide) | exact absurd (hh.2.1.symm.trans c_30) (by decide) | exact absurd (hh.2.2.1.symm.trans c_42) (by decide) | exact absurd (hh.2.2.2.1.symm.trans (hR_t rs (by omega) c_68 c_79 c_90)) (by decide) | exact hh.2.2.2.2 c_108)]; exact hP) (by rw [if_neg (by intro hh; first | exact absurd (hh.1.symm.trans c_16) (by decide) | exact absurd (hh.2.1.symm.trans c_30) (by decide) | exact absurd (hh.2.2.1.symm.trans c_42) (by decide) | exact absurd (hh.2.2.2.1.symm.trans (hR_t rs (by omega) c_68 c_79 c_90)) (by decide) | exact hh.2.2.2.2 c_108)]; exact hD) hS d_Mo_trace_95 ?_
                    rw [mtrR, if_neg (by simp [c_16]), if_neg (by simp [c_30, c_42]), hkc, hkc2, hkc3, if_pos (hR_t rs (by omega) c_68 c_79 c_90)]
        refine lp_51 (rs + 1) _ _ _ _ ?_ ?_ ?_ hP hD hS (lv_sub hl [1, 2, 3, 4, 0] rfl)
        · omega
        · omega
        · rfl
      · -- 42: not taken
        refine lv_bipush (v := (-2)) hx hb d_Mo_trace_45 (by decide) ?_
        refine hret _ _ _ _ _ (by rw [if_neg (by intro hh; first | exact absurd (hh.1.symm.trans c_16) (by decide) | exact absurd (hh.2.1.symm.trans c_30) (by decide) | exact absurd (hh.2.2.1.symm.trans c_42) (by decide) | exact absurd (hh.2.2.2.1.symm.trans (hR_t rs (by omega) c_68 c_79 c_90)) (by decide) | exact hh.2.2.2.2 c_108)]; exact hP) (by rw [if_neg (by intro hh; first | exact absurd (hh.1.symm.trans c_16) (by decide) | exact absurd (hh.2.1.symm.trans c_30) (by decide) | exact absurd (hh.2.2.1.symm.trans c_42) (by decide) | exact absurd (hh.2.2.2.1.symm.trans (hR_t rs (by omega) c_68 c_79 c_90)) (by decide) | exact hh.2.2.2.2 c_108)]; exact hD) hS d_Mo_trace_47 ?_
        rw [mtrR, if_neg (by simp [c_16]), if_pos (by first | exact Or.inl c_30 | exact Or.inr c_42)]
  · -- 16: not taken
    refine lv_iconst (v := (-1)) hx hb d_Mo_trace_19 (by decide) ?_
    refine hret _ _ _ _ _ (by rw [if_neg (by intro hh; first | exact absurd (hh.1.symm.trans c_16) (by decide) | exact absurd (hh.2.1.symm.trans c_30) (by decide) | exact absurd (hh.2.2.1.symm.trans c_42) (by decide) | exact absurd (hh.2.2.2.1.symm.trans (hR_t rs (by omega) c_68 c_79 c_90)) (by decide) | exact hh.2.2.2.2 c_108)]; exact hP) (by rw [if_neg (by intro hh; first | exact absurd (hh.1.symm.trans c_16) (by decide) | exact absurd (hh.2.1.symm.trans c_30) (by decide) | exact absurd (hh.2.2.1.symm.trans c_42) (by decide) | exact absurd (hh.2.2.2.1.symm.trans (hR_t rs (by omega) c_68 c_79 c_90)) (by decide) | exact hh.2.2.2.2 c_108)]; exact hD) hS d_Mo_trace_20 ?_
    rw [mtrR, if_pos c_16]
set_option maxHeartbeats 4000000 in
set_option maxRecDepth 100000 in
theorem k_Mo_rowsOf (l : Launch) (g : va_G) (b : Nat → Nat) (cI cJ cZ : ClassId) (f0 : Nat) (mn : Nat) (mv : Nat) (mg : Nat) (mk : Nat → Nat) (mo : Nat → Nat) (mu : Nat → Nat) (md : Nat → Nat) (ms : Nat → Nat) (mb : Nat → Nat) (mc : Nat) (m1 : Nat → Nat) (m2 : Nat → Nat) (m3 : Nat → Nat) (m4 : Nat → Nat) (we : Bool) (ud : Nat → Bool) (my : Nat) (ea : Nat → Nat) (od : Nat) (oo : Nat → Nat) (dn : Nat → Bool) (va : Nat → Nat) (ho : Nat → Bool) (wt : Nat → Nat) (cm : Nat) (co : Nat → Nat) (te : Nat → Nat) (tm : Nat) (gs : Nat) (gl : Nat → Nat) (rs : Nat) (rg : Nat → Nat) (rp : Nat → Nat) (rt : Nat → Nat) (x : Nat) (y : Nat) (t : Bool) (hr : rs ≤ 100) (hx1 : x < 1000) (hy1 : y < 1000) (hrg : ∀ j, rg j < 1000) (hrp : ∀ j, rp j < 1000) (hrt : ∀ j, rt j < 1000) : ct_i l g vwCl (tyM cI cJ cZ) y_Mo_rowsOf c_Mo_rowsOf 7 (some .int) ({ frames := 0, cells := 0, slots := 0, locals := 0 } : Room) [.ref (b 0), .int (nI x), .int (nI y), .int (b2 t)] (moW b cI cJ cZ f0 mn mv mg mk mo mu md ms mb mc m1 m2 m3 m4 we ud my ea od oo dn va ho wt cm co te tm gs gl rs rg rp rt) (moW b cI cJ cZ f0 mn mv mg mk mo mu md ms mb mc m1 m2 m3 m4 we ud my ea od oo dn va ho wt cm co te tm gs gl rs rg rp rt) (nI (roF rg rp rt x y t rs)) := by
  refine ct_i.intro (by decide) (Nat.le_of_ble_eq_true rfl) ?_
  intro p e s m args below meth c Q A ls hx hb hml hT hown hA hK hN hret hP hD hS hl
  have hown : s.vm.findClass R_Mo = some m.cls := hown
  have hl : lv_has ls 7 [(0, .ref (b 0)), (1, .int (nI x)), (2, .int (nI y)), (3, .int (b2 t))] := hl
  refine lv_iconst (v := (nI 0)) hx hb d_Mo_rowsOf_0 (by decide) ?_
  refine lv_istore (lv' := [(4, .int (nI 0)), (0, .ref (b 0)), (1, .int (nI x)), (2, .int (nI y)), (3, .int (b2 t))]) hx hb d_Mo_rowsOf_1 hl (by decide) rfl (fun ls hl => ?_)
  refine lv_iconst (v := (nI 0)) hx hb d_Mo_rowsOf_3 (by decide) ?_
  refine lv_istore (lv' := [(5, .int (nI 0)), (4, .int (nI 0)), (0, .ref (b 0)), (1, .int (nI x)), (2, .int (nI y)), (3, .int (b2 t))]) hx hb d_Mo_rowsOf_4 hl (by decide) rfl (fun ls hl => ?_)
  have lp_6 : ∀ (k : Nat) (i : Nat) (f : Nat) (H : Heap) (locs : List Loc) (ls : Array Slot), (rs < i + k) → (i ≤ rs) → (f = roF rg rp rt x y t i) → va_P g vwCl (moW b cI cJ cZ f0 mn mv mg mk mo mu md ms mb mc m1 m2 m3 m4 we ud my ea od oo dn va ho wt cm co te tm gs gl rs rg rp rt) H → va_D A (moW b cI cJ cZ f0 mn mv mg mk mo mu md ms mb mc m1 m2 m3 m4 we ud my ea od oo dn va ho wt cm co te tm gs gl rs rg rp rt) → va_S A s.heap H locs → lv_has ls 7 [(0, .ref (b 0)), (1, .int (nI x)), (2, .int (nI y)), (3, .int (b2 t)), (4, .int (nI f)), (5, .int (nI i))] → W p l e ({ frames := 0, cells := 0, slots := 0, locals := 0 } : Room) s m args below meth c H locs 0 0 Q (F0 m 6 ls []) := by
    intro k
    induction k with
    | zero =>
      intro i f H locs ls hk hi hf hP hD hS hl
      exfalso
      omega
    | succ k ih_6 =>
      intro i f H locs ls hk hi hf hP hD hS hl
      refine lv_iload hx hb d_Mo_rowsOf_6 (lv_at hl 5 rfl) ?_
      refine lv_aload_n hx hb d_Mo_rowsOf_8 rfl (lv_at hl 0 rfl) ?_
      refine va_get (D := g) (ci := 8) (v := .int (nI rs)) (C := R_Mo) (T := F_Mo) (N := 35) hx hb hT i_Mo hown hK hP 0 rfl rfl 31 (by decide) (hT _ tw_652) (fun _ h9 => h9) rfl d_Mo_rowsOf_9 ?_
      refine my_icmp_ge (tgt := 88) (a := i) (b := rs) hx hb d_Mo_rowsOf_12 (by decide) (by omega) (by omega) (fun c_12 => ?_) (fun c_12 => ?_)
      · -- 12: taken
        refine lv_iload hx hb d_Mo_rowsOf_88 (lv_at hl 4 rfl) ?_
        refine hret _ _ _ _ _ hP hD hS d_Mo_rowsOf_90 ?_
        rw [hf, show i = rs by omega]
      · -- 12: not taken
        have q1 := hrg i; have q2 := hrp i; have q3 := hrt i
        have q4 := roF_le rg rp rt x y t i
        refine lv_iload_n hx hb d_Mo_rowsOf_15 rfl (lv_at hl 1 rfl) ?_
        refine my_if_eq (tgt := 30) (a := x) hx hb d_Mo_rowsOf_16 (by decide) (by omega) (fun c_16 => ?_) (fun c_16 => ?_)
        · -- 16: taken
          refine lv_iload_n hx hb d_Mo_rowsOf_30 rfl (lv_at hl 2 rfl) ?_
          refine my_if_eq (tgt := 45) (a := y) hx hb d_Mo_rowsOf_31 (by decide) (by omega) (fun c_31 => ?_) (fun c_31 => ?_)
          · -- 31: taken
            refine lv_iconst (v := (nI 1)) hx hb d_Mo_rowsOf_45 (by decide) ?_
            refine lv_goto (tgt := 50) hx hb d_Mo_rowsOf_46 (by decide) ?_
            refine lv_istore (lv' := [(6, .int (nI 1)), (0, .ref (b 0)), (1, .int (nI x)), (2, .int (nI y)), (3, .int (b2 t)), (4, .int (nI f)), (5, .int (nI i))]) hx hb d_Mo_rowsOf_50 hl (by decide) rfl (fun ls hl => ?_)
            refine lv_iload hx hb d_Mo_rowsOf_52 (lv_at hl 0 rfl) ?_
            refine lv_if_eq (tgt := 78) hx hb d_Mo_rowsOf_54 (by decide) (fun q => absurd q (by decide)) (fun _ => ?_)
            refine lv_iload_n hx hb d_Mo_rowsOf_57 rfl (lv_at hl 4 rfl) ?_
            refine my_if_eq_b (tgt := 71) hx hb d_Mo_rowsOf_58 (by decide) (fun c_58 => ?_) (fun c_58 => ?_)
            · -- 58: taken
              refine lv_iload hx hb d_Mo_rowsOf_71 (lv_at hl 5 rfl) ?_
              refine lv_iconst (v := (nI 1)) hx hb d_Mo_rowsOf_73 (by decide) ?_
              refine lv_iadd hx hb d_Mo_rowsOf_74 ?_
              refine my_ei (nI_add f 1) ?_
              refine lv_goto (tgt := 80) hx hb d_Mo_rowsOf_75 (by decide) ?_
              refine lv_istore (lv' := [(4, .int (nI (f + 1))), (6, .int (nI 1)), (0, .ref (b 0)), (1, .int (nI x)), (2, .int (nI y)), (3, .int (b2 t)), (5, .int (nI i))]) hx hb d_Mo_rowsOf_80 hl (by decide) rfl (fun ls hl => ?_)
              refine lv_iinc (v := (nI (i + 1))) (lv' := [(5, .int (nI (i + 1))), (4, .int (nI (f + 1))), (6, .int (nI 1)), (0, .ref (b 0)), (1, .int (nI x)), (2, .int (nI y)), (3, .int (b2 t))]) hx hb d_Mo_rowsOf_82 hl (k := 6) rfl (nI_1 i) (by decide) rfl (fun ls hl => ?_)
              refine lv_goto (tgt := 6) hx hb d_Mo_rowsOf_85 (by decide) ?_
              refine ih_6 _ _ _ _ _ ?_ ?_ ?_ hP hD hS (lv_sub hl [3, 4, 5, 6, 1, 0] rfl)
              · omega
              · omega
              · rw [hf]
                show _ = roF rg rp rt x y t i + _
                rw [if_pos ⟨by omega, by omega, by first | exact Or.inl c_58 | exact Or.inr c_68⟩]
            · -- 58: not taken
              refine lv_aload_n hx hb d_Mo_rowsOf_61 rfl (lv_at hl 1 rfl) ?_
              refine va_get (D := g) (ci := 8) (v := .ref (b 23)) (C := R_Mo) (T := F_Mo) (N := 35) hx hb hT i_Mo hown hK hP 0 rfl rfl 34 (by decide) (hT _ tw_655) (fun _ h9 => h9) rfl d_Mo_rowsOf_62 ?_
              refine lv_iload hx hb d_Mo_rowsOf_65 (lv_at hl 6 rfl) ?_
              refine my_iald (v := (nI (rt i))) (i := i) hx hb hK hP 23 0 rfl rfl (by omega) (by decide) rfl d_Mo_rowsOf_67 ?_
              refine my_if_le (tgt := 78) (a := rt i) hx hb d_Mo_rowsOf_68 (by decide) (by omega) (fun c_68 => ?_) (fun c_68 => ?_)
              · -- 68: taken
                refine lv_iload hx hb d_Mo_rowsOf_78 (lv_at hl 5 rfl) ?_
                refine lv_istore (lv' := [(4, .int (nI f)), (6, .int (nI 1)), (0, .ref (b 0)), (1, .int (nI x)), (2, .int (nI y)), (3, .int (b2 t)), (5, .int (nI i))]) hx hb d_Mo_rowsOf_80 hl (by decide) rfl (fun ls hl => ?_)
                refine lv_iinc (v := (nI (i + 1))) (lv' := [(5, .int (nI (i + 1))), (4, .int (nI f)), (6, .int (nI 1)), (0, .ref (b 0)), (1, .int (nI x)), (2, .int (nI y)), (3, .int (b2 t))]) hx hb d_Mo_rowsOf_82 hl (k := 6) rfl (nI_1 i) (by decide) rfl (fun ls hl => ?_)
                refine lv_goto (tgt := 6) hx hb d_Mo_rowsOf_85 (by decide) ?_
                refine ih_6 _ _ _ _ _ ?_ ?_ ?_ hP hD hS (lv_sub hl [3, 4, 5, 6, 1, 0] rfl)
                · omega
                · omega
                · rw [hf]
                  show _ = roF rg rp rt x y t i + _
                  rw [if_neg (by intro hh; obtain ⟨h1, h2, h3⟩ := hh; first | omega | (rcases h3 with h3 | h3; rw [c_58] at h3; exact absurd h3 (by decide); omega))]; rfl
              · -- 68: not taken
                refine lv_iload hx hb d_Mo_rowsOf_71 (lv_at hl 5 rfl) ?_
                refine lv_iconst (v := (nI 1)) hx hb d_Mo_rowsOf_73 (by decide) ?_
                refine lv_iadd hx hb d_Mo_rowsOf_74 ?_
                refine my_ei (nI_add f 1) ?_
                refine lv_goto (tgt := 80) hx hb d_Mo_rowsOf_75 (by decide) ?_
                refine lv_istore (lv' := [(4, .int (nI (f + 1))), (6, .int (nI 1)), (0, .ref (b 0)), (1, .int (nI x)), (2, .int (nI y)), (3, .int (b2 t)), (5, .int (nI i))]) hx hb d_Mo_rowsOf_80 hl (by decide) rfl (fun ls hl => ?_)
                refine lv_iinc (v := (nI (i + 1))) (lv' := [(5, .int (nI (i + 1))), (4, .int (nI (f + 1))), (6, .int (nI 1)), (0, .ref (b 0)), (1, .int (nI x)), (2, .int (nI y)), (3, .int (b2 t))]) hx hb d_Mo_rowsOf_82 hl (k := 6) rfl (nI_1 i) (by decide) rfl (fun ls hl => ?_)
                refine lv_goto (tgt := 6) hx hb d_Mo_rowsOf_85 (by decide) ?_
                refine ih_6 _ _ _ _ _ ?_ ?_ ?_ hP hD hS (lv_sub hl [3, 4, 5, 6, 1, 0] rfl)
                · omega
                · omega
                · rw [hf]
                  show _ = roF rg rp rt x y t i + _
                  rw [if_pos ⟨by omega, by omega, by first | exact Or.inl c_58 | exact Or.inr c_68⟩]
          · -- 31: not taken
            refine lv_aload_n hx hb d_Mo_rowsOf_34 rfl (lv_at hl 0 rfl) ?_
            refine va_get (D := g) (ci := 8) (v := .ref (b 22)) (C := R_Mo) (T := F_Mo) (N := 35) hx hb hT i_Mo hown hK hP 0 rfl rfl 33 (by decide) (hT _ tw_654) (fun _ h9 => h9) rfl d_Mo_rowsOf_35 ?_
            refine lv_iload hx hb d_Mo_rowsOf_38 (lv_at hl 5 rfl) ?_
            refine my_iald (v := (nI (rp i))) (i := i) hx hb hK hP 22 0 rfl rfl (by omega) (by decide) rfl d_Mo_rowsOf_40 ?_
            refine lv_iload_n hx hb d_Mo_rowsOf_41 rfl (lv_at hl 2 rfl) ?_
            refine my_icmp_ne (tgt := 49) (a := rp i) (b := y) hx hb d_Mo_rowsOf_42 (by decide) (by omega) (by omega) (fun c_42 => ?_) (fun c_42 => ?_)
            · -- 42: taken
              refine lv_iconst (v := (nI 0)) hx hb d_Mo_rowsOf_49 (by decide) ?_
              refine lv_istore (lv' := [(6, .int (nI 0)), (0, .ref (b 0)), (1, .int (nI x)), (2, .int (nI y)), (3, .int (b2 t)), (4, .int (nI f)), (5, .int (nI i))]) hx hb d_Mo_rowsOf_50 hl (by decide) rfl (fun ls hl => ?_)
              refine lv_iload hx hb d_Mo_rowsOf_52 (lv_at hl 0 rfl) ?_
              refine lv_if_eq (tgt := 78) hx hb d_Mo_rowsOf_54 (by decide) (fun _ => ?_) (fun q => absurd (by decide) q)
              refine lv_iload hx hb d_Mo_rowsOf_78 (lv_at hl 5 rfl) ?_
              refine lv_istore (lv' := [(4, .int (nI f)), (6, .int (nI 0)), (0, .ref (b 0)), (1, .int (nI x)), (2, .int (nI y)), (3, .int (b2 t)), (5, .int (nI i))]) hx hb d_Mo_rowsOf_80 hl (by decide) rfl (fun ls hl => ?_)
              refine lv_iinc (v := (nI (i + 1))) (lv' := [(5, .int (nI (i + 1))), (4, .int (nI f)), (6, .int (nI 0)), (0, .ref (b 0)), (1, .int (nI x)), (2, .int (nI y)), (3, .int (b2 t))]) hx hb d_Mo_rowsOf_82 hl (k := 6) rfl (nI_1 i) (by decide) rfl (fun ls hl => ?_)
              refine lv_goto (tgt := 6) hx hb d_Mo_rowsOf_85 (by decide) ?_
              refine ih_6 _ _ _ _ _ ?_ ?_ ?_ hP hD hS (lv_sub hl [3, 4, 5, 6, 1, 0] rfl)
              · omega
              · omega
              · rw [hf]
                show _ = roF rg rp rt x y t i + _
                rw [if_neg (by intro hh; obtain ⟨h1, h2, h3⟩ := hh; first | omega | (rcases h3 with h3 | h3; rw [c_58] at h3; exact absurd h3 (by decide); omega))]; rfl
            · -- 42: not taken
              refine lv_iconst (v := (nI 1)) hx hb d_Mo_rowsOf_45 (by decide) ?_
              refine lv_goto (tgt := 50) hx hb d_Mo_rowsOf_46 (by decide) ?_
              refine lv_istore (lv' := [(6, .int (nI 1)), (0, .ref (b 0)), (1, .int (nI x)), (2, .int (nI y)), (3, .int (b2 t)), (4, .int (nI f)), (5, .int (nI i))]) hx hb d_Mo_rowsOf_50 hl (by decide) rfl (fun ls hl => ?_)
              refine lv_iload hx hb d_Mo_rowsOf_52 (lv_at hl 0 rfl) ?_
              refine lv_if_eq (tgt := 78) hx hb d_Mo_rowsOf_54 (by decide) (fun q => absurd q (by decide)) (fun _ => ?_)
              refine lv_iload_n hx hb d_Mo_rowsOf_57 rfl (lv_at hl 4 rfl) ?_
              refine my_if_eq_b (tgt := 71) hx hb d_Mo_rowsOf_58 (by decide) (fun c_58 => ?_) (fun c_58 => ?_)
              · -- 58: taken
                refine lv_iload hx hb d_Mo_rowsOf_71 (lv_at hl 5 rfl) ?_
                refine lv_iconst (v := (nI 1)) hx hb d_Mo_rowsOf_73 (by decide) ?_
                refine lv_iadd hx hb d_Mo_rowsOf_74 ?_
                refine my_ei (nI_add f 1) ?_
                refine lv_goto (tgt := 80) hx hb d_Mo_rowsOf_75 (by decide) ?_
                refine lv_istore (lv' := [(4, .int (nI (f + 1))), (6, .int (nI 1)), (0, .ref (b 0)), (1, .int (nI x)), (2, .int (nI y)), (3, .int (b2 t)), (5, .int (nI i))]) hx hb d_Mo_rowsOf_80 hl (by decide) rfl (fun ls hl => ?_)
                refine lv_iinc (v := (nI (i + 1))) (lv' := [(5, .int (nI (i + 1))), (4, .int (nI (f + 1))), (6, .int (nI 1)), (0, .ref (b 0)), (1, .int (nI x)), (2, .int (nI y)), (3, .int (b2 t))]) hx hb d_Mo_rowsOf_82 hl (k := 6) rfl (nI_1 i) (by decide) rfl (fun ls hl => ?_)
                refine lv_goto (tgt := 6) hx hb d_Mo_rowsOf_85 (by decide) ?_
                refine ih_6 _ _ _ _ _ ?_ ?_ ?_ hP hD hS (lv_sub hl [3, 4, 5, 6, 1, 0] rfl)
                · omega
                · omega
                · rw [hf]
                  show _ = roF rg rp rt x y t i + _
                  rw [if_pos ⟨by omega, by omega, by first | exact Or.inl c_58 | exact Or.inr c_68⟩]
              · -- 58: not taken
                refine lv_aload_n hx hb d_Mo_rowsOf_61 rfl (lv_at hl 1 rfl) ?_
                refine va_get (D := g) (ci := 8) (v := .ref (b 23)) (C := R_Mo) (T := F_Mo) (N := 35) hx hb hT i_Mo hown hK hP 0 rfl rfl 34 (by decide) (hT _ tw_655) (fun _ h9 => h9) rfl d_Mo_rowsOf_62 ?_
                refine lv_iload hx hb d_Mo_rowsOf_65 (lv_at hl 6 rfl) ?_
                refine my_iald (v := (nI (rt i))) (i := i) hx hb hK hP 23 0 rfl rfl (by omega) (by decide) rfl d_Mo_rowsOf_67 ?_
                refine my_if_le (tgt := 78) (a := rt i) hx hb d_Mo_rowsOf_68 (by decide) (by omega) (fun c_68 => ?_) (fun c_68 => ?_)
                · -- 68: taken
                  refine lv_iload hx hb d_Mo_rowsOf_78 (lv_at hl 5 rfl) ?_
                  refine lv_istore (lv' := [(4, .int (nI f)), (6, .int (nI 1)), (0, .ref (b 0)), (1, .int (nI x)), (2, .int (nI y)), (3, .int (b2 t)), (5, .int (nI i))]) hx hb d_Mo_rowsOf_80 hl (by decide) rfl (fun ls hl => ?_)
                  refine lv_iinc (v := (nI (i + 1))) (lv' := [(5, .int (nI (i + 1))), (4, .int (nI f)), (6, .int (nI 1)), (0, .ref (b 0)), (1, .int (nI x)), (2, .int (nI y)), (3, .int (b2 t))]) hx hb d_Mo_rowsOf_82 hl (k := 6) rfl (nI_1 i) (by decide) rfl (fun ls hl => ?_)
                  refine lv_goto (tgt := 6) hx hb d_Mo_rowsOf_85 (by decide) ?_
                  refine ih_6 _ _ _ _ _ ?_ ?_ ?_ hP hD hS (lv_sub hl [3, 4, 5, 6, 1, 0] rfl)
                  · omega
                  · omega
                  · rw [hf]
                    show _ = roF rg rp rt x y t i + _
                    rw [if_neg (by intro hh; obtain ⟨h1, h2, h3⟩ := hh; first | omega | (rcases h3 with h3 | h3; rw [c_58] at h3; exact absurd h3 (by decide); omega))]; rfl
                · -- 68: not taken
                  refine lv_iload hx hb d_Mo_rowsOf_71 (lv_at hl 5 rfl) ?_
                  refine lv_iconst (v := (nI 1)) hx hb d_Mo_rowsOf_73 (by decide) ?_
                  refine lv_iadd hx hb d_Mo_rowsOf_74 ?_
                  refine my_ei (nI_add f 1) ?_
                  refine lv_goto (tgt := 80) hx hb d_Mo_rowsOf_75 (by decide) ?_
                  refine lv_istore (lv' := [(4, .int (nI (f + 1))), (6, .int (nI 1)), (0, .ref (b 0)), (1, .int (nI x)), (2, .int (nI y)), (3, .int (b2 t)), (5, .int (nI i))]) hx hb d_Mo_rowsOf_80 hl (by decide) rfl (fun ls hl => ?_)
                  refine lv_iinc (v := (nI (i + 1))) (lv' := [(5, .int (nI (i + 1))), (4, .int (nI (f + 1))), (6, .int (nI 1)), (0, .ref (b 0)), (1, .int (nI x)), (2, .int (nI y)), (3, .int (b2 t))]) hx hb d_Mo_rowsOf_82 hl (k := 6) rfl (nI_1 i) (by decide) rfl (fun ls hl => ?_)
                  refine lv_goto (tgt := 6) hx hb d_Mo_rowsOf_85 (by decide) ?_
                  refine ih_6 _ _ _ _ _ ?_ ?_ ?_ hP hD hS (lv_sub hl [3, 4, 5, 6, 1, 0] rfl)
                  · omega
                  · omega
                  · rw [hf]
                    show _ = roF rg rp rt x y t i + _
                    rw [if_pos ⟨by omega, by omega, by first | exact Or.inl c_58 | exact Or.inr c_68⟩]
        · -- 16: not taken
          refine lv_aload_n hx hb d_Mo_rowsOf_19 rfl (lv_at hl 0 rfl) ?_
          refine va_get (D := g) (ci := 8) (v := .ref (b 21)) (C := R_Mo) (T := F_Mo) (N := 35) hx hb hT i_Mo hown hK hP 0 rfl rfl 32 (by decide) (hT _ tw_653) (fun _ h9 => h9) rfl d_Mo_rowsOf_20 ?_
          refine lv_iload hx hb d_Mo_rowsOf_23 (lv_at hl 5 rfl) ?_
          refine my_iald (v := (nI (rg i))) (i := i) hx hb hK hP 21 0 rfl rfl (by omega) (by decide) rfl d_Mo_rowsOf_25 ?_
          refine lv_iload_n hx hb d_Mo_rowsOf_26 rfl (lv_at hl 1 rfl) ?_
          refine my_icmp_ne (tgt := 49) (a := rg i) (b := x) hx hb d_Mo_rowsOf_27 (by decide) (by omega) (by omega) (fun c_27 => ?_) (fun c_27 => ?_)
          · -- 27: taken
            refine lv_iconst (v := (nI 0)) hx hb d_Mo_rowsOf_49 (by decide) ?_
            refine lv_istore (lv' := [(6, .int (nI 0)), (0, .ref (b 0)), (1, .int (nI x)), (2, .int (nI y)), (3, .int (b2 t)), (4, .int (nI f)), (5, .int (nI i))]) hx hb d_Mo_rowsOf_50 hl (by decide) rfl (fun ls hl => ?_)
            refine lv_iload hx hb d_Mo_rowsOf_52 (lv_at hl 0 rfl) ?_
            refine lv_if_eq (tgt := 78) hx hb d_Mo_rowsOf_54 (by decide) (fun _ => ?_) (fun q => absurd (by decide) q)
            refine lv_iload hx hb d_Mo_rowsOf_78 (lv_at hl 5 rfl) ?_
            refine lv_istore (lv' := [(4, .int (nI f)), (6, .int (nI 0)), (0, .ref (b 0)), (1, .int (nI x)), (2, .int (nI y)), (3, .int (b2 t)), (5, .int (nI i))]) hx hb d_Mo_rowsOf_80 hl (by decide) rfl (fun ls hl => ?_)
            refine lv_iinc (v := (nI (i + 1))) (lv' := [(5, .int (nI (i + 1))), (4, .int (nI f)), (6, .int (nI 0)), (0, .ref (b 0)), (1, .int (nI x)), (2, .int (nI y)), (3, .int (b2 t))]) hx hb d_Mo_rowsOf_82 hl (k := 6) rfl (nI_1 i) (by decide) rfl (fun ls hl => ?_)
            refine lv_goto (tgt := 6) hx hb d_Mo_rowsOf_85 (by decide) ?_
            refine ih_6 _ _ _ _ _ ?_ ?_ ?_ hP hD hS (lv_sub hl [3, 4, 5, 6, 1, 0] rfl)
            · omega
            · omega
            · rw [hf]
              show _ = roF rg rp rt x y t i + _
              rw [if_neg (by intro hh; obtain ⟨h1, h2, h3⟩ := hh; first | omega | (rcases h3 with h3 | h3; rw [c_58] at h3; exact absurd h3 (by decide); omega))]; rfl
          · -- 27: not taken
            refine lv_iload_n hx hb d_Mo_rowsOf_30 rfl (lv_at hl 2 rfl) ?_
            refine my_if_eq (tgt := 45) (a := y) hx hb d_Mo_rowsOf_31 (by decide) (by omega) (fun c_31 => ?_) (fun c_31 => ?_)
            · -- 31: taken
              refine lv_iconst (v := (nI 1)) hx hb d_Mo_rowsOf_45 (by decide) ?_
              refine lv_goto (tgt := 50) hx hb d_Mo_rowsOf_46 (by decide) ?_
              refine lv_istore (lv' := [(6, .int (nI 1)), (0, .ref (b 0)), (1, .int (nI x)), (2, .int (nI y)), (3, .int (b2 t)), (4, .int (nI f)), (5, .int (nI i))]) hx hb d_Mo_rowsOf_50 hl (by decide) rfl (fun ls hl => ?_)
              refine lv_iload hx hb d_Mo_rowsOf_52 (lv_at hl 0 rfl) ?_
              refine lv_if_eq (tgt := 78) hx hb d_Mo_rowsOf_54 (by decide) (fun q => absurd q (by decide)) (fun _ => ?_)
              refine lv_iload_n hx hb d_Mo_rowsOf_57 rfl (lv_at hl 4 rfl) ?_
              refine my_if_eq_b (tgt := 71) hx hb d_Mo_rowsOf_58 (by decide) (fun c_58 => ?_) (fun c_58 => ?_)
              · -- 58: taken
                refine lv_iload hx hb d_Mo_rowsOf_71 (lv_at hl 5 rfl) ?_
                refine lv_iconst (v := (nI 1)) hx hb d_Mo_rowsOf_73 (by decide) ?_
                refine lv_iadd hx hb d_Mo_rowsOf_74 ?_
                refine my_ei (nI_add f 1) ?_
                refine lv_goto (tgt := 80) hx hb d_Mo_rowsOf_75 (by decide) ?_
                refine lv_istore (lv' := [(4, .int (nI (f + 1))), (6, .int (nI 1)), (0, .ref (b 0)), (1, .int (nI x)), (2, .int (nI y)), (3, .int (b2 t)), (5, .int (nI i))]) hx hb d_Mo_rowsOf_80 hl (by decide) rfl (fun ls hl => ?_)
                refine lv_iinc (v := (nI (i + 1))) (lv' := [(5, .int (nI (i + 1))), (4, .int (nI (f + 1))), (6, .int (nI 1)), (0, .ref (b 0)), (1, .int (nI x)), (2, .int (nI y)), (3, .int (b2 t))]) hx hb d_Mo_rowsOf_82 hl (k := 6) rfl (nI_1 i) (by decide) rfl (fun ls hl => ?_)
                refine lv_goto (tgt := 6) hx hb d_Mo_rowsOf_85 (by decide) ?_
                refine ih_6 _ _ _ _ _ ?_ ?_ ?_ hP hD hS (lv_sub hl [3, 4, 5, 6, 1, 0] rfl)
                · omega
                · omega
                · rw [hf]
                  show _ = roF rg rp rt x y t i + _
                  rw [if_pos ⟨by omega, by omega, by first | exact Or.inl c_58 | exact Or.inr c_68⟩]
              · -- 58: not taken
                refine lv_aload_n hx hb d_Mo_rowsOf_61 rfl (lv_at hl 1 rfl) ?_
                refine va_get (D := g) (ci := 8) (v := .ref (b 23)) (C := R_Mo) (T := F_Mo) (N := 35) hx hb hT i_Mo hown hK hP 0 rfl rfl 34 (by decide) (hT _ tw_655) (fun _ h9 => h9) rfl d_Mo_rowsOf_62 ?_
                refine lv_iload hx hb d_Mo_rowsOf_65 (lv_at hl 6 rfl) ?_
                refine my_iald (v := (nI (rt i))) (i := i) hx hb hK hP 23 0 rfl rfl (by omega) (by decide) rfl d_Mo_rowsOf_67 ?_
                refine my_if_le (tgt := 78) (a := rt i) hx hb d_Mo_rowsOf_68 (by decide) (by omega) (fun c_68 => ?_) (fun c_68 => ?_)
                · -- 68: taken
                  refine lv_iload hx hb d_Mo_rowsOf_78 (lv_at hl 5 rfl) ?_
                  refine lv_istore (lv' := [(4, .int (nI f)), (6, .int (nI 1)), (0, .ref (b 0)), (1, .int (nI x)), (2, .int (nI y)), (3, .int (b2 t)), (5, .int (nI i))]) hx hb d_Mo_rowsOf_80 hl (by decide) rfl (fun ls hl => ?_)
                  refine lv_iinc (v := (nI (i + 1))) (lv' := [(5, .int (nI (i + 1))), (4, .int (nI f)), (6, .int (nI 1)), (0, .ref (b 0)), (1, .int (nI x)), (2, .int (nI y)), (3, .int (b2 t))]) hx hb d_Mo_rowsOf_82 hl (k := 6) rfl (nI_1 i) (by decide) rfl (fun ls hl => ?_)
                  refine lv_goto (tgt := 6) hx hb d_Mo_rowsOf_85 (by decide) ?_
                  refine ih_6 _ _ _ _ _ ?_ ?_ ?_ hP hD hS (lv_sub hl [3, 4, 5, 6, 1, 0] rfl)
                  · omega
                  · omega
                  · rw [hf]
                    show _ = roF rg rp rt x y t i + _
                    rw [if_neg (by intro hh; obtain ⟨h1, h2, h3⟩ := hh; first | omega | (rcases h3 with h3 | h3; rw [c_58] at h3; exact absurd h3 (by decide); omega))]; rfl
                · -- 68: not taken
                  refine lv_iload hx hb d_Mo_rowsOf_71 (lv_at hl 5 rfl) ?_
                  refine lv_iconst (v := (nI 1)) hx hb d_Mo_rowsOf_73 (by decide) ?_
                  refine lv_iadd hx hb d_Mo_rowsOf_74 ?_
                  refine my_ei (nI_add f 1) ?_
                  refine lv_goto (tgt := 80) hx hb d_Mo_rowsOf_75 (by decide) ?_
                  refine lv_istore (lv' := [(4, .int (nI (f + 1))), (6, .int (nI 1)), (0, .ref (b 0)), (1, .int (nI x)), (2, .int (nI y)), (3, .int (b2 t)), (5, .int (nI i))]) hx hb d_Mo_rowsOf_80 hl (by decide) rfl (fun ls hl => ?_)
                  refine lv_iinc (v := (nI (i + 1))) (lv' := [(5, .int (nI (i + 1))), (4, .int (nI (f + 1))), (6, .int (nI 1)), (0, .ref (b 0)), (1, .int (nI x)), (2, .int (nI y)), (3, .int (b2 t))]) hx hb d_Mo_rowsOf_82 hl (k := 6) rfl (nI_1 i) (by decide) rfl (fun ls hl => ?_)
                  refine lv_goto (tgt := 6) hx hb d_Mo_rowsOf_85 (by decide) ?_
                  refine ih_6 _ _ _ _ _ ?_ ?_ ?_ hP hD hS (lv_sub hl [3, 4, 5, 6, 1, 0] rfl)
                  · omega
                  · omega
                  · rw [hf]
                    show _ = roF rg rp rt x y t i + _
                    rw [if_pos ⟨by omega, by omega, by first | exact Or.inl c_58 | exact Or.inr c_68⟩]
            · -- 31: not taken
              refine lv_aload_n hx hb d_Mo_rowsOf_34 rfl (lv_at hl 0 rfl) ?_
              refine va_get (D := g) (ci := 8) (v := .ref (b 22)) (C := R_Mo) (T := F_Mo) (N := 35) hx hb hT i_Mo hown hK hP 0 rfl rfl 33 (by decide) (hT _ tw_654) (fun _ h9 => h9) rfl d_Mo_rowsOf_35 ?_
              refine lv_iload hx hb d_Mo_rowsOf_38 (lv_at hl 5 rfl) ?_
              refine my_iald (v := (nI (rp i))) (i := i) hx hb hK hP 22 0 rfl rfl (by omega) (by decide) rfl d_Mo_rowsOf_40 ?_
              refine lv_iload_n hx hb d_Mo_rowsOf_41 rfl (lv_at hl 2 rfl) ?_
              refine my_icmp_ne (tgt := 49) (a := rp i) (b := y) hx hb d_Mo_rowsOf_42 (by decide) (by omega) (by omega) (fun c_42 => ?_) (fun c_42 => ?_)
              · -- 42: taken
                refine lv_iconst (v := (nI 0)) hx hb d_Mo_rowsOf_49 (by decide) ?_
                refine lv_istore (lv' := [(6, .int (nI 0)), (0, .ref (b 0)), (1, .int (nI x)), (2, .int (nI y)), (3, .int (b2 t)), (4, .int (nI f)), (5, .int (nI i))]) hx hb d_Mo_rowsOf_50 hl (by decide) rfl (fun ls hl => ?_)
                refine lv_iload hx hb d_Mo_rowsOf_52 (lv_at hl 0 rfl) ?_
                refine lv_if_eq (tgt := 78) hx hb d_Mo_rowsOf_54 (by decide) (fun _ => ?_) (fun q => absurd (by decide) q)
                refine lv_iload hx hb d_Mo_rowsOf_78 (lv_at hl 5 rfl) ?_
                refine lv_istore (lv' := [(4, .int (nI f)), (6, .int (nI 0)), (0, .ref (b 0)), (1, .int (nI x)), (2, .int (nI y)), (3, .int (b2 t)), (5, .int (nI i))]) hx hb d_Mo_rowsOf_80 hl (by decide) rfl (fun ls hl => ?_)
                refine lv_iinc (v := (nI (i + 1))) (lv' := [(5, .int (nI (i + 1))), (4, .int (nI f)), (6, .int (nI 0)), (0, .ref (b 0)), (1, .int (nI x)), (2, .int (nI y)), (3, .int (b2 t))]) hx hb d_Mo_rowsOf_82 hl (k := 6) rfl (nI_1 i) (by decide) rfl (fun ls hl => ?_)
                refine lv_goto (tgt := 6) hx hb d_Mo_rowsOf_85 (by decide) ?_
                refine ih_6 _ _ _ _ _ ?_ ?_ ?_ hP hD hS (lv_sub hl [3, 4, 5, 6, 1, 0] rfl)
                · omega
                · omega
                · rw [hf]
                  show _ = roF rg rp rt x y t i + _
                  rw [if_neg (by intro hh; obtain ⟨h1, h2, h3⟩ := hh; first | omega | (rcases h3 with h3 | h3; rw [c_58] at h3; exact absurd h3 (by decide); omega))]; rfl
              · -- 42: not taken
                refine lv_iconst (v := (nI 1)) hx hb d_Mo_rowsOf_45 (by decide) ?_
                refine lv_goto (tgt := 50) hx hb d_Mo_rowsOf_46 (by decide) ?_
                refine lv_istore (lv' := [(6, .int (nI 1)), (0, .ref (b 0)), (1, .int (nI x)), (2, .int (nI y)), (3, .int (b2 t)), (4, .int (nI f)), (5, .int (nI i))]) hx hb d_Mo_rowsOf_50 hl (by decide) rfl (fun ls hl => ?_)
                refine lv_iload hx hb d_Mo_rowsOf_52 (lv_at hl 0 rfl) ?_
                refine lv_if_eq (tgt := 78) hx hb d_Mo_rowsOf_54 (by decide) (fun q => absurd q (by decide)) (fun _ => ?_)
                refine lv_iload_n hx hb d_Mo_rowsOf_57 rfl (lv_at hl 4 rfl) ?_
                refine my_if_eq_b (tgt := 71) hx hb d_Mo_rowsOf_58 (by decide) (fun c_58 => ?_) (fun c_58 => ?_)
                · -- 58: taken
                  refine lv_iload hx hb d_Mo_rowsOf_71 (lv_at hl 5 rfl) ?_
                  refine lv_iconst (v := (nI 1)) hx hb d_Mo_rowsOf_73 (by decide) ?_
                  refine lv_iadd hx hb d_Mo_rowsOf_74 ?_
                  refine my_ei (nI_add f 1) ?_
                  refine lv_goto (tgt := 80) hx hb d_Mo_rowsOf_75 (by decide) ?_
                  refine lv_istore (lv' := [(4, .int (nI (f + 1))), (6, .int (nI 1)), (0, .ref (b 0)), (1, .int (nI x)), (2, .int (nI y)), (3, .int (b2 t)), (5, .int (nI i))]) hx hb d_Mo_rowsOf_80 hl (by decide) rfl (fun ls hl => ?_)
                  refine lv_iinc (v := (nI (i + 1))) (lv' := [(5, .int (nI (i + 1))), (4, .int (nI (f + 1))), (6, .int (nI 1)), (0, .ref (b 0)), (1, .int (nI x)), (2, .int (nI y)), (3, .int (b2 t))]) hx hb d_Mo_rowsOf_82 hl (k := 6) rfl (nI_1 i) (by decide) rfl (fun ls hl => ?_)
                  refine lv_goto (tgt := 6) hx hb d_Mo_rowsOf_85 (by decide) ?_
                  refine ih_6 _ _ _ _ _ ?_ ?_ ?_ hP hD hS (lv_sub hl [3, 4, 5, 6, 1, 0] rfl)
                  · omega
                  · omega
                  · rw [hf]
                    show _ = roF rg rp rt x y t i + _
                    rw [if_pos ⟨by omega, by omega, by first | exact Or.inl c_58 | exact Or.inr c_68⟩]
                · -- 58: not taken
                  refine lv_aload_n hx hb d_Mo_rowsOf_61 rfl (lv_at hl 1 rfl) ?_
                  refine va_get (D := g) (ci := 8) (v := .ref (b 23)) (C := R_Mo) (T := F_Mo) (N := 35) hx hb hT i_Mo hown hK hP 0 rfl rfl 34 (by decide) (hT _ tw_655) (fun _ h9 => h9) rfl d_Mo_rowsOf_62 ?_
                  refine lv_iload hx hb d_Mo_rowsOf_65 (lv_at hl 6 rfl) ?_
                  refine my_iald (v := (nI (rt i))) (i := i) hx hb hK hP 23 0 rfl rfl (by omega) (by decide) rfl d_Mo_rowsOf_67 ?_
                  refine my_if_le (tgt := 78) (a := rt i) hx hb d_Mo_rowsOf_68 (by decide) (by omega) (fun c_68 => ?_) (fun c_68 => ?_)
                  · -- 68: taken
                    refine lv_iload hx hb d_Mo_rowsOf_78 (lv_at hl 5 rfl) ?_
                    refine lv_istore (lv' := [(4, .int (nI f)), (6, .int (nI 1)), (0, .ref (b 0)), (1, .int (nI x)), (2, .int (nI y)), (3, .int (b2 t)), (5, .int (nI i))]) hx hb d_Mo_rowsOf_80 hl (by decide) rfl (fun ls hl => ?_)
                    refine lv_iinc (v := (nI (i + 1))) (lv' := [(5, .int (nI (i + 1))), (4, .int (nI f)), (6, .int (nI 1)), (0, .ref (b 0)), (1, .int (nI x)), (2, .int (nI y)), (3, .int (b2 t))]) hx hb d_Mo_rowsOf_82 hl (k := 6) rfl (nI_1 i) (by decide) rfl (fun ls hl => ?_)
                    refine lv_goto (tgt := 6) hx hb d_Mo_rowsOf_85 (by decide) ?_
                    refine ih_6 _ _ _ _ _ ?_ ?_ ?_ hP hD hS (lv_sub hl [3, 4, 5, 6, 1, 0] rfl)
                    · omega
                    · omega
                    · rw [hf]
                      show _ = roF rg rp rt x y t i + _
                      rw [if_neg (by intro hh; obtain ⟨h1, h2, h3⟩ := hh; first | omega | (rcases h3 with h3 | h3; rw [c_58] at h3; exact absurd h3 (by decide); omega))]; rfl
                  · -- 68: not taken
                    refine lv_iload hx hb d_Mo_rowsOf_71 (lv_at hl 5 rfl) ?_
                    refine lv_iconst (v := (nI 1)) hx hb d_Mo_rowsOf_73 (by decide) ?_
                    refine lv_iadd hx hb d_Mo_rowsOf_74 ?_
                    refine my_ei (nI_add f 1) ?_
                    refine lv_goto (tgt := 80) hx hb d_Mo_rowsOf_75 (by decide) ?_
                    refine lv_istore (lv' := [(4, .int (nI (f + 1))), (6, .int (nI 1)), (0, .ref (b 0)), (1, .int (nI x)), (2, .int (nI y)), (3, .int (b2 t)), (5, .int (nI i))]) hx hb d_Mo_rowsOf_80 hl (by decide) rfl (fun ls hl => ?_)
                    refine lv_iinc (v := (nI (i + 1))) (lv' := [(5, .int (nI (i + 1))), (4, .int (nI (f + 1))), (6, .int (nI 1)), (0, .ref (b 0)), (1, .int (nI x)), (2, .int (nI y)), (3, .int (b2 t))]) hx hb d_Mo_rowsOf_82 hl (k := 6) rfl (nI_1 i) (by decide) rfl (fun ls hl => ?_)
                    refine lv_goto (tgt := 6) hx hb d_Mo_rowsOf_85 (by decide) ?_
                    refine ih_6 _ _ _ _ _ ?_ ?_ ?_ hP hD hS (lv_sub hl [3, 4, 5, 6, 1, 0] rfl)
                    · omega
                    · omega
                    · rw [hf]
                      show _ = roF rg rp rt x y t i + _
                      rw [if_pos ⟨by omega, by omega, by first | exact Or.inl c_58 | exact Or.inr c_68⟩]
  refine lp_6 (rs + 1) _ _ _ _ _ ?_ ?_ ?_ hP hD hS (lv_sub hl [2, 3, 4, 5, 1, 0] rfl)
  · omega
  · omega
  · rfl
