def mcA (rg rp rt : Nat → Nat) (rs : Nat) (x : Int32) : Nat := if isI x.toInt64 (lN 1) (lN 50) = true then roF rg rp rt 0 x.toNatClampNeg false rs else 0
def mcvR (a t : Nat) (z : Int32) : Nat := if a = 0 then 0 else if z = 0 then t / gcF (a + 1) t a else a / gcF (a + 1) t a
theorem roF_tle (rg rp rt : Nat → Nat) (x y : Nat) : ∀ i, roF rg rp rt x y true i ≤ roF rg rp rt x y false i
  | 0 => Nat.le_refl _
  | i + 1 => by
    have := roF_tle rg rp rt x y i
    show roF rg rp rt x y true i + (if (x = 0 ∨ rg i = x) ∧ (y = 0 ∨ rp i = y) ∧ (true = false ∨ 0 < rt i) then 1 else 0) ≤ roF rg rp rt x y false i + (if (x = 0 ∨ rg i = x) ∧ (y = 0 ∨ rp i = y) ∧ (false = false ∨ 0 < rt i) then 1 else 0)
    by_cases h : (x = 0 ∨ rg i = x) ∧ (y = 0 ∨ rp i = y)
    · rw [if_pos (show (x = 0 ∨ rg i = x) ∧ (y = 0 ∨ rp i = y) ∧ (false = false ∨ 0 < rt i) from ⟨h.1, h.2, Or.inl rfl⟩)]
      split <;> omega
    · rw [if_neg (fun q => h ⟨q.1, q.2.1⟩)]
      omega
def mkK (mb : Nat → Nat) (g : Nat) (s : (Nat → Bool) × Bool) : Nat → (Nat → Bool) × Bool
  | 0 => s
  | i + 1 => (va_up (mkK mb g s i).1 (mb (10 * g + i)) true, (mkK mb g s i).2 || !((mkK mb g s i).1 (mb (10 * g + i))))
def mkG (mb ms : Nat → Nat) (u : Nat → Bool) : Nat → (Nat → Bool) × Bool
  | 0 => (u, false)
  | j + 1 => if (mkG mb ms u j).1 (j + 1) = true then mkK mb (j + 1) (mkG mb ms u j) (ms (j + 1)) else mkG mb ms u j
def mkI (ud : Nat → Bool) (x : Nat) : Nat → (Nat → Bool)
  | 0 => ud
  | j + 1 => va_up (mkI ud x j) (j + 1) (decide (j + 1 = x))
def mkW (P : (Nat → Bool) → (Nat → Bool) × Bool) : Nat → (Nat → Bool) → (Nat → Bool)
  | 0, u => u
  | f + 1, u => if (P u).2 = true then mkW P f (P u).1 else (P u).1
def mkF (mb ms : Nat → Nat) (mn : Nat) (ud : Nat → Bool) (x : Nat) : Nat → Bool := mkW (fun u => mkG mb ms u mn) 34 (mkI ud x mn)
/-- how many of the first n are false -/
def cfB (u : Nat → Bool) : Nat → Nat
  | 0 => 0
  | i + 1 => cfB u i + (if u i = true then 0 else 1)
theorem cfB_le (u : Nat → Bool) : ∀ n, cfB u n ≤ n
  | 0 => Nat.le_refl _
  | n + 1 => by have := cfB_le u n; show cfB u n + _ ≤ n + 1; split <;> omega
theorem cfB_up (u : Nat → Bool) (b : Nat) : ∀ n, cfB (va_up u b true) n ≤ cfB u n ∧ (b < n → u b = false → cfB (va_up u b true) n < cfB u n)
  | 0 => ⟨Nat.le_refl _, fun h => by omega⟩
  | n + 1 => by
    obtain ⟨h1, h2⟩ := cfB_up u b n
    have e : (va_up u b true) n = if n = b then true else u n := rfl
    refine ⟨?_, fun hb hu => ?_⟩
    · show cfB (va_up u b true) n + (if (va_up u b true) n = true then 0 else 1) ≤ cfB u n + (if u n = true then 0 else 1)
      rw [e]
      by_cases q : n = b
      · rw [if_pos q, if_pos rfl]; omega
      · rw [if_neg q]; omega
    · show cfB (va_up u b true) n + (if (va_up u b true) n = true then 0 else 1) < cfB u n + (if u n = true then 0 else 1)
      rw [e]
      by_cases q : n = b
      · subst q; rw [if_pos rfl, if_pos rfl, hu, if_neg (by decide)]; omega
      · rw [if_neg q]; have := h2 (by omega) hu; omega
theorem mkK_cf {mb : Nat → Nat} (hb : ∀ j, mb j ≤ 32) (g : Nat) (s : (Nat → Bool) × Bool) : ∀ i, cfB (mkK mb g s i).1 33 ≤ cfB s.1 33 ∧ ((mkK mb g s i).2 = true → s.2 = true ∨ cfB (mkK mb g s i).1 33 < cfB s.1 33)
  | 0 => ⟨Nat.le_refl _, fun h => Or.inl h⟩
  | i + 1 => by
    obtain ⟨h1, h2⟩ := mkK_cf hb g s i
    obtain ⟨h3, h4⟩ := cfB_up (mkK mb g s i).1 (mb (10 * g + i)) 33
    refine ⟨Nat.le_trans h3 h1, fun h => ?_⟩
    have h : ((mkK mb g s i).2 || !((mkK mb g s i).1 (mb (10 * g + i)))) = true := h
    rw [Bool.or_eq_true] at h
    rcases h with h | h
    · rcases h2 h with q | q
      · exact Or.inl q
      · exact Or.inr (Nat.lt_of_le_of_lt h3 q)
    · have := h4 (by have := hb (10 * g + i); omega) (by simpa using h)
      exact Or.inr (Nat.lt_of_lt_of_le this h1)
theorem mkG_cf {mb ms : Nat → Nat} (hb : ∀ j, mb j ≤ 32) (u : Nat → Bool) : ∀ j, cfB (mkG mb ms u j).1 33 ≤ cfB u 33 ∧ ((mkG mb ms u j).2 = true → cfB (mkG mb ms u j).1 33 < cfB u 33)
  | 0 => ⟨Nat.le_refl _, fun h => absurd h (by show ¬ false = true; decide)⟩
  | j + 1 => by
    obtain ⟨h1, h2⟩ := mkG_cf (ms := ms) hb u j
    by_cases c : (mkG mb ms u j).1 (j + 1) = true
    · rw [show mkG mb ms u (j + 1) = _ from if_pos c]
      obtain ⟨h3, h4⟩ := mkK_cf hb (j + 1) (mkG mb ms u j) (ms (j + 1))
      refine ⟨Nat.le_trans h3 h1, fun h => ?_⟩
      rcases h4 h with q | q
      · exact Nat.lt_of_le_of_lt h3 (h2 q)
      · exact Nat.lt_of_lt_of_le q h1
    · rw [show mkG mb ms u (j + 1) = _ from if_neg c]
      exact ⟨h1, h2⟩
set_option maxHeartbeats 4000000 in
set_option maxRecDepth 100000 in
theorem k_Mo_cover (l : Launch) (g : va_G) (b : Nat → Nat) (cI cJ cZ : ClassId) (f0 : Nat) (mn : Nat) (mv : Nat) (mg : Nat) (mk : Nat → Nat) (mo : Nat → Nat) (mu : Nat → Nat) (md : Nat → Nat) (ms : Nat → Nat) (mb : Nat → Nat) (mc : Nat) (m1 : Nat → Nat) (m2 : Nat → Nat) (m3 : Nat → Nat) (m4 : Nat → Nat) (we : Bool) (ud : Nat → Bool) (my : Nat) (ea : Nat → Nat) (od : Nat) (oo : Nat → Nat) (dn : Nat → Bool) (va : Nat → Nat) (ho : Nat → Bool) (wt : Nat → Nat) (cm : Nat) (co : Nat → Nat) (te : Nat → Nat) (tm : Nat) (gs : Nat) (gl : Nat → Nat) (rs : Nat) (rg : Nat → Nat) (rp : Nat → Nat) (rt : Nat → Nat) (x : Int32) (z : Int32) (hr : rs ≤ 100) (hrg : ∀ j, rg j < 1000) (hrp : ∀ j, rp j < 1000) (hrt : ∀ j, rt j < 1000) : ct_l l g vwCl (tyM cI cJ cZ) y_Mo_cover c_Mo_cover 4 (some .long) ({ frames := 2, cells := 0, slots := 0, locals := 55 } : Room) [.ref (b 0), .int x, .int z] (moW b cI cJ cZ f0 mn mv mg mk mo mu md ms mb mc m1 m2 m3 m4 we ud my ea od oo dn va ho wt cm co te tm gs gl rs rg rp rt) (if mcA rg rp rt rs x = 0 then (moW b cI cJ cZ 1 mn mv mg mk mo mu md ms mb mc m1 m2 m3 m4 we ud my ea od oo dn va ho wt cm co te tm gs gl rs rg rp rt) else (moW b cI cJ cZ 0 mn mv mg mk mo mu md ms mb mc m1 m2 m3 m4 we ud my ea od oo dn va ho wt cm co te tm gs gl rs rg rp rt)) (lN (mcvR (mcA rg rp rt rs x) (roF rg rp rt 0 x.toNatClampNeg true rs) z)) := by
  refine ct_l.intro (by decide) (Nat.le_of_ble_eq_true rfl) ?_
  intro p e s m args below meth c Q A ls hx hb hml hT hown hA hK hN hret hP hD hS hl
  have hown : s.vm.findClass R_Mo = some m.cls := hown
  have hl : lv_has ls 4 [(0, .ref (b 0)), (1, .int x), (2, .int z)] := hl
  refine lv_iload_n hx hb d_Mo_cover_0 rfl (lv_at hl 1 rfl) ?_
  refine lv_i2l (v := x.toInt64) hx hb d_Mo_cover_1 rfl ?_
  refine lv_lconst (v := (lN 1)) hx hb d_Mo_cover_2 (by decide) ?_
  refine lv_ldc2 (v := (lN 50)) hx hb hown (hT _ tw_850) d_Mo_cover_3 ?_
  refine my_S_i (As := [.long x.toInt64, .long (lN 1), .long (lN 50)]) (n := 3) (k_Mo_isIn l g vwCl (tyM cI cJ cZ) (moW b cI cJ cZ f0 mn mv mg mk mo mu md ms mb mc m1 m2 m3 m4 we ud my ea od oo dn va ho wt cm co te tm gs gl rs rg rp rt) x.toInt64 (lN 1) (lN 50) ) hx hb hml hown hT hN tw_737 tw_738 tw_9 tw_739 (by decide +kernel) rfl rfl ⟨Nat.le_of_ble_eq_true rfl, Nat.le_of_ble_eq_true rfl⟩ ⟨Nat.zero_le _, Nat.zero_le _⟩ hK hP hD hS hA rfl hl rfl (Nat.le_of_ble_eq_true rfl) d_Mo_cover_6 (fun H locs hP hD hS => ?_)
  refine my_if_eq_b (tgt := 22) hx hb d_Mo_cover_9 (by decide) (fun c_9 => ?_) (fun c_9 => ?_)
  · -- 9: taken
    have hA0 : mcA rg rp rt rs x = 0 := by rw [mcA, if_neg (by simp [c_9])]
    refine lv_iconst (v := (nI 0)) hx hb d_Mo_cover_22 (by decide) ?_
    refine lv_istore_n (lv' := [(3, .int (nI 0)), (0, .ref (b 0)), (1, .int x), (2, .int z)]) hx hb d_Mo_cover_23 rfl hl (by decide) rfl (fun ls hl => ?_)
    refine lv_aload_n hx hb d_Mo_cover_24 rfl (lv_at hl 1 rfl) ?_
    refine lv_iload_n hx hb d_Mo_cover_25 rfl (lv_at hl 0 rfl) ?_
    refine lv_if_ne (tgt := 33) hx hb d_Mo_cover_26 (by decide) (fun q => absurd q (by decide)) (fun _ => ?_)
    refine lv_iconst (v := (nI 1)) hx hb d_Mo_cover_29 (by decide) ?_
    refine lv_goto (tgt := 34) hx hb d_Mo_cover_30 (by decide) ?_
    refine va_put (D := g) (ci := 8) (v := .int (nI 1)) (ty := .int) (C := R_Mo) (T := F_Mo) (N := 35) hx hb hT i_Mo t_Mo t_Mo_ok n_Mo hown hK hP hD hS 0 rfl rfl 0 (by decide) (hT _ tw_621) (fun _ h9 => h9) rfl (by decide +kernel) rfl rfl (Nat.le_of_ble_eq_true rfl) d_Mo_cover_34 (fun H locs hP hD hS => ?_)
    have hP : va_P g vwCl (moW b cI cJ cZ 1 mn mv mg mk mo mu md ms mb mc m1 m2 m3 m4 we ud my ea od oo dn va ho wt cm co te tm gs gl rs rg rp rt) H := hP
    have hD : va_D A (moW b cI cJ cZ 1 mn mv mg mk mo mu md ms mb mc m1 m2 m3 m4 we ud my ea od oo dn va ho wt cm co te tm gs gl rs rg rp rt) := hD
    refine lv_iload_n hx hb d_Mo_cover_37 rfl (lv_at hl 0 rfl) ?_
    refine lv_if_ne (tgt := 45) hx hb d_Mo_cover_38 (by decide) (fun q => absurd q (by decide)) (fun _ => ?_)
    refine lv_lconst (v := (lN 0)) hx hb d_Mo_cover_41 (by decide) ?_
    refine lv_goto (tgt := 59) hx hb d_Mo_cover_42 (by decide) ?_
    refine hret _ _ _ _ _ (by rw [if_pos (by rw [hA0])]; exact hP) (by rw [if_pos (by rw [hA0])]; exact hD) hS d_Mo_cover_59 ?_
    rw [mcvR, hA0, if_pos rfl]
  · -- 9: not taken
    obtain ⟨k, hk1, hk2, rfl⟩ := isI_nat (by decide) (by decide) c_9
    have hkc : (nI k).toNatClampNeg = k := nI_clamp (by omega)
    simp only [hkc] at hret
    have hA0 : mcA rg rp rt rs (nI k) = roF rg rp rt 0 k false rs := by rw [mcA, if_pos c_9, hkc]
    have q4 := roF_le rg rp rt 0 k false rs
    have q5 := roF_tle rg rp rt 0 k rs
    refine lv_aload_n hx hb d_Mo_cover_12 rfl (lv_at hl 0 rfl) ?_
    refine lv_iconst (v := (nI 0)) hx hb d_Mo_cover_13 (by decide) ?_
    refine lv_iload_n hx hb d_Mo_cover_14 rfl (lv_at hl 1 rfl) ?_
    refine lv_iconst (v := (nI 0)) hx hb d_Mo_cover_15 (by decide) ?_
    refine my_V_i (q0 := 0) (ci := 8) (C := R_Mo) (As := [.int (nI 0), .int (nI k), .int (b2 false)]) (n := 3) (k_Mo_rowsOf l g b cI cJ cZ f0 mn mv mg mk mo mu md ms mb mc m1 m2 m3 m4 we ud my ea od oo dn va ho wt cm co te tm gs gl rs rg rp rt 0 k false hr (by omega) (by omega) hrg hrp hrt) hx hb hml hown hT hN tw_855 tw_857 tp_29 tw_9 tw_858 (by decide +kernel) rfl rfl ⟨Nat.le_of_ble_eq_true rfl, Nat.le_of_ble_eq_true rfl⟩ ⟨Nat.zero_le _, Nat.zero_le _⟩ hK hP hD hS hA rfl rfl rfl hl rfl (Nat.le_of_ble_eq_true rfl) d_Mo_cover_16 (fun H locs hP hD hS => ?_)
    refine lv_goto (tgt := 23) hx hb d_Mo_cover_19 (by decide) ?_
    refine lv_istore_n (lv' := [(3, .int (nI (roF rg rp rt 0 k false rs))), (0, .ref (b 0)), (1, .int (nI k)), (2, .int z)]) hx hb d_Mo_cover_23 rfl hl (by decide) rfl (fun ls hl => ?_)
    refine lv_aload_n hx hb d_Mo_cover_24 rfl (lv_at hl 1 rfl) ?_
    refine lv_iload_n hx hb d_Mo_cover_25 rfl (lv_at hl 0 rfl) ?_
    refine my_if_ne (tgt := 33) (a := roF rg rp rt 0 k false rs) hx hb d_Mo_cover_26 (by decide) (by omega) (fun c_26 => ?_) (fun c_26 => ?_)
    · -- 26: taken
      refine lv_iconst (v := (nI 0)) hx hb d_Mo_cover_33 (by decide) ?_
      refine va_put (D := g) (ci := 8) (v := .int (nI 0)) (ty := .int) (C := R_Mo) (T := F_Mo) (N := 35) hx hb hT i_Mo t_Mo t_Mo_ok n_Mo hown hK hP hD hS 0 rfl rfl 0 (by decide) (hT _ tw_621) (fun _ h9 => h9) rfl (by decide +kernel) rfl rfl (Nat.le_of_ble_eq_true rfl) d_Mo_cover_34 (fun H locs hP hD hS => ?_)
      have hP : va_P g vwCl (moW b cI cJ cZ 0 mn mv mg mk mo mu md ms mb mc m1 m2 m3 m4 we ud my ea od oo dn va ho wt cm co te tm gs gl rs rg rp rt) H := hP
      have hD : va_D A (moW b cI cJ cZ 0 mn mv mg mk mo mu md ms mb mc m1 m2 m3 m4 we ud my ea od oo dn va ho wt cm co te tm gs gl rs rg rp rt) := hD
      refine lv_iload_n hx hb d_Mo_cover_37 rfl (lv_at hl 0 rfl) ?_
      refine my_if_ne (tgt := 45) (a := roF rg rp rt 0 k false rs) hx hb d_Mo_cover_38 (by decide) (by omega) (fun c_38 => ?_) (fun c_38 => ?_)
      · -- 38: taken
        refine lv_aload_n hx hb d_Mo_cover_45 rfl (lv_at hl 1 rfl) ?_
        refine lv_iconst (v := (nI 0)) hx hb d_Mo_cover_46 (by decide) ?_
        refine lv_iload_n hx hb d_Mo_cover_47 rfl (lv_at hl 2 rfl) ?_
        refine lv_iconst (v := (nI 1)) hx hb d_Mo_cover_48 (by decide) ?_
        refine my_V_i (q0 := 0) (ci := 8) (C := R_Mo) (As := [.int (nI 0), .int (nI k), .int (b2 true)]) (n := 3) (k_Mo_rowsOf l g b cI cJ cZ 0 mn mv mg mk mo mu md ms mb mc m1 m2 m3 m4 we ud my ea od oo dn va ho wt cm co te tm gs gl rs rg rp rt 0 k true hr (by omega) (by omega) hrg hrp hrt) hx hb hml hown hT hN tw_855 tw_857 tp_29 tw_9 tw_858 (by decide +kernel) rfl rfl ⟨Nat.le_of_ble_eq_true rfl, Nat.le_of_ble_eq_true rfl⟩ ⟨Nat.zero_le _, Nat.zero_le _⟩ hK hP hD hS hA rfl rfl rfl hl rfl (Nat.le_of_ble_eq_true rfl) d_Mo_cover_49 (fun H locs hP hD hS => ?_)
        refine lv_i2l (v := lN (roF rg rp rt 0 k true rs)) hx hb d_Mo_cover_52 (nI_l (by omega)) ?_
        refine lv_iload_n hx hb d_Mo_cover_53 rfl (lv_at hl 0 rfl) ?_
        refine lv_i2l (v := lN (roF rg rp rt 0 k false rs)) hx hb d_Mo_cover_54 (nI_l (by omega)) ?_
        refine lv_iload_n hx hb d_Mo_cover_55 rfl (lv_at hl 3 rfl) ?_
        refine my_S_l (As := [.long (lN (roF rg rp rt 0 k true rs)), .long (lN (roF rg rp rt 0 k false rs)), .int z]) (n := 3) (k_Mo_lowest l g vwCl (tyM cI cJ cZ) (moW b cI cJ cZ 0 mn mv mg mk mo mu md ms mb mc m1 m2 m3 m4 we ud my ea od oo dn va ho wt cm co te tm gs gl rs rg rp rt) (roF rg rp rt 0 k true rs) (roF rg rp rt 0 k false rs) z (by omega) (by omega) (by omega)) hx hb hml hown hT hN tw_809 tw_810 tw_9 tw_811 (by decide +kernel) rfl rfl ⟨Nat.le_of_ble_eq_true rfl, Nat.le_of_ble_eq_true rfl⟩ ⟨Nat.zero_le _, Nat.zero_le _⟩ hK hP hD hS hA rfl hl rfl (Nat.le_of_ble_eq_true rfl) d_Mo_cover_56 (fun H locs hP hD hS => ?_)
        refine hret _ _ _ _ _ (by rw [if_neg (by rw [hA0]; omega)]; exact hP) (by rw [if_neg (by rw [hA0]; omega)]; exact hD) hS d_Mo_cover_59 ?_
        rw [mcvR, hA0, if_neg (show ¬ roF rg rp rt 0 k false rs = 0 by omega)]
      · -- 38: not taken
        exfalso; omega
    · -- 26: not taken
      refine lv_iconst (v := (nI 1)) hx hb d_Mo_cover_29 (by decide) ?_
      refine lv_goto (tgt := 34) hx hb d_Mo_cover_30 (by decide) ?_
      refine va_put (D := g) (ci := 8) (v := .int (nI 1)) (ty := .int) (C := R_Mo) (T := F_Mo) (N := 35) hx hb hT i_Mo t_Mo t_Mo_ok n_Mo hown hK hP hD hS 0 rfl rfl 0 (by decide) (hT _ tw_621) (fun _ h9 => h9) rfl (by decide +kernel) rfl rfl (Nat.le_of_ble_eq_true rfl) d_Mo_cover_34 (fun H locs hP hD hS => ?_)
      have hP : va_P g vwCl (moW b cI cJ cZ 1 mn mv mg mk mo mu md ms mb mc m1 m2 m3 m4 we ud my ea od oo dn va ho wt cm co te tm gs gl rs rg rp rt) H := hP
      have hD : va_D A (moW b cI cJ cZ 1 mn mv mg mk mo mu md ms mb mc m1 m2 m3 m4 we ud my ea od oo dn va ho wt cm co te tm gs gl rs rg rp rt) := hD
      refine lv_iload_n hx hb d_Mo_cover_37 rfl (lv_at hl 0 rfl) ?_
      refine my_if_ne (tgt := 45) (a := roF rg rp rt 0 k false rs) hx hb d_Mo_cover_38 (by decide) (by omega) (fun c_38 => ?_) (fun c_38 => ?_)
      · -- 38: taken
        exfalso; omega
      · -- 38: not taken
        refine lv_lconst (v := (lN 0)) hx hb d_Mo_cover_41 (by decide) ?_
        refine lv_goto (tgt := 59) hx hb d_Mo_cover_42 (by decide) ?_
        refine hret _ _ _ _ _ (by rw [if_pos (by rw [hA0]; omega)]; exact hP) (by rw [if_pos (by rw [hA0]; omega)]; exact hD) hS d_Mo_cover_59 ?_
        rw [mcvR, hA0, if_pos (by omega)]
set_option maxHeartbeats 4000000 in
set_option maxRecDepth 100000 in
theorem k_Mo_mark (l : Launch) (g : va_G) (b : Nat → Nat) (cI cJ cZ : ClassId) (f0 : Nat) (mn : Nat) (mv : Nat) (mg : Nat) (mk : Nat → Nat) (mo : Nat → Nat) (mu : Nat → Nat) (md : Nat → Nat) (ms : Nat → Nat) (mb : Nat → Nat) (mc : Nat) (m1 : Nat → Nat) (m2 : Nat → Nat) (m3 : Nat → Nat) (m4 : Nat → Nat) (we : Bool) (ud : Nat → Bool) (my : Nat) (ea : Nat → Nat) (od : Nat) (oo : Nat → Nat) (dn : Nat → Bool) (va : Nat → Nat) (ho : Nat → Bool) (wt : Nat → Nat) (cm : Nat) (co : Nat → Nat) (te : Nat → Nat) (tm : Nat) (gs : Nat) (gl : Nat → Nat) (rs : Nat) (rg : Nat → Nat) (rp : Nat → Nat) (rt : Nat → Nat) (x : Nat) (hx1 : x ≤ 32) (hmn : mn ≤ 32) (hms : ∀ j, ms j ≤ 10) (hmb : ∀ j, mb j ≤ 32) : ct_v l g vwCl (tyM cI cJ cZ) y_Mo_mark c_Mo_mark 6 none ({ frames := 0, cells := 0, slots := 0, locals := 0 } : Room) [.ref (b 0), .int (nI x)] (moW b cI cJ cZ f0 mn mv mg mk mo mu md ms mb mc m1 m2 m3 m4 we ud my ea od oo dn va ho wt cm co te tm gs gl rs rg rp rt) (moW b cI cJ cZ f0 mn mv mg mk mo mu md ms mb mc m1 m2 m3 m4 we (mkF mb ms mn ud x) my ea od oo dn va ho wt cm co te tm gs gl rs rg rp rt) := by
  refine ct_v.intro (by decide) (Nat.le_of_ble_eq_true rfl) ?_
  intro p e s m args below meth c Q A ls hx hb hml hT hown hA hK hN hret hP hD hS hl
  have hown : s.vm.findClass R_Mo = some m.cls := hown
  have hl : lv_has ls 6 [(0, .ref (b 0)), (1, .int (nI x))] := hl
  refine lv_iconst (v := (nI 1)) hx hb d_Mo_mark_0 (by decide) ?_
  refine lv_istore_n (lv' := [(2, .int (nI 1)), (0, .ref (b 0)), (1, .int (nI x))]) hx hb d_Mo_mark_1 rfl hl (by decide) rfl (fun ls hl => ?_)
  have lp_2 : ∀ (k : Nat) (j : Nat) (u : Nat → Bool) (H : Heap) (locs : List Loc) (ls : Array Slot), (mn < j + k) → (j ≤ mn) → (u = mkI ud x j) → va_P g vwCl (moW b cI cJ cZ f0 mn mv mg mk mo mu md ms mb mc m1 m2 m3 m4 we u my ea od oo dn va ho wt cm co te tm gs gl rs rg rp rt) H → va_D A (moW b cI cJ cZ f0 mn mv mg mk mo mu md ms mb mc m1 m2 m3 m4 we u my ea od oo dn va ho wt cm co te tm gs gl rs rg rp rt) → va_S A s.heap H locs → lv_has ls 6 [(0, .ref (b 0)), (1, .int (nI x)), (2, .int (nI (j + 1)))] → W p l e ({ frames := 0, cells := 0, slots := 0, locals := 0 } : Room) s m args below meth c H locs 0 0 Q (F0 m 2 ls []) := by
    intro k
    induction k with
    | zero =>
      intro j u H locs ls hk hj hf hP hD hS hl
      exfalso
      omega
    | succ k ih_2 =>
      intro j u H locs ls hk hj hf hP hD hS hl
      refine lv_iload_n hx hb d_Mo_mark_2 rfl (lv_at hl 2 rfl) ?_
      refine lv_aload_n hx hb d_Mo_mark_3 rfl (lv_at hl 0 rfl) ?_
      refine va_get (D := g) (ci := 8) (v := .int (nI mn)) (C := R_Mo) (T := F_Mo) (N := 35) hx hb hT i_Mo hown hK hP 0 rfl rfl 1 (by decide) (hT _ tw_622) (fun _ h9 => h9) rfl d_Mo_mark_4 ?_
      refine my_icmp_gt (tgt := 32) (a := j + 1) (b := mn) hx hb d_Mo_mark_7 (by decide) (by omega) (by omega) (fun c_7 => ?_) (fun c_7 => ?_)
      · -- 7: taken
        refine lv_iconst (v := (nI 1)) hx hb d_Mo_mark_32 (by decide) ?_
        refine lv_istore_n (lv' := [(2, .int (nI 1)), (0, .ref (b 0)), (1, .int (nI x))]) hx hb d_Mo_mark_33 rfl hl (by decide) rfl (fun ls hl => ?_)
        have lp_34 : ∀ (kw : Nat) (f : Nat) (u : Nat → Bool) (mr : Bool) (H : Heap) (locs : List Loc) (ls : Array Slot), (f < kw) → (mr = true → mkW (fun u => mkG mb ms u mn) f u = mkF mb ms mn ud x ∧ cfB u 33 < f) → (mr = false → u = mkF mb ms mn ud x) → va_P g vwCl (moW b cI cJ cZ f0 mn mv mg mk mo mu md ms mb mc m1 m2 m3 m4 we u my ea od oo dn va ho wt cm co te tm gs gl rs rg rp rt) H → va_D A (moW b cI cJ cZ f0 mn mv mg mk mo mu md ms mb mc m1 m2 m3 m4 we u my ea od oo dn va ho wt cm co te tm gs gl rs rg rp rt) → va_S A s.heap H locs → lv_has ls 6 [(0, .ref (b 0)), (1, .int (nI x)), (2, .int (b2 mr))] → W p l e ({ frames := 0, cells := 0, slots := 0, locals := 0 } : Room) s m args below meth c H locs 0 0 Q (F0 m 34 ls []) := by
          intro kw
          induction kw with
          | zero =>
            intro f u mr H locs ls hkW hWt hWf hP hD hS hl
            exfalso
            omega
          | succ kw ih_34 =>
            intro f u mr H locs ls hkW hWt hWf hP hD hS hl
            refine lv_iload_n hx hb d_Mo_mark_34 rfl (lv_at hl 2 rfl) ?_
            refine my_if_eq_b (tgt := 130) hx hb d_Mo_mark_35 (by decide) (fun c_35 => ?_) (fun c_35 => ?_)
            · -- 35: taken
              rw [hWf c_35] at hP hD
              exact hret _ _ _ _ hP hD hS d_Mo_mark_130
            · -- 35: not taken
              obtain ⟨f, rfl⟩ : ∃ q, f = q + 1 := ⟨f - 1, by have := (hWt c_35).2; omega⟩
              refine lv_iconst (v := (nI 0)) hx hb d_Mo_mark_38 (by decide) ?_
              refine lv_istore_n (lv' := [(2, .int (nI 0)), (0, .ref (b 0)), (1, .int (nI x))]) hx hb d_Mo_mark_39 rfl hl (by decide) rfl (fun ls hl => ?_)
              refine lv_iconst (v := (nI 1)) hx hb d_Mo_mark_40 (by decide) ?_
              refine lv_istore_n (lv' := [(3, .int (nI 1)), (2, .int (nI 0)), (0, .ref (b 0)), (1, .int (nI x))]) hx hb d_Mo_mark_41 rfl hl (by decide) rfl (fun ls hl => ?_)
              have lp_42 : ∀ (k2 : Nat) (j : Nat) (u2 : Nat → Bool) (b2v : Bool) (H : Heap) (locs : List Loc) (ls : Array Slot), (mn < j + k2) → (j ≤ mn) → ((u2, b2v) = mkG mb ms u j) → va_P g vwCl (moW b cI cJ cZ f0 mn mv mg mk mo mu md ms mb mc m1 m2 m3 m4 we u2 my ea od oo dn va ho wt cm co te tm gs gl rs rg rp rt) H → va_D A (moW b cI cJ cZ f0 mn mv mg mk mo mu md ms mb mc m1 m2 m3 m4 we u2 my ea od oo dn va ho wt cm co te tm gs gl rs rg rp rt) → va_S A s.heap H locs → lv_has ls 6 [(0, .ref (b 0)), (1, .int (nI x)), (2, .int (b2 b2v)), (3, .int (nI (j + 1)))] → W p l e ({ frames := 0, cells := 0, slots := 0, locals := 0 } : Room) s m args below meth c H locs 0 0 Q (F0 m 42 ls []) := by
                intro k2
                induction k2 with
                | zero =>
                  intro j u2 b2v H locs ls hk2 hj2 hf2 hP hD hS hl
                  exfalso
                  omega
                | succ k2 ih_42 =>
                  intro j u2 b2v H locs ls hk2 hj2 hf2 hP hD hS hl
                  refine lv_iload_n hx hb d_Mo_mark_42 rfl (lv_at hl 3 rfl) ?_
                  refine lv_aload_n hx hb d_Mo_mark_43 rfl (lv_at hl 0 rfl) ?_
                  refine va_get (D := g) (ci := 8) (v := .int (nI mn)) (C := R_Mo) (T := F_Mo) (N := 35) hx hb hT i_Mo hown hK hP 0 rfl rfl 1 (by decide) (hT _ tw_622) (fun _ h9 => h9) rfl d_Mo_mark_44 ?_
                  refine my_icmp_gt (tgt := 127) (a := j + 1) (b := mn) hx hb d_Mo_mark_47 (by decide) (by omega) (by omega) (fun c_47 => ?_) (fun c_47 => ?_)
                  · -- 47: taken
                    refine lv_goto (tgt := 34) hx hb d_Mo_mark_127 (by decide) ?_
                    refine ih_34 f _ b2v _ _ _ ?_ ?_ ?_ hP hD hS (lv_sub hl [0, 1, 2] rfl)
                    · omega
                    · intro h
                      have eP : (u2, b2v) = mkG mb ms u mn := by rw [hf2, show j = mn by omega]
                      have e1 : (mkG mb ms u mn).1 = u2 := by rw [← eP]
                      have e2 : (mkG mb ms u mn).2 = b2v := by rw [← eP]
                      obtain ⟨y1, y2⟩ := hWt c_35
                      refine ⟨?_, ?_⟩
                      · rw [← y1]; show _ = (if (mkG mb ms u mn).2 = true then mkW (fun u => mkG mb ms u mn) f (mkG mb ms u mn).1 else (mkG mb ms u mn).1); rw [e2, e1, if_pos h]
                      · have := (mkG_cf (ms := ms) hmb u mn).2 (by rw [e2]; exact h); rw [e1] at this; omega
                    · intro h
                      have eP : (u2, b2v) = mkG mb ms u mn := by rw [hf2, show j = mn by omega]
                      have e1 : (mkG mb ms u mn).1 = u2 := by rw [← eP]
                      have e2 : (mkG mb ms u mn).2 = b2v := by rw [← eP]
                      obtain ⟨y1, y2⟩ := hWt c_35
                      rw [← y1]; show _ = (if (mkG mb ms u mn).2 = true then mkW (fun u => mkG mb ms u mn) f (mkG mb ms u mn).1 else (mkG mb ms u mn).1); rw [e2, e1, if_neg (by rw [h]; decide)]
                  · -- 47: not taken
                    have q1 := hms (j + 1)
                    refine lv_iconst (v := (nI 0)) hx hb d_Mo_mark_50 (by decide) ?_
                    refine lv_istore (lv' := [(4, .int (nI 0)), (0, .ref (b 0)), (1, .int (nI x)), (2, .int (b2 b2v)), (3, .int (nI (j + 1)))]) hx hb d_Mo_mark_51 hl (by decide) rfl (fun ls hl => ?_)
                    have lp_53 : ∀ (k3 : Nat) (i : Nat) (u3 : Nat → Bool) (b3v : Bool) (H : Heap) (locs : List Loc) (ls : Array Slot), (ms (j + 1) < i + k3) → (i ≤ ms (j + 1)) → (0 < i → u3 (j + 1) = true) → (0 < i → (mkG mb ms u j).1 (j + 1) = true) → ((u3, b3v) = (mkK mb (j + 1) (mkG mb ms u j) i)) → va_P g vwCl (moW b cI cJ cZ f0 mn mv mg mk mo mu md ms mb mc m1 m2 m3 m4 we u3 my ea od oo dn va ho wt cm co te tm gs gl rs rg rp rt) H → va_D A (moW b cI cJ cZ f0 mn mv mg mk mo mu md ms mb mc m1 m2 m3 m4 we u3 my ea od oo dn va ho wt cm co te tm gs gl rs rg rp rt) → va_S A s.heap H locs → lv_has ls 6 [(0, .ref (b 0)), (1, .int (nI x)), (2, .int (b2 b3v)), (3, .int (nI (j + 1))), (4, .int (nI i))] → W p l e ({ frames := 0, cells := 0, slots := 0, locals := 0 } : Room) s m args below meth c H locs 0 0 Q (F0 m 53 ls []) := by
                      intro k3
                      induction k3 with
                      | zero =>
                        intro i u3 b3v H locs ls hk3 hi3 hg hg0 hf3 hP hD hS hl
                        exfalso
                        omega
                      | succ k3 ih_53 =>
                        intro i u3 b3v H locs ls hk3 hi3 hg hg0 hf3 hP hD hS hl
                        refine lv_aload_n hx hb d_Mo_mark_53 rfl (lv_at hl 0 rfl) ?_
                        refine va_get (D := g) (ci := 8) (v := .ref (b 11)) (C := R_Mo) (T := F_Mo) (N := 35) hx hb hT i_Mo hown hK hP 0 rfl rfl 16 (by decide) (hT _ tw_637) (fun _ h9 => h9) rfl d_Mo_mark_54 ?_
                        refine lv_iload_n hx hb d_Mo_mark_57 rfl (lv_at hl 3 rfl) ?_
                        refine my_zald (v := (b2 (u3 (j + 1)))) (i := j + 1) hx hb hK hP 11 2 rfl rfl (by omega) (by decide) rfl d_Mo_mark_58 ?_
                        refine my_if_eq_b (tgt := 121) hx hb d_Mo_mark_59 (by decide) (fun c_59 => ?_) (fun c_59 => ?_)
                        · -- 59: taken
                          refine lv_iinc (v := (nI (j + 1 + 1))) (lv' := [(3, .int (nI (j + 1 + 1))), (0, .ref (b 0)), (1, .int (nI x)), (2, .int (b2 b3v)), (4, .int (nI i))]) hx hb d_Mo_mark_121 hl (k := 3) rfl (nI_1 (j + 1)) (by decide) rfl (fun ls hl => ?_)
                          refine lv_goto (tgt := 42) hx hb d_Mo_mark_124 (by decide) ?_
                          refine ih_42 (j + 1) _ b3v _ _ _ ?_ ?_ ?_ hP hD hS (lv_sub hl [1, 2, 3, 0] rfl)
                          · omega
                          · omega
                          · have i0 : i = 0 := by rcases Nat.eq_zero_or_pos i with q | q; exact q; exact absurd (hg q) (by rw [c_59]; decide)
                            have e0 : (mkG mb ms u j) = (u3, b3v) := by rw [hf3, i0]; rfl
                            have e1 : (mkG mb ms u j).1 = u3 := by rw [e0]
                            rw [← e0]
                            exact (if_neg (by rw [e1, c_59]; decide)).symm
                        · -- 59: not taken
                          refine lv_iload hx hb d_Mo_mark_62 (lv_at hl 4 rfl) ?_
                          refine lv_aload_n hx hb d_Mo_mark_64 rfl (lv_at hl 0 rfl) ?_
                          refine va_get (D := g) (ci := 8) (v := .ref (b 5)) (C := R_Mo) (T := F_Mo) (N := 35) hx hb hT i_Mo hown hK hP 0 rfl rfl 8 (by decide) (hT _ tw_629) (fun _ h9 => h9) rfl d_Mo_mark_65 ?_
                          refine lv_iload_n hx hb d_Mo_mark_68 rfl (lv_at hl 3 rfl) ?_
                          refine my_iald (v := (nI (ms (j + 1)))) (i := j + 1) hx hb hK hP 5 0 rfl rfl (by omega) (by decide) rfl d_Mo_mark_69 ?_
                          refine my_icmp_ge (tgt := 121) (a := i) (b := ms (j + 1)) hx hb d_Mo_mark_70 (by decide) (by omega) (by omega) (fun c_70 => ?_) (fun c_70 => ?_)
                          · -- 70: taken
                            refine lv_iinc (v := (nI (j + 1 + 1))) (lv' := [(3, .int (nI (j + 1 + 1))), (0, .ref (b 0)), (1, .int (nI x)), (2, .int (b2 b3v)), (4, .int (nI i))]) hx hb d_Mo_mark_121 hl (k := 3) rfl (nI_1 (j + 1)) (by decide) rfl (fun ls hl => ?_)
                            refine lv_goto (tgt := 42) hx hb d_Mo_mark_124 (by decide) ?_
                            refine ih_42 (j + 1) _ b3v _ _ _ ?_ ?_ ?_ hP hD hS (lv_sub hl [1, 2, 3, 0] rfl)
                            · omega
                            · omega
                            · rw [hf3, show i = ms (j + 1) by omega]
                              refine (if_pos ?_).symm
                              rcases Nat.eq_zero_or_pos i with q | q
                              · have e1 : (mkG mb ms u j).1 = u3 := by rw [show (mkG mb ms u j) = (u3, b3v) by rw [hf3, q]; rfl]
                                rw [e1]; exact c_59
                              · exact hg0 q
                          · -- 70: not taken
                            refine lv_aload_n hx hb d_Mo_mark_73 rfl (lv_at hl 0 rfl) ?_
                            refine va_get (D := g) (ci := 8) (v := .ref (b 6)) (C := R_Mo) (T := F_Mo) (N := 35) hx hb hT i_Mo hown hK hP 0 rfl rfl 9 (by decide) (hT _ tw_630) (fun _ h9 => h9) rfl d_Mo_mark_74 ?_
                            refine lv_bipush (v := (nI 10)) hx hb d_Mo_mark_77 (by decide) ?_
                            refine lv_iload_n hx hb d_Mo_mark_79 rfl (lv_at hl 3 rfl) ?_
                            refine lv_imul hx hb d_Mo_mark_80 ?_
                            refine my_ei (pk_mul 10 (j + 1)) ?_
                            refine lv_iload hx hb d_Mo_mark_81 (lv_at hl 4 rfl) ?_
                            refine lv_iadd hx hb d_Mo_mark_83 ?_
                            refine my_ei (nI_add (10 * (j + 1)) i) ?_
                            have q2 := hmb (10 * (j + 1) + i)
                            refine my_iald (v := (nI (mb ((10 * (j + 1)) + i)))) (i := (10 * (j + 1)) + i) hx hb hK hP 6 0 rfl rfl (by omega) (by decide) rfl d_Mo_mark_84 ?_
                            refine lv_istore (lv' := [(5, .int (nI (mb ((10 * (j + 1)) + i)))), (0, .ref (b 0)), (1, .int (nI x)), (2, .int (b2 b3v)), (3, .int (nI (j + 1))), (4, .int (nI i))]) hx hb d_Mo_mark_85 hl (by decide) rfl (fun ls hl => ?_)
                            refine lv_iload_n hx hb d_Mo_mark_87 rfl (lv_at hl 3 rfl) ?_
                            refine my_if_ne_b (tgt := 101) hx hb d_Mo_mark_88 (by decide) (fun c_88 => ?_) (fun c_88 => ?_)
                            · -- 88: taken
                              refine lv_iconst (v := (nI 1)) hx hb d_Mo_mark_101 (by decide) ?_
                              refine lv_goto (tgt := 106) hx hb d_Mo_mark_102 (by decide) ?_
                              refine lv_istore_n (lv' := [(2, .int (nI 1)), (5, .int (nI (mb ((10 * (j + 1)) + i)))), (0, .ref (b 0)), (1, .int (nI x)), (3, .int (nI (j + 1))), (4, .int (nI i))]) hx hb d_Mo_mark_106 rfl hl (by decide) rfl (fun ls hl => ?_)
                              refine lv_aload_n hx hb d_Mo_mark_107 rfl (lv_at hl 2 rfl) ?_
                              refine va_get (D := g) (ci := 8) (v := .ref (b 11)) (C := R_Mo) (T := F_Mo) (N := 35) hx hb hT i_Mo hown hK hP 0 rfl rfl 16 (by decide) (hT _ tw_637) (fun _ h9 => h9) rfl d_Mo_mark_108 ?_
                              refine lv_iload hx hb d_Mo_mark_111 (lv_at hl 1 rfl) ?_
                              refine lv_iconst (v := (nI 1)) hx hb d_Mo_mark_113 (by decide) ?_
                              refine my_zast (b := true) (i := mb ((10 * (j + 1)) + i)) hx hb hK hP hD hS 11 2 rfl rfl (by omega) (by decide) rfl (w' := (moW b cI cJ cZ f0 mn mv mg mk mo mu md ms mb mc m1 m2 m3 m4 we (va_up u3 (mb ((10 * (j + 1)) + i)) true) my ea od oo dn va ho wt cm co te tm gs gl rs rg rp rt)) rfl d_Mo_mark_114 (fun H locs hP hD hS => ?_)
                              refine lv_iinc (v := (nI (i + 1))) (lv' := [(4, .int (nI (i + 1))), (2, .int (nI 1)), (5, .int (nI (mb ((10 * (j + 1)) + i)))), (0, .ref (b 0)), (1, .int (nI x)), (3, .int (nI (j + 1)))]) hx hb d_Mo_mark_115 hl (k := 5) rfl (nI_1 i) (by decide) rfl (fun ls hl => ?_)
                              refine lv_goto (tgt := 53) hx hb d_Mo_mark_118 (by decide) ?_
                              refine ih_53 _ _ true _ _ _ ?_ ?_ ?_ ?_ ?_ hP hD hS (lv_sub hl [3, 4, 1, 5, 0] rfl)
                              · omega
                              · omega
                              · intro _; show va_up _ _ _ _ = true; unfold va_up; split; rfl; exact c_59
                              · intro _; rcases Nat.eq_zero_or_pos i with q | q
                                · have e1 : (mkG mb ms u j).1 = u3 := by rw [show (mkG mb ms u j) = (u3, b3v) by rw [hf3, q]; rfl]
                                  rw [e1]; exact c_59
                                · exact hg0 q
                              · have e1 : (mkK mb (j + 1) (mkG mb ms u j) i).1 = u3 := by rw [← hf3]
                                have e2 : (mkK mb (j + 1) (mkG mb ms u j) i).2 = b3v := by rw [← hf3]
                                show _ = (va_up (mkK mb (j + 1) (mkG mb ms u j) i).1 (mb (10 * (j + 1) + i)) true, (mkK mb (j + 1) (mkG mb ms u j) i).2 || !((mkK mb (j + 1) (mkG mb ms u j) i).1 (mb (10 * (j + 1) + i))))
                                rw [e1, e2]
                                simp [c_88]
                            · -- 88: not taken
                              refine lv_aload_n hx hb d_Mo_mark_91 rfl (lv_at hl 1 rfl) ?_
                              refine va_get (D := g) (ci := 8) (v := .ref (b 11)) (C := R_Mo) (T := F_Mo) (N := 35) hx hb hT i_Mo hown hK hP 0 rfl rfl 16 (by decide) (hT _ tw_637) (fun _ h9 => h9) rfl d_Mo_mark_92 ?_
                              refine lv_iload hx hb d_Mo_mark_95 (lv_at hl 0 rfl) ?_
                              refine my_zald (v := (b2 (u3 (mb ((10 * (j + 1)) + i))))) (i := mb ((10 * (j + 1)) + i)) hx hb hK hP 11 2 rfl rfl (by omega) (by decide) rfl d_Mo_mark_97 ?_
                              refine my_if_ne_b (tgt := 105) hx hb d_Mo_mark_98 (by decide) (fun c_98 => ?_) (fun c_98 => ?_)
                              · -- 98: taken
                                refine lv_iconst (v := (nI 0)) hx hb d_Mo_mark_105 (by decide) ?_
                                refine lv_istore_n (lv' := [(2, .int (nI 0)), (5, .int (nI (mb ((10 * (j + 1)) + i)))), (0, .ref (b 0)), (1, .int (nI x)), (3, .int (nI (j + 1))), (4, .int (nI i))]) hx hb d_Mo_mark_106 rfl hl (by decide) rfl (fun ls hl => ?_)
                                refine lv_aload_n hx hb d_Mo_mark_107 rfl (lv_at hl 2 rfl) ?_
                                refine va_get (D := g) (ci := 8) (v := .ref (b 11)) (C := R_Mo) (T := F_Mo) (N := 35) hx hb hT i_Mo hown hK hP 0 rfl rfl 16 (by decide) (hT _ tw_637) (fun _ h9 => h9) rfl d_Mo_mark_108 ?_
                                refine lv_iload hx hb d_Mo_mark_111 (lv_at hl 1 rfl) ?_
                                refine lv_iconst (v := (nI 1)) hx hb d_Mo_mark_113 (by decide) ?_
                                refine my_zast (b := true) (i := mb ((10 * (j + 1)) + i)) hx hb hK hP hD hS 11 2 rfl rfl (by omega) (by decide) rfl (w' := (moW b cI cJ cZ f0 mn mv mg mk mo mu md ms mb mc m1 m2 m3 m4 we (va_up u3 (mb ((10 * (j + 1)) + i)) true) my ea od oo dn va ho wt cm co te tm gs gl rs rg rp rt)) rfl d_Mo_mark_114 (fun H locs hP hD hS => ?_)
                                refine lv_iinc (v := (nI (i + 1))) (lv' := [(4, .int (nI (i + 1))), (2, .int (nI 0)), (5, .int (nI (mb ((10 * (j + 1)) + i)))), (0, .ref (b 0)), (1, .int (nI x)), (3, .int (nI (j + 1)))]) hx hb d_Mo_mark_115 hl (k := 5) rfl (nI_1 i) (by decide) rfl (fun ls hl => ?_)
                                refine lv_goto (tgt := 53) hx hb d_Mo_mark_118 (by decide) ?_
                                refine ih_53 _ _ false _ _ _ ?_ ?_ ?_ ?_ ?_ hP hD hS (lv_sub hl [3, 4, 1, 5, 0] rfl)
                                · omega
                                · omega
                                · intro _; show va_up _ _ _ _ = true; unfold va_up; split; rfl; exact c_59
                                · intro _; rcases Nat.eq_zero_or_pos i with q | q
                                  · have e1 : (mkG mb ms u j).1 = u3 := by rw [show (mkG mb ms u j) = (u3, b3v) by rw [hf3, q]; rfl]
                                    rw [e1]; exact c_59
                                  · exact hg0 q
                                · have e1 : (mkK mb (j + 1) (mkG mb ms u j) i).1 = u3 := by rw [← hf3]
                                  have e2 : (mkK mb (j + 1) (mkG mb ms u j) i).2 = b3v := by rw [← hf3]
                                  show _ = (va_up (mkK mb (j + 1) (mkG mb ms u j) i).1 (mb (10 * (j + 1) + i)) true, (mkK mb (j + 1) (mkG mb ms u j) i).2 || !((mkK mb (j + 1) (mkG mb ms u j) i).1 (mb (10 * (j + 1) + i))))
                                  rw [e1, e2]
                                  simp [c_88, c_98]
                              · -- 98: not taken
                                refine lv_iconst (v := (nI 1)) hx hb d_Mo_mark_101 (by decide) ?_
                                refine lv_goto (tgt := 106) hx hb d_Mo_mark_102 (by decide) ?_
                                refine lv_istore_n (lv' := [(2, .int (nI 1)), (5, .int (nI (mb ((10 * (j + 1)) + i)))), (0, .ref (b 0)), (1, .int (nI x)), (3, .int (nI (j + 1))), (4, .int (nI i))]) hx hb d_Mo_mark_106 rfl hl (by decide) rfl (fun ls hl => ?_)
                                refine lv_aload_n hx hb d_Mo_mark_107 rfl (lv_at hl 2 rfl) ?_
                                refine va_get (D := g) (ci := 8) (v := .ref (b 11)) (C := R_Mo) (T := F_Mo) (N := 35) hx hb hT i_Mo hown hK hP 0 rfl rfl 16 (by decide) (hT _ tw_637) (fun _ h9 => h9) rfl d_Mo_mark_108 ?_
                                refine lv_iload hx hb d_Mo_mark_111 (lv_at hl 1 rfl) ?_
                                refine lv_iconst (v := (nI 1)) hx hb d_Mo_mark_113 (by decide) ?_
                                refine my_zast (b := true) (i := mb ((10 * (j + 1)) + i)) hx hb hK hP hD hS 11 2 rfl rfl (by omega) (by decide) rfl (w' := (moW b cI cJ cZ f0 mn mv mg mk mo mu md ms mb mc m1 m2 m3 m4 we (va_up u3 (mb ((10 * (j + 1)) + i)) true) my ea od oo dn va ho wt cm co te tm gs gl rs rg rp rt)) rfl d_Mo_mark_114 (fun H locs hP hD hS => ?_)
                                refine lv_iinc (v := (nI (i + 1))) (lv' := [(4, .int (nI (i + 1))), (2, .int (nI 1)), (5, .int (nI (mb ((10 * (j + 1)) + i)))), (0, .ref (b 0)), (1, .int (nI x)), (3, .int (nI (j + 1)))]) hx hb d_Mo_mark_115 hl (k := 5) rfl (nI_1 i) (by decide) rfl (fun ls hl => ?_)
                                refine lv_goto (tgt := 53) hx hb d_Mo_mark_118 (by decide) ?_
                                refine ih_53 _ _ true _ _ _ ?_ ?_ ?_ ?_ ?_ hP hD hS (lv_sub hl [3, 4, 1, 5, 0] rfl)
                                · omega
                                · omega
                                · intro _; show va_up _ _ _ _ = true; unfold va_up; split; rfl; exact c_59
                                · intro _; rcases Nat.eq_zero_or_pos i with q | q
                                  · have e1 : (mkG mb ms u j).1 = u3 := by rw [show (mkG mb ms u j) = (u3, b3v) by rw [hf3, q]; rfl]
                                    rw [e1]; exact c_59
                                  · exact hg0 q
                                · have e1 : (mkK mb (j + 1) (mkG mb ms u j) i).1 = u3 := by rw [← hf3]
                                  have e2 : (mkK mb (j + 1) (mkG mb ms u j) i).2 = b3v := by rw [← hf3]
                                  show _ = (va_up (mkK mb (j + 1) (mkG mb ms u j) i).1 (mb (10 * (j + 1) + i)) true, (mkK mb (j + 1) (mkG mb ms u j) i).2 || !((mkK mb (j + 1) (mkG mb ms u j) i).1 (mb (10 * (j + 1) + i))))
                                  rw [e1, e2]
                                  simp [c_88, c_98]
                    refine lp_53 (ms (j + 1) + 1) _ _ b2v _ _ _ ?_ ?_ ?_ ?_ ?_ hP hD hS (lv_sub hl [1, 2, 3, 4, 0] rfl)
                    · omega
                    · omega
                    · intro h; omega
                    · intro h; omega
                    · rw [hf2]; rfl
              refine lp_42 (mn + 1) 0 _ false _ _ _ ?_ ?_ ?_ hP hD hS (lv_sub hl [2, 3, 1, 0] rfl)
              · omega
              · omega
              · rfl
        refine lp_34 (35) 34 _ true _ _ _ ?_ ?_ ?_ hP hD hS (lv_sub hl [1, 2, 0] rfl)
        · omega
        · intro _; rw [hf, show j = mn by omega]; exact ⟨rfl, by have := cfB_le (mkI ud x mn) 33; omega⟩
        · intro h; exact absurd h (by decide)
      · -- 7: not taken
        refine lv_aload_n hx hb d_Mo_mark_10 rfl (lv_at hl 0 rfl) ?_
        refine va_get (D := g) (ci := 8) (v := .ref (b 11)) (C := R_Mo) (T := F_Mo) (N := 35) hx hb hT i_Mo hown hK hP 0 rfl rfl 16 (by decide) (hT _ tw_637) (fun _ h9 => h9) rfl d_Mo_mark_11 ?_
        refine lv_iload_n hx hb d_Mo_mark_14 rfl (lv_at hl 2 rfl) ?_
        refine lv_iload_n hx hb d_Mo_mark_15 rfl (lv_at hl 2 rfl) ?_
        refine lv_iload_n hx hb d_Mo_mark_16 rfl (lv_at hl 1 rfl) ?_
        refine my_icmp_ne (tgt := 24) (a := j + 1) (b := x) hx hb d_Mo_mark_17 (by decide) (by omega) (by omega) (fun c_17 => ?_) (fun c_17 => ?_)
        · -- 17: taken
          refine lv_iconst (v := (nI 0)) hx hb d_Mo_mark_24 (by decide) ?_
          refine my_zast (b := false) (i := j + 1) hx hb hK hP hD hS 11 2 rfl rfl (by omega) (by decide) rfl (w' := (moW b cI cJ cZ f0 mn mv mg mk mo mu md ms mb mc m1 m2 m3 m4 we (va_up u (j + 1) false) my ea od oo dn va ho wt cm co te tm gs gl rs rg rp rt)) rfl d_Mo_mark_25 (fun H locs hP hD hS => ?_)
          refine lv_iinc (v := (nI (j + 1 + 1))) (lv' := [(2, .int (nI (j + 1 + 1))), (0, .ref (b 0)), (1, .int (nI x))]) hx hb d_Mo_mark_26 hl (k := 2) rfl (nI_1 (j + 1)) (by decide) rfl (fun ls hl => ?_)
          refine lv_goto (tgt := 2) hx hb d_Mo_mark_29 (by decide) ?_
          refine ih_2 (j + 1) _ _ _ _ ?_ ?_ ?_ hP hD hS (lv_sub hl [1, 2, 0] rfl)
          · omega
          · omega
          · rw [hf]
            show _ = va_up (mkI ud x j) (j + 1) (decide (j + 1 = x))
            simp [c_17]
        · -- 17: not taken
          refine lv_iconst (v := (nI 1)) hx hb d_Mo_mark_20 (by decide) ?_
          refine lv_goto (tgt := 25) hx hb d_Mo_mark_21 (by decide) ?_
          refine my_zast (b := true) (i := j + 1) hx hb hK hP hD hS 11 2 rfl rfl (by omega) (by decide) rfl (w' := (moW b cI cJ cZ f0 mn mv mg mk mo mu md ms mb mc m1 m2 m3 m4 we (va_up u (j + 1) true) my ea od oo dn va ho wt cm co te tm gs gl rs rg rp rt)) rfl d_Mo_mark_25 (fun H locs hP hD hS => ?_)
          refine lv_iinc (v := (nI (j + 1 + 1))) (lv' := [(2, .int (nI (j + 1 + 1))), (0, .ref (b 0)), (1, .int (nI x))]) hx hb d_Mo_mark_26 hl (k := 2) rfl (nI_1 (j + 1)) (by decide) rfl (fun ls hl => ?_)
          refine lv_goto (tgt := 2) hx hb d_Mo_mark_29 (by decide) ?_
          refine ih_2 (j + 1) _ _ _ _ ?_ ?_ ?_ hP hD hS (lv_sub hl [1, 2, 0] rfl)
          · omega
          · omega
          · rw [hf]
            show _ = va_up (mkI ud x j) (j + 1) (decide (j + 1 = x))
            simp [c_17]
  refine lp_2 (mn + 1) 0 _ _ _ _ ?_ ?_ ?_ hP hD hS (lv_sub hl [1, 2, 0] rfl)
  · omega
  · omega
  · rfl
