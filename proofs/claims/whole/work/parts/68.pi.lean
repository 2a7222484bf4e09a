/-! the cuts, told alike -/
theorem c0_split {c : Nat → Bool} {key : Nat → Nat} (z : Nat) : ∀ n, c0F (fun i => c i && decide (key i < z + 1)) n = c0F (fun i => c i && decide (key i < z)) n + c0F (fun i => c i && decide (key i = z)) n
  | 0 => rfl
  | n + 1 => by
    simp only [c0F, c0_split z n]
    by_cases hc : c n = true
    · by_cases h1 : key n < z
      · simp [hc, h1, show key n < z + 1 by omega, show ¬ key n = z by omega]; omega
      · by_cases h2 : key n = z
        · simp [hc, h2]; omega
        · simp [h1, h2, show ¬ key n < z + 1 by omega]
    · simp [hc]
theorem fd_fap {tb : Nat → Nat → Int64} {x w : Nat} {tf : Nat → Nat} {M : Nat} (hM : M = 2 ^ popc w 12) (h : c0F (fun j => isM tb x (pd 12 w (M - 1 - j))) M ≤ 924) : ∀ i, i ≤ M → fdF tb x w tf i = fap (fun j => isM tb x (pd 12 w (M - 1 - j))) (fun j => pd 12 w (M - 1 - j)) (0, tf) i
  | 0, _ => rfl
  | i + 1, hi => by
    have ih := fd_fap (tf := tf) hM h i (by omega)
    simp only [fdF, fap]
    rw [ih, ← hM]
    by_cases hc : isM tb x (pd 12 w (M - 1 - i)) = true
    · have h1 := c0_lt (c := fun j => isM tb x (pd 12 w (M - 1 - j))) (show i < M by omega) hc
      rw [if_pos ⟨hc, by rw [fap_n]; show 0 + _ < 924; omega⟩, if_pos hc]
    · rw [if_neg (fun q => hc q.1), if_neg hc]
theorem tk_fap {tf : Nat → Nat} {z : Nat} {s : Nat × (Nat → Nat)} : ∀ n, (∀ i, i < n → popc (tf i) 12 = z → s.1 + c0F (fun i => decide (popc (tf i) 12 = z)) i < 924) → tkF tf z s n = fap (fun i => decide (popc (tf i) 12 = z)) tf s n
  | 0, _ => rfl
  | n + 1, h => by
    have ih := tk_fap n (fun i hi => h i (by omega))
    simp only [tkF, fap]
    rw [ih]
    by_cases hc : popc (tf n) 12 = z
    · rw [if_pos ⟨hc, by rw [fap_n]; exact h n (Nat.lt_succ_self _) hc⟩, if_pos (decide_eq_true hc)]
    · rw [if_neg (fun q => hc q.1), if_neg (by simp [hc])]
theorem cu_fap {ho : Nat → Bool} {my M n : Nat} {s : Nat × (Nat → Nat)} : ∀ i, cuS ho my M n s i = fap (fun i => decide (onF (M - 1 - i) 12 = n) && mmF ho my (M - 1 - i) my) (fun i => M - 1 - i) s i
  | 0 => rfl
  | i + 1 => by
    simp only [cuS, fap, cu_fap i]
    by_cases hc : onF (M - 1 - i) 12 = n ∧ mmF ho my (M - 1 - i) my = true
    · rw [if_pos hc, if_pos (by simp [hc.1, hc.2])]
    · rw [if_neg hc, if_neg (by simpa using hc)]
/-- over the list of the least sets -/
theorem tl_fap {c : Nat → Bool} {g tf ts : Nat → Nat} {M : Nat} (hT : ∀ j, j < M → c j = true → tf (c0F c j) = g j) (h924 : c0F c M ≤ 924) : ∀ z, (tlF tf ts (c0F c M) z).1 = c0F (fun j => c j && decide (popc (g j) 12 < z)) M ∧ tlF tf ts (c0F c M) (z + 1) = fap (fun j => c j && decide (popc (g j) 12 = z)) g (tlF tf ts (c0F c M) z) M := by
  have step : ∀ z, (tlF tf ts (c0F c M) z).1 = c0F (fun j => c j && decide (popc (g j) 12 < z)) M → tlF tf ts (c0F c M) (z + 1) = fap (fun j => c j && decide (popc (g j) 12 = z)) g (tlF tf ts (c0F c M) z) M := by
    intro z hz
    have hcnt : ∀ i, i ≤ M → c0F (fun k => decide (popc (tf k) 12 = z)) (c0F c i) = c0F (fun j => c j && decide (popc (g j) 12 = z)) i := by
      intro i hi
      have h1 := fap_filter (c := c) (d := fun v => decide (popc v 12 = z)) (s := (0, tf)) hT i hi
      have h2 := congrArg Prod.fst h1
      rw [fap_n, fap_n] at h2
      have h3 : (0 : Nat) + c0F (fun k => decide (popc (tf k) 12 = z)) (c0F c i) = 0 + c0F (fun j => c j && decide (popc (g j) 12 = z)) i := h2
      omega
    have htot : c0F (fun j => c j && decide (popc (g j) 12 < z)) M + c0F (fun j => c j && decide (popc (g j) 12 = z)) M ≤ 924 := by
      rw [← c0_split (key := fun j => popc (g j) 12)]
      exact Nat.le_trans (c0_le_of M (fun j _ hj => by simp only [Bool.and_eq_true] at hj; exact hj.1)) h924
    show tkF tf z (tlF tf ts (c0F c M) z) (c0F c M) = _
    rw [tk_fap (c0F c M) (fun i hi hp => ?_)]
    · exact fap_filter (c := c) (d := fun v => decide (popc v 12 = z)) hT M (Nat.le_refl _)
    · obtain ⟨j, j1, j2, j3⟩ := c0_on M i hi
      rw [hz, ← j3, hcnt j (by omega)]
      rw [← j3, hT j j1 j2] at hp
      have := c0_lt (c := fun j => c j && decide (popc (g j) 12 = z)) j1 (by simp [j2, hp])
      omega
  intro z
  have hz : ∀ z, (tlF tf ts (c0F c M) z).1 = c0F (fun j => c j && decide (popc (g j) 12 < z)) M := by
    intro z
    induction z with
    | zero =>
      have : c0F (fun j => c j && decide (popc (g j) 12 < 0)) M = c0F (fun _ => false) M := c0_cg M (fun j _ => by simp)
      rw [this]
      have h0 : ∀ n, c0F (fun _ => false) n = 0 := fun n => by
        induction n with
        | zero => rfl
        | succ n ih => simp [c0F, ih]
      rw [h0]
      rfl
    | succ z ih =>
      rw [step z ih, fap_n, ih, ← c0_split (key := fun j => popc (g j) 12)]
  exact ⟨hz z, step z (hz z)⟩
theorem fap_all {c : Nat → Bool} {g : Nat → Nat} {s : Nat × (Nat → Nat)} {P : Nat → Prop} (h0 : ∀ k, k < s.1 → P (s.2 k)) : ∀ n, (∀ j, j < n → c j = true → P (g j)) → ∀ k, k < (fap c g s n).1 → P ((fap c g s n).2 k)
  | 0, _ => h0
  | n + 1, h => by
    have ih := fap_all (c := c) (g := g) h0 n (fun j hj => h j (by omega))
    simp only [fap]
    by_cases hc : c n = true
    · rw [if_pos hc]
      intro k hk
      show P (va_up _ _ _ k)
      by_cases e : k = (fap c g s n).1
      · rw [e, va_up_self]
        exact h n (Nat.lt_succ_self _) hc
      · rw [va_up_ne _ _ e]
        exact ih k (by have : k < (fap c g s n).1 + 1 := hk; omega)
    · rw [if_neg hc]
      exact ih
/-- THE CUTS: as many, each the set of the reference's number -/
theorem cuts_eq {tb : Nat → Nat → Int64} {x w : Nat} {tf ts co : Nat → Nat} {ho : Nat → Bool} (hh : ∀ s, s < 2 ^ popc w 12 → ho s = isT tb x (pd 12 w s)) (h924 : c0F (fun j => isM tb x (pd 12 w (2 ^ popc w 12 - 1 - j))) (2 ^ popc w 12) ≤ 924) :
    (cuN ho (popc w 12) (2 ^ popc w 12) co (popc w 12 + 1)).1 = (tlF (fdF tb x w tf (2 ^ popc w 12)).2 ts (fdF tb x w tf (2 ^ popc w 12)).1 13).1 ∧
    ∀ k, k < (cuN ho (popc w 12) (2 ^ popc w 12) co (popc w 12 + 1)).1 → (tlF (fdF tb x w tf (2 ^ popc w 12)).2 ts (fdF tb x w tf (2 ^ popc w 12)).1 13).2 k = pd 12 w ((cuN ho (popc w 12) (2 ^ popc w 12) co (popc w 12 + 1)).2 k) := by
  have hmy : popc w 12 ≤ 12 := popc_le w 12
  generalize hM : 2 ^ popc w 12 = M at hh h924 ⊢
  have hMp : 0 < M := by rw [← hM]; exact Nat.two_pow_pos _
  have e1 := fd_fap (tf := tf) hM.symm h924 M (Nat.le_refl _)
  rw [e1]
  have hn : (fap (fun j => isM tb x (pd 12 w (M - 1 - j))) (fun j => pd 12 w (M - 1 - j)) (0, tf) M).1 = c0F (fun j => isM tb x (pd 12 w (M - 1 - j))) M := by rw [fap_n]; show 0 + _ = _; omega
  have hT : ∀ j, j < M → isM tb x (pd 12 w (M - 1 - j)) = true → (fap (fun j => isM tb x (pd 12 w (M - 1 - j))) (fun j => pd 12 w (M - 1 - j)) (0, tf) M).2 (c0F (fun j => isM tb x (pd 12 w (M - 1 - j))) j) = pd 12 w (M - 1 - j) := by
    intro j hj hc
    have := fap_at (c := fun j => isM tb x (pd 12 w (M - 1 - j))) (g := fun j => pd 12 w (M - 1 - j)) (s := (0, tf)) M j hj hc
    rw [show ((0, tf) : Nat × (Nat → Nat)).1 + c0F (fun j => isM tb x (pd 12 w (M - 1 - j))) j = c0F (fun j => isM tb x (pd 12 w (M - 1 - j))) j from Nat.zero_add _] at this
    exact this
  rw [hn]
  have key := tl_fap (ts := ts) (g := fun j => pd 12 w (M - 1 - j)) hT h924
  have hsz : ∀ j, j < M → popc (pd 12 w (M - 1 - j)) 12 = onF (M - 1 - j) 12 := by
    intro j hj
    rw [popc_pd 12 (Nat.le_refl _), onF_pop]
    exact (popc_big (s := M - 1 - j) (m := popc w 12) (by rw [hM]; omega) 12 hmy).symm
  have hcond : ∀ z j, j < M → (decide (onF (M - 1 - j) 12 = z) && mmF ho (popc w 12) (M - 1 - j) (popc w 12)) = (isM tb x (pd 12 w (M - 1 - j)) && decide (popc (pd 12 w (M - 1 - j)) 12 = z)) := by
    intro z j hj
    rw [hsz j hj, isM_mm (ho := ho) (by rw [hM]; exact hh) (by rw [hM]; omega), Bool.and_comm]
  have hrel : ∀ z, (cuN ho (popc w 12) M co z).1 = (tlF (fap (fun j => isM tb x (pd 12 w (M - 1 - j))) (fun j => pd 12 w (M - 1 - j)) (0, tf) M).2 ts (c0F (fun j => isM tb x (pd 12 w (M - 1 - j))) M) z).1 ∧ ∀ k, k < (cuN ho (popc w 12) M co z).1 → (tlF (fap (fun j => isM tb x (pd 12 w (M - 1 - j))) (fun j => pd 12 w (M - 1 - j)) (0, tf) M).2 ts (c0F (fun j => isM tb x (pd 12 w (M - 1 - j))) M) z).2 k = pd 12 w ((cuN ho (popc w 12) M co z).2 k) := by
    intro z
    induction z with
    | zero => exact ⟨rfl, fun k hk => absurd hk (Nat.not_lt_zero _)⟩
    | succ z ih =>
      rw [(key z).2]
      show (cuS ho (popc w 12) M z (cuN ho (popc w 12) M co z) M).1 = _ ∧ ∀ k, k < (cuS ho (popc w 12) M z (cuN ho (popc w 12) M co z) M).1 → _ = pd 12 w ((cuS ho (popc w 12) M z (cuN ho (popc w 12) M co z) M).2 k)
      rw [cu_fap, fap_congr (c' := fun j => isM tb x (pd 12 w (M - 1 - j)) && decide (popc (pd 12 w (M - 1 - j)) 12 = z)) (g' := fun i => M - 1 - i) M (fun j hj => ⟨hcond z j hj, fun _ => rfl⟩)]
      exact fap_map (φ := pd 12 w) ih.1 ih.2 M (fun j _ _ => rfl)
  have hstop : ∀ d, cuN ho (popc w 12) M co (popc w 12 + 1 + d) = cuN ho (popc w 12) M co (popc w 12 + 1) := by
    intro d
    induction d with
    | zero => rfl
    | succ d ih =>
      show cuS ho (popc w 12) M (popc w 12 + 1 + d) (cuN ho (popc w 12) M co (popc w 12 + 1 + d)) M = _
      rw [cu_fap, fap_none M (fun j hj => ?_), ih]
      have h1 : onF (M - 1 - j) 12 ≤ popc w 12 := by
        rw [onF_pop, popc_big (s := M - 1 - j) (m := popc w 12) (by rw [hM]; omega) 12 hmy]
        exact popc_le _ _
      rw [decide_eq_false (show ¬ onF (M - 1 - j) 12 = popc w 12 + 1 + d by omega)]
      rfl
  have := hrel 13
  have e13 : cuN ho (popc w 12) M co 13 = cuN ho (popc w 12) M co (popc w 12 + 1) := by
    have := hstop (12 - popc w 12)
    rw [show popc w 12 + 1 + (12 - popc w 12) = 13 by omega] at this
    exact this
  rw [e13] at this
  exact this
theorem cu_lt {ho : Nat → Bool} {my M : Nat} {co : Nat → Nat} (hM : 0 < M) : ∀ z k, k < (cuN ho my M co z).1 → (cuN ho my M co z).2 k < M
  | 0, k, h => absurd h (Nat.not_lt_zero _)
  | z + 1, k, h => by
    have h1 : cuN ho my M co (z + 1) = cuS ho my M z (cuN ho my M co z) M := rfl
    rw [h1, cu_fap] at h ⊢
    exact fap_all (P := fun v => v < M) (fun k hk => cu_lt hM z k hk) M (fun j hj _ => by omega) k h
/-! one event of a cut -/
def IKt (tc : Nat) (ts en : Nat → Nat) (nv : Nat) (cm : Nat) (co te : Nat → Nat) (tm : Nat) : Prop :=
  cm = tc ∧ tc ≤ 924 ∧ tm ≤ 12 ∧ (∀ j, ts j < 4096) ∧ (∀ j, co j < 4096) ∧ (0 < tc → ∃ W, W < 4096 ∧ popc W 12 = tm ∧ (∀ i, i < tc → ts i = pd 12 W (co i)) ∧ ∀ p, p < 12 → W.testBit p = true → 11 - p < nv ∧ te (tm - 1 - popc W p) = en (11 - p))
theorem and1_tb {v k : Nat} : v / 2 ^ k &&& 1 = 1 ↔ v.testBit k = true := by
  rw [Nat.and_one_is_mod, ← Nat.toNat_testBit]
  cases v.testBit k <;> simp
theorem ei_cu {W v Y : Nat} {te en : Nat → Nat} (hY : Y < 2 ^ 31) (hte : ∀ p, p < 12 → W.testBit p = true → te (popc W 12 - 1 - popc W p) = en (11 - p)) : ∀ f, f ≤ 12 → ∀ lf, lf ≤ Y →
    ctR en (eiL (pd 12 W v) f (12 - f) lf) = cuL v (popc W 12) te (nI Y) (popc W f) (popc W 12 - popc W f) (Y - lf)
  | 0, _, lf, _ => by
    show ctR en (-1) = 0
    unfold ctR
    rw [if_pos (Or.inl (by decide))]
  | f + 1, hf, lf, hlf => by
    have e1 : 11 - (12 - (f + 1)) = f := by omega
    have e2 : 12 - (f + 1) + 1 = 12 - f := by omega
    simp only [eiL, e1, e2]
    rw [pd_tb, decide_eq_true (show f < 12 by omega), Bool.true_and]
    cases hb : W.testBit f with
    | false =>
      have e3 : popc W (f + 1) = popc W f := by
        rw [show popc W (f + 1) = popc W f + (W.testBit f).toNat from rfl, hb]
        rfl
      rw [e3, Bool.false_and, if_neg (by decide)]
      exact ei_cu hY hte f (by omega) lf hlf
    | true =>
      have e3 : popc W (f + 1) = popc W f + 1 := popc_st hb
      have hle := popc_up W (show f + 1 ≤ 12 by omega)
      rw [e3, Bool.true_and]
      simp only [cuL]
      have e4 : popc W 12 - 1 - (popc W 12 - (popc W f + 1)) = popc W f := by omega
      rw [e4]
      by_cases hv : v.testBit (popc W f) = true
      · rw [if_pos hv, if_pos (and1_tb.mpr hv)]
        by_cases h0 : lf = 0
        · rw [if_pos h0, if_pos (by rw [h0, Nat.sub_zero])]
          have h5 := hte f (by omega) hb
          rw [show popc W 12 - 1 - popc W f = popc W 12 - (popc W f + 1) by omega] at h5
          rw [h5]
          unfold ctR
          have e6 : 12 - (f + 1) < 12 := by omega
          have e7 : ¬ (nI (12 - (f + 1)) < 0 ∨ nI 12 ≤ nI (12 - (f + 1))) := by
            rw [Int32.lt_iff_toInt_lt, Int32.le_iff_toInt_le, nI_toInt (show 12 - (f + 1) < 2 ^ 31 by omega), nI_toInt (show 12 < 2 ^ 31 by decide), Int32.toInt_zero]
            omega
          rw [if_neg e7, nI_clamp (by omega), show 12 - (f + 1) = 11 - f by omega]
        · rw [if_neg h0, if_neg (fun q => by have := (q_eqI (by omega) hY).mp q; omega)]
          have := ei_cu (v := v) hY hte f (by omega) (lf - 1) (by omega)
          rw [this, show popc W 12 - (popc W f + 1) + 1 = popc W 12 - popc W f by omega, show Y - lf + 1 = Y - (lf - 1) by omega]
      · rw [if_neg hv, if_neg (fun q => hv (and1_tb.mp q))]
        have := ei_cu (v := v) hY hte f (by omega) lf hlf
        rw [this, show popc W 12 - (popc W f + 1) + 1 = popc W 12 - popc W f by omega]
theorem cuL_neg {v tm : Nat} {te : Nat → Nat} {y : Int32} (hy : y < 0) : ∀ f e n, n + f < 2 ^ 31 → cuL v tm te y f e n = 0
  | 0, _, _, _ => rfl
  | f + 1, e, n, h => by
    simp only [cuL]
    have h1 : ¬ nI n = y := by
      intro q
      rw [← q, Int32.lt_iff_toInt_lt, nI_toInt (by omega), Int32.toInt_zero] at hy
      omega
    by_cases h2 : v / 2 ^ (tm - 1 - e) &&& 1 = 1
    · rw [if_pos h2, if_neg h1]
      exact cuL_neg hy f (e + 1) (n + 1) (by omega)
    · rw [if_neg h2]
      exact cuL_neg hy f (e + 1) n (by omega)
theorem q_cut {tc : Nat} {ts en : Nat → Nat} {nv cm : Nat} {co te : Nat → Nat} {tm : Nat} (h : IKt tc ts en nv cm co te tm) (x y : Int32) : mcuR cm co tm te x y = ctR en (eiF tc ts x y) := by
  obtain ⟨h1, h2, h3, h4, h5, h6⟩ := h
  subst h1
  have hbad : ctR en (-1) = 0 := by unfold ctR; rw [if_pos (Or.inl (by decide))]
  have hI : isI x.toInt64 (lN 0) ((nI cm - nI 1).toInt64) = true ↔ ¬ (x < 0 ∨ nI cm ≤ x) := by
    simp only [isI, Bool.and_eq_true, decide_eq_true_eq, Int64.lt_iff_toInt_lt, Int32.toInt_toInt64, lN_toInt (show 0 < 2 ^ 31 by decide), Int32.lt_iff_toInt_lt, Int32.le_iff_toInt_le, Int32.toInt_zero, nI_toInt (show cm < 2 ^ 31 by omega)]
    rw [pk_sub_toInt (by omega) (by decide)]
    omega
  unfold mcuR eiF
  by_cases hx : x < 0 ∨ nI cm ≤ x
  · have hf : isI x.toInt64 (lN 0) ((nI cm - nI 1).toInt64) = false := by
      cases hc : isI x.toInt64 (lN 0) ((nI cm - nI 1).toInt64) with
      | false => rfl
      | true => exact absurd hx (hI.mp hc)
    rw [if_pos hf, if_pos (hx.elim (fun q => Or.inl q) (fun q => Or.inr (Or.inl q))), hbad]
  · rw [if_neg (by rw [hI.mpr hx]; decide)]
    by_cases hy : y < 0
    · rw [if_pos (Or.inr (Or.inr hy)), hbad, cuL_neg hy tm 0 0 (by omega)]
    · rw [if_neg (fun q => q.elim (fun q => hx (Or.inl q)) (fun q => q.elim (fun q => hx (Or.inr q)) hy))]
      obtain ⟨j, hj, e⟩ := i32nn (x := x) (n := cm) (fun q => hx (Or.inl q)) (fun q => hx (Or.inr q)) (by omega)
      subst e
      rw [nI_clamp (by omega)]
      have hy0 : (0 : Int) ≤ y.toInt := by
        rw [Int32.lt_iff_toInt_lt, Int32.toInt_zero] at hy
        omega
      have hlt : y.toInt < 2 ^ 31 := Int32.toInt_lt y
      have e : y = nI y.toNatClampNeg := by
        have e2 : y.toInt = (y.toNatClampNeg : Int) := by
          show y.toInt = (y.toInt.toNat : Int)
          omega
        rw [← Int32.toInt_inj, nI_toInt (by omega), e2]
      have hY : y.toNatClampNeg < 2 ^ 31 := by
        show y.toInt.toNat < 2 ^ 31
        omega
      generalize y.toNatClampNeg = Y at e hY ⊢
      subst e
      obtain ⟨W, w1, w2, w3, w4⟩ := h6 (by omega)
      subst w2
      rw [w3 j hj]
      have := ei_cu (v := co j) (en := en) hY (fun p hp hb => (w4 p hp hb).2) 12 (Nat.le_refl _) Y (Nat.le_refl _)
      rw [Nat.sub_self, Nat.sub_self, Nat.sub_self] at this
      exact this.symm
