/-! plain; the least sets, on both sides -/
theorem ct_pl {tb : Nat → Nat → Int64} {x w : Nat} {ho : Nat → Bool} : ∀ n, (∀ s, s < n → ho s = isT tb x (pd 12 w s)) → ctF tb x w n = plF ho n
  | 0, _ => rfl
  | n + 1, h => by
    simp only [ctF, plF, ct_pl n (fun s hs => h s (by omega)), h n (Nat.lt_succ_self _)]
    split <;> rfl
theorem popc_up (w : Nat) : ∀ {p q : Nat}, p ≤ q → popc w p ≤ popc w q
  | p, 0, h => by rw [show p = 0 by omega]; exact Nat.le_refl _
  | p, q + 1, h => by
    by_cases e : p = q + 1
    · rw [e]; exact Nat.le_refl _
    · have := popc_up w (p := p) (q := q) (by omega)
      simp only [popc]
      omega
theorem popc_st {w p : Nat} (h : w.testBit p = true) : popc w (p + 1) = popc w p + 1 := by
  simp only [popc, h]
  rfl
theorem popc_rk {w p q : Nat} (h : w.testBit p = true) (hpq : p < q) : popc w p < popc w q := by
  have := popc_up w (show p + 1 ≤ q by omega)
  rw [popc_st h] at this
  omega
theorem popc_inj {w p q : Nat} (hp : w.testBit p = true) (hq : w.testBit q = true) (h : popc w p = popc w q) : p = q := by
  rcases Nat.lt_trichotomy p q with e | e | e
  · have := popc_rk hp e; omega
  · exact e
  · have := popc_rk hq e; omega
theorem popc_on {w : Nat} : ∀ f r, r < popc w f → ∃ p, p < f ∧ w.testBit p = true ∧ popc w p = r
  | 0, r, h => absurd h (Nat.not_lt_zero _)
  | f + 1, r, h => by
    by_cases h1 : r < popc w f
    · obtain ⟨p, p1, p2, p3⟩ := popc_on f r h1
      exact ⟨p, by omega, p2, p3⟩
    · simp only [popc] at h
      cases hb : w.testBit f with
      | false => rw [hb] at h; simp at h; omega
      | true => exact ⟨f, Nat.lt_succ_self _, hb, by rw [hb] at h; simp at h; omega⟩
theorem pd_xor {w s p : Nat} (hp : p < 12) (hw : w.testBit p = true) : pd 12 w (s ^^^ 2 ^ popc w p) = pd 12 w s ^^^ 2 ^ p := by
  apply Nat.eq_of_testBit_eq
  intro q
  rw [pd_tb, Nat.testBit_xor, Nat.testBit_xor, pd_tb, Nat.testBit_two_pow, Nat.testBit_two_pow]
  by_cases e : q = p
  · subst e
    rw [hw, decide_eq_true hp]
    simp
  · have e2 : ¬ p = q := fun h => e h.symm
    rw [decide_eq_false e2]
    cases hq : w.testBit q with
    | false => simp
    | true =>
      have : ¬ popc w p = popc w q := fun h => e2 (popc_inj hw hq h)
      rw [decide_eq_false this]
      simp
theorem popc_pd {F w k : Nat} : ∀ f, f ≤ F → popc (pd F w k) f = popc k (popc w f)
  | 0, _ => rfl
  | f + 1, h => by
    have ih := popc_pd (F := F) (w := w) (k := k) f (by omega)
    rw [show popc (pd F w k) (f + 1) = popc (pd F w k) f + ((pd F w k).testBit f).toNat from rfl, ih, pd_tb, decide_eq_true (show f < F by omega)]
    cases hb : w.testBit f with
    | false =>
      rw [show popc w (f + 1) = popc w f + (w.testBit f).toNat from rfl, hb]
      simp
    | true =>
      rw [popc_st hb]
      simp [popc]
theorem onF_pop (v : Nat) : ∀ n, onF v n = popc v n
  | 0 => rfl
  | n + 1 => by
    simp only [onF, popc, onF_pop v n]
    congr 1
    rw [Nat.and_one_is_mod, Nat.toNat_testBit]
theorem popc_big {s m : Nat} (hs : s < 2 ^ m) : ∀ n, m ≤ n → popc s n = popc s m
  | 0, h => by rw [show m = 0 by omega]
  | n + 1, h => by
    by_cases e : m = n + 1
    · rw [e]
    · have hb : s.testBit n = false := Nat.testBit_lt_two_pow (Nat.lt_of_lt_of_le hs (Nat.pow_le_pow_right (by decide) (by omega)))
      simp only [popc, hb, popc_big hs n (by omega)]
      rfl
theorem im_spec {tb : Nat → Nat → Int64} {x s : Nat} : ∀ n, (imF tb x s n = true ↔ ∀ i, i < n → s.testBit i = true → isT tb x (s ^^^ 2 ^ i) = false)
  | 0 => ⟨fun _ i h => absurd h (Nat.not_lt_zero _), fun _ => rfl⟩
  | n + 1 => by
    simp only [imF, Bool.and_eq_true, im_spec n, Bool.not_eq_true', Bool.and_eq_false_iff]
    refine ⟨fun h i hi hs => ?_, fun h => ⟨fun i hi => h i (by omega), ?_⟩⟩
    · by_cases e : i = n
      · subst e
        rcases h.2 with q | q
        · rw [q] at hs; cases hs
        · exact q
      · exact h.1 i (by omega) hs
    · cases hb : s.testBit n with
      | false => exact Or.inl rfl
      | true => exact Or.inr (h n (Nat.lt_succ_self _) hb)
theorem mm_spec {ho : Nat → Bool} {my s : Nat} : ∀ n, (mmF ho my s n = true ↔ ho s = true ∧ ∀ i, i < n → s.testBit (my - 1 - i) = true → ho (s ^^^ 2 ^ (my - 1 - i)) = false)
  | 0 => ⟨fun h => ⟨h, fun i q => absurd q (Nat.not_lt_zero _)⟩, fun h => h.1⟩
  | n + 1 => by
    simp only [mmF, Bool.and_eq_true, mm_spec n, Bool.or_eq_true, decide_eq_true_eq, Bool.not_eq_true']
    refine ⟨fun h => ⟨h.1.1, fun i hi hs => ?_⟩, fun h => ⟨⟨h.1, fun i hi => h.2 i (by omega)⟩, ?_⟩⟩
    · by_cases e : i = n
      · subst e
        rcases h.2 with q | q
        · rw [tbF q] at hs; cases hs
        · exact q
      · exact h.1.2 i (by omega) hs
    · by_cases q : s &&& 2 ^ (my - 1 - n) = 0
      · exact Or.inl q
      · exact Or.inr (h.2 n (Nat.lt_succ_self _) (tbT q))
theorem lt_xor {s r m : Nat} (hs : s < 2 ^ m) (hr : r < m) : s ^^^ 2 ^ r < 2 ^ m := Nat.xor_lt_two_pow hs (Nat.pow_lt_pow_right (by decide) hr)
/-- a set is least in the class's table just when its number is least in the reference -/
theorem isM_mm {tb : Nat → Nat → Int64} {x w s : Nat} {ho : Nat → Bool} (hh : ∀ s, s < 2 ^ popc w 12 → ho s = isT tb x (pd 12 w s)) (hs : s < 2 ^ popc w 12) : isM tb x (pd 12 w s) = mmF ho (popc w 12) s (popc w 12) := by
  have key : isM tb x (pd 12 w s) = true ↔ mmF ho (popc w 12) s (popc w 12) = true := by
    rw [mm_spec]
    unfold isM
    rw [Bool.and_eq_true, im_spec, ← hh s hs]
    refine ⟨fun h => ⟨h.1, fun i hi hb => ?_⟩, fun h => ⟨h.1, fun p hp hb => ?_⟩⟩
    · obtain ⟨p, p1, p2, p3⟩ := popc_on 12 (popc w 12 - 1 - i) (show popc w 12 - 1 - i < popc w 12 by omega)
      rw [hh _ (lt_xor hs (by omega)), ← p3, pd_xor p1 p2]
      exact h.2 p p1 (by rw [pd_tb, p2, p3, hb, decide_eq_true p1]; rfl)
    · rw [pd_tb, Bool.and_eq_true, Bool.and_eq_true] at hb
      have hr := popc_rk hb.1.2 hp
      have := h.2 (popc w 12 - 1 - popc w p) (by omega) (by rw [show popc w 12 - 1 - (popc w 12 - 1 - popc w p) = popc w p by omega]; exact hb.2)
      rw [show popc w 12 - 1 - (popc w 12 - 1 - popc w p) = popc w p by omega, hh _ (lt_xor hs (by omega)), pd_xor hp hb.1.2] at this
      exact this
  cases h1 : isM tb x (pd 12 w s) <;> cases h2 : mmF ho (popc w 12) s (popc w 12) <;> simp_all
/-! lists by appending what fits -/
def fap (c : Nat → Bool) (g : Nat → Nat) (s : Nat × (Nat → Nat)) : Nat → Nat × (Nat → Nat)
  | 0 => s
  | i + 1 => if c i = true then ((fap c g s i).1 + 1, va_up (fap c g s i).2 (fap c g s i).1 (g i)) else fap c g s i
def c0F (c : Nat → Bool) : Nat → Nat
  | 0 => 0
  | i + 1 => c0F c i + (if c i = true then 1 else 0)
theorem c0_mono (c : Nat → Bool) : ∀ {i j : Nat}, i ≤ j → c0F c i ≤ c0F c j
  | i, 0, h => by rw [show i = 0 by omega]; exact Nat.le_refl _
  | i, j + 1, h => by
    by_cases e : i = j + 1
    · rw [e]; exact Nat.le_refl _
    · have := c0_mono c (i := i) (j := j) (by omega)
      simp only [c0F]
      omega
theorem c0_lt {c : Nat → Bool} {j n : Nat} (hj : j < n) (hc : c j = true) : c0F c j < c0F c n := by
  have := c0_mono c (show j + 1 ≤ n by omega)
  simp only [c0F, if_pos hc] at this
  omega
theorem c0_on {c : Nat → Bool} : ∀ n k, k < c0F c n → ∃ j, j < n ∧ c j = true ∧ c0F c j = k
  | 0, k, h => absurd h (Nat.not_lt_zero _)
  | n + 1, k, h => by
    by_cases h1 : k < c0F c n
    · obtain ⟨j, j1, j2, j3⟩ := c0_on n k h1
      exact ⟨j, by omega, j2, j3⟩
    · simp only [c0F] at h
      by_cases hc : c n = true
      · rw [if_pos hc] at h
        exact ⟨n, Nat.lt_succ_self _, hc, by omega⟩
      · rw [if_neg hc] at h
        omega
theorem c0_le_of {b c : Nat → Bool} : ∀ n, (∀ j, j < n → b j = true → c j = true) → c0F b n ≤ c0F c n
  | 0, _ => Nat.le_refl _
  | n + 1, h => by
    have ih := c0_le_of n (fun j hj => h j (by omega))
    have h1 := h n (Nat.lt_succ_self _)
    simp only [c0F]
    by_cases hb : b n = true
    · rw [if_pos hb, if_pos (h1 hb)]
      omega
    · rw [if_neg hb]
      omega
theorem fap_n {c : Nat → Bool} {g : Nat → Nat} {s : Nat × (Nat → Nat)} : ∀ n, (fap c g s n).1 = s.1 + c0F c n
  | 0 => rfl
  | n + 1 => by
    simp only [fap, c0F]
    by_cases h : c n = true
    · rw [if_pos h, if_pos h]
      show (fap c g s n).1 + 1 = _
      rw [fap_n n]
      omega
    · rw [if_neg h, if_neg h, fap_n n]
      omega
theorem fap_at {c : Nat → Bool} {g : Nat → Nat} {s : Nat × (Nat → Nat)} : ∀ n j, j < n → c j = true → (fap c g s n).2 (s.1 + c0F c j) = g j
  | 0, j, h, _ => absurd h (Nat.not_lt_zero _)
  | n + 1, j, h, hc => by
    simp only [fap]
    by_cases e : j = n
    · subst e
      rw [if_pos hc]
      show va_up _ _ _ _ = _
      rw [fap_n j, va_up_self]
    · have ih := fap_at (s := s) (g := g) n j (by omega) hc
      by_cases hn : c n = true
      · rw [if_pos hn]
        show va_up _ _ _ _ = _
        have := c0_lt (show j < n by omega) hc
        rw [va_up_ne _ _ (by rw [fap_n n]; omega)]
        exact ih
      · rw [if_neg hn]
        exact ih
theorem fap_congr {c c' : Nat → Bool} {g g' : Nat → Nat} {s : Nat × (Nat → Nat)} : ∀ n, (∀ j, j < n → c j = c' j ∧ (c j = true → g j = g' j)) → fap c g s n = fap c' g' s n
  | 0, _ => rfl
  | n + 1, h => by
    simp only [fap, fap_congr n (fun j hj => h j (by omega))]
    obtain ⟨h1, h2⟩ := h n (Nat.lt_succ_self _)
    by_cases hc : c n = true
    · rw [if_pos hc, if_pos (by rw [← h1]; exact hc), h2 hc]
    · rw [if_neg hc, if_neg (by rw [← h1]; exact hc)]
theorem fap_none {c : Nat → Bool} {g : Nat → Nat} {s : Nat × (Nat → Nat)} : ∀ n, (∀ j, j < n → c j = false) → fap c g s n = s
  | 0, _ => rfl
  | n + 1, h => by
    simp only [fap]
    rw [if_neg (by rw [h n (Nat.lt_succ_self _)]; decide), fap_none n (fun j hj => h j (by omega))]
/-- over a list that was itself made by appending -/
theorem fap_filter {c d : Nat → Bool} {g T : Nat → Nat} {s : Nat × (Nat → Nat)} {M : Nat} (hT : ∀ j, j < M → c j = true → T (c0F c j) = g j) : ∀ i, i ≤ M → fap (fun k => d (T k)) T s (c0F c i) = fap (fun j => c j && d (g j)) g s i
  | 0, _ => rfl
  | i + 1, h => by
    have ih := fap_filter (d := d) (s := s) hT i (by omega)
    simp only [c0F]
    by_cases hc : c i = true
    · rw [if_pos hc]
      have e := hT i (by omega) hc
      show fap (fun k => d (T k)) T s (c0F c i + 1) = fap (fun j => c j && d (g j)) g s (i + 1)
      simp only [fap]
      by_cases hd : d (g i) = true
      · rw [if_pos (show d (T (c0F c i)) = true by rw [e]; exact hd), if_pos (show (c i && d (g i)) = true by rw [hc, hd]; rfl), ih, e]
      · rw [if_neg (show ¬ d (T (c0F c i)) = true by rw [e]; exact hd), if_neg (show ¬ (c i && d (g i)) = true by rw [hc, Bool.true_and]; exact hd), ih]
    · rw [if_neg hc, Nat.add_zero, ih]
      show _ = fap (fun j => c j && d (g j)) g s (i + 1)
      simp only [fap]
      rw [if_neg (by simp [hc])]
/-- two lists, one the picture of the other -/
theorem fap_map {c : Nat → Bool} {g1 g2 : Nat → Nat} {s1 s2 : Nat × (Nat → Nat)} {φ : Nat → Nat} (h0 : s1.1 = s2.1) (h1 : ∀ k, k < s1.1 → s2.2 k = φ (s1.2 k)) : ∀ n, (∀ j, j < n → c j = true → g2 j = φ (g1 j)) →
    (fap c g1 s1 n).1 = (fap c g2 s2 n).1 ∧ ∀ k, k < (fap c g1 s1 n).1 → (fap c g2 s2 n).2 k = φ ((fap c g1 s1 n).2 k)
  | 0, _ => ⟨h0, h1⟩
  | n + 1, hg => by
    obtain ⟨i1, i2⟩ := fap_map h0 h1 n (fun j hj => hg j (by omega))
    simp only [fap]
    by_cases hc : c n = true
    · rw [if_pos hc, if_pos hc]
      refine ⟨by show _ + 1 = _ + 1; rw [i1], fun k hk => ?_⟩
      show va_up _ _ _ k = φ (va_up _ _ _ k)
      by_cases e : k = (fap c g1 s1 n).1
      · rw [e, va_up_self, i1, va_up_self]
        exact hg n (Nat.lt_succ_self _) hc
      · rw [va_up_ne _ _ e, va_up_ne _ _ (by rw [← i1]; exact e)]
        exact i2 k (by have : k < (fap c g1 s1 n).1 + 1 := hk; omega)
    · rw [if_neg hc, if_neg hc]
      exact ⟨i1, i2⟩
