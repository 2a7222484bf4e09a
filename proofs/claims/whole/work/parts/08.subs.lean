/-! the subsets of a mask, one after the other -/
theorem and2 {p q : Nat} (x y : Nat) (hp : p < 2) (hq : q < 2) : (2 * x + p) &&& (2 * y + q) = 2 * (x &&& y) + (p &&& q) := by
  apply Nat.eq_of_testBit_eq
  intro i
  have hpq : p &&& q < 2 ^ 1 := Nat.lt_of_le_of_lt Nat.and_le_left hp
  rw [Nat.testBit_and]
  show ((2 ^ 1 * x + p).testBit i && (2 ^ 1 * y + q).testBit i) = (2 ^ 1 * (x &&& y) + (p &&& q)).testBit i
  rw [Nat.testBit_two_pow_mul_add _ (show p < 2 ^ 1 from hp), Nat.testBit_two_pow_mul_add _ (show q < 2 ^ 1 from hq), Nat.testBit_two_pow_mul_add _ hpq]
  by_cases h : i < 1
  · simp [h]
  · simp [h]
theorem popc_2 (y b : Nat) (hb : b < 2) : ∀ f, popc (2 * y + b) (f + 1) = popc y f + b
  | 0 => by
    show popc (2 * y + b) 0 + ((2 ^ 1 * y + b).testBit 0).toNat = 0 + b
    rw [Nat.testBit_two_pow_mul_add _ (show b < 2 ^ 1 from hb), if_pos (by omega)]
    have : b = 0 ∨ b = 1 := by omega
    rcases this with rfl | rfl <;> rfl
  | f + 1 => by
    show popc (2 * y + b) (f + 1) + ((2 ^ 1 * y + b).testBit (f + 1)).toNat = (popc y f + (y.testBit f).toNat) + b
    rw [popc_2 y b hb f, Nat.testBit_two_pow_mul_add _ (show b < 2 ^ 1 from hb), if_neg (by omega), Nat.add_sub_cancel]
    omega
def pd : Nat → Nat → Nat → Nat
  | 0, _, _ => 0
  | f + 1, w, k => if w % 2 = 1 then 2 * pd f (w / 2) (k / 2) + k % 2 else 2 * pd f (w / 2) k
theorem pd_0 : ∀ f w, pd f w 0 = 0
  | 0, _ => rfl
  | f + 1, w => by
    show (if w % 2 = 1 then 2 * pd f (w / 2) (0 / 2) + 0 % 2 else 2 * pd f (w / 2) 0) = 0
    rw [show (0 : Nat) / 2 = 0 from rfl, pd_0 f (w / 2)]
    split <;> rfl
theorem pd_sub : ∀ f w k, w < 2 ^ f → pd f w k &&& w = pd f w k
  | 0, w, k, h => by
    show 0 &&& w = 0
    exact Nat.zero_and w
  | f + 1, w, k, h => by
    have hw : w / 2 < 2 ^ f := by rw [Nat.pow_succ] at h; omega
    have e : w = 2 * (w / 2) + w % 2 := by omega
    show (if w % 2 = 1 then 2 * pd f (w / 2) (k / 2) + k % 2 else 2 * pd f (w / 2) k) &&& w = (if w % 2 = 1 then 2 * pd f (w / 2) (k / 2) + k % 2 else 2 * pd f (w / 2) k)
    by_cases c : w % 2 = 1
    · rw [if_pos c]
      have h2 := and2 (pd f (w / 2) (k / 2)) (w / 2) (show k % 2 < 2 by omega) (show w % 2 < 2 by omega)
      rw [← e, pd_sub f (w / 2) (k / 2) hw, c] at h2
      rw [h2]
      have : k % 2 = 0 ∨ k % 2 = 1 := by omega
      rcases this with q | q <;> rw [q] <;> rfl
    · rw [if_neg c]
      have c0 : w % 2 = 0 := by omega
      have h2 := and2 (pd f (w / 2) k) (w / 2) (show 0 < 2 by omega) (show w % 2 < 2 by omega)
      rw [← e, pd_sub f (w / 2) k hw, Nat.zero_and] at h2
      exact h2
theorem sub1 : ∀ (f s w n : Nat), f ≤ n → w < 2 ^ f → s &&& w = s → (s + 2 ^ n - 1 - w) &&& w = s
  | 0, s, w, n, _, hw, hs => by
    have : w = 0 := by omega
    subst this
    rw [Nat.and_zero] at hs ⊢
    exact hs
  | f + 1, s, w, n, hn, hw, hs => by
    obtain ⟨n, rfl⟩ : ∃ k, n = k + 1 := ⟨n - 1, by omega⟩
    have hw2 : w / 2 < 2 ^ f := by rw [Nat.pow_succ] at hw; omega
    have e : w = 2 * (w / 2) + w % 2 := by omega
    have es : s = 2 * (s / 2) + s % 2 := by omega
    have h2 := and2 (s / 2) (w / 2) (show s % 2 < 2 by omega) (show w % 2 < 2 by omega)
    rw [← e, ← es, hs] at h2
    have hb : (s % 2 &&& w % 2) < 2 := Nat.lt_of_le_of_lt Nat.and_le_left (by omega)
    have hs2 : (s / 2) &&& (w / 2) = s / 2 := by omega
    have hb2 : s % 2 &&& w % 2 = s % 2 := by omega
    have ih := sub1 f (s / 2) (w / 2) n (by omega) hw2 hs2
    have hp : w / 2 < 2 ^ n := Nat.lt_of_lt_of_le hw2 (Nat.pow_le_pow_right (by decide) (by omega))
    have hbc : s % 2 ≤ w % 2 := Nat.le_trans (Nat.le_of_eq hb2.symm) Nat.and_le_right
    have e2 : s + 2 ^ (n + 1) - 1 - w = 2 * (s / 2 + 2 ^ n - 1 - w / 2) + (s % 2 + 1 - w % 2) := by
      rw [Nat.pow_succ]
      omega
    have h3 := and2 (s / 2 + 2 ^ n - 1 - w / 2) (w / 2) (show s % 2 + 1 - w % 2 < 2 by omega) (show w % 2 < 2 by omega)
    rw [← e, ← e2, ih] at h3
    rw [h3]
    have a : s % 2 = 0 ∨ s % 2 = 1 := by omega
    have b : w % 2 = 0 ∨ w % 2 = 1 := by omega
    rcases a with a | a <;> rcases b with b | b <;> rw [a, b] <;> first | (simp; omega) | omega
/-- the next larger one -/
theorem pd_next : ∀ (f w k n : Nat), f ≤ n → w < 2 ^ f → k + 1 < 2 ^ popc w f → (pd f w k + 2 ^ n - w) &&& w = pd f w (k + 1)
  | 0, w, k, n, _, hw, hk => by
    have : 2 ^ popc w 0 = 1 := rfl
    omega
  | f + 1, w, k, n, hn, hw, hk => by
    obtain ⟨n, rfl⟩ : ∃ k, n = k + 1 := ⟨n - 1, by omega⟩
    have hw2 : w / 2 < 2 ^ f := by rw [Nat.pow_succ] at hw; omega
    have hp : w / 2 < 2 ^ n := Nat.lt_of_lt_of_le hw2 (Nat.pow_le_pow_right (by decide) (by omega))
    have e : w = 2 * (w / 2) + w % 2 := by omega
    have hc := popc_2 (w / 2) (w % 2) (by omega) f
    rw [← e] at hc
    rw [hc] at hk
    have c : w % 2 = 0 ∨ w % 2 = 1 := by omega
    rcases c with c | c
    · have d1 : pd (f + 1) w k = 2 * pd f (w / 2) k := by show (if w % 2 = 1 then _ else _) = _; rw [if_neg (by omega)]
      have d2 : pd (f + 1) w (k + 1) = 2 * pd f (w / 2) (k + 1) := by show (if w % 2 = 1 then _ else _) = _; rw [if_neg (by omega)]
      rw [c, Nat.add_zero] at hk
      have ih := pd_next f (w / 2) k n (by omega) hw2 hk
      have e2 : 2 * pd f (w / 2) k + 2 ^ (n + 1) - w = 2 * (pd f (w / 2) k + 2 ^ n - w / 2) + 0 := by rw [Nat.pow_succ]; omega
      have h3 := and2 (pd f (w / 2) k + 2 ^ n - w / 2) (w / 2) (show 0 < 2 by omega) (show w % 2 < 2 by omega)
      rw [← e, ← e2, ih, Nat.zero_and] at h3
      rw [d1, d2]
      exact h3
    · have d1 : pd (f + 1) w k = 2 * pd f (w / 2) (k / 2) + k % 2 := by show (if w % 2 = 1 then _ else _) = _; rw [if_pos c]
      have d2 : pd (f + 1) w (k + 1) = 2 * pd f (w / 2) ((k + 1) / 2) + (k + 1) % 2 := by show (if w % 2 = 1 then _ else _) = _; rw [if_pos c]
      rw [c, Nat.pow_succ] at hk
      have b : k % 2 = 0 ∨ k % 2 = 1 := by omega
      rcases b with b | b
      · have ih := sub1 f (pd f (w / 2) (k / 2)) (w / 2) n (by omega) hw2 (pd_sub f (w / 2) (k / 2) hw2)
        have e2 : 2 * pd f (w / 2) (k / 2) + k % 2 + 2 ^ (n + 1) - w = 2 * (pd f (w / 2) (k / 2) + 2 ^ n - 1 - w / 2) + 1 := by rw [Nat.pow_succ]; omega
        have h3 := and2 (pd f (w / 2) (k / 2) + 2 ^ n - 1 - w / 2) (w / 2) (show 1 < 2 by omega) (show w % 2 < 2 by omega)
        rw [← e, ← e2, ih, c] at h3
        rw [d1, d2, h3, show (k + 1) / 2 = k / 2 by omega, show (k + 1) % 2 = 1 by omega]
        rfl
      · have ih := pd_next f (w / 2) (k / 2) n (by omega) hw2 (by omega)
        have e2 : 2 * pd f (w / 2) (k / 2) + k % 2 + 2 ^ (n + 1) - w = 2 * (pd f (w / 2) (k / 2) + 2 ^ n - w / 2) + 0 := by rw [Nat.pow_succ]; omega
        have h3 := and2 (pd f (w / 2) (k / 2) + 2 ^ n - w / 2) (w / 2) (show 0 < 2 by omega) (show w % 2 < 2 by omega)
        rw [← e, ← e2, ih, Nat.zero_and] at h3
        rw [d1, d2, h3, show (k + 1) / 2 = k / 2 + 1 by omega, show (k + 1) % 2 = 0 by omega]
