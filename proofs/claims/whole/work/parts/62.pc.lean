/-! subsets by number; counting; evaluation in an order; uniqueness -/
theorem pd_tb : ∀ (f w k p : Nat), (pd f w k).testBit p = (decide (p < f) && w.testBit p && k.testBit (popc w p))
  | 0, w, k, p => by simp [pd]
  | f + 1, w, k, 0 => by
    simp only [pd, popc]
    by_cases h : w % 2 = 1
    · rw [if_pos h]
      simp only [Nat.testBit_zero, h]
      have : (2 * pd f (w / 2) (k / 2) + k % 2) % 2 = k % 2 := by omega
      rw [this]
      simp
    · rw [if_neg h]
      simp only [Nat.testBit_zero, h]
      have : (2 * pd f (w / 2) k) % 2 = 0 := by omega
      rw [this]
      simp
  | f + 1, w, k, p + 1 => by
    have e : popc w (p + 1) = popc (w / 2) p + w % 2 := by
      have := popc_2 (w / 2) (w % 2) (Nat.mod_lt w (by decide)) p
      rw [show 2 * (w / 2) + w % 2 = w by omega] at this
      exact this
    simp only [pd]
    by_cases h : w % 2 = 1
    · rw [if_pos h, Nat.testBit_succ, show (2 * pd f (w / 2) (k / 2) + k % 2) / 2 = pd f (w / 2) (k / 2) by omega, pd_tb f, Nat.testBit_succ w, e, h, Nat.testBit_succ k]
      simp
    · rw [if_neg h, Nat.testBit_succ, show (2 * pd f (w / 2) k) / 2 = pd f (w / 2) k by omega, pd_tb f, Nat.testBit_succ w, e, show w % 2 = 0 by omega]
      simp
def cnt (b : Nat → Bool) : Nat → Nat
  | 0 => 0
  | j + 1 => cnt b j + (if b (j + 1) = true then 1 else 0)
theorem cnt_mono (b : Nat → Bool) : ∀ {i j : Nat}, i ≤ j → cnt b i ≤ cnt b j
  | i, 0, h => by rw [show i = 0 by omega]; exact Nat.le_refl _
  | i, j + 1, h => by
    by_cases e : i = j + 1
    · rw [e]; exact Nat.le_refl _
    · have := cnt_mono b (i := i) (j := j) (by omega)
      simp only [cnt]
      omega
theorem cnt_lt {b : Nat → Bool} {j n : Nat} (h1 : 1 ≤ j) (hj : j ≤ n) (hb : b j = true) : cnt b (j - 1) < cnt b n := by
  obtain ⟨j, rfl⟩ : ∃ k, j = k + 1 := ⟨j - 1, by omega⟩
  have := cnt_mono b hj
  simp only [cnt, if_pos hb] at this
  show cnt b j < _
  omega
theorem cnt_on {b : Nat → Bool} : ∀ (n c : Nat), c < cnt b n → ∃ j, 1 ≤ j ∧ j ≤ n ∧ b j = true ∧ cnt b (j - 1) = c
  | 0, c, h => absurd h (Nat.not_lt_zero _)
  | n + 1, c, h => by
    by_cases hc : c < cnt b n
    · obtain ⟨j, h1, h2, h3, h4⟩ := cnt_on n c hc
      exact ⟨j, h1, by omega, h3, h4⟩
    · simp only [cnt] at h
      by_cases hb : b (n + 1) = true
      · rw [if_pos hb] at h
        exact ⟨n + 1, by omega, Nat.le_refl _, hb, by show cnt b n = c; omega⟩
      · rw [if_neg hb] at h
        omega
theorem cnt_inj {b : Nat → Bool} {i j : Nat} (hi : 1 ≤ i) (hj : 1 ≤ j) (bi : b i = true) (bj : b j = true) (h : cnt b (i - 1) = cnt b (j - 1)) : i = j := by
  rcases Nat.lt_trichotomy i j with q | q | q
  · have := cnt_lt (n := j - 1) hi (by omega) bi
    omega
  · exact q
  · have := cnt_lt (n := i - 1) hj (by omega) bj
    omega
theorem cnt_le_of {b c : Nat → Bool} : ∀ n, (∀ j, 1 ≤ j → j ≤ n → b j = true → c j = true) → cnt b n ≤ cnt c n
  | 0, _ => Nat.le_refl _
  | n + 1, h => by
    have ih := cnt_le_of n (fun j h1 h2 => h j h1 (by omega))
    have h1 := h (n + 1) (by omega) (Nat.le_refl _)
    simp only [cnt]
    by_cases hb : b (n + 1) = true
    · rw [if_pos hb, if_pos (h1 hb)]
      omega
    · rw [if_neg hb]
      omega
theorem cnt_congr {b c : Nat → Bool} : ∀ n, (∀ j, 1 ≤ j → j ≤ n → b j = c j) → cnt b n = cnt c n
  | 0, _ => rfl
  | n + 1, h => by
    simp only [cnt]
    rw [cnt_congr n (fun j h1 h2 => h j h1 (by omega)), h (n + 1) (by omega) (Nat.le_refl _)]
theorem cnt_evc (mk : Nat → Nat) : ∀ n, evc mk n = cnt (fun j => decide (mk j = 0)) n
  | 0 => rfl
  | n + 1 => by
    simp only [evc, cnt, cnt_evc mk n]
    by_cases h : mk (n + 1) = 0 <;> simp [h]
/-! evaluation in an order -/
def evo {α : Type} (F : (Nat → α) → Nat → α) (od : Nat → Nat) (v : Nat → α) : Nat → (Nat → α)
  | 0 => v
  | k + 1 => va_up (evo F od v k) (od k) (F (evo F od v k) (od k))
section EVO
variable {α : Type} {F : (Nat → α) → Nat → α} {od : Nat → Nat} {v : Nat → α} {br : Nat → Nat → Nat} {bc : Nat → Nat} {n : Nat}
theorem evo_keep {z : Nat} {k : Nat} : ∀ m, k ≤ m → (∀ j, k ≤ j → j < m → od j ≠ z) → evo F od v m z = evo F od v k z
  | 0, h, _ => by rw [show k = 0 by omega]
  | m + 1, h, hz => by
    by_cases e : k = m + 1
    · rw [e]
    · have ih := evo_keep (z := z) (k := k) m (by omega) (fun j h1 h2 => hz j h1 (by omega))
      show va_up _ _ _ z = _
      rw [va_up_ne _ _ (fun q => hz m (by omega) (Nat.lt_succ_self _) q.symm), ih]
theorem evo_spec (hF : ∀ (v v' : Nat → α) (g : Nat), (∀ i, i < bc g → v (br g i) = v' (br g i)) → F v g = F v' g) (hinj : ∀ k j, k < n → j < n → od k = od j → k = j) (htop : ∀ k i j, k < n → i < bc (od k) → k ≤ j → j < n → od j ≠ br (od k) i) :
    (∀ k, k < n → evo F od v n (od k) = F (evo F od v n) (od k)) ∧ ∀ z, (∀ k, k < n → od k ≠ z) → evo F od v n z = v z := by
  refine ⟨fun k hk => ?_, fun z hz => evo_keep (k := 0) n (Nat.zero_le _) (fun j _ h => hz j h)⟩
  rw [evo_keep (z := od k) (k := k + 1) n hk (fun j h1 h2 q => by have := hinj j k h2 hk q; omega)]
  show va_up _ _ _ (od k) = _
  rw [va_up_self]
  refine hF _ _ _ (fun i hi => ?_)
  rw [evo_keep (z := br (od k) i) (k := k) n (Nat.le_of_lt hk) (fun j h1 h2 => htop k i j hk hi h1 h2)]
end EVO
/-- two that agree at the leaves and are made alike at the others agree -/
theorem uq {α : Type} {F : (Nat → α) → Nat → α} {br : Nat → Nat → Nat} {bc : Nat → Nat} (hF : ∀ (v v' : Nat → α) (g : Nat), (∀ i, i < bc g → v (br g i) = v' (br g i)) → F v g = F v' g) (mea : Nat → Nat) (hm : ∀ x i, i < bc x → mea (br x i) < mea x) (v v' : Nat → α) :
    ∀ (f x : Nat), mea x < f → (∀ z, rcS br bc x z → v z = v' z ∨ (v z = F v z ∧ v' z = F v' z)) → v x = v' x
  | 0, _, h, _ => absurd h (Nat.not_lt_zero _)
  | f + 1, x, h, hz => by
    rcases hz x (rcS.rf x) with q | ⟨q1, q2⟩
    · exact q
    · rw [q1, q2]
      refine hF v v' x (fun i hi => uq hF mea hm v v' f (br x i) ?_ (fun z q => hz z (rcP.star ⟨i, hi, q⟩)))
      have := hm x i hi
      omega
/-! the class's sets of nodes below -/
theorem un_lt {br : Nat → Nat → Nat} {bc un : Nat → Nat} (hu : ∀ x y, (un x).testBit y = true ↔ rcP br bc x y) (hac : ∀ x, ¬ rcP br bc x x) (hr : ∀ x i, i < bc x → br x i < 64) (x i : Nat) (hi : i < bc x) : popc (un (br x i)) 64 < popc (un x) 64 := by
  refine popc_lt 64 (fun z _ h => ?_) (br x i) (hr x i hi) ?_ ?_
  · rw [hu] at h ⊢
    exact (rcP.one hi).thenS h.star
  · cases hc : (un (br x i)).testBit (br x i) with
    | false => rfl
    | true => exact absurd ((hu _ _).mp hc) (hac _)
  · exact (hu _ _).mpr (rcP.one hi)
/-! the events below a node, on both sides -/
theorem ev_pop {w x : Nat} {mk en : Nat → Nat} {nc nv : Nat} {u : Nat → Bool} {R : Nat → Prop} (hnv : nv ≤ 12) (he : evc mk nc = nv) (hen : ∀ j, 1 ≤ j → j ≤ nc → mk j = 0 → en (evc mk (j - 1)) = j) (hw : ∀ k, k < nv → (w.testBit (11 - k) = true ↔ R (en k))) (hu : ∀ j, 1 ≤ j → j ≤ nc → (u j = true ↔ R j)) :
    ∀ j, j ≤ nc → popc w 12 = popc w (12 - evc mk j) + cnt (fun i => u i && decide (mk i = 0)) j
  | 0, _ => rfl
  | j + 1, hj => by
    have ih := ev_pop (x := x) hnv he hen hw hu j (by omega)
    have hle : evc mk (j + 1) ≤ nv := he ▸ evc_mono mk hj
    simp only [cnt]
    by_cases h0 : mk (j + 1) = 0
    · have e1 : evc mk (j + 1) = evc mk j + 1 := by simp only [evc, if_pos h0]
      have e2 := hen (j + 1) (by omega) hj h0
      rw [show j + 1 - 1 = j from rfl] at e2
      have e3 : 12 - evc mk j = (11 - evc mk j) + 1 := by omega
      rw [e3, show popc w ((11 - evc mk j) + 1) = popc w (11 - evc mk j) + (w.testBit (11 - evc mk j)).toNat from rfl] at ih
      have hb : w.testBit (11 - evc mk j) = u (j + 1) := by
        have := hw (evc mk j) (by omega)
        rw [e2, ← hu (j + 1) (by omega) hj] at this
        cases h1 : w.testBit (11 - evc mk j) <;> cases h2 : u (j + 1) <;> simp_all
      rw [ih, hb, show 12 - evc mk (j + 1) = 11 - evc mk j by omega]
      have hd : decide (mk (j + 1) = 0) = true := decide_eq_true h0
      simp only [hd, Bool.and_true]
      by_cases h2 : u (j + 1) = true
      · rw [if_pos h2, h2]
        simp only [Bool.toNat_true]
        omega
      · rw [if_neg h2, show u (j + 1) = false by simpa using h2]
        simp only [Bool.toNat_false]
        omega
    · have e1 : evc mk (j + 1) = evc mk j := by simp only [evc, if_neg h0, Nat.add_zero]
      rw [e1, ih]
      simp [h0]
theorem popc_0 {w : Nat} : ∀ m, (∀ p, p < m → w.testBit p = false) → popc w m = 0
  | 0, _ => rfl
  | m + 1, h => by
    simp only [popc, popc_0 m (fun p hp => h p (by omega)), h m (Nat.lt_succ_self _)]
    rfl
