/-! Bits by Nat: rows of this claim (nx_and, nx_xor began as kit/laws/BITS.to-paste) -/
theorem nx_and (a b : Nat) : nI a &&& nI b = nI (a &&& b) := by
  apply Int32.toBitVec_inj.1
  show BitVec.ofNat 32 a &&& BitVec.ofNat 32 b = BitVec.ofNat 32 (a &&& b)
  apply BitVec.eq_of_getLsbD_eq
  intro i hi
  simp [hi]
theorem nx_or (a b : Nat) : nI a ||| nI b = nI (a ||| b) := by
  apply Int32.toBitVec_inj.1
  show BitVec.ofNat 32 a ||| BitVec.ofNat 32 b = BitVec.ofNat 32 (a ||| b)
  apply BitVec.eq_of_getLsbD_eq
  intro i hi
  simp [hi]
theorem nx_xor (a b : Nat) : nI a ^^^ nI b = nI (a ^^^ b) := by
  apply Int32.toBitVec_inj.1
  show BitVec.ofNat 32 a ^^^ BitVec.ofNat 32 b = BitVec.ofNat 32 (a ^^^ b)
  apply BitVec.eq_of_getLsbD_eq
  intro i hi
  simp [hi]
theorem lx_and (a b : Nat) : lN a &&& lN b = lN (a &&& b) := by
  apply Int64.toBitVec_inj.1
  show BitVec.ofNat 64 a &&& BitVec.ofNat 64 b = BitVec.ofNat 64 (a &&& b)
  apply BitVec.eq_of_getLsbD_eq
  intro i hi
  simp [hi]
theorem lx_or (a b : Nat) : lN a ||| lN b = lN (a ||| b) := by
  apply Int64.toBitVec_inj.1
  show BitVec.ofNat 64 a ||| BitVec.ofNat 64 b = BitVec.ofNat 64 (a ||| b)
  apply BitVec.eq_of_getLsbD_eq
  intro i hi
  simp [hi]
theorem nx_shl1 : ∀ k, k < 32 → (nI 1) <<< (nI k &&& 31) = nI (2 ^ k) := by decide +kernel
theorem lx_shl1 : ∀ k, k < 64 → (lN 1) <<< ((nI k).toInt64 &&& 63) = lN (2 ^ k) := by decide +kernel
/-- how many of the first f bits are set -/
def popc (n : Nat) : Nat → Nat
  | 0 => 0
  | f + 1 => popc n f + (n.testBit f).toNat
theorem popc_le (n f : Nat) : popc n f ≤ f := by
  induction f with
  | zero => exact Nat.le_refl _
  | succ f ih =>
    show popc n f + (n.testBit f).toNat ≤ f + 1
    have : (n.testBit f).toNat ≤ 1 := Bool.toNat_le _
    omega
theorem popc_mono {a b : Nat} (f : Nat) (h : ∀ i, i < f → a.testBit i = true → b.testBit i = true) : popc a f ≤ popc b f := by
  induction f with
  | zero => exact Nat.le_refl _
  | succ f ih =>
    show popc a f + (a.testBit f).toNat ≤ popc b f + (b.testBit f).toNat
    have h1 := ih (fun i hi => h i (by omega))
    have h2 : (a.testBit f).toNat ≤ (b.testBit f).toNat := by
      have := h f (by omega)
      cases ha : a.testBit f
      · exact Nat.zero_le _
      · rw [this ha]; exact Nat.le_refl _
    omega
theorem popc_lt {a b : Nat} (f : Nat) (h : ∀ i, i < f → a.testBit i = true → b.testBit i = true) (k : Nat) (hk : k < f) (h1 : a.testBit k = false) (h2 : b.testBit k = true) : popc a f < popc b f := by
  induction f with
  | zero => omega
  | succ f ih =>
    show popc a f + (a.testBit f).toNat < popc b f + (b.testBit f).toNat
    rcases Nat.lt_or_ge k f with q | q
    · have h3 := ih (fun i hi => h i (by omega)) q
      have h4 : (a.testBit f).toNat ≤ (b.testBit f).toNat := by
        have := h f (by omega)
        cases ha : a.testBit f
        · exact Nat.zero_le _
        · rw [this ha]; exact Nat.le_refl _
      omega
    · have e : k = f := by omega
      subst e
      have h3 := popc_mono k (fun i hi => h i (by omega))
      rw [h1, h2]
      show popc a k + 0 < popc b k + 1
      omega
/-! rows of a grid, as a stretch of the world -/
theorem row_get {X Y : va_W} {f : Nat → Nat × va_E} {n i k : Nat} (h : i < n) (hk : k = X.length + i) : (X ++ (List.range n).map f ++ Y)[k]? = some (f i) := by
  subst hk
  rw [List.append_assoc, List.getElem?_append_right (Nat.le_add_right _ _), Nat.add_sub_cancel_left, List.getElem?_append_left (by simpa using h)]
  simp [h]
theorem row_set {X Y : va_W} {f f' : Nat → Nat × va_E} {n i k : Nat} (h : i < n) (hk : k = X.length + i) (hf : ∀ j, j < n → j ≠ i → f' j = f j) : (X ++ (List.range n).map f ++ Y).set k (f' i) = X ++ (List.range n).map f' ++ Y := by
  subst hk
  apply List.ext_getElem?
  intro j
  rw [List.getElem?_set]
  by_cases e : X.length + i = j
  · subst e
    rw [if_pos rfl, row_get h rfl, if_pos]
    simp only [List.length_append, List.length_map, List.length_range]
    omega
  · rw [if_neg e, List.append_assoc, List.append_assoc]
    rcases Nat.lt_or_ge j X.length with q | q
    · rw [List.getElem?_append_left q, List.getElem?_append_left q]
    · rw [List.getElem?_append_right q, List.getElem?_append_right q]
      rcases Nat.lt_or_ge (j - X.length) n with q2 | q2
      · rw [List.getElem?_append_left (by simpa using q2), List.getElem?_append_left (by simpa using q2)]
        simp only [List.getElem?_map, List.getElem?_range q2, Option.map_some]
        rw [hf _ q2 (by omega)]
      · rw [List.getElem?_append_right (by simpa using q2), List.getElem?_append_right (by simpa using q2)]
        simp
