/-! the tree as a graph: what lies below what -/
def rch (br : Nat → Nat → Nat) (bc : Nat → Nat) : Nat → Nat → Nat → Prop
  | 0, x, y => x = y
  | d + 1, x, y => ∃ i, i < bc x ∧ rch br bc d (br x i) y
def rcS (br : Nat → Nat → Nat) (bc : Nat → Nat) (x y : Nat) : Prop := ∃ d, rch br bc d x y
def rcP (br : Nat → Nat → Nat) (bc : Nat → Nat) (x y : Nat) : Prop := ∃ i, i < bc x ∧ rcS br bc (br x i) y
section RCH
variable {br : Nat → Nat → Nat} {bc : Nat → Nat}
theorem rcS.rf (x : Nat) : rcS br bc x x := ⟨0, rfl⟩
theorem rcP.star {x y : Nat} (h : rcP br bc x y) : rcS br bc x y := by
  obtain ⟨i, hi, d, h⟩ := h
  exact ⟨d + 1, i, hi, h⟩
theorem rcS.split {x y : Nat} (h : rcS br bc x y) : x = y ∨ rcP br bc x y := by
  obtain ⟨d, h⟩ := h
  cases d with
  | zero => exact Or.inl h
  | succ d =>
    obtain ⟨i, hi, h⟩ := h
    exact Or.inr ⟨i, hi, d, h⟩
theorem rch.trans : ∀ (d : Nat) {x y z : Nat}, rch br bc d x y → rcS br bc y z → rcS br bc x z
  | 0, x, y, z, h, h2 => by
    cases h
    exact h2
  | d + 1, x, y, z, h, h2 => by
    obtain ⟨i, hi, h⟩ := h
    exact rcP.star ⟨i, hi, rch.trans d h h2⟩
theorem rcS.trans {x y z : Nat} (h : rcS br bc x y) (h2 : rcS br bc y z) : rcS br bc x z := by
  obtain ⟨d, h⟩ := h
  exact rch.trans d h h2
theorem rcP.thenS {x y z : Nat} (h : rcP br bc x y) (h2 : rcS br bc y z) : rcP br bc x z := by
  obtain ⟨i, hi, h⟩ := h
  exact ⟨i, hi, h.trans h2⟩
theorem rcS.thenP {x y z : Nat} (h : rcS br bc x y) (h2 : rcP br bc y z) : rcP br bc x z := by
  rcases h.split with rfl | h
  · exact h2
  · exact h.thenS h2.star
theorem rcP.one {x i : Nat} (h : i < bc x) : rcP br bc x (br x i) := ⟨i, h, rcS.rf _⟩
/-- the last step -/
theorem rch.last : ∀ (d : Nat) {x y : Nat}, rch br bc (d + 1) x y → ∃ z i, rcS br bc x z ∧ i < bc z ∧ br z i = y
  | 0, x, y, h => by
    obtain ⟨i, hi, h⟩ := h
    exact ⟨x, i, rcS.rf x, hi, h⟩
  | d + 1, x, y, h => by
    obtain ⟨i, hi, h⟩ := h
    obtain ⟨z, j, h1, h2, h3⟩ := rch.last d h
    exact ⟨z, j, rcP.star ⟨i, hi, h1⟩, h2, h3⟩
theorem rcP.last {x y : Nat} (h : rcP br bc x y) : ∃ z i, rcS br bc x z ∧ i < bc z ∧ br z i = y := by
  obtain ⟨i, hi, d, h⟩ := h
  exact rch.last d ⟨i, hi, h⟩
theorem rch.congr {br2 : Nat → Nat → Nat} (h : ∀ x i, i < bc x → br2 x i = br x i) : ∀ (d : Nat) {x y : Nat}, rch br bc d x y → rch br2 bc d x y
  | 0, _, _, q => q
  | d + 1, x, y, q => by
    obtain ⟨i, hi, q⟩ := q
    exact ⟨i, hi, by rw [h x i hi]; exact rch.congr h d q⟩
theorem rcS.congr {br2 : Nat → Nat → Nat} (h : ∀ x i, i < bc x → br2 x i = br x i) {x y : Nat} : rcS br2 bc x y ↔ rcS br bc x y :=
  ⟨fun ⟨d, q⟩ => ⟨d, rch.congr (fun x i hi => (h x i hi).symm) d q⟩, fun ⟨d, q⟩ => ⟨d, rch.congr h d q⟩⟩
theorem rcS.range {n x y : Nat} (hw : ∀ x i, i < bc x → 1 ≤ br x i ∧ br x i ≤ n) (h : rcS br bc x y) : x = y ∨ (1 ≤ y ∧ y ≤ n) := by
  rcases h.split with h | h
  · exact Or.inl h
  · obtain ⟨z, i, -, hi, e⟩ := h.last
    rw [← e]
    exact Or.inr (hw z i hi)
/-- one more edge -/
theorem rch.more {br2 : Nat → Nat → Nat} {bc2 : Nat → Nat} (h : ∀ x i, i < bc x → i < bc2 x ∧ br2 x i = br x i) : ∀ (d : Nat) {x y : Nat}, rch br bc d x y → rch br2 bc2 d x y
  | 0, _, _, q => q
  | d + 1, x, y, q => by
    obtain ⟨i, hi, q⟩ := q
    exact ⟨i, (h x i hi).1, by rw [(h x i hi).2]; exact rch.more h d q⟩
theorem rcS.more {br2 : Nat → Nat → Nat} {bc2 : Nat → Nat} (h : ∀ x i, i < bc x → i < bc2 x ∧ br2 x i = br x i) {x y : Nat} (q : rcS br bc x y) : rcS br2 bc2 x y := by
  obtain ⟨d, q⟩ := q
  exact ⟨d, rch.more h d q⟩
theorem rch.edge {br2 : Nat → Nat → Nat} {bc2 : Nat → Nat} {y x : Nat} (h : ∀ a i, i < bc2 a → (i < bc a ∧ br2 a i = br a i) ∨ (a = y ∧ br2 a i = x)) : ∀ (d : Nat) {a b : Nat}, rch br2 bc2 d a b → rcS br bc a b ∨ (rcS br bc a y ∧ rcS br bc x b)
  | 0, a, b, q => by
    cases q
    exact Or.inl (rcS.rf _)
  | d + 1, a, b, q => by
    obtain ⟨i, hi, q⟩ := q
    have ih := rch.edge h d q
    rcases h a i hi with ⟨h1, h2⟩ | ⟨rfl, h2⟩
    · rw [h2] at ih
      rcases ih with ih | ⟨i1, i2⟩
      · exact Or.inl (rcP.star ⟨i, h1, ih⟩)
      · exact Or.inr ⟨rcP.star ⟨i, h1, i1⟩, i2⟩
    · rw [h2] at ih
      rcases ih with ih | ⟨-, i2⟩
      · exact Or.inr ⟨rcS.rf _, ih⟩
      · exact Or.inr ⟨rcS.rf _, i2⟩
theorem rcS.edge {br2 : Nat → Nat → Nat} {bc2 : Nat → Nat} {y x : Nat} (h : ∀ a i, i < bc2 a → (i < bc a ∧ br2 a i = br a i) ∨ (a = y ∧ br2 a i = x)) (hm : ∀ x i, i < bc x → i < bc2 x ∧ br2 x i = br x i) (hn : ∃ i, i < bc2 y ∧ br2 y i = x) {a b : Nat} :
    rcS br2 bc2 a b ↔ rcS br bc a b ∨ (rcS br bc a y ∧ rcS br bc x b) := by
  refine ⟨fun ⟨d, q⟩ => rch.edge h d q, fun q => ?_⟩
  rcases q with q | ⟨q1, q2⟩
  · exact q.more hm
  · obtain ⟨i, hi, e⟩ := hn
    exact (q1.more hm).trans (rcP.star ⟨i, hi, by rw [e]; exact q2.more hm⟩)
theorem rcP.edge {br2 : Nat → Nat → Nat} {bc2 : Nat → Nat} {y x : Nat} (h : ∀ a i, i < bc2 a → (i < bc a ∧ br2 a i = br a i) ∨ (a = y ∧ br2 a i = x)) (hm : ∀ x i, i < bc x → i < bc2 x ∧ br2 x i = br x i) (hn : ∃ i, i < bc2 y ∧ br2 y i = x) {a b : Nat} :
    rcP br2 bc2 a b ↔ rcP br bc a b ∨ (rcS br bc a y ∧ rcS br bc x b) := by
  refine ⟨fun ⟨i, hi, q⟩ => ?_, fun q => ?_⟩
  · rw [rcS.edge h hm hn] at q
    rcases h a i hi with ⟨h1, h2⟩ | ⟨rfl, h2⟩
    · rw [h2] at q
      rcases q with q | ⟨q1, q2⟩
      · exact Or.inl ⟨i, h1, q⟩
      · exact Or.inr ⟨rcP.star ⟨i, h1, q1⟩, q2⟩
    · rw [h2] at q
      rcases q with q | ⟨-, q2⟩
      · exact Or.inr ⟨rcS.rf _, q⟩
      · exact Or.inr ⟨rcS.rf _, q2⟩
  · rcases q with ⟨i, hi, q⟩ | ⟨q1, q2⟩
    · exact ⟨i, (hm a i hi).1, by rw [(hm a i hi).2]; exact q.more hm⟩
    · obtain ⟨i, hi, e⟩ := hn
      exact rcS.thenP (q1.more hm) ⟨i, hi, by rw [e]; exact q2.more hm⟩
end RCH
/-! the reference's marks -/
section MRK
variable {mb ms : Nat → Nat} {mn : Nat}
theorem mkI_at (ud : Nat → Bool) (x : Nat) : ∀ n j, 1 ≤ j → j ≤ n → mkI ud x n j = decide (j = x)
  | 0, j, h1, h2 => by omega
  | n + 1, j, h1, h2 => by
    simp only [mkI, va_up]
    by_cases h : j = n + 1
    · rw [if_pos h, h]
    · rw [if_neg h]
      exact mkI_at ud x n j h1 (by omega)
theorem mkK_ge (g : Nat) (s : (Nat → Bool) × Bool) : ∀ i y, s.1 y = true → (mkK mb g s i).1 y = true
  | 0, _, h => h
  | i + 1, y, h => by
    simp only [mkK, va_up]
    split
    · rfl
    · exact mkK_ge g s i y h
theorem mkK_in (g : Nat) (s : (Nat → Bool) × Bool) : ∀ n i, i < n → (mkK mb g s n).1 (mb (10 * g + i)) = true
  | 0, _, h => absurd h (Nat.not_lt_zero _)
  | n + 1, i, h => by
    simp only [mkK, va_up]
    by_cases h1 : i = n
    · rw [if_pos (by rw [h1])]
    · split
      · rfl
      · exact mkK_in g s n i (by omega)
theorem mkK_of (g : Nat) (s : (Nat → Bool) × Bool) : ∀ n y, (mkK mb g s n).1 y = true → s.1 y = true ∨ ∃ i, i < n ∧ mb (10 * g + i) = y
  | 0, _, h => Or.inl h
  | n + 1, y, h => by
    simp only [mkK, va_up] at h
    split at h
    · rename_i e
      exact Or.inr ⟨n, Nat.lt_succ_self _, e.symm⟩
    · rcases mkK_of g s n y h with h | ⟨i, hi, e⟩
      · exact Or.inl h
      · exact Or.inr ⟨i, by omega, e⟩
theorem mkK_no (g : Nat) (s : (Nat → Bool) × Bool) : ∀ n, (mkK mb g s n).2 = false → s.2 = false ∧ ∀ y, (mkK mb g s n).1 y = s.1 y
  | 0, h => ⟨h, fun _ => rfl⟩
  | n + 1, h => by
    simp only [mkK, Bool.or_eq_false_iff, Bool.not_eq_false'] at h
    obtain ⟨h1, h2⟩ := mkK_no g s n h.1
    refine ⟨h1, fun y => ?_⟩
    simp only [mkK, va_up]
    split
    · rename_i e
      rw [e, ← h2, h.2]
    · exact h2 y
theorem mkG_ge (u : Nat → Bool) : ∀ j y, u y = true → (mkG mb ms u j).1 y = true
  | 0, _, h => h
  | j + 1, y, h => by
    have ih := mkG_ge u j y h
    simp only [mkG]
    split
    · exact mkK_ge _ _ _ y ih
    · exact ih
theorem mkG_snd {P : Nat → Prop} (hP : ∀ g i, P g → i < ms g → P (mb (10 * g + i))) (u : Nat → Bool) (hu : ∀ y, 1 ≤ y → y ≤ mn → u y = true → P y) (hr : ∀ g i, i < ms g → 1 ≤ mb (10 * g + i) ∧ mb (10 * g + i) ≤ mn) : ∀ j, j ≤ mn → ∀ y, 1 ≤ y → y ≤ mn → (mkG mb ms u j).1 y = true → P y
  | 0, _, y, h1, h2, h => hu y h1 h2 h
  | j + 1, hj, y, h1, h2, h => by
    have ih := mkG_snd hP u hu hr j (by omega)
    simp only [mkG] at h
    split at h
    · rename_i hm
      rcases mkK_of _ _ _ y h with h | ⟨i, hi, e⟩
      · exact ih y h1 h2 h
      · rw [← e]
        exact hP _ i (ih (j + 1) (by omega) hj hm) hi
    · exact ih y h1 h2 h
theorem mkG_no (u : Nat → Bool) : ∀ n, (mkG mb ms u n).2 = false → (∀ y, (mkG mb ms u n).1 y = u y) ∧ ∀ g, 1 ≤ g → g ≤ n → u g = true → ∀ i, i < ms g → u (mb (10 * g + i)) = true
  | 0, _ => ⟨fun _ => rfl, fun g h1 h2 => by omega⟩
  | n + 1, h => by
    simp only [mkG] at h ⊢
    split at h
    · rename_i hm
      obtain ⟨h1, h2⟩ := mkK_no _ _ _ h
      obtain ⟨i1, i2⟩ := mkG_no u n h1
      rw [if_pos hm]
      refine ⟨fun y => (h2 y).trans (i1 y), fun g g1 g2 hg i hi => ?_⟩
      by_cases e : g = n + 1
      · subst e
        have := mkK_in (mb := mb) (n + 1) (mkG mb ms u n) (ms (n + 1)) i hi
        rw [h2, i1] at this
        exact this
      · exact i2 g g1 (by omega) hg i hi
    · rename_i hm
      obtain ⟨i1, i2⟩ := mkG_no u n h
      rw [if_neg hm]
      refine ⟨i1, fun g g1 g2 hg i hi => ?_⟩
      by_cases e : g = n + 1
      · subst e
        rw [i1] at hm
        exact absurd hg hm
      · exact i2 g g1 (by omega) hg i hi
theorem mkW_spec {P : Nat → Prop} (hb : ∀ j, mb j ≤ 32) (hP : ∀ g i, P g → i < ms g → P (mb (10 * g + i))) (hr : ∀ g i, i < ms g → 1 ≤ mb (10 * g + i) ∧ mb (10 * g + i) ≤ mn) : ∀ (f : Nat) (u : Nat → Bool), cfB u 33 < f → (∀ y, 1 ≤ y → y ≤ mn → u y = true → P y) →
    (∀ y, u y = true → mkW (fun u => mkG mb ms u mn) f u y = true) ∧ (∀ y, 1 ≤ y → y ≤ mn → mkW (fun u => mkG mb ms u mn) f u y = true → P y) ∧ ∀ g, 1 ≤ g → g ≤ mn → mkW (fun u => mkG mb ms u mn) f u g = true → ∀ i, i < ms g → mkW (fun u => mkG mb ms u mn) f u (mb (10 * g + i)) = true
  | 0, u, h, _ => absurd h (Nat.not_lt_zero _)
  | f + 1, u, h, hu => by
    simp only [mkW]
    have hs := mkG_snd hP u hu hr mn (Nat.le_refl _)
    by_cases hf : (mkG mb ms u mn).2 = true
    · rw [if_pos hf]
      have hc := (mkG_cf hb u (ms := ms) mn).2 hf
      obtain ⟨i1, i2, i3⟩ := mkW_spec hb hP hr f (mkG mb ms u mn).1 (by omega) hs
      exact ⟨fun y hy => i1 y (mkG_ge u mn y hy), i2, i3⟩
    · rw [if_neg hf]
      have hf : (mkG mb ms u mn).2 = false := by simpa using hf
      obtain ⟨j1, j2⟩ := mkG_no u mn hf
      refine ⟨fun y hy => mkG_ge u mn y hy, hs, fun g g1 g2 hg i hi => ?_⟩
      rw [j1] at hg ⊢
      exact j2 g g1 g2 hg i hi
/-- the marks are what can be reached -/
theorem mkF_spec (hb : ∀ j, mb j ≤ 32) (hr : ∀ g i, i < ms g → 1 ≤ mb (10 * g + i) ∧ mb (10 * g + i) ≤ mn) (ud : Nat → Bool) {x y : Nat} (hx1 : 1 ≤ x) (hx : x ≤ mn) (hy1 : 1 ≤ y) (hy : y ≤ mn) :
    mkF mb ms mn ud x y = true ↔ rcS (fun g i => mb (10 * g + i)) ms x y := by
  have key := mkW_spec (P := fun z => rcS (fun g i => mb (10 * g + i)) ms x z) hb (fun g i hg hi => hg.trans (rcP.one hi).star) hr 34 (mkI ud x mn) (Nat.lt_succ_of_le (cfB_le _ 33)) (fun z h1 h2 h => by
    rw [mkI_at ud x mn z h1 h2, decide_eq_true_eq] at h
    rw [h]
    exact rcS.rf x)
  refine ⟨fun h => key.2.1 y hy1 hy h, fun h => ?_⟩
  have h0 : mkF mb ms mn ud x x = true := key.1 x (by rw [mkI_at ud x mn x hx1 hx]; simp)
  have go : ∀ (d : Nat) (a : Nat), 1 ≤ a → a ≤ mn → mkF mb ms mn ud x a = true → rch (fun g i => mb (10 * g + i)) ms d a y → mkF mb ms mn ud x y = true := by
    intro d
    induction d with
    | zero =>
      intro a _ _ ha q
      cases q
      exact ha
    | succ d ih =>
      intro a h1 h2 ha q
      obtain ⟨i, hi, q⟩ := q
      exact ih _ (hr a i hi).1 (hr a i hi).2 (key.2.2 a h1 h2 ha i hi) q
  obtain ⟨d, q⟩ := h
  exact go d x hx1 hx h0 q
end MRK
/-! the class's closure -/
section PBS
variable {un eu : Nat → Nat} {y x : Nat}
theorem pbS_hi : ∀ n j, n < j → (pbS un eu y x n).1 j = un j ∧ (pbS un eu y x n).2 j = eu j
  | 0, _, _ => ⟨rfl, rfl⟩
  | n + 1, j, h => by
    have ih := pbS_hi n j (by omega)
    simp only [pbS]
    split
    · simp only [va_up]
      rw [if_neg (by omega), if_neg (by omega)]
      exact ih
    · exact ih
theorem pbS_at (hxy : x ≠ y) (hux : (un x).testBit y = false) : ∀ n, (∀ j, (pbS un eu y x n).1 j = if 1 ≤ j ∧ j ≤ n ∧ (j = y ∨ (un j).testBit y = true) then un j ||| (un x ||| 2 ^ x) else un j) ∧ ∀ j, (pbS un eu y x n).2 j = if 1 ≤ j ∧ j ≤ n ∧ (j = y ∨ (un j).testBit y = true) then eu j ||| eu x else eu j
  | 0 => by
    refine ⟨fun j => ?_, fun j => ?_⟩
    · rw [if_neg (by omega)]; rfl
    · rw [if_neg (by omega)]; rfl
  | n + 1 => by
    obtain ⟨i1, i2⟩ := pbS_at hxy hux n
    have e1 := (pbS_hi (un := un) (eu := eu) (y := y) (x := x) n (n + 1) (by omega))
    have ex : (pbS un eu y x n).2 x = eu x := by
      rw [i2, if_neg (fun q => q.2.2.elim hxy (fun h => by rw [hux] at h; cases h))]
    by_cases h : n + 1 = y ∨ ((pbS un eu y x n).1 (n + 1)).testBit y = true
    · rw [pbS_t h]
      rw [e1.1] at h
      refine ⟨fun j => ?_, fun j => ?_⟩
      · simp only [va_up]
        by_cases hj : j = n + 1
        · rw [if_pos hj, if_pos (by rw [hj]; exact ⟨by omega, by omega, h⟩), e1.1, hj]
        · rw [if_neg hj, i1]
          by_cases hc : 1 ≤ j ∧ j ≤ n ∧ (j = y ∨ (un j).testBit y = true)
          · rw [if_pos hc, if_pos ⟨hc.1, by omega, hc.2.2⟩]
          · rw [if_neg hc, if_neg (fun q => hc ⟨q.1, by omega, q.2.2⟩)]
      · simp only [va_up]
        by_cases hj : j = n + 1
        · rw [if_pos hj, if_pos (by rw [hj]; exact ⟨by omega, by omega, h⟩), e1.2, hj, ex]
        · rw [if_neg hj, i2]
          by_cases hc : 1 ≤ j ∧ j ≤ n ∧ (j = y ∨ (un j).testBit y = true)
          · rw [if_pos hc, if_pos ⟨hc.1, by omega, hc.2.2⟩]
          · rw [if_neg hc, if_neg (fun q => hc ⟨q.1, by omega, q.2.2⟩)]
    · have h1 : ¬ n + 1 = y := fun q => h (Or.inl q)
      have h2 : ((pbS un eu y x n).1 (n + 1)).testBit y = false := by
        cases hc : ((pbS un eu y x n).1 (n + 1)).testBit y with
        | false => rfl
        | true => exact absurd (Or.inr hc) h
      rw [pbS_f h1 h2]
      rw [e1.1] at h
      refine ⟨fun j => ?_, fun j => ?_⟩
      · rw [i1]
        by_cases hc : 1 ≤ j ∧ j ≤ n ∧ (j = y ∨ (un j).testBit y = true)
        · rw [if_pos hc, if_pos ⟨hc.1, by omega, hc.2.2⟩]
        · rw [if_neg hc, if_neg (fun q => hc ⟨q.1, by
            by_cases hj : j = n + 1
            · rw [hj] at q; exact absurd q.2.2 h
            · omega, q.2.2⟩)]
      · rw [i2]
        by_cases hc : 1 ≤ j ∧ j ≤ n ∧ (j = y ∨ (un j).testBit y = true)
        · rw [if_pos hc, if_pos ⟨hc.1, by omega, hc.2.2⟩]
        · rw [if_neg hc, if_neg (fun q => hc ⟨q.1, by
            by_cases hj : j = n + 1
            · rw [hj] at q; exact absurd q.2.2 h
            · omega, q.2.2⟩)]
end PBS
