/-! the orders in which gates are worked -/
def ordOK (br : Nat → Nat → Nat) (bc : Nat → Nat) (Rg : Nat → Prop) (od : Nat → Nat) (n : Nat) : Prop :=
  (∀ k, k < n → Rg (od k)) ∧ (∀ g, Rg g → ∃ k, k < n ∧ od k = g) ∧ (∀ k j, k < n → j < n → od k = od j → k = j) ∧ ∀ k i j, k < n → i < bc (od k) → k ≤ j → j < n → od j ≠ br (od k) i
/-! the reference -/
section PRE
variable {u : Nat → Bool} {mk ms mb : Nat → Nat} {dn : Nat → Bool} {ea : Nat → Nat} {mn : Nat}
theorem prE_spec : ∀ n, (prE u mk dn ea n).2.1 = cnt (fun i => u i && decide (mk i = 0)) n ∧ ∀ j, 1 ≤ j → j ≤ n → u j = true → mk j = 0 → (prE u mk dn ea n).2.2 (cnt (fun i => u i && decide (mk i = 0)) (j - 1)) = j
  | 0 => ⟨rfl, fun j h1 h2 => by omega⟩
  | n + 1 => by
    obtain ⟨i1, i2⟩ := prE_spec n
    by_cases h : u (n + 1) = true ∧ mk (n + 1) = 0
    · rw [prE_t h]
      refine ⟨?_, fun j h1 h2 hu hm => ?_⟩
      · simp only [cnt, i1, h.1, h.2, decide_true, Bool.and_self, if_true]
      · by_cases e : j = n + 1
        · subst e
          show va_up _ _ _ (cnt _ n) = _
          rw [i1, va_up_self]
        · have hlt : cnt (fun i => u i && decide (mk i = 0)) (j - 1) < cnt (fun i => u i && decide (mk i = 0)) n := cnt_lt h1 (by omega) (by simp [hu, hm])
          show va_up _ _ _ (cnt _ (j - 1)) = _
          rw [va_up_ne _ _ (by rw [i1]; omega)]
          exact i2 j h1 (by omega) hu hm
    · rw [prE_f h]
      refine ⟨?_, fun j h1 h2 hu hm => ?_⟩
      · simp only [cnt, i1]
        rw [if_neg (by simpa using h)]
        rfl
      · by_cases e : j = n + 1
        · subst e
          exact absurd ⟨hu, hm⟩ h
        · exact i2 j h1 (by omega) hu hm
theorem rdF_spec {d : Nat → Bool} {x : Nat} : ∀ n, (rdF d mb x n = true ↔ ∀ i, i < n → d (mb (10 * x + i)) = true)
  | 0 => ⟨fun _ i h => absurd h (Nat.not_lt_zero _), fun _ => rfl⟩
  | n + 1 => by
    simp only [rdF, Bool.and_eq_true, rdF_spec n]
    refine ⟨fun h i hi => ?_, fun h => ⟨fun i hi => h i (by omega), h n (Nat.lt_succ_self _)⟩⟩
    by_cases e : i = n
    · rw [e]; exact h.2
    · exact h.1 i (by omega)
def prO (u : Nat → Bool) (mk ms mb : Nat → Nat) (mn : Nat) (d : Nat → Bool) (n : Nat) (oo : Nat → Nat) : Prop :=
  (∀ k, k < n → 1 ≤ oo k ∧ oo k ≤ mn ∧ u (oo k) = true ∧ mk (oo k) ≠ 0 ∧ d (oo k) = true) ∧ (∀ k j, k < n → j < n → oo k = oo j → k = j) ∧
  (∀ k i j, k < n → i < ms (oo k) → k ≤ j → j < n → oo j ≠ mb (10 * oo k + i)) ∧ (∀ k i, k < n → i < ms (oo k) → d (mb (10 * oo k + i)) = true) ∧
  (∀ g, 1 ≤ g → g ≤ mn → d g = true → mk g = 0 ∨ ∃ k, k < n ∧ oo k = g) ∧ ∀ g, 1 ≤ g → g ≤ mn → mk g = 0 → d g = true
theorem prG_O {s : (Nat → Bool) × Nat × (Nat → Nat)} (hs : prO u mk ms mb mn s.1 s.2.1 s.2.2) : ∀ j, j ≤ mn → prO u mk ms mb mn (prG u ms mb s j).1 (prG u ms mb s j).2.1 (prG u ms mb s j).2.2.1
  | 0, _ => hs
  | j + 1, hj => by
    have ih := prG_O hs j (by omega)
    by_cases h : u (j + 1) = true ∧ (prG u ms mb s j).1 (j + 1) = false ∧ rdF (prG u ms mb s j).1 mb (j + 1) (ms (j + 1)) = true
    · rw [prG_t h]
      generalize (prG u ms mb s j) = q at ih h ⊢
      obtain ⟨d, n, oo, fl⟩ := q
      obtain ⟨o1, o2, o3, o4, o5, o6⟩ := ih
      obtain ⟨h1, h2, h3⟩ := h
      dsimp only at o1 o2 o3 o4 o5 o6 h2 h3 ⊢
      rw [rdF_spec] at h3
      have hm : mk (j + 1) ≠ 0 := fun q => by rw [o6 (j + 1) (by omega) hj q] at h2; cases h2
      have hne : ∀ k, k < n → oo k ≠ j + 1 := fun k hk q => by rw [← q, (o1 k hk).2.2.2.2] at h2; cases h2
      have hlo : ∀ k, k < n → va_up oo n (j + 1) k = oo k := fun k hk => va_up_ne _ _ (by omega)
      have hup : ∀ z, d z = true → va_up d (j + 1) true z = true := fun z hz => by
        simp only [va_up]; split
        · rfl
        · exact hz
      refine ⟨fun k hk => ?_, fun k i hk hi e => ?_, fun k i l hk hi hl hl2 => ?_, fun k i hk hi => ?_, fun g g1 g2 hg => ?_, fun g g1 g2 hg => hup g (o6 g g1 g2 hg)⟩
      · by_cases e : k = n
        · rw [e, va_up_self]
          exact ⟨by omega, hj, h1, hm, va_up_self _ _ _⟩
        · rw [hlo k (by omega)]
          obtain ⟨a1, a2, a3, a4, a5⟩ := o1 k (by omega)
          exact ⟨a1, a2, a3, a4, hup _ a5⟩
      · by_cases e1 : k = n
        · by_cases e2 : i = n
          · omega
          · rw [e1, va_up_self, hlo i (by omega)] at e
            exact absurd e.symm (hne i (by omega))
        · by_cases e2 : i = n
          · rw [e2, va_up_self, hlo k (by omega)] at e
            exact absurd e (hne k (by omega))
          · rw [hlo k (by omega), hlo i (by omega)] at e
            exact o2 k i (by omega) (by omega) e
      · by_cases e1 : k = n
        · have e2 : l = n := by omega
          rw [e1, va_up_self] at hi ⊢
          rw [e2, va_up_self]
          intro q
          have := h3 i hi
          rw [← q, h2] at this
          cases this
        · rw [hlo k (by omega)] at hi ⊢
          by_cases e2 : l = n
          · rw [e2, va_up_self]
            intro q
            have := o4 k i (by omega) hi
            rw [← q, h2] at this
            cases this
          · rw [hlo l (by omega)]
            exact o3 k i l (by omega) hi hl (by omega)
      · by_cases e1 : k = n
        · rw [e1, va_up_self] at hi ⊢
          exact hup _ (h3 i hi)
        · rw [hlo k (by omega)] at hi ⊢
          exact hup _ (o4 k i (by omega) hi)
      · by_cases e : g = j + 1
        · exact Or.inr ⟨n, Nat.lt_succ_self _, by rw [va_up_self, e]⟩
        · rw [va_up_ne _ _ e] at hg
          rcases o5 g g1 g2 hg with q | ⟨k, hk, q⟩
          · exact Or.inl q
          · exact Or.inr ⟨k, by omega, by rw [hlo k hk]; exact q⟩
    · rw [prG_f h]
      exact ih
theorem prG_no {s : (Nat → Bool) × Nat × (Nat → Nat)} : ∀ n, (prG u ms mb s n).2.2.2 = false → prG u ms mb s n = (s.1, s.2.1, s.2.2, false) ∧ ∀ j, 1 ≤ j → j ≤ n → ¬ (u j = true ∧ s.1 j = false ∧ rdF s.1 mb j (ms j) = true)
  | 0, _ => ⟨rfl, fun j h1 h2 => by omega⟩
  | n + 1, h => by
    by_cases hc : u (n + 1) = true ∧ (prG u ms mb s n).1 (n + 1) = false ∧ rdF (prG u ms mb s n).1 mb (n + 1) (ms (n + 1)) = true
    · rw [prG_t hc] at h
      cases h
    · rw [prG_f hc] at h ⊢
      obtain ⟨i1, i2⟩ := prG_no n h
      refine ⟨i1, fun j h1 h2 => ?_⟩
      by_cases e : j = n + 1
      · rw [i1] at hc
        rw [e]
        exact hc
      · exact i2 j h1 (by omega)
theorem prW_O : ∀ (f : Nat) (s : (Nat → Bool) × Nat × (Nat → Nat)), ndc s.1 mn < f → prO u mk ms mb mn s.1 s.2.1 s.2.2 →
    prO u mk ms mb mn (prW (fun s => prG u ms mb s mn) f s).1 (prW (fun s => prG u ms mb s mn) f s).2.1 (prW (fun s => prG u ms mb s mn) f s).2.2 ∧ ∀ j, 1 ≤ j → j ≤ mn → ¬ (u j = true ∧ (prW (fun s => prG u ms mb s mn) f s).1 j = false ∧ rdF (prW (fun s => prG u ms mb s mn) f s).1 mb j (ms j) = true)
  | 0, s, h, _ => absurd h (Nat.not_lt_zero _)
  | f + 1, s, h, hs => by
    have h1 := prG_O hs mn (Nat.le_refl _)
    simp only [prW]
    by_cases hf : (prG u ms mb s mn).2.2.2 = true
    · rw [if_pos hf]
      have h2 := (prG_nd (u := u) (ms := ms) (mb := mb) (s := s) (n := mn) mn (Nat.le_refl _)).2.2 hf
      exact prW_O f _ (by dsimp only; omega) h1
    · rw [if_neg hf]
      obtain ⟨e, h3⟩ := prG_no mn (by simpa using hf)
      rw [e]
      exact ⟨hs, h3⟩
/-- the reference's order -/
theorem pW_ord {oo : Nat → Nat} {x : Nat} (mea : Nat → Nat) (hm : ∀ g i, i < ms g → mea (mb (10 * g + i)) < mea g) (hr : ∀ g i, i < ms g → 1 ≤ mb (10 * g + i) ∧ mb (10 * g + i) ≤ mn) (hgt : ndc (fun j => decide (mk j = 0)) mn ≤ 20)
    (hu : ∀ y, 1 ≤ y → y ≤ mn → (u y = true ↔ rcS (fun g i => mb (10 * g + i)) ms x y)) (hx1 : 1 ≤ x) (hx : x ≤ mn) :
    ordOK (fun g i => mb (10 * g + i)) ms (fun g => rcS (fun g i => mb (10 * g + i)) ms x g ∧ mk g ≠ 0) (prW (fun s => prG u ms mb s mn) 34 ((prE u mk dn ea mn).1, 0, oo)).2.2 (prW (fun s => prG u ms mb s mn) 34 ((prE u mk dn ea mn).1, 0, oo)).2.1 := by
  have hd : ∀ i, 1 ≤ i → i ≤ mn → (prE u mk dn ea mn).1 i = decide (mk i = 0) := fun i h1 h2 => prE_dn mn i h1 h2
  have h0 : prO u mk ms mb mn (prE u mk dn ea mn).1 0 oo := by
    refine ⟨fun k h => absurd h (Nat.not_lt_zero _), fun k j h => absurd h (Nat.not_lt_zero _), fun k i j h => absurd h (Nat.not_lt_zero _), fun k i h => absurd h (Nat.not_lt_zero _), fun g g1 g2 hg => ?_, fun g g1 g2 hg => ?_⟩
    · rw [hd g g1 g2, decide_eq_true_eq] at hg
      exact Or.inl hg
    · rw [hd g g1 g2, hg]; rfl
  have hn : ndc (prE u mk dn ea mn).1 mn < 34 := by
    have : ndc (prE u mk dn ea mn).1 mn = ndc (fun j => decide (mk j = 0)) mn := cfB_congr mn (fun i hi => hd (i + 1) (by omega) (by omega))
    omega
  obtain ⟨⟨o1, o2, o3, o4, o5, o6⟩, hno⟩ := prW_O (u := u) (ms := ms) (mb := mb) 34 ((prE u mk dn ea mn).1, 0, oo) hn h0
  generalize prW (fun s => prG u ms mb s mn) 34 ((prE u mk dn ea mn).1, 0, oo) = q at *
  obtain ⟨d, n, od⟩ := q
  dsimp only at o1 o2 o3 o4 o5 o6 hno ⊢
  refine ⟨fun k hk => ⟨(hu _ (o1 k hk).1 (o1 k hk).2.1).mp (o1 k hk).2.2.1, (o1 k hk).2.2.2.1⟩, fun g hg => ?_, o2, o3⟩
  have all : ∀ (f g : Nat), mea g < f → rcS (fun g i => mb (10 * g + i)) ms x g → 1 ≤ g → g ≤ mn → d g = true := by
    intro f
    induction f with
    | zero => intro g h; exact absurd h (Nat.not_lt_zero _)
    | succ f ih =>
      intro g h hg g1 g2
      cases hdg : d g with
      | true => rfl
      | false =>
        refine absurd ⟨(hu g g1 g2).mpr hg, hdg, (rdF_spec _).mpr (fun i hi => ?_)⟩ (hno g g1 g2)
        have h3 := hm g i hi
        exact ih _ (by omega) (hg.trans (rcP.one (br := fun g i => mb (10 * g + i)) hi).star) (hr g i hi).1 (hr g i hi).2
  have hgr : 1 ≤ g ∧ g ≤ mn := by
    rcases rcS.range (n := mn) hr hg.1 with e | e
    · rw [← e]; exact ⟨hx1, hx⟩
    · exact e
  rcases o5 g hgr.1 hgr.2 (all _ g (Nat.lt_succ_self _) hg.1 hgr.1 hgr.2) with q | q
  · exact absurd q hg.2
  · exact q
end PRE
/-! the class -/
section LUS
variable {c : Nat → Bool} {key : Nat → Nat} {nc : Nat}
def rkF (c : Nat → Bool) (key : Nat → Nat) (nc j : Nat) : Nat := cnt (fun i => c i && decide (key i < key j)) nc + cnt (fun i => c i && decide (key i = key j)) (j - 1)
theorem cnt_split (z : Nat) : ∀ n, cnt (fun i => c i && decide (key i < z + 1)) n = cnt (fun i => c i && decide (key i < z)) n + cnt (fun i => c i && decide (key i = z)) n
  | 0 => rfl
  | n + 1 => by
    simp only [cnt, cnt_split z n]
    by_cases hc : c (n + 1) = true
    · by_cases h1 : key (n + 1) < z
      · simp [hc, h1, show key (n + 1) < z + 1 by omega, show ¬ key (n + 1) = z by omega]; omega
      · by_cases h2 : key (n + 1) = z
        · simp [hc, h2]; omega
        · simp [h1, h2, show ¬ key (n + 1) < z + 1 by omega]
    · simp [hc]
theorem luN_spec (hcap : cnt c nc ≤ 20) (z : Nat) (li : Nat → Nat) (s : Nat × (Nat → Nat)) (h0 : s.1 = cnt (fun i => c i && decide (key i < z)) nc)
    (h1 : ∀ j, 1 ≤ j → j ≤ nc → c j = true → key j < z → s.2 (rkF c key nc j) = j) : ∀ n, n ≤ nc →
    (luN (fun j => c j && decide (key j = z)) s n).1 = cnt (fun i => c i && decide (key i < z)) nc + cnt (fun i => c i && decide (key i = z)) n ∧
    ∀ j, 1 ≤ j → j ≤ nc → c j = true → (key j < z ∨ (key j = z ∧ j ≤ n)) → (luN (fun j => c j && decide (key j = z)) s n).2 (rkF c key nc j) = j
  | 0, _ => ⟨by rw [show luN _ s 0 = s from rfl, h0]; rfl, fun j j1 j2 hc hz => h1 j j1 j2 hc (by omega)⟩
  | n + 1, hn => by
    obtain ⟨i1, i2⟩ := luN_spec hcap z li s h0 h1 n (by omega)
    have hle : cnt (fun i => c i && decide (key i < z)) nc + cnt (fun i => c i && decide (key i = z)) nc ≤ 20 := by
      rw [← cnt_split]
      exact Nat.le_trans (cnt_le_of nc (fun j _ _ h => by simp only [Bool.and_eq_true] at h; exact h.1)) hcap
    by_cases h : (c (n + 1) && decide (key (n + 1) = z)) = true
    · have hlt : cnt (fun i => c i && decide (key i = z)) n < cnt (fun i => c i && decide (key i = z)) nc := cnt_lt (j := n + 1) (by omega) hn h
      have hc20 : (luN (fun j => c j && decide (key j = z)) s n).1 < 20 := by rw [i1]; omega
      rw [luN_t (cnd := fun j => c j && decide (key j = z)) h hc20]
      simp only [Bool.and_eq_true, decide_eq_true_eq] at h
      refine ⟨?_, fun j j1 j2 hc hz => ?_⟩
      · simp only [cnt, i1, h.1, h.2, decide_true, Bool.and_self, if_true]
        omega
      · show va_up _ _ _ _ = _
        by_cases e : j = n + 1
        · have er : rkF c key nc j = (luN (fun j => c j && decide (key j = z)) s n).1 := by
            rw [i1, e]
            unfold rkF
            rw [h.2]
            rfl
          rw [er, va_up_self, e]
        · have hlt2 : rkF c key nc j < (luN (fun j => c j && decide (key j = z)) s n).1 := by
            rw [i1]
            unfold rkF
            rcases hz with hz | ⟨hz, hj⟩
            · have q1 : cnt (fun i => c i && decide (key i = key j)) (j - 1) < cnt (fun i => c i && decide (key i = key j)) nc := cnt_lt j1 j2 (by simp [hc])
              have q2 : cnt (fun i => c i && decide (key i < key j + 1)) nc ≤ cnt (fun i => c i && decide (key i < z)) nc := cnt_le_of nc (fun i _ _ hi => by
                simp only [Bool.and_eq_true, decide_eq_true_eq] at hi ⊢
                exact ⟨hi.1, by omega⟩)
              rw [cnt_split] at q2
              omega
            · have q1 : cnt (fun i => c i && decide (key i = key j)) (j - 1) < cnt (fun i => c i && decide (key i = key j)) n := cnt_lt j1 (by omega) (by simp [hc])
              rw [hz] at q1 ⊢
              omega
          rw [va_up_ne _ _ (by omega)]
          exact i2 j j1 j2 hc (by omega)
    · rw [luN_f (cnd := fun j => c j && decide (key j = z)) (fun q => h q.1)]
      refine ⟨?_, fun j j1 j2 hc hz => ?_⟩
      · simp only [cnt, i1]
        rw [if_neg h]
        rfl
      · refine i2 j j1 j2 hc ?_
        rcases hz with hz | ⟨hz, hj⟩
        · exact Or.inl hz
        · by_cases e : j = n + 1
          · exact absurd (by simp [← e, hc, hz]) h
          · exact Or.inr ⟨hz, by omega⟩
theorem luS_spec (hcap : cnt c nc ≤ 20) (li : Nat → Nat) : ∀ z, (luS (fun z j => c j && decide (key j = z)) nc (0, li) z).1 = cnt (fun i => c i && decide (key i < z)) nc ∧ ∀ j, 1 ≤ j → j ≤ nc → c j = true → key j < z → (luS (fun z j => c j && decide (key j = z)) nc (0, li) z).2 (rkF c key nc j) = j
  | 0 => by
    refine ⟨?_, fun j _ _ _ h => absurd h (Nat.not_lt_zero _)⟩
    have : cnt (fun i => c i && decide (key i < 0)) nc = cnt (fun _ => false) nc := cnt_congr nc (fun j _ _ => by simp)
    rw [this]
    have h0 : ∀ n, cnt (fun _ => false) n = 0 := fun n => by
      induction n with
      | zero => rfl
      | succ n ih => simp [cnt, ih]
    rw [h0]
    rfl
  | z + 1 => by
    obtain ⟨i1, i2⟩ := luS_spec hcap li z
    obtain ⟨j1, j2⟩ := luN_spec hcap z li _ i1 i2 nc (Nat.le_refl _)
    refine ⟨?_, fun j h1 h2 hc hz => ?_⟩
    · show (luN _ _ nc).1 = _
      rw [j1, cnt_split]
    · exact j2 j h1 h2 hc (by omega)
/-- the class's order -/
theorem luS_ord {br : Nat → Nat → Nat} {bc : Nat → Nat} (hcap : cnt c nc ≤ 20) (li : Nat → Nat) {Z : Nat} (hZ : ∀ j, 1 ≤ j → j ≤ nc → c j = true → key j < Z) (hr : ∀ g i, i < bc g → 1 ≤ br g i ∧ br g i ≤ nc) (hkey : ∀ g i, i < bc g → key (br g i) < key g) :
    ordOK br bc (fun g => 1 ≤ g ∧ g ≤ nc ∧ c g = true) (luS (fun z j => c j && decide (key j = z)) nc (0, li) Z).2 (luS (fun z j => c j && decide (key j = z)) nc (0, li) Z).1 := by
  obtain ⟨h1, h2⟩ := luS_spec (key := key) hcap li Z
  generalize luS (fun z j => c j && decide (key j = z)) nc (0, li) Z = q at h1 h2 ⊢
  obtain ⟨n, od⟩ := q
  dsimp only at h1 h2 ⊢
  have rlt : ∀ a b, 1 ≤ a → a ≤ nc → c a = true → key a < key b → rkF c key nc a < rkF c key nc b := by
    intro a b a1 a2 ca hab
    unfold rkF
    have q1 : cnt (fun i => c i && decide (key i = key a)) (a - 1) < cnt (fun i => c i && decide (key i = key a)) nc := cnt_lt a1 a2 (by simp [ca])
    have q2 : cnt (fun i => c i && decide (key i < key a + 1)) nc ≤ cnt (fun i => c i && decide (key i < key b)) nc := cnt_le_of nc (fun i _ _ hi => by
      simp only [Bool.and_eq_true, decide_eq_true_eq] at hi ⊢
      exact ⟨hi.1, by omega⟩)
    rw [cnt_split] at q2
    omega
  have rin : ∀ a, 1 ≤ a → a ≤ nc → c a = true → rkF c key nc a < n := by
    intro a a1 a2 ca
    rw [h1]
    unfold rkF
    have q1 : cnt (fun i => c i && decide (key i = key a)) (a - 1) < cnt (fun i => c i && decide (key i = key a)) nc := cnt_lt a1 a2 (by simp [ca])
    have q2 : cnt (fun i => c i && decide (key i < key a + 1)) nc ≤ cnt (fun i => c i && decide (key i < Z)) nc := cnt_le_of nc (fun i i1 i2 hi => by
      simp only [Bool.and_eq_true, decide_eq_true_eq] at hi ⊢
      exact ⟨hi.1, hZ i i1 i2 hi.1⟩)
    rw [cnt_split] at q2
    omega
  have on : ∀ (z k : Nat), k < cnt (fun i => c i && decide (key i < z)) nc → ∃ j, 1 ≤ j ∧ j ≤ nc ∧ c j = true ∧ key j < z ∧ rkF c key nc j = k := by
    intro z
    induction z with
    | zero =>
      intro k hk
      obtain ⟨j, -, -, hj, -⟩ := cnt_on nc k hk
      simp at hj
    | succ z ih =>
      intro k hk
      by_cases hk2 : k < cnt (fun i => c i && decide (key i < z)) nc
      · obtain ⟨j, j1, j2, j3, j4, j5⟩ := ih k hk2
        exact ⟨j, j1, j2, j3, by omega, j5⟩
      · rw [cnt_split] at hk
        obtain ⟨j, j1, j2, j3, j4⟩ := cnt_on (b := fun i => c i && decide (key i = z)) nc (k - cnt (fun i => c i && decide (key i < z)) nc) (by omega)
        simp only [Bool.and_eq_true, decide_eq_true_eq] at j3
        refine ⟨j, j1, j2, j3.1, by omega, ?_⟩
        unfold rkF
        rw [j3.2, j4]
        omega
  have at_ : ∀ k, k < n → ∃ j, 1 ≤ j ∧ j ≤ nc ∧ c j = true ∧ rkF c key nc j = k ∧ od k = j := by
    intro k hk
    obtain ⟨j, j1, j2, j3, j4, j5⟩ := on Z k (by rw [← h1]; exact hk)
    exact ⟨j, j1, j2, j3, j5, by rw [← j5]; exact h2 j j1 j2 j3 j4⟩
  refine ⟨fun k hk => ?_, fun g hg => ⟨rkF c key nc g, rin g hg.1 hg.2.1 hg.2.2, h2 g hg.1 hg.2.1 hg.2.2 (hZ g hg.1 hg.2.1 hg.2.2)⟩, fun k j hk hj e => ?_, fun k i j hk hi hkj hj e => ?_⟩
  · obtain ⟨j, j1, j2, j3, -, j5⟩ := at_ k hk
    rw [j5]
    exact ⟨j1, j2, j3⟩
  · obtain ⟨a, -, -, -, a4, a5⟩ := at_ k hk
    obtain ⟨b, -, -, -, b4, b5⟩ := at_ j hj
    have : a = b := by rw [← a5, ← b5, e]
    rw [← a4, ← b4, this]
  · obtain ⟨a, a1, a2, a3, a4, a5⟩ := at_ k hk
    obtain ⟨b, b1, b2, b3, b4, b5⟩ := at_ j hj
    rw [a5] at hi e
    rw [b5] at e
    have h3 := hkey a i hi
    rw [← e] at h3
    have := rlt b a b1 b2 b3 h3
    omega
end LUS
