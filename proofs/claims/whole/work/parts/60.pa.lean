/-! class function = reference function: the small ones, and the goals -/
theorem q_lt64 {v : Int32} {a : Nat} (h : a < 2 ^ 31) : v.toInt64 < lN a ↔ v < nI a := by
  rw [Int64.lt_iff_toInt_lt, Int32.lt_iff_toInt_lt, Int32.toInt_toInt64, lN_toInt h, nI_toInt h]
theorem q_gt64 {v : Int32} {a : Nat} (h : a < 2 ^ 31) : lN a < v.toInt64 ↔ nI a < v := by
  rw [Int64.lt_iff_toInt_lt, Int32.lt_iff_toInt_lt, Int32.toInt_toInt64, lN_toInt h, nI_toInt h]
theorem q_isI {v : Int32} {a b : Nat} (ha : a < 2 ^ 31) (hb : b < 2 ^ 31) : isI v.toInt64 (lN a) (lN b) = isW v (nI a) (nI b) := by
  simp only [isI, isW, q_lt64 ha, q_gt64 hb]
theorem q_isN {nc : Nat} {x : Int32} (h : nc < 2 ^ 31) : isI x.toInt64 (lN 1) (lN nc) = isN nc x := q_isI (by decide) h
/-- the number of an Int32 that lies in a range -/
theorem q_nat {x : Int32} {a b : Nat} (hb : b < 2 ^ 31) (h : isW x (nI a) (nI b) = true) (ha : a < 2 ^ 31) : x = nI x.toNatClampNeg ∧ a ≤ x.toNatClampNeg ∧ x.toNatClampNeg ≤ b := by
  simp only [isW, Bool.and_eq_true, decide_eq_true_eq, Int32.lt_iff_toInt_lt, nI_toInt ha, nI_toInt hb] at h
  have h0 : (0 : Int) ≤ x.toInt := by omega
  have e : x.toInt = (x.toNatClampNeg : Int) := by
    show x.toInt = (x.toInt.toNat : Int)
    omega
  have h1 : x.toNatClampNeg ≤ b := by omega
  refine ⟨?_, by omega, h1⟩
  rw [← Int32.toInt_inj, nI_toInt (by omega), e]
theorem q_gr (a b c : Int32) : mgrR a b c = grR a b c := by
  simp only [mgrR, grR, q_isI (a := 0) (b := 3) (by decide) (by decide), q_isI (a := 0) (b := 4) (by decide) (by decide)]
theorem q_go {gc : Nat} (h : gc ≤ 30) (x : Int32) : mgoR gc x = goR gc x := by
  simp only [mgoR, goR, q_isI (a := 0) (b := 4) (by decide) (by decide)]
  by_cases h1 : gc = 30
  · rw [if_pos h1, if_pos (show 30 ≤ gc by omega)]
  · rw [if_neg h1, if_neg (show ¬ 30 ≤ gc by omega)]
theorem q_tr {gc gr : Nat} (h : gc ≤ 30) (hr : gr ≤ 100) (gg gp gt : Nat → Nat) (x y z : Int32) : mtrR gc gg gp gt gr x y z = trR gc gg gp gt gr x y z := by
  simp only [mtrR, trR, q_isI (a := 1) (b := gc) (by decide) (by omega), q_isI (a := 1) (b := 50) (by decide) (by decide), q_isI (a := 0) (b := 50) (by decide) (by decide)]
  by_cases h1 : gr = 100
  · rw [if_pos h1, if_pos (show 100 ≤ gr by omega)]
  · rw [if_neg h1, if_neg (show ¬ 100 ≤ gr by omega)]
theorem q_ev {nc nv : Nat} (h : nv ≤ 12) (u d : Int64) : mevR nc nv u d = evR nc nv u d := by
  show (if isD d = false ∨ u < lN 0 then _ else _) = _
  unfold evR
  by_cases h1 : nv = 12
  · rw [if_pos h1, if_pos (show 12 ≤ nv by omega)]
  · rw [if_neg h1, if_neg (show ¬ 12 ≤ nv by omega)]
theorem q_K (k n : Int32) : mK k n = isK k n := by
  unfold mK isK
  rw [q_isI (a := 0) (b := 2) (by decide) (by decide), q_isI (a := 1) (b := 10) (by decide) (by decide)]
  by_cases h2 : k = nI 2
  · subst h2
    rw [if_pos rfl, if_pos rfl, show isW (nI 2) (nI 0) (nI 2) = true from by decide, Bool.true_and]
  · rw [if_neg h2, if_neg h2]
    congr 1
    by_cases h3 : isW k (nI 0) (nI 2) = true
    · rw [h3]
      obtain ⟨e, h4, h5⟩ := q_nat (by decide) h3 (by decide)
      have h6 : k.toNatClampNeg = 0 ∨ k.toNatClampNeg = 1 := by
        rcases (show k.toNatClampNeg = 0 ∨ k.toNatClampNeg = 1 ∨ k.toNatClampNeg = 2 by omega) with h | h | h
        · exact Or.inl h
        · exact Or.inr h
        · rw [h] at e
          exact absurd e h2
      rcases h6 with h | h <;> rw [h] at e <;> subst e <;> decide
    · have h4 : isW k (nI 0) (nI 2) = false := by simpa using h3
      rw [h4]
      have h5 : ¬ k = 0 := fun h => by rw [h] at h3; exact h3 (by decide)
      have h6 : ¬ k = nI 1 := fun h => by rw [h] at h3; exact h3 (by decide)
      simp [h5, h6]
theorem q_ga {nc ng : Nat} (h : ng ≤ 20) (k n : Int32) : mgaR nc ng k n = gaR nc ng k n := by
  simp only [mgaR, gaR, q_K]
  by_cases h1 : ng = 20
  · rw [if_pos h1, if_pos (show 20 ≤ ng by omega)]
  · rw [if_neg h1, if_neg (show ¬ 20 ≤ ng by omega)]
/-! rows -/
theorem q_hT0 {gg gp gt : Nat → Nat} {x : Nat} (hx : x ≠ 0) : ∀ n : Nat, (roF gg gp gt x 0 true n = 0 ↔ hT0 gg gt x n = false)
  | 0 => by simp [roF, hT0]
  | n + 1 => by
    have ih := q_hT0 (gg := gg) (gp := gp) (gt := gt) hx n
    simp only [roF, hT0, Bool.or_eq_false_iff, ← ih]
    by_cases h : gg n = x ∧ 0 < gt n
    · rw [if_pos ⟨Or.inr h.1, Or.inl (by simp), Or.inr h.2⟩]
      simp [h.1, h.2]
    · rw [if_neg (fun q => h ⟨q.1.resolve_left hx, q.2.2.resolve_left (by decide)⟩)]
      have : (decide (gg n = x) && decide (0 < gt n)) = false := by
        simp only [Bool.and_eq_false_iff, decide_eq_false_iff_not]
        by_cases h1 : gg n = x
        · exact Or.inr (fun q => h ⟨h1, q⟩)
        · exact Or.inl h1
      simp [this]
theorem q_eqI {a b : Nat} (ha : a < 2 ^ 31) (hb : b < 2 ^ 31) : nI a = nI b ↔ a = b := by
  refine ⟨fun h => ?_, fun h => by rw [h]⟩
  have := congrArg Int32.toInt h
  rw [nI_toInt ha, nI_toInt hb] at this
  omega
theorem q_rP {gg gp gt : Nat → Nat} {y : Nat} (hy : y ≠ 0) (hy2 : y < 2 ^ 31) (hp : ∀ j, gp j < 1000) : ∀ n : Nat, roF gg gp gt 0 y false n = rP gp (nI y) n
  | 0 => rfl
  | n + 1 => by
    simp only [roF, rP, q_rP hy hy2 hp n]
    congr 1
    have := hp n
    by_cases h : gp n = y
    · rw [if_pos ⟨Or.inl (by simp), Or.inr h, Or.inl (by simp)⟩, if_pos (by rw [h])]
    · rw [if_neg (fun q => h (q.2.1.resolve_left hy)), if_neg (fun q => h ((q_eqI (by omega) hy2).mp q))]
theorem q_tP {gg gp gt : Nat → Nat} {y : Nat} (hy : y ≠ 0) (hy2 : y < 2 ^ 31) (hp : ∀ j, gp j < 1000) : ∀ n : Nat, roF gg gp gt 0 y true n = tP gp gt (nI y) n
  | 0 => rfl
  | n + 1 => by
    simp only [roF, tP, q_tP hy hy2 hp n]
    congr 1
    have := hp n
    by_cases h : gp n = y ∧ 0 < gt n
    · rw [if_pos ⟨Or.inl (by simp), Or.inr h.1, Or.inr h.2⟩, if_pos ⟨by rw [h.1], h.2⟩]
    · rw [if_neg (fun q => h ⟨q.2.1.resolve_left hy, q.2.2.resolve_left (by decide)⟩), if_neg (fun q => h ⟨(q_eqI (by omega) hy2).mp q.1, q.2⟩)]
theorem q_op1 {gk gg gp gt : Nat → Nat} {gr j : Nat} (hj : j ≠ 0) : mo1 gk gg gp gt gr j = gOp gk gg gt gr j := by
  unfold mo1 gOp
  congr 1
  have := q_hT0 (gg := gg) (gp := gp) (gt := gt) hj gr
  cases h : hT0 gg gt j gr with
  | false => simp [this.mpr h]
  | true =>
    have h1 : ¬ roF gg gp gt j 0 true gr = 0 := fun q => by rw [this.mp q] at h; cases h
    simp [h1]
theorem q_op2 {gg gp gt : Nat → Nat} {gr j : Nat} (hj : j ≠ 0) (hj2 : j < 2 ^ 31) (hp : ∀ j, gp j < 1000) : mo2 gg gp gt gr j = pOp gp gt gr j := by
  unfold mo2 pOp
  rw [q_rP hj hj2 hp, q_tP hj hj2 hp]
theorem q_oL {o1 o2 : Nat → Bool} {X : Nat} (hX : X < 2 ^ 31) : ∀ (f j n : Nat), 1 ≤ j → n ≤ X → (∀ i, j ≤ i → i < j + f → o1 i = o2 i) →
    (oL o1 (nI X) f j n).1 = (fL o2 f j (X - n)).1 ∧ ((fL o2 f j (X - n)).1 = 0 → (oL o1 (nI X) f j n).2 ≤ X ∧ (fL o2 f j (X - n)).2 = X - (oL o1 (nI X) f j n).2)
  | 0, j, n, _, hn, _ => ⟨rfl, fun _ => ⟨hn, rfl⟩⟩
  | f + 1, j, n, hj, hn, ho => by
    have e := ho j (Nat.le_refl _) (by omega)
    have ho2 : ∀ i, j + 1 ≤ i → i < j + 1 + f → o1 i = o2 i := fun i h1 h2 => ho i (by omega) (by omega)
    simp only [oL, fL, e]
    by_cases h : o2 j = true
    · rw [if_pos h, if_pos h]
      by_cases h1 : n = X
      · rw [if_pos (by rw [h1]), if_pos (by omega)]
        exact ⟨rfl, fun h2 => by simp at h2; omega⟩
      · rw [if_neg (fun q => h1 ((q_eqI (by omega) hX).mp q)), if_neg (by omega)]
        have := q_oL hX f (j + 1) (n + 1) (by omega) (by omega) ho2
        rw [show X - n - 1 = X - (n + 1) by omega]
        exact this
    · rw [if_neg h, if_neg h]
      exact q_oL hX f (j + 1) n (by omega) hn ho2
theorem q_oLneg {o1 : Nat → Bool} {x : Int32} (hx : x < 0) : ∀ (f j n : Nat), n + f < 2 ^ 31 → (oL o1 x f j n).1 = 0 ∧ (oL o1 x f j n).2 ≤ n + f
  | 0, _, n, _ => ⟨rfl, Nat.le_refl _⟩
  | f + 1, j, n, h => by
    simp only [oL]
    have h1 : ¬ nI n = x := by
      intro q
      rw [← q, Int32.lt_iff_toInt_lt, nI_toInt (by omega), Int32.toInt_zero] at hx
      omega
    by_cases h2 : o1 j = true
    · rw [if_pos h2, if_neg h1]
      have := q_oLneg (o1 := o1) hx f (j + 1) (n + 1) (by omega)
      exact ⟨this.1, by omega⟩
    · rw [if_neg h2]
      have := q_oLneg (o1 := o1) hx f (j + 1) n (by omega)
      exact ⟨this.1, by omega⟩
theorem q_open {gk gg gp gt : Nat → Nat} {gc gr : Nat} (hc : gc ≤ 30) (hp : ∀ j, gp j < 1000) (x : Int32) :
    moR (mo1 gk gg gp gt gr) (mo2 gg gp gt gr) gc x = (if x < 0 then 0 else fO (gOp gk gg gt gr) (pOp gp gt gr) gc x.toNatClampNeg) := by
  by_cases hx : x < 0
  · rw [if_pos hx]
    unfold moR
    have h1 := q_oLneg (o1 := mo1 gk gg gp gt gr) hx gc 1 0 (by omega)
    rw [if_pos h1.1]
    have h2 := q_oLneg (o1 := mo2 gg gp gt gr) hx 50 1 (oL (mo1 gk gg gp gt gr) x gc 1 0).2 (by omega)
    rw [if_pos h2.1]
  · rw [if_neg hx]
    have hx0 : (0 : Int) ≤ x.toInt := by
      rw [Int32.lt_iff_toInt_lt] at hx
      simpa using hx
    have hlt : x.toInt < 2 ^ 31 := Int32.toInt_lt x
    have e : x = nI x.toNatClampNeg := by
      have e2 : x.toInt = (x.toNatClampNeg : Int) := by
        show x.toInt = (x.toInt.toNat : Int)
        omega
      rw [← Int32.toInt_inj, nI_toInt (by omega), e2]
    have hX : x.toNatClampNeg < 2 ^ 31 := by
      show x.toInt.toNat < 2 ^ 31
      omega
    generalize x.toNatClampNeg = X at e hX
    subst e
    unfold moR fO
    obtain ⟨h1, h2⟩ := q_oL (o1 := mo1 gk gg gp gt gr) (o2 := gOp gk gg gt gr) hX gc 1 0 (Nat.le_refl _) (Nat.zero_le _) (fun i h _ => q_op1 (by omega))
    rw [Nat.sub_zero] at h1 h2
    rw [h1]
    by_cases h3 : (fL (gOp gk gg gt gr) gc 1 X).1 = 0
    · rw [if_pos h3, if_pos h3]
      obtain ⟨h4, h5⟩ := h2 h3
      obtain ⟨h6, -⟩ := q_oL (o1 := mo2 gg gp gt gr) (o2 := pOp gp gt gr) hX 50 1 _ (Nat.le_refl _) h4 (fun i h h7 => q_op2 (by omega) (by omega) hp)
      rw [h6, h5]
    · rw [if_neg h3, if_neg h3]
/-! the greatest common divisor -/
theorem q_gcf : ∀ (f x y : Nat), gcF f x y = cdF f x y
  | 0, _, _ => rfl
  | f + 1, x, y => by simp only [gcF, cdF, q_gcf f]
theorem q_gcdS : ∀ (f x y : Nat), y < f → cdF f x y = Nat.gcd x y
  | 0, _, _, h => absurd h (Nat.not_lt_zero _)
  | f + 1, x, y, h => by
    simp only [cdF]
    by_cases hy : y = 0
    · rw [if_pos hy, hy, Nat.gcd_zero_right]
    · rw [if_neg hy, q_gcdS f y (x % y) (by have := Nat.mod_lt x (Nat.pos_of_ne_zero hy); omega), Nat.gcd_comm x y, Nat.gcd_rec y x, Nat.gcd_comm]
theorem q_gcdL : ∀ (k f x y : Nat), y < 2 ^ k → 2 * k < f → cdF f x y = Nat.gcd x y
  | 0, f, x, y, h, hf => q_gcdS f x y (by omega)
  | k + 1, f, x, y, h, hf => by
    obtain ⟨f, rfl⟩ : ∃ g, f = g + 2 := ⟨f - 2, by omega⟩
    simp only [cdF]
    by_cases hy : y = 0
    · rw [if_pos hy, hy, Nat.gcd_zero_right]
    · rw [if_neg hy]
      have hm := Nat.mod_lt x (Nat.pos_of_ne_zero hy)
      have e1 : Nat.gcd x y = Nat.gcd y (x % y) := by rw [Nat.gcd_comm x y, Nat.gcd_rec y x, Nat.gcd_comm]
      by_cases hz : x % y = 0
      · rw [if_pos hz, e1, hz, Nat.gcd_zero_right]
      · rw [if_neg hz, e1]
        generalize x % y = z at *
        have e2 : Nat.gcd y z = Nat.gcd z (y % z) := by rw [Nat.gcd_comm y z, Nat.gcd_rec z y, Nat.gcd_comm]
        rw [e2]
        refine q_gcdL k f z (y % z) ?_ (by omega)
        have h1 := Nat.mod_lt y (Nat.pos_of_ne_zero hz)
        have h2 := Nat.mod_add_div y z
        have h3 : 1 ≤ y / z := (Nat.one_le_div_iff (Nat.pos_of_ne_zero hz)).mpr (by omega)
        have h4 : z * 1 ≤ z * (y / z) := Nat.mul_le_mul_left z h3
        rw [Nat.pow_succ] at h
        omega
theorem q_cd {x y : Nat} (h : y < 2 ^ 49) : gcF (y + 1) x y = cdF 100 x y := by
  rw [q_gcf, q_gcdS _ _ _ (Nat.lt_succ_self y), q_gcdL 49 100 x y h (by decide)]
theorem q_rP0 {gp : Nat → Nat} {x : Int32} : ∀ n : Nat, (∀ i, i < n → ¬ nI (gp i) = x) → rP gp x n = 0
  | 0, _ => rfl
  | n + 1, h => by
    simp only [rP, q_rP0 n (fun i hi => h i (by omega)), if_neg (h n (by omega))]
theorem q_mcA {gg gp gt : Nat → Nat} {gr : Nat} (hp : ∀ j, gp j < 1000) (hp2 : ∀ i, i < gr → 1 ≤ gp i ∧ gp i ≤ 50) (x : Int32) : mcA gg gp gt gr x = rP gp x gr := by
  unfold mcA
  rw [q_isI (a := 1) (b := 50) (by decide) (by decide)]
  by_cases h : isW x (nI 1) (nI 50) = true
  · rw [if_pos h]
    obtain ⟨e, h1, h2⟩ := q_nat (by decide) h (by decide)
    rw [q_rP (by omega) (by omega) hp, ← e]
  · rw [if_neg h]
    refine (q_rP0 gr (fun i hi q => h ?_)).symm
    have := hp2 i hi
    rw [← q]
    simp only [isW, Bool.and_eq_true, decide_eq_true_eq, Int32.lt_iff_toInt_lt]
    rw [nI_toInt (by omega), nI_toInt (by omega), nI_toInt (by omega)]
    omega
theorem q_cov {gg gp gt : Nat → Nat} {gr : Nat} (hr : gr ≤ 100) (hp : ∀ j, gp j < 1000) (hp2 : ∀ i, i < gr → 1 ≤ gp i ∧ gp i ≤ 50) (x z : Int32) (h0 : 0 < rP gp x gr) :
    mcvR (mcA gg gp gt gr x) (roF gg gp gt 0 x.toNatClampNeg true gr) z = (if z = 0 then tP gp gt x gr / cdF 100 (tP gp gt x gr) (rP gp x gr) else rP gp x gr / cdF 100 (tP gp gt x gr) (rP gp x gr)) := by
  have hx : isW x (nI 1) (nI 50) = true := by
    by_cases h : isW x (nI 1) (nI 50) = true
    · exact h
    · have h1 := q_mcA (gg := gg) (gt := gt) hp hp2 x
      unfold mcA at h1
      rw [q_isI (a := 1) (b := 50) (by decide) (by decide), if_neg h] at h1
      omega
  obtain ⟨e, h1, h2⟩ := q_nat (by decide) hx (by decide)
  have h3 := rP_le gp x gr
  unfold mcvR
  rw [q_mcA hp hp2, if_neg (by omega), q_cd (by omega), q_tP (by omega) (by omega) hp, ← e]
