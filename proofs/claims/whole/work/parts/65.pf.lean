/-! the tree, in the class and in the reference -/
def ITr (nc nv ng : Nat) (kd : Nat → Int32) (vo nu nd en : Nat → Nat) (br : Nat → Nat → Nat) (bc un eu : Nat → Nat) (tb : Nat → Nat → Int64) (mn mv mg : Nat) (mk mo mu md ms mb : Nat → Nat) : Prop :=
  (mn = nc) ∧
  (mv = nv) ∧
  (mg = ng) ∧
  (mo = vo) ∧
  (mu = nu) ∧
  (md = nd) ∧
  (ms = bc) ∧
  (∀ x i, i < 10 → mb (10 * x + i) = br x i) ∧
  (nc = nv + ng) ∧
  (nv ≤ 12) ∧
  (ng ≤ 20) ∧
  (∀ j, mk j ≤ 3) ∧
  (∀ j, 1 ≤ j → j ≤ nc → kd j = if mk j = 0 then -1 else nI (mk j - 1)) ∧
  (∀ j, bc j ≤ 10) ∧
  (∀ j i, br j i ≤ 32) ∧
  (∀ j, mb j ≤ 32) ∧
  (∀ x i, i < bc x → 1 ≤ br x i ∧ br x i ≤ nc) ∧
  (∀ x, 0 < bc x → 1 ≤ x ∧ x ≤ nc ∧ mk x ≠ 0) ∧
  (∀ x y, (un x).testBit y = true ↔ rcP br bc x y) ∧
  (∀ x, ¬ rcP br bc x x) ∧
  (evc mk nc = nv) ∧
  (∀ j, 1 ≤ j → j ≤ nc → mk j = 0 → en (evc mk (j - 1)) = j) ∧
  (∀ x k, k < nv → ((eu x).testBit (11 - k) = true ↔ rcS br bc x (en k))) ∧
  (∀ x p, p + nv < 12 → (eu x).testBit p = false) ∧
  (∀ x, eu x < 2 ^ 12) ∧
  (∀ j, vo j ≤ 10) ∧
  (∀ j, mk j = 3 → 1 ≤ j → j ≤ nc → 0 < vo j) ∧
  (∀ j, nu j ≤ nd j) ∧
  (∀ j, nd j ≤ 10) ∧
  (∀ j, mk j = 0 → 1 ≤ j → j ≤ nc → 0 < nd j) ∧
  (∀ j, en j ≤ 32) ∧
  (∀ k s, k < nv → s < 4096 → isT tb (en k) s = s.testBit (11 - k))
section ITS
variable {nc nv ng : Nat} {kd : Nat → Int32} {vo nu nd en : Nat → Nat} {br : Nat → Nat → Nat} {bc un eu : Nat → Nat} {tb : Nat → Nat → Int64} {mn mv mg : Nat} {mk mo mu md ms mb : Nat → Nat}
theorem it_lt {n m : Nat} (h : ∀ p, n.testBit p = true → p < m) : n < 2 ^ m :=
  Nat.lt_pow_two_of_testBit n (fun i hi => by
    cases hc : n.testBit i with
    | false => rfl
    | true => have := h i hc; omega)
theorem it_un (h : ITr nc nv ng kd vo nu nd en br bc un eu tb mn mv mg mk mo mu md ms mb) (j : Nat) : un j < 2 ^ 33 := by
  obtain ⟨-, -, -, -, -, -, -, -, h_nc, h_nv, h_ng, -, -, -, -, -, h_ch, -, h_un, -, -, -, -, -, -, -, -, -, -, -, -, -⟩ := h
  refine it_lt (fun p hp => ?_)
  obtain ⟨z, i, -, hi, e⟩ := ((h_un j p).mp hp).last
  have := h_ch z i hi
  omega
theorem it_unb (h : ITr nc nv ng kd vo nu nd en br bc un eu tb mn mv mg mk mo mu md ms mb) {j p : Nat} (hp : (un j).testBit p = true) : 1 ≤ p ∧ p ≤ nc := by
  obtain ⟨-, -, -, -, -, -, -, -, -, -, -, -, -, -, -, -, h_ch, -, h_un, -, -, -, -, -, -, -, -, -, -, -, -, -⟩ := h
  obtain ⟨z, i, -, hi, e⟩ := ((h_un j p).mp hp).last
  rw [← e]
  exact h_ch z i hi
theorem cnt_compl (b : Nat → Bool) : ∀ n, cnt b n + cnt (fun j => !(b j)) n = n
  | 0 => rfl
  | n + 1 => by
    have := cnt_compl b n
    simp only [cnt]
    by_cases hb : b (n + 1) = true
    · simp [hb]; omega
    · simp [hb]; omega
theorem ndc_cnt (d : Nat → Bool) : ∀ n, ndc d n = cnt (fun j => !(d j)) n
  | 0 => rfl
  | n + 1 => by
    have := ndc_cnt d n
    unfold ndc at this ⊢
    simp only [cfB, cnt, this]
    by_cases hd : d (n + 1) = true
    · simp [hd]
    · simp [hd]
theorem it_gt (h : ITr nc nv ng kd vo nu nd en br bc un eu tb mn mv mg mk mo mu md ms mb) : cnt (fun j => !(decide (mk j = 0))) nc = ng := by
  obtain ⟨-, -, -, -, -, -, -, -, h_nc, -, -, -, -, -, -, -, -, -, -, -, h_ev, -, -, -, -, -, -, -, -, -, -, -⟩ := h
  have := cnt_compl (fun j => decide (mk j = 0)) nc
  rw [← cnt_evc, h_ev] at this
  omega
theorem it_ndc (h : ITr nc nv ng kd vo nu nd en br bc un eu tb mn mv mg mk mo mu md ms mb) : ndc (fun j => decide (mk j = 0)) mn ≤ 20 := by
  have h1 := it_gt h
  obtain ⟨e_mn, -, -, -, -, -, -, -, -, -, h_ng, -, -, -, -, -, -, -, -, -, -, -, -, -, -, -, -, -, -, -, -, -⟩ := h
  rw [e_mn, ndc_cnt, h1]
  exact h_ng
theorem it_range (h : ITr nc nv ng kd vo nu nd en br bc un eu tb mn mv mg mk mo mu md ms mb) {x y : Nat} (h1 : 1 ≤ x) (h2 : x ≤ nc) (hr : rcS br bc x y) : 1 ≤ y ∧ y ≤ nc := by
  obtain ⟨-, -, -, -, -, -, -, -, -, -, -, -, -, -, -, -, h_ch, -, -, -, -, -, -, -, -, -, -, -, -, -, -, -⟩ := h
  rcases rcS.range (n := nc) h_ch hr with e | e
  · rw [← e]; exact ⟨h1, h2⟩
  · exact e
theorem it_key (h : ITr nc nv ng kd vo nu nd en br bc un eu tb mn mv mg mk mo mu md ms mb) (j : Nat) : popc (un j) 64 < 33 := by
  have h1 : popc (un j) 64 ≤ popc (2 ^ 33 - 2) 64 := popc_mono 64 (fun i _ hi => by
    have q := it_unb h hi
    obtain ⟨-, -, -, -, -, -, -, -, h_nc, h_nv, h_ng, -, -, -, -, -, -, -, -, -, -, -, -, -, -, -, -, -, -, -, -, -⟩ := h
    have : ∀ i, i < 33 → 1 ≤ i → (2 ^ 33 - 2).testBit i = true := by decide +kernel
    exact this i (by omega) q.1)
  have h2 : popc (2 ^ 33 - 2) 64 = 32 := by decide +kernel
  omega
theorem it_lt64 (h : ITr nc nv ng kd vo nu nd en br bc un eu tb mn mv mg mk mo mu md ms mb) (x i : Nat) (hi : i < bc x) : popc (un (br x i)) 64 < popc (un x) 64 := by
  obtain ⟨-, -, -, -, -, -, -, -, -, -, -, -, -, -, h_br, -, -, -, h_un, h_ac, -, -, -, -, -, -, -, -, -, -, -, -⟩ := h
  exact un_lt h_un h_ac (fun x i _ => by have := h_br x i; omega) x i hi
theorem it_brm (h : ITr nc nv ng kd vo nu nd en br bc un eu tb mn mv mg mk mo mu md ms mb) (x i : Nat) (hi : i < bc x) : mb (10 * x + i) = br x i := by
  obtain ⟨-, -, -, -, -, -, -, e_mb, -, -, -, -, -, h_bc, -, -, -, -, -, -, -, -, -, -, -, -, -, -, -, -, -, -⟩ := h
  exact e_mb x i (by have := h_bc x; omega)
theorem it_rcS (h : ITr nc nv ng kd vo nu nd en br bc un eu tb mn mv mg mk mo mu md ms mb) {x y : Nat} : rcS (fun g i => mb (10 * g + i)) ms x y ↔ rcS br bc x y := by
  have hm := it_brm h
  obtain ⟨-, -, -, -, -, -, e_ms, -, -, -, -, -, -, -, -, -, -, -, -, -, -, -, -, -, -, -, -, -, -, -, -, -⟩ := h
  subst e_ms
  exact rcS.congr hm
theorem it_isG (h : ITr nc nv ng kd vo nu nd en br bc un eu tb mn mv mg mk mo mu md ms mb) (x : Int32) : miG mn mk x = isG nc kd x := by
  obtain ⟨e_mn, -, -, -, -, -, -, -, h_nc, h_nv, h_ng, h_mk, h_kd, -, -, -, -, -, -, -, -, -, -, -, -, -, -, -, -, -, -, -⟩ := h
  unfold miG isG
  rw [e_mn, q_isN (by omega)]
  by_cases hx : isN nc x = true
  · rw [hx]
    obtain ⟨e, h1, h2⟩ := q_nat (a := 1) (by omega) hx (by decide)
    rw [h_kd _ h1 h2]
    have hk := h_mk x.toNatClampNeg
    rcases (show mk x.toNatClampNeg = 0 ∨ mk x.toNatClampNeg = 1 ∨ mk x.toNatClampNeg = 2 ∨ mk x.toNatClampNeg = 3 by omega) with q | q | q | q <;> rw [q] <;> decide
  · rw [show isN nc x = false by simpa using hx]
    rfl
theorem it_isE (h : ITr nc nv ng kd vo nu nd en br bc un eu tb mn mv mg mk mo mu md ms mb) (x : Int32) : miE mn mk x = isE nc kd x := by
  obtain ⟨e_mn, -, -, -, -, -, -, -, h_nc, h_nv, h_ng, h_mk, h_kd, -, -, -, -, -, -, -, -, -, -, -, -, -, -, -, -, -, -, -⟩ := h
  unfold miE isE
  rw [e_mn, q_isN (by omega)]
  by_cases hx : isN nc x = true
  · rw [hx]
    obtain ⟨e, h1, h2⟩ := q_nat (a := 1) (by omega) hx (by decide)
    rw [h_kd _ h1 h2]
    have hk := h_mk x.toNatClampNeg
    rcases (show mk x.toNatClampNeg = 0 ∨ mk x.toNatClampNeg = 1 ∨ mk x.toNatClampNeg = 2 ∨ mk x.toNatClampNeg = 3 by omega) with q | q | q | q <;> rw [q] <;> decide
  · rw [show isN nc x = false by simpa using hx]
    rfl
theorem it_G (h : ITr nc nv ng kd vo nu nd en br bc un eu tb mn mv mg mk mo mu md ms mb) {x : Int32} (hx : isG nc kd x = true) : x = nI x.toNatClampNeg ∧ 1 ≤ x.toNatClampNeg ∧ x.toNatClampNeg ≤ nc ∧ mk x.toNatClampNeg ≠ 0 := by
  rw [← it_isG h] at hx
  obtain ⟨e_mn, -, -, -, -, -, -, -, h_nc, h_nv, h_ng, -, -, -, -, -, -, -, -, -, -, -, -, -, -, -, -, -, -, -, -, -⟩ := h
  unfold miG at hx
  rw [e_mn, q_isN (by omega), Bool.and_eq_true, decide_eq_true_eq] at hx
  obtain ⟨e, h1, h2⟩ := q_nat (a := 1) (by omega) hx.1 (by decide)
  exact ⟨e, h1, h2, by omega⟩
theorem it_E (h : ITr nc nv ng kd vo nu nd en br bc un eu tb mn mv mg mk mo mu md ms mb) {x : Int32} (hx : isE nc kd x = true) : x = nI x.toNatClampNeg ∧ 1 ≤ x.toNatClampNeg ∧ x.toNatClampNeg ≤ nc ∧ mk x.toNatClampNeg = 0 := by
  rw [← it_isE h] at hx
  obtain ⟨e_mn, -, -, -, -, -, -, -, h_nc, h_nv, h_ng, -, -, -, -, -, -, -, -, -, -, -, -, -, -, -, -, -, -, -, -, -⟩ := h
  unfold miE at hx
  rw [e_mn, q_isN (by omega), Bool.and_eq_true, decide_eq_true_eq] at hx
  obtain ⟨e, h1, h2⟩ := q_nat (a := 1) (by omega) hx.1 (by decide)
  exact ⟨e, h1, h2, hx.2⟩
/-- the class's order of the gates below x -/
theorem it_ordS (h : ITr nc nv ng kd vo nu nd en br bc un eu tb mn mv mg mk mo mu md ms mb) {x : Nat} (h1 : 1 ≤ x) (h2 : x ≤ nc) (li : Nat → Nat) : ordOK br bc (fun g => rcS br bc x g ∧ mk g ≠ 0) (luS (luC nc kd un x) nc (0, li) 33).2 (luS (luC nc kd un x) nc (0, li) 33).1 := by
  have hr : ∀ {y : Nat}, rcS br bc x y → 1 ≤ y ∧ y ≤ nc := fun {y} q => it_range h h1 h2 q
  have hk := it_key h
  have hlt := it_lt64 h
  have hgt := it_gt h
  have hG : ∀ j, 1 ≤ j → j ≤ nc → (isG nc kd (nI j) = true ↔ mk j ≠ 0) := by
    intro j j1 j2
    rw [← it_isG h]
    obtain ⟨e_mn, -, -, -, -, -, -, -, h_nc, h_nv, h_ng, -, -, -, -, -, -, -, -, -, -, -, -, -, -, -, -, -, -, -, -, -⟩ := h
    unfold miG
    rw [e_mn, q_isI (by decide) (by omega), nI_clamp (by omega), Bool.and_eq_true, decide_eq_true_eq]
    refine ⟨fun q => by omega, fun q => ⟨?_, by omega⟩⟩
    simp only [isW, Bool.and_eq_true, decide_eq_true_eq, Int32.lt_iff_toInt_lt]
    rw [nI_toInt (by omega), nI_toInt (by omega), nI_toInt (by omega)]
    omega
  obtain ⟨-, -, -, -, -, -, -, -, h_nc, h_nv, h_ng, -, -, -, -, -, h_ch, -, h_un, -, -, -, -, -, -, -, -, -, -, -, -, -⟩ := h
  have hc : ∀ j, 1 ≤ j → j ≤ nc → (((decide (j = x) || (un x).testBit j) && isG nc kd (nI j)) = true ↔ rcS br bc x j ∧ mk j ≠ 0) := by
    intro j j1 j2
    simp only [Bool.and_eq_true, Bool.or_eq_true, decide_eq_true_eq, hG j j1 j2, h_un]
    refine ⟨fun q => ⟨?_, q.2⟩, fun q => ⟨?_, q.2⟩⟩
    · rcases q.1 with e | e
      · rw [e]; exact rcS.rf x
      · exact e.star
    · rcases q.1.split with e | e
      · exact Or.inl e.symm
      · exact Or.inr e
  have key := luS_ord (c := fun j => (decide (j = x) || (un x).testBit j) && isG nc kd (nI j)) (key := fun j => popc (un j) 64) (br := br) (bc := bc) (nc := nc)
    (by
      refine Nat.le_trans (cnt_le_of nc (c := fun j => !(decide (mk j = 0))) (fun j j1 j2 q => ?_)) (by rw [hgt]; exact h_ng)
      have := ((hc j j1 j2).mp q).2
      simp [this]) li (Z := 33) (fun j _ _ _ => hk j) h_ch (fun g i hi => hlt g i hi)
  obtain ⟨o1, o2, o3, o4⟩ := key
  refine ⟨fun k hk => ?_, fun g hg => ?_, o3, o4⟩
  · have q := o1 k hk
    exact (hc _ q.1 q.2.1).mp q.2.2
  · have q := hr hg.1
    exact o2 g ⟨q.1, q.2, (hc g q.1 q.2).mpr hg⟩
/-- the reference's order -/
theorem it_ordR (h : ITr nc nv ng kd vo nu nd en br bc un eu tb mn mv mg mk mo mu md ms mb) {x : Nat} (h1 : 1 ≤ x) (h2 : x ≤ nc) (ud dn : Nat → Bool) (ea oo : Nat → Nat) : ordOK br bc (fun g => rcS br bc x g ∧ mk g ≠ 0) (pW mk mb ms mn ud dn ea oo x).2.2 (pW mk mb ms mn ud dn ea oo x).2.1 := by
  have hm := it_brm h
  have hlt := it_lt64 h
  have hn := it_ndc h
  have hrc : ∀ {x y : Nat}, rcS (fun g i => mb (10 * g + i)) ms x y ↔ rcS br bc x y := fun {x y} => it_rcS h
  obtain ⟨e_mn, -, -, -, -, -, e_ms, -, -, -, -, -, -, -, -, h_mb, h_ch, -, -, -, -, -, -, -, -, -, -, -, -, -, -, -⟩ := h
  subst e_ms
  subst e_mn
  have hr : ∀ g i, i < ms g → 1 ≤ mb (10 * g + i) ∧ mb (10 * g + i) ≤ mn := fun g i hi => by rw [hm g i hi]; exact h_ch g i hi
  obtain ⟨o1, o2, o3, o4⟩ := pW_ord (u := mkF mb ms mn ud x) (mk := mk) (dn := dn) (ea := ea) (oo := oo) (fun j => popc (un j) 64) (fun g i hi => by rw [hm g i hi]; exact hlt g i hi) hr hn (fun y y1 y2 => mkF_spec h_mb hr ud h1 h2 y1 y2) h1 h2
  refine ⟨fun k hk => ⟨hrc.mp (o1 k hk).1, (o1 k hk).2⟩, fun g hg => o2 g ⟨hrc.mpr hg.1, hg.2⟩, o3, fun k i j hk hi hkj hj => ?_⟩
  rw [← hm _ _ hi]
  exact o4 k i j hk hi hkj hj
/-- the events below x: how many, and which bit is whose -/
theorem it_events (h : ITr nc nv ng kd vo nu nd en br bc un eu tb mn mv mg mk mo mu md ms mb) {x : Nat} (h1 : 1 ≤ x) (h2 : x ≤ nc) (ud dn : Nat → Bool) (ea : Nat → Nat) :
    (pE mk mb ms mn ud dn ea x).2.1 = popc (eu x) 12 ∧
    (∀ j, rcS br bc x j → mk j = 0 → ∃ c, c < popc (eu x) 12 ∧ (pE mk mb ms mn ud dn ea x).2.2 c = j ∧ evc mk (j - 1) < nv ∧ (eu x).testBit (11 - evc mk (j - 1)) = true ∧ popc (eu x) (11 - evc mk (j - 1)) = popc (eu x) 12 - 1 - c) ∧
    (∀ c, c < popc (eu x) 12 → rcS br bc x ((pE mk mb ms mn ud dn ea x).2.2 c) ∧ mk ((pE mk mb ms mn ud dn ea x).2.2 c) = 0) ∧
    ∀ c d, c < popc (eu x) 12 → d < popc (eu x) 12 → (pE mk mb ms mn ud dn ea x).2.2 c = (pE mk mb ms mn ud dn ea x).2.2 d → c = d := by
  have hrg : ∀ {y : Nat}, rcS br bc x y → 1 ≤ y ∧ y ≤ nc := fun {y} q => it_range h h1 h2 q
  have hm := it_brm h
  have hrc : ∀ {x y : Nat}, rcS (fun g i => mb (10 * g + i)) ms x y ↔ rcS br bc x y := fun {x y} => it_rcS h
  obtain ⟨e_mn, -, -, -, -, -, e_ms, -, -, h_nv, -, -, -, -, -, h_mb, h_ch, -, -, -, h_ev, h_en, h_eu, h_eu0, -, -, -, -, -, -, -, -⟩ := h
  subst e_ms
  subst e_mn
  have hr : ∀ g i, i < ms g → 1 ≤ mb (10 * g + i) ∧ mb (10 * g + i) ≤ mn := fun g i hi => by rw [hm g i hi]; exact h_ch g i hi
  have hu : ∀ y, 1 ≤ y → y ≤ mn → (mkF mb ms mn ud x y = true ↔ rcS br ms x y) := fun y y1 y2 => (mkF_spec h_mb hr ud h1 h2 y1 y2).trans hrc
  obtain ⟨p1, p2⟩ := prE_spec (u := mkF mb ms mn ud x) (mk := mk) (dn := dn) (ea := ea) mn
  have hp := ev_pop (w := eu x) (x := x) (mk := mk) (en := en) (nc := mn) (nv := nv) (u := mkF mb ms mn ud x) (R := fun j => rcS br ms x j) h_nv h_ev h_en (fun k hk => h_eu x k hk) hu
  have hmy : cnt (fun i => mkF mb ms mn ud x i && decide (mk i = 0)) mn = popc (eu x) 12 := by
    have := hp mn (Nat.le_refl _)
    rw [h_ev, popc_0 (12 - nv) (fun p hp => h_eu0 x p (by omega))] at this
    omega
  have hat : ∀ j, 1 ≤ j → j ≤ mn → mkF mb ms mn ud x j = true → mk j = 0 → (pE mk mb ms mn ud dn ea x).2.2 (cnt (fun i => mkF mb ms mn ud x i && decide (mk i = 0)) (j - 1)) = j := p2
  have hcov : ∀ c, c < popc (eu x) 12 → ∃ j, 1 ≤ j ∧ j ≤ mn ∧ mkF mb ms mn ud x j = true ∧ mk j = 0 ∧ cnt (fun i => mkF mb ms mn ud x i && decide (mk i = 0)) (j - 1) = c := by
    intro c hc
    obtain ⟨j, j1, j2, j3, j4⟩ := cnt_on (b := fun i => mkF mb ms mn ud x i && decide (mk i = 0)) mn c (by rw [hmy]; exact hc)
    simp only [Bool.and_eq_true, decide_eq_true_eq] at j3
    exact ⟨j, j1, j2, j3.1, j3.2, j4⟩
  refine ⟨?_, fun j hj hm0 => ?_, fun c hc => ?_, fun c d hc hd e => ?_⟩
  · show (prE (mkF mb ms mn ud x) mk dn ea mn).2.1 = _
    rw [p1, hmy]
  · obtain ⟨j1, j2⟩ := hrg hj
    have huj := (hu j j1 j2).mpr hj
    have hb : (mkF mb ms mn ud x j && decide (mk j = 0)) = true := by simp [huj, hm0]
    have hlt := cnt_lt (b := fun i => mkF mb ms mn ud x i && decide (mk i = 0)) j1 j2 hb
    have e1 : evc mk j = evc mk (j - 1) + 1 := by
      obtain ⟨i, rfl⟩ : ∃ i, j = i + 1 := ⟨j - 1, by omega⟩
      simp only [evc, if_pos hm0]
      rfl
    have e2 : cnt (fun i => mkF mb ms mn ud x i && decide (mk i = 0)) j = cnt (fun i => mkF mb ms mn ud x i && decide (mk i = 0)) (j - 1) + 1 := by
      obtain ⟨i, rfl⟩ : ∃ i, j = i + 1 := ⟨j - 1, by omega⟩
      simp only [cnt, if_pos hb]
      rfl
    have hle : evc mk j ≤ nv := h_ev ▸ evc_mono mk j2
    have hpj := hp j j2
    rw [e2, show 12 - evc mk j = 11 - evc mk (j - 1) by omega] at hpj
    refine ⟨_, by rw [← hmy]; exact hlt, hat j j1 j2 huj hm0, by omega, ?_, by omega⟩
    rw [h_eu x _ (by omega), h_en j j1 j2 hm0]
    exact hj
  · obtain ⟨j, j1, j2, j3, j4, j5⟩ := hcov c hc
    have := hat j j1 j2 j3 j4
    rw [j5] at this
    rw [this]
    exact ⟨(hu j j1 j2).mp j3, j4⟩
  · obtain ⟨j, j1, j2, j3, j4, j5⟩ := hcov c hc
    obtain ⟨i, i1, i2, i3, i4, i5⟩ := hcov d hd
    have q1 := hat j j1 j2 j3 j4
    have q2 := hat i i1 i2 i3 i4
    rw [j5] at q1
    rw [i5] at q2
    have : j = i := by rw [← q1, ← q2, e]
    rw [← j5, ← i5, this]
/-- THE TRUTH: the class's table at the set of a number is what the reference holds at that number -/
theorem it_truth (h : ITr nc nv ng kd vo nu nd en br bc un eu tb mn mv mg mk mo mu md ms mb) {x : Nat} (h1 : 1 ≤ x) (h2 : x ≤ nc) (hg : mk x ≠ 0) (li : Nat → Nat) (ud dn : Nat → Bool) (ea oo va : Nat → Nat) (ho : Nat → Bool) {s : Nat} (hs : s < 2 ^ popc (eu x) 12) :
    (tA mk ms mo mb (pE mk mb ms mn ud dn ea x).2.2 (pW mk mb ms mn ud dn ea oo x).2.2 (pE mk mb ms mn ud dn ea x).2.1 (pW mk mb ms mn ud dn ea oo x).2.1 x va ho).2 s =
    isT (fsF tb br kd vo bc (luS (luC nc kd un x) nc (0, li) 33).2 (eu x / 2 ^ 6) (luS (luC nc kd un x) nc (0, li) 33).1) x (pd 12 (eu x) s) := by
  obtain ⟨v1, v2, v3, v4⟩ := it_events h h1 h2 ud dn ea
  obtain ⟨r1, r2, r3, r4⟩ := it_ordR h h1 h2 ud dn ea oo
  have hS := it_ordS h h1 h2 li
  have hrg : ∀ {y : Nat}, rcS br bc x y → 1 ≤ y ∧ y ≤ nc := fun {y} q => it_range h h1 h2 q
  have hm := it_brm h
  have hlt := it_lt64 h
  obtain ⟨e_mn, -, -, e_mo, -, -, e_ms, -, -, -, -, h_mk, h_kd, h_bc, -, -, -, -, -, h_ac, -, h_en, -, -, h_eul, h_vo, -, -, -, -, -, h_tb⟩ := h
  subst e_ms
  subst e_mo
  have hself : ∀ x i, i < ms x → br x i ≠ x := fun x i hi q => h_ac x ⟨i, hi, by rw [q]; exact rcS.rf x⟩
  have hW : eu x < 4096 := h_eul x
  have hpd : pd 12 (eu x) s < 4096 := pd_lt hW
  obtain ⟨c1, c2⟩ := fs_ok (tb := tb) (kd := kd) (mk := mk) (s := pd 12 (eu x) s) (W := eu x) hself h_bc h_vo (fun g hg => by
    obtain ⟨g1, g2⟩ := hrg hg.1
    have := h_kd g g1 g2
    rw [if_neg hg.2] at this
    exact ⟨this, by have := hg.2; omega, h_mk g⟩) hS hpd (pd_sub 12 (eu x) s hW)
  generalize fsF tb br kd mo ms (luS (luC nc kd un x) nc (0, li) 33).2 (eu x / 2 ^ 6) (luS (luC nc kd un x) nc (0, li) 33).1 = tb' at c1 c2 ⊢
  show (taS mk ms mo mb _ _ _ _ x va ho (2 ^ (pE mk mb ms mn ud dn ea x).2.1)).2 s = _
  rw [v1, taS_at (2 ^ popc (eu x) 12) s hs, tvG_evo]
  generalize (taS mk ms mo mb (pE mk mb ms mn ud dn ea x).2.2 (pW mk mb ms mn ud dn ea oo x).2.2 (popc (eu x) 12) (pW mk mb ms mn ud dn ea oo x).2.1 x va ho s).1 = v0
  generalize (pE mk mb ms mn ud dn ea x).2.2 = ea' at v2 v3 v4 ⊢
  generalize (pW mk mb ms mn ud dn ea oo x).2.2 = oo' at r1 r2 r3 r4 ⊢
  generalize (pW mk mb ms mn ud dn ea oo x).2.1 = od' at r1 r2 r3 r4 ⊢
  obtain ⟨t1, t2⟩ := evo_spec (n := od') (od := oo') (br := br) (bc := ms) (F := fun v g => if gvF mk ms mo mb v g = true then 1 else 0) (v := tvE ea' (popc (eu x) 12) s v0 (popc (eu x) 12)) (fun v v' g hv => by
    have : gvF mk ms mo mb v g = gvF mk ms mo mb v' g := by
      have e0 : snF v mb g (ms g) = snF v' mb g (ms g) := sn_congr (ms g) (fun i hi => by rw [hm g i hi]; exact hv i hi)
      unfold gvF
      rw [e0]
    simp only [this]) r3 r4
  generalize hvf : evo (fun v g => if gvF mk ms mo mb v g = true then 1 else 0) oo' (tvE ea' (popc (eu x) 12) s v0 (popc (eu x) 12)) od' = vf at t1 t2 ⊢
  have hev : ∀ z, rcS br ms x z → mk z = 0 → ∃ c, c < popc (eu x) 12 ∧ vf z = (if s.testBit (popc (eu x) 12 - 1 - c) = true then 1 else 0) ∧ evc mk (z - 1) < nv ∧ (eu x).testBit (11 - evc mk (z - 1)) = true ∧ popc (eu x) (11 - evc mk (z - 1)) = popc (eu x) 12 - 1 - c := by
    intro z hz hz0
    obtain ⟨c, q1, q2, q3, q4, q5⟩ := v2 z hz hz0
    refine ⟨c, q1, ?_, q3, q4, q5⟩
    rw [t2 z (fun k hk e => (r1 k hk).2 (by rw [e]; exact hz0)), ← q2]
    exact tvE_at v4 _ (Nat.le_refl _) c q1
  have hga : ∀ z, rcS br ms x z → mk z ≠ 0 → vf z = if gvF mk ms mo mb vf z = true then 1 else 0 := by
    intro z hz hz0
    obtain ⟨k, hk, e⟩ := r2 z ⟨hz, hz0⟩
    have := t1 k hk
    rw [e] at this
    exact this
  have hle : ∀ z, rcS br ms x z → vf z ≤ 1 := by
    intro z hz
    by_cases hz0 : mk z = 0
    · obtain ⟨c, -, q, -⟩ := hev z hz hz0
      rw [q]; split <;> omega
    · rw [hga z hz hz0]; split <;> omega
  refine uq (α := Bool) (F := gB mk mo ms br) (br := br) (bc := ms) (fun v v' g hv => gB_congr hv) (fun j => popc (un j) 64) (fun a i hi => hlt a i hi) (fun z => decide (vf z = 1)) (fun z => isT tb' z (pd 12 (eu x) s)) _ x (Nat.lt_succ_self _) (fun z hz => ?_)
  by_cases hz0 : mk z = 0
  · left
    obtain ⟨c, q1, q2, q3, q4, q5⟩ := hev z hz hz0
    obtain ⟨z1, z2⟩ := hrg hz
    rw [q2, c2 z (fun q => q.2 hz0)]
    have e := h_tb (evc mk (z - 1)) (pd 12 (eu x) s) q3 hpd
    rw [h_en z z1 z2 hz0] at e
    rw [e, pd_tb, q4, q5, decide_eq_true (show 11 - evc mk (z - 1) < 12 by omega)]
    cases s.testBit (popc (eu x) 12 - 1 - c) <;> rfl
  · right
    refine ⟨?_, c1 z ⟨hz, hz0⟩⟩
    have hch : ∀ i, i < ms z → vf (mb (10 * z + i)) ≤ 1 := fun i hi => by
      rw [hm z i hi]
      exact hle _ (hz.trans (rcP.one hi).star)
    have e1 := hga z hz hz0
    rw [gv_gB hch, gB_congr (br' := br) (V' := fun z => decide (vf z = 1)) (fun i hi => by rw [hm z i hi])] at e1
    show decide (vf z = 1) = _
    cases hgb : gB mk mo ms br (fun z => decide (vf z = 1)) z with
    | true => rw [hgb, if_pos rfl] at e1; rw [e1]; rfl
    | false => rw [hgb, if_neg (by decide)] at e1; rw [e1]; rfl
end ITS
