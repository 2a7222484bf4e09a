/-! the chance, exactly: the two sides -/
def ICs (cc0 : Nat) (cp cu cd : Nat → Nat) (nc : Nat) (eu mk : Nat → Nat) (mc : Nat) (m1 m2 m3 m4 : Nat → Nat) : Prop :=
  mc = cc0 ∧ cc0 ≤ 4 ∧ m3 = cu ∧ m4 = cd ∧ (∀ i, i < cc0 → cp i = eu (m1 i) ||| eu (m2 i) ∧ 1 ≤ m1 i ∧ m1 i ≤ nc ∧ mk (m1 i) = 0 ∧ 1 ≤ m2 i ∧ m2 i ≤ nc ∧ mk (m2 i) = 0 ∧ 0 < cd i) ∧ (∀ j, cp j < 4096) ∧ (∀ j, cu j ≤ cd j) ∧ (∀ j, cd j ≤ 10) ∧ (∀ j, m1 j ≤ 32) ∧ ∀ j, m2 j ≤ 32
theorem pd_pow {w p : Nat} (hp : p < 12) (hw : w.testBit p = true) : pd 12 w (2 ^ popc w p) = 2 ^ p := by
  have := pd_xor (s := 0) hp hw
  rw [Nat.zero_xor, pd_0, Nat.zero_xor] at this
  exact this
theorem opR_len {ea mu md : Nat → Nat} {my : Nat} : ∀ n, (opR ea mu md my n).length = n
  | 0 => rfl
  | n + 1 => by simp [opR, opR_len n]
theorem opC_len {W : Nat} {cp cu cd : Nat → Nat} : ∀ n, (opC W cp cu cd n).length = cT cp W n
  | 0 => rfl
  | n + 1 => by
    simp only [opC, cT]
    by_cases h : cp n &&& W = 0
    · rw [if_pos h, if_pos h, opC_len n, Nat.add_zero]
    · rw [if_neg h, if_neg h, List.length_cons, opC_len n]
theorem opC_in {W : Nat} {cp cu cd : Nat → Nat} {P : Nat × Nat × Nat → Prop} : ∀ n, (∀ i, i < n → P (cp i &&& W, cu i, cd i)) → ∀ o ∈ opC W cp cu cd n, P o
  | 0, _, o, h => absurd h List.not_mem_nil
  | n + 1, hp, o, h => by
    simp only [opC] at h
    have ih := opC_in n (fun i hi => hp i (by omega))
    by_cases hz : cp n &&& W = 0
    · rw [if_pos hz] at h
      exact ih o h
    · rw [if_neg hz] at h
      rcases List.mem_cons.mp h with e | e
      · rw [e]; exact hp n (Nat.lt_succ_self _)
      · exact ih o e
theorem opE_in {W : Nat} {en eu nu nd : Nat → Nat} {P : Nat × Nat × Nat → Prop} : ∀ n, (∀ i, i < n → P (eu (en i), nu (en i), nd (en i))) → ∀ o ∈ opE W en eu nu nd n, P o
  | 0, _, o, h => absurd h List.not_mem_nil
  | n + 1, hp, o, h => by
    simp only [opE] at h
    have ih := opE_in (W := W) n (fun i hi => hp i (by omega))
    by_cases hz : W &&& eu (en n) = 0
    · rw [if_pos hz] at h
      exact ih o h
    · rw [if_neg hz] at h
      rcases List.mem_cons.mp h with e | e
      · rw [e]; exact hp n (Nat.lt_succ_self _)
      · exact ih o e
theorem biF_no {ea : Nat → Nat} {my x : Nat} : ∀ n, (∀ i, i < n → ea i ≠ x) → biF ea my x n = 0
  | 0, _ => rfl
  | n + 1, h => by
    simp only [biF]
    rw [if_neg (h n (Nat.lt_succ_self _)), biF_no n (fun i hi => h i (by omega))]
theorem biF_one {ea : Nat → Nat} {my c : Nat} (hinj : ∀ a b, a < my → b < my → ea a = ea b → a = b) : ∀ n, n ≤ my → c < n → biF ea my (ea c) n = 2 ^ (my - 1 - c)
  | 0, _, h => absurd h (Nat.not_lt_zero _)
  | n + 1, hn, h => by
    simp only [biF]
    by_cases e : c = n
    · subst e
      rw [if_pos rfl, biF_no c (fun i hi q => by have := hinj i c (by omega) (by omega) q; omega), Nat.zero_or]
    · rw [if_neg (fun q => e (hinj c n (by omega) (by omega) q.symm)), biF_one hinj n (by omega) (by omega)]
theorem and_pow0 {W p : Nat} : W &&& 2 ^ p = 0 ↔ W.testBit p = false :=
  ⟨tbF, fun h => by
    by_cases q : W &&& 2 ^ p = 0
    · exact q
    · rw [tbT q] at h; cases h⟩
section EXA
variable {nc nv ng : Nat} {kd : Nat → Int32} {vo nu nd en : Nat → Nat} {br : Nat → Nat → Nat} {bc un eu : Nat → Nat} {tb : Nat → Nat → Int64} {mn mv mg : Nat} {mk mo mu md ms mb : Nat → Nat} {cc0 : Nat} {cp cu cd : Nat → Nat} {mc : Nat} {m1 m2 m3 m4 : Nat → Nat}
theorem it_en (h : ITr nc nv ng kd vo nu nd en br bc un eu tb mn mv mg mk mo mu md ms mb) {i : Nat} (hi : i < nv) : 1 ≤ en i ∧ en i ≤ nc ∧ mk (en i) = 0 ∧ evc mk (en i - 1) = i := by
  obtain ⟨-, -, -, -, -, -, -, -, -, -, -, -, -, -, -, -, -, -, -, -, h_ev, h_en, -, -, -, -, -, -, -, -, -, -⟩ := h
  rw [cnt_evc] at h_ev
  obtain ⟨j, j1, j2, j3, j4⟩ := cnt_on (b := fun j => decide (mk j = 0)) nc i (by omega)
  rw [decide_eq_true_eq] at j3
  rw [← cnt_evc] at j4
  have := h_en j j1 j2 j3
  rw [j4] at this
  rw [this]
  exact ⟨j1, j2, j3, j4⟩
theorem it_leaf (h : ITr nc nv ng kd vo nu nd en br bc un eu tb mn mv mg mk mo mu md ms mb) {e y : Nat} (he : mk e = 0) (hr : rcS br bc e y) : y = e := by
  obtain ⟨-, -, -, -, -, -, -, -, -, -, -, -, -, -, -, -, -, h_g, -, -, -, -, -, -, -, -, -, -, -, -, -, -⟩ := h
  rcases hr.split with q | ⟨i, hi, -⟩
  · exact q.symm
  · exact absurd he (h_g e (by omega)).2.2
theorem it_eue (h : ITr nc nv ng kd vo nu nd en br bc un eu tb mn mv mg mk mo mu md ms mb) {i : Nat} (hi : i < nv) : eu (en i) = 2 ^ (11 - i) := by
  have hen : ∀ k, k < nv → 1 ≤ en k ∧ en k ≤ nc ∧ mk (en k) = 0 ∧ evc mk (en k - 1) = k := fun k hk => it_en h hk
  have hle : ∀ {y : Nat}, rcS br bc (en i) y → y = en i := fun {y} q => it_leaf h (hen i hi).2.2.1 q
  obtain ⟨-, -, -, -, -, -, -, -, -, h_nv, -, -, -, -, -, -, -, -, -, -, -, -, h_eu, h_eu0, h_eul, -, -, -, -, -, -, -⟩ := h
  apply Nat.eq_of_testBit_eq
  intro p
  rw [Nat.testBit_two_pow]
  by_cases hp : p < 12
  · by_cases hp2 : p + nv < 12
    · rw [h_eu0 _ p hp2, decide_eq_false (by omega)]
    · have hk := h_eu (en i) (11 - p) (by omega)
      rw [show 11 - (11 - p) = p by omega] at hk
      by_cases e : 11 - i = p
      · rw [decide_eq_true e, hk, show 11 - p = i by omega]
        exact rcS.rf _
      · rw [decide_eq_false e]
        cases hc : (eu (en i)).testBit p with
        | false => rfl
        | true =>
          have q := hle (hk.mp hc)
          have e1 := (hen (11 - p) (by omega)).2.2.2
          rw [q, (hen i hi).2.2.2] at e1
          omega
  · rw [Nat.testBit_lt_two_pow (Nat.lt_of_lt_of_le (h_eul _) (Nat.pow_le_pow_right (by decide) (by omega))), decide_eq_false (by omega)]
/-- an event: its number among events, its bit -/
theorem it_evno (h : ITr nc nv ng kd vo nu nd en br bc un eu tb mn mv mg mk mo mu md ms mb) {e : Nat} (h1 : 1 ≤ e) (h2 : e ≤ nc) (h0 : mk e = 0) : ∃ i, i < nv ∧ en i = e ∧ eu e = 2 ^ (11 - i) := by
  have hh := h
  obtain ⟨-, -, -, -, -, -, -, -, -, -, -, -, -, -, -, -, -, -, -, -, h_ev, h_en, -, -, -, -, -, -, -, -, -, -⟩ := h
  have e1 : evc mk e = evc mk (e - 1) + 1 := by
    obtain ⟨i, rfl⟩ : ∃ i, e = i + 1 := ⟨e - 1, by omega⟩
    simp only [evc, if_pos h0]
    rfl
  have hle := evc_mono mk h2
  have hi : evc mk (e - 1) < nv := by omega
  refine ⟨_, hi, h_en e h1 h2 h0, ?_⟩
  have := it_eue hh hi
  rw [h_en e h1 h2 h0] at this
  exact this
/-- an event lies below x just when its bit lies in x's -/
theorem it_inW (h : ITr nc nv ng kd vo nu nd en br bc un eu tb mn mv mg mk mo mu md ms mb) {x i : Nat} (hi : i < nv) : (eu x).testBit (11 - i) = true ↔ rcS br bc x (en i) := by
  obtain ⟨-, -, -, -, -, -, -, -, -, -, -, -, -, -, -, -, -, -, -, -, -, -, h_eu, -, -, -, -, -, -, -, -, -⟩ := h
  exact h_eu x i hi
theorem it_opE (h : ITr nc nv ng kd vo nu nd en br bc un eu tb mn mv mg mk mo mu md ms mb) {x : Nat} (h1 : 1 ≤ x) (h2 : x ≤ nc) (ud dn : Nat → Bool) (ea : Nat → Nat) : opE (eu x) en eu nu nd nv = ((opR (pE mk mb ms mn ud dn ea x).2.2 nu nd (popc (eu x) 12) (popc (eu x) 12)).map (fun o => (pd 12 (eu x) o.1, o.2))).reverse := by
  obtain ⟨-, v2, -, -⟩ := it_events h h1 h2 ud dn ea
  have hen : ∀ k, k < nv → 1 ≤ en k ∧ en k ≤ nc ∧ mk (en k) = 0 ∧ evc mk (en k - 1) = k := fun k hk => it_en h hk
  have heu : ∀ i, i < nv → eu (en i) = 2 ^ (11 - i) := fun i hi => it_eue h hi
  have hin : ∀ i, i < nv → ((eu x).testBit (11 - i) = true ↔ rcS br bc x (en i)) := fun i hi => it_inW h hi
  obtain ⟨-, -, -, -, -, -, -, -, -, h_nv, -, -, -, -, -, -, -, -, -, -, -, -, -, h_eu0, -, -, -, -, -, -, -, -⟩ := h
  generalize (pE mk mb ms mn ud dn ea x).2.2 = ea' at v2 ⊢
  have key : ∀ i, i ≤ nv → opE (eu x) en eu nu nd i = ((opR ea' nu nd (popc (eu x) 12) (popc (eu x) 12 - popc (eu x) (12 - i))).map (fun o => (pd 12 (eu x) o.1, o.2))).reverse := by
    intro i
    induction i with
    | zero => intro _; rw [Nat.sub_zero, Nat.sub_self]; rfl
    | succ i ih =>
      intro hi
      have ih := ih (by omega)
      have e12 : 12 - i = (11 - i) + 1 := by omega
      have hs : popc (eu x) (12 - i) = popc (eu x) (11 - i) + ((eu x).testBit (11 - i)).toNat := by rw [e12]; rfl
      simp only [opE]
      rw [heu i (by omega), show 12 - (i + 1) = 11 - i by omega]
      by_cases hz : eu x &&& 2 ^ (11 - i) = 0
      · rw [if_pos hz, ih, hs, tbF hz]
        rfl
      · rw [if_neg hz]
        have hb := tbT hz
        obtain ⟨c, c1, c2, -, -, c5⟩ := v2 (en i) ((hin i (by omega)).mp hb) (hen i (by omega)).2.2.1
        rw [(hen i (by omega)).2.2.2] at c5
        rw [hb] at hs
        simp only [Bool.toNat_true] at hs
        have hcc : popc (eu x) 12 - popc (eu x) (12 - i) = c := by omega
        have hcs : popc (eu x) 12 - popc (eu x) (11 - i) = c + 1 := by omega
        rw [hcc] at ih
        rw [hcs, ih]
        simp only [opR, List.map_append, List.reverse_append, List.map_cons, List.map_nil, List.reverse_cons, List.reverse_nil, List.nil_append, List.singleton_append]
        rw [c2, ← c5, pd_pow (by omega) hb]
  have := key nv (Nat.le_refl _)
  rw [popc_0 (12 - nv) (fun p hp => h_eu0 x p (by omega)), Nat.sub_zero] at this
  exact this
theorem it_bi (h : ITr nc nv ng kd vo nu nd en br bc un eu tb mn mv mg mk mo mu md ms mb) {x : Nat} (h1 : 1 ≤ x) (h2 : x ≤ nc) (ud dn : Nat → Bool) (ea : Nat → Nat) {e : Nat} (e1 : 1 ≤ e) (e2 : e ≤ nc) (e0 : mk e = 0) : pd 12 (eu x) (biF (pE mk mb ms mn ud dn ea x).2.2 (popc (eu x) 12) e (popc (eu x) 12)) = eu e &&& eu x := by
  obtain ⟨-, v2, v3, v4⟩ := it_events h h1 h2 ud dn ea
  obtain ⟨i, i1, i2, i3⟩ := it_evno h e1 e2 e0
  have hin := it_inW h (x := x) i1
  have hen := it_en h i1
  rw [i2] at hin hen
  generalize (pE mk mb ms mn ud dn ea x).2.2 = ea' at v2 v3 v4 ⊢
  rw [i3]
  by_cases hr : rcS br bc x e
  · obtain ⟨c, c1, c2, -, c4, c5⟩ := v2 e hr e0
    rw [hen.2.2.2] at c4 c5
    rw [← c2, biF_one v4 _ (Nat.le_refl _) c1, ← c5, pd_pow (by omega) c4]
    exact (sub_and (fun p hp => by
      rw [Nat.testBit_two_pow, decide_eq_true_eq] at hp
      rw [← hp]; exact c4)).symm
  · rw [biF_no _ (fun c hc q => hr (by rw [← q]; exact (v3 c hc).1)), pd_0, Nat.and_comm]
    have : (eu x).testBit (11 - i) = false := by
      cases hc : (eu x).testBit (11 - i) with
      | false => rfl
      | true => exact absurd (hin.mp hc) hr
    exact (and_pow0.mpr this).symm
theorem it_opC (h : ITr nc nv ng kd vo nu nd en br bc un eu tb mn mv mg mk mo mu md ms mb) (hc : ICs cc0 cp cu cd nc eu mk mc m1 m2 m3 m4) {x : Nat} (h1 : 1 ≤ x) (h2 : x ≤ nc) (ud dn : Nat → Bool) (ea : Nat → Nat) : opC (eu x) cp cu cd cc0 = ((opQ (pE mk mb ms mn ud dn ea x).2.2 m1 m2 cu cd (popc (eu x) 12) cc0).map (fun o => (pd 12 (eu x) o.1, o.2))).reverse := by
  have hbi : ∀ e, 1 ≤ e → e ≤ nc → mk e = 0 → pd 12 (eu x) (biF (pE mk mb ms mn ud dn ea x).2.2 (popc (eu x) 12) e (popc (eu x) 12)) = eu e &&& eu x := fun e e1 e2 e0 => it_bi h h1 h2 ud dn ea e1 e2 e0
  obtain ⟨-, -, -, -, hcp, -⟩ := hc
  generalize (pE mk mb ms mn ud dn ea x).2.2 = ea' at hbi ⊢
  have key : ∀ n, n ≤ cc0 → opC (eu x) cp cu cd n = ((opQ ea' m1 m2 cu cd (popc (eu x) 12) n).map (fun o => (pd 12 (eu x) o.1, o.2))).reverse := by
    intro n
    induction n with
    | zero => intro _; rfl
    | succ n ih =>
      intro hn
      have ih := ih (by omega)
      obtain ⟨q1, q2, q3, q4, q5, q6, q7, -⟩ := hcp n (by omega)
      have hb : pd 12 (eu x) (biF ea' (popc (eu x) 12) (m1 n) (popc (eu x) 12) ||| biF ea' (popc (eu x) 12) (m2 n) (popc (eu x) 12)) = cp n &&& eu x := by
        rw [pd_or, hbi _ q2 q3 q4, hbi _ q5 q6 q7, q1]
        apply Nat.eq_of_testBit_eq
        intro p
        simp only [Nat.testBit_or, Nat.testBit_and]
        cases (eu x).testBit p <;> simp
      have hlt : biF ea' (popc (eu x) 12) (m1 n) (popc (eu x) 12) ||| biF ea' (popc (eu x) 12) (m2 n) (popc (eu x) 12) < 2 ^ popc (eu x) 12 := Nat.or_lt_two_pow (biF_l2 _ (Nat.le_refl _)) (biF_l2 _ (Nat.le_refl _))
      simp only [opC, opQ]
      by_cases hz : cp n &&& eu x = 0
      · rw [if_pos hz, if_pos (by
          rw [hz] at hb
          exact pd_inj hlt (Nat.two_pow_pos _) (by rw [hb, pd_0])), ih]
      · rw [if_neg hz, if_neg (fun q => hz (by rw [← hb, q, pd_0])), ih]
        simp only [List.map_append, List.reverse_append, List.map_cons, List.map_nil, List.reverse_cons, List.reverse_nil, List.nil_append, List.singleton_append]
        rw [hb]
  exact key cc0 (Nat.le_refl _)
theorem it_cx (h : ITr nc nv ng kd vo nu nd en br bc un eu tb mn mv mg mk mo mu md ms mb) (hc : ICs cc0 cp cu cd nc eu mk mc m1 m2 m3 m4) {x : Nat} (h1 : 1 ≤ x) (h2 : x ≤ nc) (ud dn : Nat → Bool) (ea : Nat → Nat) : cxF (pU mb ms mn ud x) m1 m2 (pE mk mb ms mn ud dn ea x).2.1 mc = popc (eu x) 12 + cT cp (eu x) cc0 := by
  obtain ⟨v1, -⟩ := it_events h h1 h2 ud dn ea
  have hhit : ∀ e, 1 ≤ e → e ≤ nc → mk e = 0 → (mkF mb ms mn ud x e = true ↔ ¬ eu e &&& eu x = 0) := by
    intro e e1 e2 e0
    obtain ⟨i, i1, i2, i3⟩ := it_evno h e1 e2 e0
    have hin := it_inW h (x := x) i1
    have hm := it_brm h
    have hrc : ∀ {x y : Nat}, rcS (fun g i => mb (10 * g + i)) ms x y ↔ rcS br bc x y := fun {x y} => it_rcS h
    obtain ⟨e_mn, -, -, -, -, -, e_ms, -, -, -, -, -, -, -, -, h_mb, h_ch, -, -, -, -, -, -, -, -, -, -, -, -, -, -, -⟩ := h
    subst e_ms
    subst e_mn
    have hr : ∀ g i, i < ms g → 1 ≤ mb (10 * g + i) ∧ mb (10 * g + i) ≤ mn := fun g i hi => by rw [hm g i hi]; exact h_ch g i hi
    rw [mkF_spec h_mb hr ud h1 h2 e1 e2, hrc, ← i2, ← hin, i2, i3, Nat.and_comm]
    constructor
    · intro q q2
      rw [tbF q2] at q; cases q
    · exact tbT
  obtain ⟨q0, -, -, -, hcp, -⟩ := hc
  rw [q0, v1]
  have key : ∀ n, n ≤ cc0 → cxF (pU mb ms mn ud x) m1 m2 (popc (eu x) 12) n = popc (eu x) 12 + cT cp (eu x) n := by
    intro n
    induction n with
    | zero => intro _; rfl
    | succ n ih =>
      intro hn
      obtain ⟨q1, q2, q3, q4, q5, q6, q7, -⟩ := hcp n (by omega)
      simp only [cxF, cT, ih (by omega)]
      have e : (pU mb ms mn ud x (m1 n) = true ∨ pU mb ms mn ud x (m2 n) = true) ↔ ¬ cp n &&& eu x = 0 := by
        unfold pU
        rw [hhit _ q2 q3 q4, hhit _ q5 q6 q7, q1, Nat.and_or_distrib_right]
        constructor
        · intro q q'
          rw [Nat.or_eq_zero_iff] at q'
          rcases q with q | q
          · exact q q'.1
          · exact q q'.2
        · intro q
          by_cases a : eu (m1 n) &&& eu x = 0
          · right
            intro b
            exact q (by rw [a, b]; rfl)
          · exact Or.inl a
      by_cases hz : cp n &&& eu x = 0
      · rw [if_neg (fun q => e.mp q hz), if_pos hz, Nat.add_zero]
      · rw [if_pos (e.mpr hz), if_neg hz]
        omega
  exact key cc0 (Nat.le_refl _)
/-- THE CHANCE, EXACTLY -/
theorem it_exact (h : ITr nc nv ng kd vo nu nd en br bc un eu tb mn mv mg mk mo mu md ms mb) (hc : ICs cc0 cp cu cd nc eu mk mc m1 m2 m3 m4) {x : Nat} (h1 : 1 ≤ x) (h2 : x ≤ nc) (hg : mk x ≠ 0) (li : Nat → Nat) (ow : Nat → Nat) (ud dn : Nat → Bool) (ea oo va : Nat → Nat) (ho : Nat → Bool) (wt : Nat → Nat) :
    (exN (tA mk ms mo mb (pE mk mb ms mn ud dn ea x).2.2 (pW mk mb ms mn ud dn ea oo x).2.2 (pE mk mb ms mn ud dn ea x).2.1 (pW mk mb ms mn ud dn ea oo x).2.1 x va ho).2 (exC (pE mk mb ms mn ud dn ea x).2.2 mu md m1 m2 m3 m4 (pE mk mb ms mn ud dn ea x).2.1 wt mc).1 (2 ^ (pE mk mb ms mn ud dn ea x).2.1) =
      (evF (eu x) en eu nu nd (ceF (eu x) cp cu cd (wsF (fsF tb br kd vo bc (luS (luC nc kd un x) nc (0, li) 33).2 (eu x / 2 ^ 6) (luS (luC nc kd un x) nc (0, li) 33).1) x (eu x) ow (2 ^ popc (eu x) 12)) cc0) nv).1 0) ∧
    ((exC (pE mk mb ms mn ud dn ea x).2.2 mu md m1 m2 m3 m4 (pE mk mb ms mn ud dn ea x).2.1 wt mc).2 =
      (evF (eu x) en eu nu nd (ceF (eu x) cp cu cd (wsF (fsF tb br kd vo bc (luS (luC nc kd un x) nc (0, li) 33).2 (eu x / 2 ^ 6) (luS (luC nc kd un x) nc (0, li) 33).1) x (eu x) ow (2 ^ popc (eu x) 12)) cc0) nv).2.1) ∧
    (popc (eu x) 12 + cT cp (eu x) cc0 ≤ 14 → (evF (eu x) en eu nu nd (ceF (eu x) cp cu cd (wsF (fsF tb br kd vo bc (luS (luC nc kd un x) nc (0, li) 33).2 (eu x / 2 ^ 6) (luS (luC nc kd un x) nc (0, li) 33).1) x (eu x) ow (2 ^ popc (eu x) 12)) cc0) nv).1 0 < 2 ^ 49 ∧ (evF (eu x) en eu nu nd (ceF (eu x) cp cu cd (wsF (fsF tb br kd vo bc (luS (luC nc kd un x) nc (0, li) 33).2 (eu x / 2 ^ 6) (luS (luC nc kd un x) nc (0, li) 33).1) x (eu x) ow (2 ^ popc (eu x) 12)) cc0) nv).2.1 < 2 ^ 49 ∧ 0 < (evF (eu x) en eu nu nd (ceF (eu x) cp cu cd (wsF (fsF tb br kd vo bc (luS (luC nc kd un x) nc (0, li) 33).2 (eu x / 2 ^ 6) (luS (luC nc kd un x) nc (0, li) 33).1) x (eu x) ow (2 ^ popc (eu x) 12)) cc0) nv).2.1) := by
  have htr : ∀ s, s < 2 ^ popc (eu x) 12 → (tA mk ms mo mb (pE mk mb ms mn ud dn ea x).2.2 (pW mk mb ms mn ud dn ea oo x).2.2 (pE mk mb ms mn ud dn ea x).2.1 (pW mk mb ms mn ud dn ea oo x).2.1 x va ho).2 s = isT (fsF tb br kd vo bc (luS (luC nc kd un x) nc (0, li) 33).2 (eu x / 2 ^ 6) (luS (luC nc kd un x) nc (0, li) 33).1) x (pd 12 (eu x) s) := fun s hs => it_truth h h1 h2 hg li ud dn ea oo va ho hs
  obtain ⟨v1, -⟩ := it_events h h1 h2 ud dn ea
  have hE := it_opE h h1 h2 ud dn ea
  have hC := it_opC h hc h1 h2 ud dn ea
  have heu : ∀ i, i < nv → eu (en i) = 2 ^ (11 - i) := fun i hi => it_eue h hi
  have hen : ∀ k, k < nv → 1 ≤ en k ∧ en k ≤ nc ∧ mk (en k) = 0 ∧ evc mk (en k - 1) = k := fun k hk => it_en h hk
  obtain ⟨-, -, -, -, e_mu, e_md, -, -, -, h_nv, -, -, -, -, -, -, -, -, -, -, -, -, -, -, h_eul, -, -, h_nu, h_nd, h_ndp, -, -⟩ := h
  subst e_mu
  subst e_md
  obtain ⟨q0, -, q3, q4, hcp, -, hcud, hcd, -, -⟩ := hc
  subst q0
  subst q3
  subst q4
  rw [v1] at htr ⊢
  have hW : eu x < 4096 := h_eul x
  generalize (tA mk ms mo mb (pE mk mb ms mn ud dn ea x).2.2 (pW mk mb ms mn ud dn ea oo x).2.2 (popc (eu x) 12) (pW mk mb ms mn ud dn ea oo x).2.1 x va ho).2 = ho' at htr ⊢
  generalize (pE mk mb ms mn ud dn ea x).2.2 = ea' at hE hC ⊢
  generalize fsF tb br kd vo bc (luS (luC nc kd un x) nc (0, li) 33).2 (eu x / 2 ^ 6) (luS (luC nc kd un x) nc (0, li) 33).1 = tb' at htr ⊢
  have hws : ∀ s, s &&& eu x = s → wsF tb' x (eu x) ow (2 ^ popc (eu x) 12) s = if isT tb' x s = true then 1 else 0 := by
    intro s hs
    obtain ⟨k, hk, e⟩ := pd_all hW hs
    rw [e]
    exact ws_at _ (Nat.le_refl _) k hk
  obtain ⟨c1, c2⟩ := ce_exO (cp := cp) (cu := m3) (cd := m4) (F := fun s => if isT tb' x s = true then 1 else 0) hW hws mc
  obtain ⟨-, -, e3, e4⟩ := ev_exO (nu := mu) (nd := md) hW h_nv heu c1 c2 nv (Nat.le_refl _)
  have e3 := e3 0 (Nat.zero_and _)
  obtain ⟨s1, s2⟩ := exC_sum (ea := ea') (mu := mu) (md := md) (m1 := m1) (m2 := m2) (m3 := m3) (m4 := m4) (wt := wt) (my := popc (eu x) 12) h_nu hcud mc
  have hperm : (opE (eu x) en eu mu md nv ++ opC (eu x) cp m3 m4 mc).Perm ((opR ea' mu md (popc (eu x) 12) (popc (eu x) 12) ++ opQ ea' m1 m2 m3 m4 (popc (eu x) 12) mc).map (fun o => (pd 12 (eu x) o.1, o.2))) := by
    rw [hE, hC, List.map_append]
    exact List.Perm.append (List.reverse_perm _) (List.reverse_perm _)
  have hbits : ∀ o ∈ opR ea' mu md (popc (eu x) 12) (popc (eu x) 12) ++ opQ ea' m1 m2 m3 m4 (popc (eu x) 12) mc, o.1 < 2 ^ popc (eu x) 12 := by
    intro o ho
    rcases List.mem_append.mp ho with q | q
    · have go : ∀ n, n ≤ popc (eu x) 12 → ∀ o ∈ opR ea' mu md (popc (eu x) 12) n, o.1 < 2 ^ popc (eu x) 12 := by
        intro n
        induction n with
        | zero => intro _ o ho; exact absurd ho List.not_mem_nil
        | succ n ih =>
          intro hn o ho
          simp only [opR, List.mem_append, List.mem_singleton] at ho
          rcases ho with ho | ho
          · exact ih (by omega) o ho
          · rw [ho]
            exact Nat.pow_lt_pow_right (by decide) (by omega)
      exact go _ (Nat.le_refl _) o q
    · have go : ∀ n, ∀ o ∈ opQ ea' m1 m2 m3 m4 (popc (eu x) 12) n, o.1 < 2 ^ popc (eu x) 12 := by
        intro n
        induction n with
        | zero => intro o ho; exact absurd ho List.not_mem_nil
        | succ n ih =>
          intro o ho
          simp only [opQ] at ho
          split at ho
          · exact ih o ho
          · simp only [List.mem_append, List.mem_singleton] at ho
            rcases ho with ho | ho
            · exact ih o ho
            · rw [ho]
              exact Nat.or_lt_two_pow (biF_l2 _ (Nat.le_refl _)) (biF_l2 _ (Nat.le_refl _))
      exact go _ o q
  refine ⟨?_, ?_, fun h14 => ?_⟩
  · rw [exN_sg, s1, e3, exO_perm hperm]
    have := exO_map (φ := pd 12 (eu x)) (f := fun s => if ho' s = true then 1 else 0) (g := fun s => if isT tb' x s = true then 1 else 0) (M := 2 ^ popc (eu x) 12) (fun s b => pd_or) (fun s hs => by rw [htr s hs]) (fun s b hs hb => Nat.or_lt_two_pow hs hb) _ hbits 0 (Nat.two_pow_pos _)
    rw [pd_0] at this
    exact this
  · rw [s2, e4, dPr_perm hperm, dPr_map]
  · have hlen : (opE (eu x) en eu mu md nv ++ opC (eu x) cp m3 m4 mc).length = popc (eu x) 12 + cT cp (eu x) mc := by
      rw [List.length_append, opC_len, hE, List.length_reverse, List.length_map, opR_len]
    have hle : ∀ o ∈ opE (eu x) en eu mu md nv ++ opC (eu x) cp m3 m4 mc, o.2.1 ≤ o.2.2 := fun o ho => (List.mem_append.mp ho).elim (opE_in (P := fun o => o.2.1 ≤ o.2.2) nv (fun i _ => h_nu _) o) (opC_in (P := fun o => o.2.1 ≤ o.2.2) mc (fun i _ => hcud i) o)
    have h10 : ∀ o ∈ opE (eu x) en eu mu md nv ++ opC (eu x) cp m3 m4 mc, o.2.2 ≤ 10 := fun o ho => (List.mem_append.mp ho).elim (opE_in (P := fun o => o.2.2 ≤ 10) nv (fun i _ => h_nd _) o) (opC_in (P := fun o => o.2.2 ≤ 10) mc (fun i _ => hcd i) o)
    have hps : ∀ o ∈ opE (eu x) en eu mu md nv ++ opC (eu x) cp m3 m4 mc, 0 < o.2.2 := fun o ho => (List.mem_append.mp ho).elim (opE_in (P := fun o => 0 < o.2.2) nv (fun i hi => h_ndp _ (hen i hi).2.2.1 (hen i hi).1 (hen i hi).2.1) o) (opC_in (P := fun o => 0 < o.2.2) mc (fun i hi => (hcp i hi).2.2.2.2.2.2.2) o)
    have d1 := dPr_le _ h10
    rw [hlen] at d1
    have d2 : 10 ^ (popc (eu x) 12 + cT cp (eu x) mc) ≤ 10 ^ 14 := Nat.pow_le_pow_right (by decide) h14
    have d3 := exO_le (f := fun s => if isT tb' x s = true then 1 else 0) (fun s => by split <;> omega) _ hle 0
    have d4 := dPr_pos _ hps
    rw [e3, e4]
    have d5 : (10 : Nat) ^ 14 < 2 ^ 49 := by decide
    omega
end EXA
