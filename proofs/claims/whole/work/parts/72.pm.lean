/-! the tree's invariant is kept -/
theorem evc_congr {mk mk' : Nat → Nat} : ∀ n, (∀ j, 1 ≤ j → j ≤ n → mk' j = mk j) → evc mk' n = evc mk n
  | 0, _ => rfl
  | n + 1, h => by
    simp only [evc, evc_congr n (fun j h1 h2 => h j h1 (by omega)), h (n + 1) (by omega) (Nat.le_refl _)]
theorem fe_at {tb : Nat → Nat → Int64} {x s1 : Nat} : ∀ n z w, feF tb x s1 n z w = if z = x ∧ w < n then eWL s1 w 6 0 else tb z w
  | 0, z, w => by rw [if_neg (by omega)]; rfl
  | n + 1, z, w => by
    have ih := fe_at (tb := tb) (x := x) (s1 := s1) n
    simp only [feF]
    by_cases hz : z = x
    · rw [hz, va_up_self]
      by_cases hw : w = n
      · rw [hw, va_up_self, if_pos ⟨rfl, Nat.lt_succ_self _⟩]
      · rw [va_up_ne _ _ hw, ih]
        by_cases hc : w < n
        · rw [if_pos ⟨rfl, hc⟩, if_pos ⟨rfl, by omega⟩]
        · rw [if_neg (fun q => hc q.2), if_neg (fun q => hc (by omega))]
    · rw [va_up_ne _ _ hz, ih, if_neg (fun q => hz q.1), if_neg (fun q => hz q.1)]
theorem pat_bit : ∀ j, j < 6 → ∀ b, b < 64 → tbit (patV j) b = b.testBit j := by decide +kernel
theorem eW_lo : ∀ p, p < 6 → ∀ w, eWL (2 ^ p) w 6 0 = patV p := by
  intro p hp w
  rcases (show p = 0 ∨ p = 1 ∨ p = 2 ∨ p = 3 ∨ p = 4 ∨ p = 5 by omega) with rfl | rfl | rfl | rfl | rfl | rfl <;> simp [eWL]
theorem eW_hi : ∀ p, 6 ≤ p → p < 12 → ∀ w, eWL (2 ^ p) w 6 0 = if w &&& 2 ^ (p - 6) = 0 then lN 0 else -1 := by
  intro p h1 h2 w
  rcases (show p = 6 ∨ p = 7 ∨ p = 8 ∨ p = 9 ∨ p = 10 ∨ p = 11 by omega) with rfl | rfl | rfl | rfl | rfl | rfl <;> simp [eWL]
theorem ev_tab {tb : Nat → Nat → Int64} {x p s : Nat} (hp : p < 12) (hs : s < 4096) : isT (feF tb x (2 ^ p) 64) x s = s.testBit p := by
  have e1 : s / 2 ^ 6 < 64 := by omega
  have e2 : s / 2 ^ 6 &&& 63 = s / 2 ^ 6 := by
    rw [show (63 : Nat) = 2 ^ 6 - 1 from rfl, Nat.and_two_pow_sub_one_eq_mod, Nat.mod_eq_of_lt e1]
  have e3 : s &&& 63 = s % 64 := by
    rw [show (63 : Nat) = 2 ^ 6 - 1 from rfl, Nat.and_two_pow_sub_one_eq_mod]
  have hb : s &&& 63 < 64 := by omega
  unfold isT
  rw [fe_at, e2, if_pos ⟨rfl, e1⟩]
  by_cases h6 : p < 6
  · rw [eW_lo p h6, pat_bit p h6 _ hb, e3, show (64 : Nat) = 2 ^ 6 from rfl, Nat.testBit_mod_two_pow, decide_eq_true h6, Bool.true_and]
  · rw [eW_hi p (by omega) hp]
    have hd : (s / 2 ^ 6).testBit (p - 6) = s.testBit p := by
      rw [Nat.testBit_div_two_pow, show p - 6 + 6 = p by omega]
    by_cases hz : s / 2 ^ 6 &&& 2 ^ (p - 6) = 0
    · rw [if_pos hz, tb_0, ← hd, tbF hz]
    · rw [if_neg hz, tb_m1 _ hb, ← hd, tbT hz]
theorem ev_oth {tb : Nat → Nat → Int64} {x p s z : Nat} (hz : z ≠ x) : isT (feF tb x p 64) z s = isT tb z s := by
  unfold isT
  rw [fe_at, if_neg (fun q => hz q.1)]
section KEEP
variable {nc nv ng : Nat} {kd : Nat → Int32} {vo nu nd en : Nat → Nat} {br : Nat → Nat → Nat} {bc un eu : Nat → Nat} {tb : Nat → Nat → Int64} {mn mv mg : Nat} {mk mo mu md ms mb : Nat → Nat} {cc0 : Nat} {cp cu cd : Nat → Nat} {mc : Nat} {m1 m2 m3 m4 : Nat → Nat}
theorem it_tb {tb' : Nat → Nat → Int64} (h : ITr nc nv ng kd vo nu nd en br bc un eu tb mn mv mg mk mo mu md ms mb) (ht : ∀ k s, k < nv → s < 4096 → isT tb' (en k) s = isT tb (en k) s) : ITr nc nv ng kd vo nu nd en br bc un eu tb' mn mv mg mk mo mu md ms mb := by
  obtain ⟨e_mn, e_mv, e_mg, e_mo, e_mu, e_md, e_ms, e_mb, h_nc, h_nv, h_ng, h_mk, h_kd, h_bc, h_br, h_mb, h_ch, h_g, h_un, h_ac, h_ev, h_en, h_eu, h_eu0, h_eul, h_vo, h_vop, h_nu, h_nd, h_ndp, h_enl, h_tb⟩ := h
  exact ⟨e_mn, e_mv, e_mg, e_mo, e_mu, e_md, e_ms, e_mb, h_nc, h_nv, h_ng, h_mk, h_kd, h_bc, h_br, h_mb, h_ch, h_g, h_un, h_ac, h_ev, h_en, h_eu, h_eu0, h_eul, h_vo, h_vop, h_nu, h_nd, h_ndp, h_enl, fun k s hk hs => by rw [ht k s hk hs]; exact h_tb k s hk hs⟩
/-- a working leaves the events' tables as they are -/
theorem it_work (h : ITr nc nv ng kd vo nu nd en br bc un eu tb mn mv mg mk mo mu md ms mb) {x : Nat} (h1 : 1 ≤ x) (h2 : x ≤ nc) (li : Nat → Nat) : ITr nc nv ng kd vo nu nd en br bc un eu (fsF tb br kd vo bc (luS (luC nc kd un x) nc (0, li) 33).2 (eu x / 2 ^ 6) (luS (luC nc kd un x) nc (0, li) 33).1) mn mv mg mk mo mu md ms mb := by
  refine it_tb h (fun k s hk hs => ?_)
  obtain ⟨s1, -, -, -⟩ := it_ordS h h1 h2 li
  have hen := it_en h hk
  obtain ⟨-, -, -, -, -, -, -, -, -, -, -, -, -, -, -, -, -, -, -, h_ac, -, -, -, -, -, -, -, -, -, -, -, -⟩ := h
  have hself : ∀ x i, i < bc x → br x i ≠ x := fun x i hi q => h_ac x ⟨i, hi, by rw [q]; exact rcS.rf x⟩
  generalize (luS (luC nc kd un x) nc (0, li) 33).2 = li' at s1 ⊢
  generalize (luS (luC nc kd un x) nc (0, li) 33).1 = n at s1 ⊢
  have key : ∀ m, m ≤ n → ∀ w, fsF tb br kd vo bc li' (eu x / 2 ^ 6) m (en k) w = tb (en k) w := by
    intro m
    induction m with
    | zero => intro _ w; rfl
    | succ m ih =>
      intro hm w
      show fgF _ br kd vo bc (li' m) _ 64 (en k) w = _
      rw [fg_at (hself (li' m)), if_neg (fun q => (s1 m (by omega)).2 (by rw [← q.1]; exact hen.2.2.1)), ih (by omega)]
  unfold isT
  rw [key n (Nat.le_refl _)]
theorem it_init : ITr 0 0 0 (fun _ => nI 0) (fun _ => 0) (fun _ => 0) (fun _ => 0) (fun _ => 0) (fun _ _ => 0) (fun _ => 0) (fun _ => 0) (fun _ => 0) (fun _ _ => lN 0) 0 0 0 (fun _ => 0) (fun _ => 0) (fun _ => 0) (fun _ => 0) (fun _ => 0) (fun _ => 0) := by
  have hno : ∀ x y, ¬ rcP (fun _ _ => 0) (fun _ => 0) x y := fun x y ⟨i, hi, _⟩ => absurd hi (Nat.not_lt_zero _)
  exact ⟨rfl, rfl, rfl, rfl, rfl, rfl, rfl, fun _ _ _ => rfl, rfl, Nat.zero_le _, Nat.zero_le _, fun _ => Nat.zero_le _, fun j h1 h2 => by omega, fun _ => Nat.zero_le _, fun _ _ => Nat.zero_le _, fun _ => Nat.zero_le _, fun x i hi => absurd hi (Nat.not_lt_zero _), fun x hx => absurd hx (Nat.lt_irrefl _), fun x y => ⟨fun h => by simp at h, fun h => absurd h (hno x y)⟩, fun x => hno x x, rfl, fun j h1 h2 => by omega, fun x k hk => absurd hk (Nat.not_lt_zero _), fun x p _ => by simp, fun _ => Nat.two_pow_pos _, fun _ => Nat.zero_le _, fun j h1 h2 h3 => by omega, fun _ => Nat.le_refl _, fun _ => Nat.zero_le _, fun j _ h1 h2 => by omega, fun _ => Nat.zero_le _, fun k s hk => absurd hk (Nat.not_lt_zero _)⟩
theorem it_gate (h : ITr nc nv ng kd vo nu nd en br bc un eu tb mn mv mg mk mo mu md ms mb) {k n : Int32} (hk : isK k n = true) (hg : ng < 20) : ITr (nc + 1) nv (ng + 1) (va_up kd (nc + 1) k) (va_up vo (nc + 1) n.toNatClampNeg) nu nd en br bc un eu tb (mn + 1) mv (mg + 1) (va_up mk (mn + 1) (k.toNatClampNeg + 1)) (va_up mo (mn + 1) n.toNatClampNeg) mu md ms mb := by
  obtain ⟨e_mn, e_mv, e_mg, e_mo, e_mu, e_md, e_ms, e_mb, h_nc, h_nv, h_ng, h_mk, h_kd, h_bc, h_br, h_mb, h_ch, h_g, h_un, h_ac, h_ev, h_en, h_eu, h_eu0, h_eul, h_vo, h_vop, h_nu, h_nd, h_ndp, h_enl, h_tb⟩ := h
  subst e_mn
  have hkn : k = nI k.toNatClampNeg ∧ k.toNatClampNeg ≤ 2 ∧ n.toNatClampNeg ≤ 10 ∧ (k.toNatClampNeg = 2 → 1 ≤ n.toNatClampNeg) := by
    unfold isK at hk
    by_cases h2 : k = nI 2
    · rw [if_pos h2] at hk
      obtain ⟨-, a, b⟩ := q_nat (by decide) hk (by decide)
      subst h2
      exact ⟨rfl, by decide, b, fun _ => a⟩
    · rw [if_neg h2, Bool.and_eq_true, Bool.or_eq_true, decide_eq_true_eq, decide_eq_true_eq, decide_eq_true_eq] at hk
      obtain ⟨hk1, hn0⟩ := hk
      subst hn0
      rcases hk1 with q | q
      · subst q; exact ⟨rfl, by decide, by decide, fun q => absurd q (by decide)⟩
      · subst q; exact ⟨rfl, by decide, by decide, fun q => absurd q (by decide)⟩
  have hmk' : ∀ j, j ≤ mn → va_up mk (mn + 1) (k.toNatClampNeg + 1) j = mk j := fun j hj => va_up_ne _ _ (by omega)
  have hev : ∀ j, j ≤ mn → evc (va_up mk (mn + 1) (k.toNatClampNeg + 1)) j = evc mk j := fun j hj => evc_congr j (fun i _ h2 => hmk' i (by omega))
  refine ⟨rfl, e_mv, by omega, by rw [e_mo], e_mu, e_md, e_ms, e_mb, by omega, h_nv, by omega, fun j => ?_, fun j j1 j2 => ?_, h_bc, h_br, h_mb, fun x i hi => ⟨(h_ch x i hi).1, by have := (h_ch x i hi).2; omega⟩, fun x hx => ?_, h_un, h_ac, ?_, fun j j1 j2 j0 => ?_, h_eu, h_eu0, h_eul, fun j => ?_, fun j j0 j1 j2 => ?_, h_nu, h_nd, fun j j0 j1 j2 => ?_, h_enl, h_tb⟩
  · by_cases e : j = mn + 1
    · rw [e, va_up_self]; omega
    · rw [va_up_ne _ _ e]; exact h_mk j
  · by_cases e : j = mn + 1
    · rw [e, va_up_self, va_up_self, if_neg (by omega), Nat.add_sub_cancel]
      exact hkn.1
    · rw [va_up_ne _ _ e, va_up_ne _ _ e]; exact h_kd j j1 (by omega)
  · obtain ⟨a, b, c⟩ := h_g x hx
    exact ⟨a, by omega, by rw [hmk' x b]; exact c⟩
  · simp only [evc]
    rw [hev mn (Nat.le_refl _), va_up_self, if_neg (by omega), h_ev]
    rfl
  · by_cases e : j = mn + 1
    · rw [e, va_up_self] at j0; omega
    · rw [va_up_ne _ _ e] at j0
      rw [hev (j - 1) (by omega)]
      exact h_en j j1 (by omega) j0
  · by_cases e : j = mn + 1
    · rw [e, va_up_self]; omega
    · rw [va_up_ne _ _ e]; exact h_vo j
  · by_cases e : j = mn + 1
    · rw [e, va_up_self] at j0 ⊢
      have := hkn.2.2.2 (by omega)
      omega
    · rw [va_up_ne _ _ e] at j0 ⊢; exact h_vop j j0 j1 (by omega)
  · by_cases e : j = mn + 1
    · rw [e, va_up_self] at j0; omega
    · rw [va_up_ne _ _ e] at j0
      exact h_ndp j j0 j1 (by omega)
theorem it_event (h : ITr nc nv ng kd vo nu nd en br bc un eu tb mn mv mg mk mo mu md ms mb) {u d : Int64} (hd : isD d = true) (hu : ¬ u < lN 0) (hv : nv < 12) (hud : u ≤ d) : ITr (nc + 1) (nv + 1) ng (va_up kd (nc + 1) (-1)) vo (va_up nu (nc + 1) (lnat u)) (va_up nd (nc + 1) (lnat d)) (va_up en nv (nc + 1)) br bc un (va_up eu (nc + 1) (2 ^ (11 - nv))) (feF tb (nc + 1) ((va_up eu (nc + 1) (2 ^ (11 - nv))) (nc + 1)) 64) (mn + 1) (mv + 1) mg (va_up mk (mn + 1) 0) mo (va_up mu (mn + 1) (lnat u)) (va_up md (mn + 1) (lnat d)) ms mb := by
  have hen0 : ∀ k, k < nv → 1 ≤ en k ∧ en k ≤ nc ∧ mk (en k) = 0 ∧ evc mk (en k - 1) = k := fun k hk => it_en h hk
  obtain ⟨e_mn, e_mv, e_mg, e_mo, e_mu, e_md, e_ms, e_mb, h_nc, h_nv, h_ng, h_mk, h_kd, h_bc, h_br, h_mb, h_ch, h_g, h_un, h_ac, h_ev, h_en, h_eu, h_eu0, h_eul, h_vo, h_vop, h_nu, h_nd, h_ndp, h_enl, h_tb⟩ := h
  subst e_mn
  subst e_mu
  subst e_md
  have hdn : 1 ≤ lnat d ∧ lnat d ≤ 10 ∧ lnat u ≤ lnat d := by
    unfold isD at hd
    simp only [Bool.and_eq_true, decide_eq_true_eq, Int64.lt_iff_toInt_lt, lN_toInt (show 1 < 2 ^ 31 by decide), lN_toInt (show 10 < 2 ^ 31 by decide)] at hd
    rw [Int64.le_iff_toInt_le] at hud
    unfold lnat
    omega
  have hnot : ∀ x, x ≠ mn + 1 → ¬ rcS br bc x (mn + 1) := by
    intro x hx q
    rcases rcS.range (n := mn) h_ch q with e | e
    · exact hx e
    · omega
  have hbc0 : bc (mn + 1) = 0 := by
    rcases Nat.eq_zero_or_pos (bc (mn + 1)) with q | q
    · exact q
    · have := (h_g (mn + 1) q).2.1; omega
  have hself : ∀ y, rcS br bc (mn + 1) y → y = mn + 1 := by
    intro y q
    rcases q.split with e | ⟨i, hi, -⟩
    · exact e.symm
    · omega
  have hmk' : ∀ j, j ≤ mn → va_up mk (mn + 1) 0 j = mk j := fun j hj => va_up_ne _ _ (by omega)
  have hev : ∀ j, j ≤ mn → evc (va_up mk (mn + 1) 0) j = evc mk j := fun j hj => evc_congr j (fun i _ h2 => hmk' i (by omega))
  rw [va_up_self]
  refine ⟨rfl, by omega, e_mg, e_mo, rfl, rfl, e_ms, e_mb, by omega, by omega, h_ng, fun j => ?_, fun j j1 j2 => ?_, h_bc, h_br, h_mb, fun x i hi => ⟨(h_ch x i hi).1, by have := (h_ch x i hi).2; omega⟩, fun x hx => ?_, h_un, h_ac, ?_, fun j j1 j2 j0 => ?_, fun x k hk => ?_, fun x p hp => ?_, fun x => ?_, h_vo, fun j j0 j1 j2 => ?_, fun j => ?_, fun j => ?_, fun j j0 j1 j2 => ?_, fun j => ?_, fun k s hk hs => ?_⟩
  · by_cases e : j = mn + 1
    · rw [e, va_up_self]; omega
    · rw [va_up_ne _ _ e]; exact h_mk j
  · by_cases e : j = mn + 1
    · rw [e, va_up_self, va_up_self, if_pos rfl]
    · rw [va_up_ne _ _ e, va_up_ne _ _ e]; exact h_kd j j1 (by omega)
  · obtain ⟨a, b, c⟩ := h_g x hx
    exact ⟨a, by omega, by rw [hmk' x b]; exact c⟩
  · simp only [evc]
    rw [hev mn (Nat.le_refl _), va_up_self, if_pos rfl, h_ev]
  · by_cases e : j = mn + 1
    · rw [e, show mn + 1 - 1 = mn from rfl, hev mn (Nat.le_refl _), h_ev, va_up_self]
    · rw [va_up_ne _ _ e] at j0
      have e1 : evc mk j = evc mk (j - 1) + 1 := by
        obtain ⟨i, rfl⟩ : ∃ i, j = i + 1 := ⟨j - 1, by omega⟩
        simp only [evc, if_pos j0]
        rfl
      have hle := evc_mono mk (show j ≤ mn by omega)
      rw [hev (j - 1) (by omega), va_up_ne _ _ (by omega)]
      exact h_en j j1 (by omega) j0
  · by_cases e : x = mn + 1
    · rw [e, va_up_self, Nat.testBit_two_pow, decide_eq_true_eq]
      by_cases ek : k = nv
      · rw [ek, va_up_self]
        exact ⟨fun _ => rcS.rf _, fun _ => rfl⟩
      · rw [va_up_ne _ _ ek]
        refine ⟨fun q => by omega, fun q => ?_⟩
        have := hself _ q
        have := (hen0 k (by omega)).2.1
        omega
    · rw [va_up_ne _ _ e]
      by_cases ek : k = nv
      · rw [ek, va_up_self, h_eu0 x (11 - nv) (by omega)]
        exact ⟨fun q => absurd q (by decide), fun q => absurd q (hnot x e)⟩
      · rw [va_up_ne _ _ ek]
        exact h_eu x k (by omega)
  · by_cases e : x = mn + 1
    · rw [e, va_up_self, Nat.testBit_two_pow, decide_eq_false (by omega)]
    · rw [va_up_ne _ _ e]
      exact h_eu0 x p (by omega)
  · by_cases e : x = mn + 1
    · rw [e, va_up_self]
      exact Nat.pow_lt_pow_right (by decide) (by omega)
    · rw [va_up_ne _ _ e]
      exact h_eul x
  · by_cases e : j = mn + 1
    · rw [e, va_up_self] at j0; omega
    · rw [va_up_ne _ _ e] at j0; exact h_vop j j0 j1 (by omega)
  · by_cases e : j = mn + 1
    · rw [e, va_up_self, va_up_self]; exact hdn.2.2
    · rw [va_up_ne _ _ e, va_up_ne _ _ e]; exact h_nu j
  · by_cases e : j = mn + 1
    · rw [e, va_up_self]; exact hdn.2.1
    · rw [va_up_ne _ _ e]; exact h_nd j
  · by_cases e : j = mn + 1
    · rw [e, va_up_self]; omega
    · rw [va_up_ne _ _ e] at j0 ⊢
      exact h_ndp j j0 j1 (by omega)
  · by_cases e : j = nv
    · rw [e, va_up_self]; omega
    · rw [va_up_ne _ _ e]; exact h_enl j
  · by_cases ek : k = nv
    · rw [ek, va_up_self]
      exact ev_tab (by omega) hs
    · rw [va_up_ne _ _ ek, ev_oth (by have := (hen0 k (by omega)).2.1; omega)]
      exact h_tb k s (by omega) hs
/-- what lies below, with one more edge -/
theorem it_below (h : ITr nc nv ng kd vo nu nd en br bc un eu tb mn mv mg mk mo mu md ms mb) {X Y : Nat} (x1 : 1 ≤ X) (x2 : X ≤ nc) (xg : mk X ≠ 0) (y1 : 1 ≤ Y) (y2 : Y ≤ nc) (hb : bc X < 10) (hne : Y ≠ X) (hun : (un Y).testBit X = false) :
    ITr nc nv ng kd vo nu nd en (va_up br X (va_up (br X) (bc X) Y)) (va_up bc X (bc X + 1)) ((pbS un eu X Y nc).1) ((pbS un eu X Y nc).2) tb mn mv mg mk mo mu md (va_up ms X (ms X + 1)) (va_up mb (10 * X + ms X) Y) := by
  obtain ⟨e_mn, e_mv, e_mg, e_mo, e_mu, e_md, e_ms, e_mb, h_nc, h_nv, h_ng, h_mk, h_kd, h_bc, h_br, h_mb, h_ch, h_g, h_un, h_ac, h_ev, h_en, h_eu, h_eu0, h_eul, h_vo, h_vop, h_nu, h_nd, h_ndp, h_enl, h_tb⟩ := h
  subst e_ms
  obtain ⟨p1, p2⟩ := pbS_at (un := un) (eu := eu) hne hun nc
  have hedge : ∀ a i, i < va_up ms X (ms X + 1) a → (i < ms a ∧ va_up br X (va_up (br X) (ms X) Y) a i = br a i) ∨ (a = X ∧ va_up br X (va_up (br X) (ms X) Y) a i = Y) := by
    intro a i hi
    by_cases e : a = X
    · rw [e, va_up_self] at hi ⊢
      by_cases ei : i = ms X
      · right
        exact ⟨rfl, by rw [ei, va_up_self]⟩
      · left
        exact ⟨by omega, va_up_ne _ _ ei⟩
    · rw [va_up_ne _ _ e] at hi ⊢
      exact Or.inl ⟨hi, rfl⟩
  have hmore : ∀ a i, i < ms a → i < va_up ms X (ms X + 1) a ∧ va_up br X (va_up (br X) (ms X) Y) a i = br a i := by
    intro a i hi
    by_cases e : a = X
    · rw [e] at hi ⊢
      rw [va_up_self, va_up_self]
      exact ⟨by omega, va_up_ne _ _ (by omega)⟩
    · rw [va_up_ne _ _ e, va_up_ne _ _ e]
      exact ⟨hi, rfl⟩
  have hnew : ∃ i, i < va_up ms X (ms X + 1) X ∧ va_up br X (va_up (br X) (ms X) Y) X i = Y := ⟨ms X, by rw [va_up_self]; omega, by rw [va_up_self, va_up_self]⟩
  have hS : ∀ {a b : Nat}, rcS (va_up br X (va_up (br X) (ms X) Y)) (va_up ms X (ms X + 1)) a b ↔ rcS br ms a b ∨ (rcS br ms a X ∧ rcS br ms Y b) := fun {a b} => rcS.edge hedge hmore hnew
  have hP : ∀ {a b : Nat}, rcP (va_up br X (va_up (br X) (ms X) Y)) (va_up ms X (ms X + 1)) a b ↔ rcP br ms a b ∨ (rcS br ms a X ∧ rcS br ms Y b) := fun {a b} => rcP.edge hedge hmore hnew
  have hcond : ∀ j, (1 ≤ j ∧ j ≤ nc ∧ (j = X ∨ (un j).testBit X = true)) ↔ rcS br ms j X := by
    intro j
    rw [h_un]
    constructor
    · intro q
      rcases q.2.2 with e | e
      · rw [e]; exact rcS.rf X
      · exact e.star
    · intro q
      rcases q.split with e | e
      · rw [e]; exact ⟨x1, x2, Or.inl rfl⟩
      · obtain ⟨i, hi, -⟩ := id e
        have := h_g j (by omega)
        exact ⟨this.1, this.2.1, Or.inr e⟩
  have hYX : ¬ rcS br ms Y X := by
    intro q
    rcases q.split with e | e
    · exact hne e
    · rw [(h_un Y X).mpr e] at hun; cases hun
  refine ⟨e_mn, e_mv, e_mg, e_mo, e_mu, e_md, rfl, fun x i hi => ?_, h_nc, h_nv, h_ng, h_mk, h_kd, fun j => ?_, fun j i => ?_, fun j => ?_, fun x i hi => ?_, fun x hx => ?_, fun x y => ?_, fun x q => ?_, h_ev, h_en, fun x k hk => ?_, fun x p hp => ?_, fun x => ?_, h_vo, h_vop, h_nu, h_nd, h_ndp, h_enl, h_tb⟩
  · by_cases e : x = X
    · rw [e, va_up_self]
      by_cases ei : i = ms X
      · rw [ei, va_up_self, va_up_self]
      · rw [va_up_ne _ _ ei, va_up_ne _ _ (by omega)]
        exact e_mb X i hi
    · rw [va_up_ne _ _ e, va_up_ne _ _ (by have := h_bc X; omega)]
      exact e_mb x i hi
  · by_cases e : j = X
    · rw [e, va_up_self]; omega
    · rw [va_up_ne _ _ e]; exact h_bc j
  · by_cases e : j = X
    · rw [e, va_up_self]
      by_cases ei : i = ms X
      · rw [ei, va_up_self]; omega
      · rw [va_up_ne _ _ ei]; exact h_br X i
    · rw [va_up_ne _ _ e]; exact h_br j i
  · by_cases e : j = 10 * X + ms X
    · rw [e, va_up_self]; omega
    · rw [va_up_ne _ _ e]; exact h_mb j
  · rcases hedge x i hi with ⟨a, b⟩ | ⟨-, b⟩
    · rw [b]; exact h_ch x i a
    · rw [b]; exact ⟨y1, y2⟩
  · by_cases e : x = X
    · rw [e]; exact ⟨x1, x2, xg⟩
    · rw [va_up_ne _ _ e] at hx; exact h_g x hx
  · rw [p1, hP]
    by_cases hc : rcS br ms x X
    · rw [if_pos ((hcond x).mpr hc), Nat.testBit_or, Nat.testBit_or, Nat.testBit_two_pow, Bool.or_eq_true, Bool.or_eq_true, decide_eq_true_eq, h_un, h_un]
      constructor
      · intro q
        rcases q with q | q | q
        · exact Or.inl q
        · exact Or.inr ⟨hc, q.star⟩
        · rw [← q]; exact Or.inr ⟨hc, rcS.rf _⟩
      · intro q
        rcases q with q | ⟨-, q⟩
        · exact Or.inl q
        · rcases q.split with e | e
          · exact Or.inr (Or.inr e)
          · exact Or.inr (Or.inl e)
    · rw [if_neg (fun q => hc ((hcond x).mp q)), h_un]
      exact ⟨Or.inl, fun q => q.elim id (fun q => absurd q.1 hc)⟩
  · rw [hP] at q
    rcases q with q | ⟨q1, q2⟩
    · exact h_ac x q
    · exact hYX (q2.trans q1)
  · rw [p2, hS]
    by_cases hc : rcS br ms x X
    · rw [if_pos ((hcond x).mpr hc), Nat.testBit_or, Bool.or_eq_true, h_eu x k hk, h_eu Y k hk]
      exact ⟨fun q => q.elim Or.inl (fun q => Or.inr ⟨hc, q⟩), fun q => q.elim Or.inl (fun q => Or.inr q.2)⟩
    · rw [if_neg (fun q => hc ((hcond x).mp q)), h_eu x k hk]
      exact ⟨Or.inl, fun q => q.elim id (fun q => absurd q.1 hc)⟩
  · rw [p2]
    split
    · rw [Nat.testBit_or, h_eu0 x p hp, h_eu0 Y p hp]; rfl
    · exact h_eu0 x p hp
  · rw [p2]
    split
    · exact Nat.or_lt_two_pow (h_eul x) (h_eul Y)
    · exact h_eul x
/-- the events' bits stay -/
theorem it_beu (h : ITr nc nv ng kd vo nu nd en br bc un eu tb mn mv mg mk mo mu md ms mb) {X Y : Nat} (xg : mk X ≠ 0) (hne : Y ≠ X) (hun : (un Y).testBit X = false) {e : Nat} (e0 : mk e = 0) : (pbS un eu X Y nc).2 e = eu e := by
  obtain ⟨-, p2⟩ := pbS_at (un := un) (eu := eu) hne hun nc
  have hl : ∀ {y : Nat}, rcS br bc e y → y = e := fun {y} q => it_leaf h e0 q
  obtain ⟨-, -, -, -, -, -, -, -, -, -, -, -, -, -, -, -, -, -, h_un, -, -, -, -, -, -, -, -, -, -, -, -, -⟩ := h
  rw [p2, if_neg]
  intro q
  rcases q.2.2 with q | q
  · exact xg (by rw [← q]; exact e0)
  · have := hl ((h_un e X).mp q).star
    exact xg (by rw [this]; exact e0)
theorem q_iM {mb : Nat → Nat} {br : Nat → Nat → Nat} {x y : Nat} : ∀ n, (∀ i, i < n → mb (10 * x + i) = br x i) → iM mb x y n = iB br x y n
  | 0, _ => rfl
  | n + 1, h => by simp only [iM, iB, q_iM n (fun i hi => h i (by omega)), h n (Nat.lt_succ_self _)]
theorem q_be (h : ITr nc nv ng kd vo nu nd en br bc un eu tb mn mv mg mk mo mu md ms mb) (ud : Nat → Bool) (x y : Int32) : mbeR mn mk mb ms ud x y = beR nc kd br bc un x y := by
  have hG := it_isG h x
  have hm := it_brm h
  have hx : isG nc kd x = true → x = nI x.toNatClampNeg ∧ 1 ≤ x.toNatClampNeg ∧ x.toNatClampNeg ≤ nc ∧ mk x.toNatClampNeg ≠ 0 := fun q => it_G h q
  have hrc : ∀ {x y : Nat}, rcS (fun g i => mb (10 * g + i)) ms x y ↔ rcS br bc x y := fun {x y} => it_rcS h
  obtain ⟨e_mn, -, -, -, -, -, e_ms, -, h_nc, h_nv, h_ng, -, -, h_bc, -, h_mb, h_ch, -, h_un, -, -, -, -, -, -, -, -, -, -, -, -, -⟩ := h
  subst e_ms
  subst e_mn
  unfold mbeR beR
  rw [hG, q_isN (by omega)]
  by_cases h0 : isG mn kd x = false ∨ isN mn y = false
  · rw [if_pos h0, if_pos h0]
  · rw [if_neg h0, if_neg h0]
    have hgx : isG mn kd x = true := by
      cases q : isG mn kd x with
      | true => rfl
      | false => exact absurd (Or.inl q) h0
    have hny : isN mn y = true := by
      cases q : isN mn y with
      | true => rfl
      | false => exact absurd (Or.inr q) h0
    obtain ⟨-, x1, x2, -⟩ := hx hgx
    obtain ⟨-, y1, y2⟩ := q_nat (a := 1) (by omega) hny (by decide)
    have hr : ∀ g i, i < ms g → 1 ≤ mb (10 * g + i) ∧ mb (10 * g + i) ≤ mn := fun g i hi => by rw [hm g i hi]; exact h_ch g i hi
    have hmk := mkF_spec h_mb hr ud y1 y2 x1 x2
    rw [hrc] at hmk
    have hiff : mkF mb ms mn ud y.toNatClampNeg x.toNatClampNeg = true ↔ (y.toNatClampNeg = x.toNatClampNeg ∨ (un y.toNatClampNeg).testBit x.toNatClampNeg = true) := by
      rw [hmk, h_un]
      exact ⟨fun q => q.split, fun q => q.elim (fun e => by rw [e]; exact rcS.rf _) (fun e => e.star)⟩
    rw [q_iM (ms x.toNatClampNeg) (fun i hi => hm _ i hi)]
    have hb := h_bc x.toNatClampNeg
    by_cases h10 : ms x.toNatClampNeg = 10
    · rw [if_pos h10, if_pos (show 10 ≤ ms x.toNatClampNeg by omega)]
    · rw [if_neg h10, if_neg (show ¬ 10 ≤ ms x.toNatClampNeg by omega)]
      by_cases hq : y.toNatClampNeg = x.toNatClampNeg ∨ (un y.toNatClampNeg).testBit x.toNatClampNeg = true
      · rw [if_pos hq, if_pos (hiff.mpr hq)]
      · rw [if_neg hq, if_neg (fun q => hq (hiff.mp q))]
theorem q_mkb (h : ITr nc nv ng kd vo nu nd en br bc un eu tb mn mv mg mk mo mu md ms mb) (ud : Nat → Bool) {X Y : Nat} (x1 : 1 ≤ X) (x2 : X ≤ nc) (y1 : 1 ≤ Y) (y2 : Y ≤ nc) : mkF mb ms mn ud Y X = false ↔ (¬ Y = X ∧ (un Y).testBit X = false) := by
  have hm := it_brm h
  have hrc : ∀ {x y : Nat}, rcS (fun g i => mb (10 * g + i)) ms x y ↔ rcS br bc x y := fun {x y} => it_rcS h
  obtain ⟨e_mn, -, -, -, -, -, e_ms, -, -, -, -, -, -, -, -, h_mb, h_ch, -, h_un, -, -, -, -, -, -, -, -, -, -, -, -, -⟩ := h
  subst e_ms
  subst e_mn
  have hr : ∀ g i, i < ms g → 1 ≤ mb (10 * g + i) ∧ mb (10 * g + i) ≤ mn := fun g i hi => by rw [hm g i hi]; exact h_ch g i hi
  have hmk := mkF_spec h_mb hr ud y1 y2 x1 x2
  rw [hrc] at hmk
  have h2 := h_un Y X
  cases hc : mkF mb ms mn ud Y X with
  | false =>
    rw [hc] at hmk
    refine ⟨fun _ => ⟨fun e => ?_, ?_⟩, fun _ => rfl⟩
    · exact absurd (hmk.mpr (by rw [e]; exact rcS.rf _)) (by decide)
    · cases hd : (un Y).testBit X with
      | false => rfl
      | true => exact absurd (hmk.mpr (h2.mp hd).star) (by decide)
  | true =>
    rw [hc] at hmk
    refine ⟨fun q => by (cases q), fun q => ?_⟩
    rcases (hmk.mp rfl).split with e | e
    · exact absurd e q.1
    · rw [h2.mpr e] at q; cases q.2
theorem q_co (h : ITr nc nv ng kd vo nu nd en br bc un eu tb mn mv mg mk mo mu md ms mb) {cc0 : Nat} (hc : cc0 ≤ 4) (x y : Int32) (u d : Int64) : mcoR mn mk cc0 x y u d = coR nc kd cc0 x y u d := by
  unfold mcoR coR
  rw [it_isE h, it_isE h]
  by_cases h0 : isE nc kd x = false ∨ isE nc kd y = false
  · rw [if_pos h0, if_pos h0]
  · rw [if_neg h0, if_neg h0]
    have hi : (x = y ∨ isI d (lN 1) (lN 10) = false ∨ isI u (lN 0) d = false) ↔ (x = y ∨ isD d = false ∨ u < lN 0 ∨ ¬ u ≤ d) := by
      have e1 : isI d (lN 1) (lN 10) = isD d := rfl
      have e2 : isI u (lN 0) d = false ↔ (u < lN 0 ∨ ¬ u ≤ d) := by
        simp only [isI, Bool.and_eq_false_iff, decide_eq_false_iff_not, Int64.lt_iff_toInt_lt, Int64.le_iff_toInt_le]
        omega
      rw [e1, e2]
    by_cases h1 : x = y ∨ isD d = false ∨ u < lN 0 ∨ ¬ u ≤ d
    · rw [if_pos h1, if_pos (hi.mpr h1)]
    · rw [if_neg h1, if_neg (fun q => h1 (hi.mp q))]
      by_cases h4 : cc0 = 4
      · rw [if_pos h4, if_pos (show 4 ≤ cc0 by omega)]
      · rw [if_neg h4, if_neg (show ¬ 4 ≤ cc0 by omega)]
end KEEP
