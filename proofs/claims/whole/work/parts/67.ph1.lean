/-! no more than 924 sets, and what holds at a set holds at every larger -/
theorem nxI_sub {c : Nat} {p : Nat} : ∀ b a, a ≤ b → (nxI c a).testBit p = true → (nxI c b).testBit p = true
  | 0, a, h, q => by rw [show a = 0 by omega] at q; exact q
  | b + 1, a, h, q => by
    by_cases e : a = b + 1
    · rw [← e]; exact q
    · have := nxI_sub b a (by omega) q
      show (nxs (nxI c b)).testBit p = true
      unfold nxs
      rw [Nat.testBit_or, this]
      rfl
theorem core_chk {s : Nat} (h : s < 4096) : core s < 4096 ∧ core (core s) = core s ∧ (core s = s ∨ (0 < ump s ∧ ump s ≤ s ∧ nxs (s - ump s) = s ∧ core (s - ump s) = core s)) := by
  have q := allB_of 4096 chk_all s h
  simp only [chkC, Bool.and_eq_true, Bool.or_eq_true, Nat.ble_eq] at q
  exact ⟨by omega, Nat.eq_of_beq_eq_true q.2.1, q.2.2.elim (fun r => Or.inl (Nat.eq_of_beq_eq_true r)) (fun r => Or.inr ⟨by omega, r.2.1, Nat.eq_of_beq_eq_true r.2.2.1, Nat.eq_of_beq_eq_true r.2.2.2⟩)⟩
theorem core_it : ∀ (f s : Nat), s < f → s < 4096 → ∃ k, s = nxI (core s) k
  | 0, s, h, _ => absurd h (Nat.not_lt_zero _)
  | f + 1, s, h, hs => by
    rcases (core_chk hs).2.2 with e | ⟨h1, h2, h3, h4⟩
    · exact ⟨0, e.symm⟩
    · obtain ⟨k, e⟩ := core_it f (s - ump s) (by omega) (by omega)
      refine ⟨k + 1, ?_⟩
      show s = nxs (nxI (core s) k)
      rw [← h4, ← e, h3]
theorem core_cmp {s t : Nat} (hs : s < 4096) (ht : t < 4096) (h : core s = core t) : (∀ p, s.testBit p = true → t.testBit p = true) ∨ ∀ p, t.testBit p = true → s.testBit p = true := by
  obtain ⟨a, ea⟩ := core_it _ s (Nat.lt_succ_self _) hs
  obtain ⟨b, eb⟩ := core_it _ t (Nat.lt_succ_self _) ht
  rw [← h] at eb
  by_cases hab : a ≤ b
  · left
    intro p hp
    rw [ea] at hp
    rw [eb]
    exact nxI_sub b a hab hp
  · right
    intro p hp
    rw [eb] at hp
    rw [ea]
    exact nxI_sub a b (by omega) hp
/-! counting by an injection -/
theorem c0_cg {b c : Nat → Bool} : ∀ n, (∀ j, j < n → b j = c j) → c0F b n = c0F c n
  | 0, _ => rfl
  | n + 1, h => by
    simp only [c0F, c0_cg n (fun j hj => h j (by omega)), h n (Nat.lt_succ_self _)]
theorem c0_del {d : Nat → Bool} {t : Nat} (hd : d t = true) : ∀ n, t < n → c0F (fun i => d i && !(decide (i = t))) n + 1 = c0F d n
  | 0, h => absurd h (Nat.not_lt_zero _)
  | n + 1, h => by
    by_cases e : n = t
    · subst e
      have : c0F (fun i => d i && !(decide (i = n))) n = c0F d n := c0_cg n (fun j hj => by simp [show ¬ j = n by omega])
      simp [c0F, this, hd]
    · have ih := c0_del hd n (by omega)
      simp only [c0F]
      simp [e]
      omega
theorem c0_inj {N : Nat} {c : Nat → Bool} {f : Nat → Nat} : ∀ (M : Nat) (d : Nat → Bool), (∀ j, j < M → c j = true → f j < N ∧ d (f j) = true) → (∀ i j, i < M → j < M → c i = true → c j = true → f i = f j → i = j) → c0F c M ≤ c0F d N
  | 0, d, _, _ => Nat.zero_le _
  | M + 1, d, h1, h2 => by
    simp only [c0F]
    by_cases hc : c M = true
    · rw [if_pos hc]
      obtain ⟨q1, q2⟩ := h1 M (Nat.lt_succ_self _) hc
      have ih := c0_inj M (fun i => d i && !(decide (i = f M))) (fun j hj hcj => by
        obtain ⟨r1, r2⟩ := h1 j (by omega) hcj
        refine ⟨r1, ?_⟩
        rw [r2, Bool.true_and]
        have : ¬ f j = f M := fun hb => by
          have := h2 j M (by omega) (Nat.lt_succ_self _) hcj hc hb
          omega
        rw [decide_eq_false this]
        rfl) (fun i j hi hj => h2 i j (by omega) (by omega))
      have := c0_del q2 N q1
      omega
    · rw [if_neg hc]
      exact c0_inj M d (fun j hj => h1 j (by omega)) (fun i j hi hj => h2 i j (by omega) (by omega))
/-! what holds at a set holds at every larger -/
theorem uqm {F : (Nat → Bool) → Nat → Bool} {br : Nat → Nat → Nat} {bc : Nat → Nat} (hF : ∀ (v v' : Nat → Bool) (g : Nat), (∀ i, i < bc g → v (br g i) = true → v' (br g i) = true) → F v g = true → F v' g = true) (mea : Nat → Nat) (hm : ∀ x i, i < bc x → mea (br x i) < mea x) (v v' : Nat → Bool) :
    ∀ (f x : Nat), mea x < f → (∀ z, rcS br bc x z → (v z = true → v' z = true) ∨ (v z = F v z ∧ v' z = F v' z)) → v x = true → v' x = true
  | 0, _, h, _, _ => absurd h (Nat.not_lt_zero _)
  | f + 1, x, h, hz, hv => by
    rcases hz x (rcS.rf x) with q | ⟨q1, q2⟩
    · exact q hv
    · rw [q2]
      rw [q1] at hv
      refine hF v v' x (fun i hi => uqm hF mea hm v v' f (br x i) ?_ (fun z q => hz z (rcP.star ⟨i, hi, q⟩))) hv
      have := hm x i hi
      omega
theorem tct_mono {V V' : Nat → Bool} {br : Nat → Nat → Nat} {g : Nat} : ∀ n, (∀ i, i < n → V (br g i) = true → V' (br g i) = true) → tct V br g n ≤ tct V' br g n
  | 0, _ => Nat.le_refl _
  | n + 1, h => by
    have ih := tct_mono n (fun i hi => h i (by omega))
    have h1 := h n (Nat.lt_succ_self _)
    simp only [tct]
    cases hv : V (br g n) with
    | false => simp; omega
    | true => rw [h1 hv]; simp; omega
theorem gB_mono {mk mo bc : Nat → Nat} {br : Nat → Nat → Nat} {V V' : Nat → Bool} {g : Nat} (h : ∀ i, i < bc g → V (br g i) = true → V' (br g i) = true) (q : gB mk mo bc br V g = true) : gB mk mo bc br V' g = true := by
  have h1 := tct_mono (bc g) h
  have h2 := tct_le V' br g (bc g)
  unfold gB at q ⊢
  split
  · rename_i e
    rw [if_pos e] at q
    simp only [decide_eq_true_eq] at q ⊢
    omega
  · rename_i e
    rw [if_neg e] at q
    split
    · rename_i e2
      rw [if_pos e2] at q
      simp only [decide_eq_true_eq] at q ⊢
      omega
    · rename_i e2
      rw [if_neg e2] at q
      simp only [decide_eq_true_eq] at q ⊢
      omega
theorem sub_and {s w : Nat} (h : ∀ p, s.testBit p = true → w.testBit p = true) : s &&& w = s := by
  apply Nat.eq_of_testBit_eq
  intro p
  rw [Nat.testBit_and]
  cases hs : s.testBit p with
  | false => rfl
  | true => rw [h p hs]; rfl
theorem and_sub {s w : Nat} (h : s &&& w = s) {p : Nat} (hp : s.testBit p = true) : w.testBit p = true := by
  rw [← h, Nat.testBit_and, Bool.and_eq_true] at hp
  exact hp.2
theorem pd_inj {w s t : Nat} (hs : s < 2 ^ popc w 12) (ht : t < 2 ^ popc w 12) (h : pd 12 w s = pd 12 w t) : s = t := by
  apply Nat.eq_of_testBit_eq
  intro r
  by_cases hr : r < popc w 12
  · obtain ⟨p, p1, p2, p3⟩ := popc_on 12 r hr
    have := congrArg (fun n => Nat.testBit n p) h
    simp only [pd_tb, p2, p3, decide_eq_true p1, Bool.true_and] at this
    exact this
  · rw [Nat.testBit_lt_two_pow (Nat.lt_of_lt_of_le hs (Nat.pow_le_pow_right (by decide) (by omega))), Nat.testBit_lt_two_pow (Nat.lt_of_lt_of_le ht (Nat.pow_le_pow_right (by decide) (by omega)))]
section SPE
variable {nc nv ng : Nat} {kd : Nat → Int32} {vo nu nd en : Nat → Nat} {br : Nat → Nat → Nat} {bc un eu : Nat → Nat} {tb : Nat → Nat → Int64} {mn mv mg : Nat} {mk mo mu md ms mb : Nat → Nat}
theorem it_mono (h : ITr nc nv ng kd vo nu nd en br bc un eu tb mn mv mg mk mo mu md ms mb) {x : Nat} (h1 : 1 ≤ x) (h2 : x ≤ nc) (li : Nat → Nat) {s t : Nat} (ht : t < 4096) (htw : t &&& eu x = t) (hst : ∀ p, s.testBit p = true → t.testBit p = true) (q : isT (fsF tb br kd vo bc (luS (luC nc kd un x) nc (0, li) 33).2 (eu x / 2 ^ 6) (luS (luC nc kd un x) nc (0, li) 33).1) x s = true) :
    isT (fsF tb br kd vo bc (luS (luC nc kd un x) nc (0, li) 33).2 (eu x / 2 ^ 6) (luS (luC nc kd un x) nc (0, li) 33).1) x t = true := by
  have hS := it_ordS h h1 h2 li
  have hrg : ∀ {y : Nat}, rcS br bc x y → 1 ≤ y ∧ y ≤ nc := fun {y} q => it_range h h1 h2 q
  have hlt := it_lt64 h
  obtain ⟨-, -, -, -, -, -, -, -, -, -, -, h_mk, h_kd, h_bc, -, -, -, -, -, h_ac, h_ev, h_en, -, -, -, h_vo, -, -, -, -, -, h_tb⟩ := h
  have hself : ∀ x i, i < bc x → br x i ≠ x := fun x i hi q => h_ac x ⟨i, hi, by rw [q]; exact rcS.rf x⟩
  have hs : s < 4096 := by
    refine it_lt (m := 12) (fun p hp => ?_)
    have := hst p hp
    have h3 := Nat.ge_two_pow_of_testBit this
    rcases Nat.lt_or_ge p 12 with h4 | h4
    · exact h4
    · have := Nat.pow_le_pow_right (n := 2) (by decide) h4
      omega
  have hsw : s &&& eu x = s := sub_and (fun p hp => and_sub htw (hst p hp))
  have hkg : ∀ g, (rcS br bc x g ∧ mk g ≠ 0) → kd g = nI (mk g - 1) ∧ 1 ≤ mk g ∧ mk g ≤ 3 := fun g hg => by
    obtain ⟨g1, g2⟩ := hrg hg.1
    have := h_kd g g1 g2
    rw [if_neg hg.2] at this
    exact ⟨this, by have := hg.2; omega, h_mk g⟩
  obtain ⟨c1, c2⟩ := fs_ok (tb := tb) (kd := kd) (mk := mk) (s := s) (W := eu x) hself h_bc h_vo hkg hS hs hsw
  obtain ⟨d1, d2⟩ := fs_ok (tb := tb) (kd := kd) (mk := mk) (s := t) (W := eu x) hself h_bc h_vo hkg hS ht htw
  refine uqm (F := gB mk vo bc br) (fun v v' g hv hg => gB_mono hv hg) (fun j => popc (un j) 64) (fun a i hi => hlt a i hi) (fun z => isT _ z s) (fun z => isT _ z t) _ x (Nat.lt_succ_self _) (fun z hz => ?_) q
  by_cases hz0 : mk z = 0
  · left
    obtain ⟨z1, z2⟩ := hrg hz
    have hk : evc mk (z - 1) < nv := by
      have e1 : evc mk z = evc mk (z - 1) + 1 := by
        obtain ⟨i, rfl⟩ : ∃ i, z = i + 1 := ⟨z - 1, by omega⟩
        simp only [evc, if_pos hz0]
        rfl
      have := evc_mono mk z2
      omega
    rw [c2 z (fun q => q.2 hz0), d2 z (fun q => q.2 hz0), ← h_en z z1 z2 hz0, h_tb _ s hk hs, h_tb _ t hk ht]
    exact hst _
  · exact Or.inr ⟨c1 z ⟨hz, hz0⟩, d1 z ⟨hz, hz0⟩⟩
/-- the least sets: at most 924 -/
theorem it_924 (h : ITr nc nv ng kd vo nu nd en br bc un eu tb mn mv mg mk mo mu md ms mb) {x : Nat} (h1 : 1 ≤ x) (h2 : x ≤ nc) (li : Nat → Nat) :
    c0F (fun j => isM (fsF tb br kd vo bc (luS (luC nc kd un x) nc (0, li) 33).2 (eu x / 2 ^ 6) (luS (luC nc kd un x) nc (0, li) 33).1) x (pd 12 (eu x) (2 ^ popc (eu x) 12 - 1 - j))) (2 ^ popc (eu x) 12) ≤ 924 := by
  have hm : ∀ {s t : Nat}, t < 4096 → t &&& eu x = t → (∀ p, s.testBit p = true → t.testBit p = true) → isT (fsF tb br kd vo bc (luS (luC nc kd un x) nc (0, li) 33).2 (eu x / 2 ^ 6) (luS (luC nc kd un x) nc (0, li) 33).1) x s = true → isT (fsF tb br kd vo bc (luS (luC nc kd un x) nc (0, li) 33).2 (eu x / 2 ^ 6) (luS (luC nc kd un x) nc (0, li) 33).1) x t = true := fun {s t} => it_mono h h1 h2 li
  obtain ⟨-, -, -, -, -, -, -, -, -, -, -, -, -, -, -, -, -, -, -, -, -, -, -, -, h_eul, -, -, -, -, -, -, -⟩ := h
  have hW : eu x < 4096 := h_eul x
  generalize fsF tb br kd vo bc (luS (luC nc kd un x) nc (0, li) 33).2 (eu x / 2 ^ 6) (luS (luC nc kd un x) nc (0, li) 33).1 = tb' at hm ⊢
  have anti : ∀ s t, t < 4096 → t &&& eu x = t → isM tb' x s = true → isM tb' x t = true → (∀ p, s.testBit p = true → t.testBit p = true) → s = t := by
    intro s t ht htw hs hmt hst
    unfold isM at hs hmt
    rw [Bool.and_eq_true] at hs hmt
    rw [im_spec] at hmt
    apply Nat.eq_of_testBit_eq
    intro p
    cases hp : t.testBit p with
    | false =>
      cases hq : s.testBit p with
      | false => rfl
      | true => rw [hst p hq] at hp; cases hp
    | true =>
      cases hq : s.testBit p with
      | true => rfl
      | false =>
        have hp12 : p < 12 := by
          have h3 := Nat.ge_two_pow_of_testBit hp
          rcases Nat.lt_or_ge p 12 with h4 | h4
          · exact h4
          · have := Nat.pow_le_pow_right (n := 2) (by decide) h4
            omega
        have hf := hmt.2 p hp12 hp
        have hx : t ^^^ 2 ^ p < 4096 := lt_xor (m := 12) ht hp12
        have := hm (s := s) (t := t ^^^ 2 ^ p) hx (sub_and (fun r hr => by
          rw [Nat.testBit_xor, Nat.testBit_two_pow] at hr
          by_cases e : p = r
          · rw [e] at hp
            exact and_sub htw hp
          · rw [decide_eq_false e, Bool.xor_false] at hr
            exact and_sub htw hr)) (fun r hr => by
          rw [Nat.testBit_xor, Nat.testBit_two_pow]
          by_cases e : p = r
          · rw [← e, hq] at hr; cases hr
          · rw [decide_eq_false e, Bool.xor_false]
            exact hst r hr) hs.1
        rw [hf] at this
        cases this
  have hle : ∀ j, pd 12 (eu x) j < 4096 := fun j => pd_lt hW
  have hin : ∀ j, pd 12 (eu x) j &&& eu x = pd 12 (eu x) j := fun j => pd_sub 12 (eu x) j hW
  rw [← core_n]
  refine c0_inj (f := fun j => core (pd 12 (eu x) (2 ^ popc (eu x) 12 - 1 - j))) _ _ (fun j hj hc => ?_) (fun i j hi hj hc1 hc2 e => ?_)
  · have := core_chk (hle (2 ^ popc (eu x) 12 - 1 - j))
    exact ⟨this.1, by show Nat.beq _ _ = true; rw [this.2.1]; exact Nat.beq_refl _⟩
  · have e2 : pd 12 (eu x) (2 ^ popc (eu x) 12 - 1 - i) = pd 12 (eu x) (2 ^ popc (eu x) 12 - 1 - j) := by
      rcases core_cmp (hle _) (hle _) e with q | q
      · exact anti _ _ (hle _) (hin _) hc1 hc2 q
      · exact (anti _ _ (hle _) (hin _) hc2 hc1 q).symm
    have := pd_inj (by omega) (by omega) e2
    omega
end SPE
