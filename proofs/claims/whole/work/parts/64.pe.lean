/-! the truth of a gate, on both sides -/
def tct (V : Nat → Bool) (br : Nat → Nat → Nat) (g : Nat) : Nat → Nat
  | 0 => 0
  | i + 1 => tct V br g i + (V (br g i)).toNat
def gB (mk mo bc : Nat → Nat) (br : Nat → Nat → Nat) (V : Nat → Bool) (g : Nat) : Bool :=
  if mk g = 1 then decide (tct V br g (bc g) = bc g) else if mk g = 2 then decide (0 < tct V br g (bc g)) else decide (mo g ≤ tct V br g (bc g))
theorem tct_le (V : Nat → Bool) (br : Nat → Nat → Nat) (g : Nat) : ∀ n, tct V br g n ≤ n
  | 0 => Nat.le_refl _
  | n + 1 => by
    have := tct_le V br g n
    have h2 : (V (br g n)).toNat ≤ 1 := Bool.toNat_le _
    simp only [tct]
    omega
theorem tct_congr {V V' : Nat → Bool} {br br' : Nat → Nat → Nat} {g : Nat} : ∀ n, (∀ i, i < n → V (br g i) = V' (br' g i)) → tct V br g n = tct V' br' g n
  | 0, _ => rfl
  | n + 1, h => by
    simp only [tct, tct_congr n (fun i hi => h i (by omega)), h n (Nat.lt_succ_self _)]
theorem gB_congr {mk mo bc : Nat → Nat} {br br' : Nat → Nat → Nat} {V V' : Nat → Bool} {g : Nat} (h : ∀ i, i < bc g → V (br g i) = V' (br' g i)) : gB mk mo bc br V g = gB mk mo bc br' V' g := by
  unfold gB
  rw [tct_congr (bc g) h]
theorem tb_and (a b : Int64) (j : Nat) : tbit (a &&& b) j = (tbit a j && tbit b j) := by
  unfold tbit
  rw [Int64.toBitVec_and, BitVec.getLsbD_and]
theorem tb_or (a b : Int64) (j : Nat) : tbit (a ||| b) j = (tbit a j || tbit b j) := by
  unfold tbit
  rw [Int64.toBitVec_or, BitVec.getLsbD_or]
theorem tb_xor (a b : Int64) (j : Nat) : tbit (a ^^^ b) j = (tbit a j ^^ tbit b j) := by
  unfold tbit
  rw [Int64.toBitVec_xor, BitVec.getLsbD_xor]
theorem tb_m1 : ∀ j, j < 64 → tbit (-1) j = true := by decide +kernel
theorem tb_0 (j : Nat) : tbit (lN 0) j = false := by
  unfold tbit
  show (0#64).getLsbD j = false
  exact BitVec.getLsbD_zero
theorem hB1 (t n : Nat) (q : Bool) (h : t ≤ n) : (decide (t = n) && q) = decide (t + q.toNat = n + 1) := by
  cases q
  · simp only [Bool.and_false, Bool.toNat_false]
    exact (decide_eq_false (by omega)).symm
  · simp only [Bool.and_true, Bool.toNat_true]
    exact decide_eq_decide.mpr (by omega)
theorem hB2 (t : Nat) (q : Bool) : (decide (0 < t) || q) = decide (0 < t + q.toNat) := by
  cases q <;> simp
section GWF
variable {tb : Nat → Nat → Int64} {br : Nat → Nat → Nat} {x w b : Nat}
theorem al_bit (hb : b < 64) : ∀ n, tbit (alF tb br x w n) b = decide (tct (fun z => tbit (tb z w) b) br x n = n)
  | 0 => by simp [alF, tct, tb_m1 b hb]
  | n + 1 => by
    show tbit (alF tb br x w n &&& tb (br x n) w) b = _
    rw [tb_and, al_bit hb n]
    exact hB1 _ _ _ (tct_le (fun z => tbit (tb z w) b) br x n)
theorem an_bit : ∀ n, tbit (anF tb br x w n) b = decide (0 < tct (fun z => tbit (tb z w) b) br x n)
  | 0 => by simp [anF, tct, tb_0]
  | n + 1 => by
    show tbit (anF tb br x w n ||| tb (br x n) w) b = _
    rw [tb_or, an_bit n]
    exact hB2 _ _
theorem add4 : ∀ a0 a1 a2 a3 t : Bool, a0.toNat + 2 * a1.toNat + 4 * a2.toNat + 8 * a3.toNat < 15 →
    (a0 ^^ t).toNat + 2 * (a1 ^^ (a0 && t)).toNat + 4 * (a2 ^^ (a1 && (a0 && t))).toNat + 8 * (a3 ^^ (a2 && (a1 && (a0 && t)))).toNat = a0.toNat + 2 * a1.toNat + 4 * a2.toNat + 8 * a3.toNat + t.toNat := by decide
theorem vs_bit : ∀ n, n ≤ 15 → (tbit (vS tb br x w n).1 b).toNat + 2 * (tbit (vS tb br x w n).2.1 b).toNat + 4 * (tbit (vS tb br x w n).2.2.1 b).toNat + 8 * (tbit (vS tb br x w n).2.2.2 b).toNat = tct (fun z => tbit (tb z w) b) br x n
  | 0, _ => by simp [vS, tct, tb_0]
  | n + 1, hn => by
    have ih := vs_bit n (by omega)
    have hle := tct_le (fun z => tbit (tb z w) b) br x n
    simp only [vS, tb_xor, tb_and, tct]
    rw [add4 _ _ _ _ _ (by omega), ih]
def wB (n : Nat) (d e : Bool) : Bool := if n &&& 1 = 0 then d || e else d && e
theorem wD_bit (n : Nat) (d e : Int64) : tbit (wD n d e) b = wB n (tbit d b) (tbit e b) := by
  unfold wD wB
  split
  · exact tb_or _ _ _
  · exact tb_and _ _ _
theorem ge4 : ∀ n, n < 16 → ∀ a0 a1 a2 a3 : Bool, wB (n / 2 ^ 3) a3 (wB (n / 2 ^ 2) a2 (wB (n / 2 ^ 1) a1 (wB n a0 true))) = decide (n ≤ a0.toNat + 2 * a1.toNat + 4 * a2.toNat + 8 * a3.toNat) := by decide +kernel
theorem vo_bit (hb : b < 64) {n k : Nat} (hn : n < 16) (hk : k ≤ 15) : tbit (voF n (vS tb br x w k)) b = decide (n ≤ tct (fun z => tbit (tb z w) b) br x k) := by
  unfold voF
  rw [wD_bit, wD_bit, wD_bit, wD_bit, tb_m1 b hb, ge4 n hn, vs_bit k hk]
theorem al_congr {tb' : Nat → Nat → Int64} {w' : Nat} : ∀ n, (∀ i, i < n → tb (br x i) w = tb' (br x i) w') → alF tb br x w n = alF tb' br x w' n
  | 0, _ => rfl
  | n + 1, h => by simp only [alF, al_congr n (fun i hi => h i (by omega)), h n (Nat.lt_succ_self _)]
theorem an_congr {tb' : Nat → Nat → Int64} {w' : Nat} : ∀ n, (∀ i, i < n → tb (br x i) w = tb' (br x i) w') → anF tb br x w n = anF tb' br x w' n
  | 0, _ => rfl
  | n + 1, h => by simp only [anF, an_congr n (fun i hi => h i (by omega)), h n (Nat.lt_succ_self _)]
theorem vs_congr {tb' : Nat → Nat → Int64} {w' : Nat} : ∀ n, (∀ i, i < n → tb (br x i) w = tb' (br x i) w') → vS tb br x w n = vS tb' br x w' n
  | 0, _ => rfl
  | n + 1, h => by simp only [vS, vs_congr n (fun i hi => h i (by omega)), h n (Nat.lt_succ_self _)]
theorem gw_congr {tb' : Nat → Nat → Int64} {w' : Nat} {kd : Nat → Int32} {vo bc : Nat → Nat} (h : ∀ i, i < bc x → tb (br x i) w = tb' (br x i) w') : gwF tb br kd vo bc x w = gwF tb' br kd vo bc x w' := by
  unfold gwF
  rw [al_congr (bc x) h, an_congr (bc x) h, vs_congr (bc x) h]
theorem gw_bit (hb : b < 64) {kd : Nat → Int32} {vo bc mk : Nat → Nat} (hk : kd x = nI (mk x - 1)) (hm : 1 ≤ mk x) (hm3 : mk x ≤ 3) (hbc : bc x ≤ 10) (hvo : vo x ≤ 10) : tbit (gwF tb br kd vo bc x w) b = gB mk vo bc br (fun z => tbit (tb z w) b) x := by
  unfold gwF gB
  rw [hk]
  rcases (show mk x = 1 ∨ mk x = 2 ∨ mk x = 3 by omega) with e | e | e
  · rw [e, if_pos (by decide), if_pos rfl, al_bit hb]
  · rw [e, if_neg (by decide), if_pos (by decide), if_neg (by decide), if_pos rfl, an_bit]
  · rw [e, if_neg (by decide), if_neg (by decide), if_neg (by decide), if_neg (by decide), vo_bit hb (by omega) (by omega)]
end GWF
/-! the class's tables behind a working -/
section FSF
variable {br : Nat → Nat → Nat} {kd : Nat → Int32} {vo bc : Nat → Nat} {r : Nat}
theorem fg_at {tb : Nat → Nat → Int64} {x : Nat} (hx : ∀ i, i < bc x → br x i ≠ x) : ∀ n z w, fgF tb br kd vo bc x r n z w = if z = x ∧ w < n ∧ w &&& r = w then gwF tb br kd vo bc x w else tb z w
  | 0, z, w => by rw [if_neg (fun q => Nat.not_lt_zero _ q.2.1)]; rfl
  | n + 1, z, w => by
    have ih := fg_at (tb := tb) hx n
    simp only [fgF]
    by_cases h : n &&& r = n
    · rw [if_pos h]
      by_cases hz : z = x
      · subst hz
        rw [va_up_self]
        by_cases hw : w = n
        · subst hw
          rw [va_up_self, if_pos ⟨rfl, Nat.lt_succ_self _, h⟩]
          refine gw_congr (fun i hi => ?_)
          rw [ih, if_neg (fun q => hx i hi q.1)]
        · rw [va_up_ne _ _ hw, ih]
          by_cases hc : w < n ∧ w &&& r = w
          · rw [if_pos ⟨rfl, hc⟩, if_pos ⟨rfl, by omega, hc.2⟩]
          · rw [if_neg (fun q => hc q.2), if_neg (fun q => hc ⟨by omega, q.2.2⟩)]
      · rw [va_up_ne _ _ hz, ih, if_neg (fun q => hz q.1), if_neg (fun q => hz q.1)]
    · rw [if_neg h, ih]
      by_cases hc : z = x ∧ w < n ∧ w &&& r = w
      · rw [if_pos hc, if_pos ⟨hc.1, by omega, hc.2.2⟩]
      · rw [if_neg hc, if_neg (fun q => hc ⟨q.1, by
          by_cases e : w = n
          · rw [e] at q; exact absurd q.2.2 h
          · omega, q.2.2⟩)]
theorem fs_evo {tb : Nat → Nat → Int64} {li : Nat → Nat} {w : Nat} (hself : ∀ x i, i < bc x → br x i ≠ x) (hw : w < 64) (hr : w &&& r = w) : ∀ k, (fun z => fsF tb br kd vo bc li r k z w) = evo (fun v g => gwF (fun z _ => v z) br kd vo bc g 0) li (fun z => tb z w) k
  | 0 => rfl
  | k + 1 => by
    have ih := fs_evo (tb := tb) (li := li) hself hw hr k
    funext z
    show fgF (fsF tb br kd vo bc li r k) br kd vo bc (li k) r 64 z w = va_up _ _ _ z
    rw [fg_at (hself (li k)), ← ih]
    by_cases hz : z = li k
    · rw [if_pos ⟨hz, hw, hr⟩, hz, va_up_self]
      exact gw_congr (fun i _ => rfl)
    · rw [if_neg (fun q => hz q.1), va_up_ne _ _ hz]
theorem sub_w {s W : Nat} (hs : s < 4096) (h : s &&& W = s) : s / 2 ^ 6 &&& 63 = s / 2 ^ 6 ∧ s / 2 ^ 6 < 64 ∧ (s / 2 ^ 6 &&& 63) &&& (W / 2 ^ 6) = s / 2 ^ 6 &&& 63 := by
  have e1 : s / 2 ^ 6 < 64 := by omega
  have e2 : s / 2 ^ 6 &&& 63 = s / 2 ^ 6 := by
    rw [show (63 : Nat) = 2 ^ 6 - 1 from rfl, Nat.and_two_pow_sub_one_eq_mod, Nat.mod_eq_of_lt e1]
  refine ⟨e2, e1, ?_⟩
  rw [e2]
  apply Nat.eq_of_testBit_eq
  intro i
  have := congrArg (fun n => Nat.testBit n (6 + i)) h
  simp only [Nat.testBit_and] at this
  rw [Nat.testBit_and, Nat.testBit_div_two_pow, Nat.testBit_div_two_pow, show i + 6 = 6 + i by omega]
  exact this
/-- at every set within, the tables of the gates that were worked are the gates' values -/
theorem fs_ok {tb : Nat → Nat → Int64} {li : Nat → Nat} {n W s : Nat} {Rg : Nat → Prop} {mk : Nat → Nat} (hself : ∀ x i, i < bc x → br x i ≠ x) (hbc : ∀ j, bc j ≤ 10) (hvo : ∀ j, vo j ≤ 10) (hk : ∀ g, Rg g → kd g = nI (mk g - 1) ∧ 1 ≤ mk g ∧ mk g ≤ 3) (ho : ordOK br bc Rg li n) (hs : s < 4096) (hsw : s &&& W = s) :
    (∀ g, Rg g → isT (fsF tb br kd vo bc li (W / 2 ^ 6) n) g s = gB mk vo bc br (fun z => isT (fsF tb br kd vo bc li (W / 2 ^ 6) n) z s) g) ∧ ∀ z, ¬ Rg z → isT (fsF tb br kd vo bc li (W / 2 ^ 6) n) z s = isT tb z s := by
  obtain ⟨o1, o2, o3, o4⟩ := ho
  obtain ⟨e1, e2, e3⟩ := sub_w hs hsw
  have hb : s &&& 63 < 64 := Nat.lt_of_le_of_lt Nat.and_le_right (by decide)
  have he := fs_evo (tb := tb) (li := li) (kd := kd) (vo := vo) (w := s / 2 ^ 6 &&& 63) hself (by rw [e1]; exact e2) e3 n
  obtain ⟨h1, h2⟩ := evo_spec (F := fun v g => gwF (fun z _ => v z) br kd vo bc g 0) (v := fun z => tb z (s / 2 ^ 6 &&& 63)) (fun v v' g h => gw_congr (fun i hi => h i hi)) o3 o4
  rw [← he] at h1 h2
  refine ⟨fun g hg => ?_, fun z hz => ?_⟩
  · obtain ⟨k, hk1, e⟩ := o2 g hg
    have := h1 k hk1
    rw [e] at this
    dsimp only at this
    unfold isT
    rw [this]
    have hkk := hk g hg
    rw [gw_bit hb hkk.1 hkk.2.1 hkk.2.2 (hbc g) (hvo g)]
  · unfold isT
    have := h2 z (fun k hk1 q => hz (by rw [← q]; exact o1 k hk1))
    dsimp only at this
    rw [this]
end FSF
/-! the reference's values -/
section TVG
variable {mk ms mo mb ea oo : Nat → Nat} {my : Nat}
theorem tvG_evo (v : Nat → Nat) : ∀ k, tvG mk ms mo mb oo v k = evo (fun v g => if gvF mk ms mo mb v g = true then 1 else 0) oo v k
  | 0 => rfl
  | k + 1 => by
    simp only [tvG, evo, tvG_evo v k]
theorem sn_tct {v : Nat → Nat} {g : Nat} : ∀ n, (∀ i, i < n → v (mb (10 * g + i)) ≤ 1) → snF v mb g n = tct (fun z => decide (v z = 1)) (fun g i => mb (10 * g + i)) g n
  | 0, _ => rfl
  | n + 1, h => by
    simp only [snF, tct, sn_tct n (fun i hi => h i (by omega))]
    have := h n (Nat.lt_succ_self _)
    rcases (show v (mb (10 * g + n)) = 0 ∨ v (mb (10 * g + n)) = 1 by omega) with e | e <;> rw [e] <;> rfl
theorem gv_gB {v : Nat → Nat} {g : Nat} (h : ∀ i, i < ms g → v (mb (10 * g + i)) ≤ 1) : gvF mk ms mo mb v g = gB mk mo ms (fun g i => mb (10 * g + i)) (fun z => decide (v z = 1)) g := by
  unfold gvF gB
  rw [sn_tct (ms g) h]
theorem sn_congr {v v' : Nat → Nat} {g : Nat} : ∀ n, (∀ i, i < n → v (mb (10 * g + i)) = v' (mb (10 * g + i))) → snF v mb g n = snF v' mb g n
  | 0, _ => rfl
  | n + 1, h => by simp only [snF, sn_congr n (fun i hi => h i (by omega)), h n (Nat.lt_succ_self _)]
theorem tvE_at {s : Nat} {v : Nat → Nat} (hinj : ∀ k j, k < my → j < my → ea k = ea j → k = j) : ∀ n, n ≤ my → ∀ k, k < n → tvE ea my s v n (ea k) = if s.testBit (my - 1 - k) = true then 1 else 0
  | 0, _, k, h => absurd h (Nat.not_lt_zero _)
  | n + 1, hn, k, h => by
    simp only [tvE]
    by_cases e : k = n
    · rw [e, va_up_self]
      have : (s &&& 2 ^ (my - 1 - n) = 0) ↔ ¬ s.testBit (my - 1 - n) = true :=
        ⟨fun q => by rw [tbF q]; decide, fun q => by
          by_cases q2 : s &&& 2 ^ (my - 1 - n) = 0
          · exact q2
          · exact absurd (tbT q2) q⟩
      by_cases ht : s.testBit (my - 1 - n) = true
      · rw [if_neg (fun q => this.mp q ht), if_pos ht]
      · rw [if_pos (this.mpr ht), if_neg ht]
    · rw [va_up_ne _ _ (fun q => e (hinj k n (by omega) (by omega) q))]
      exact tvE_at hinj n (by omega) k (by omega)
theorem taS_at {od x : Nat} {v : Nat → Nat} {h : Nat → Bool} : ∀ n s, s < n → (taS mk ms mo mb ea oo my od x v h n).2 s = decide (tvG mk ms mo mb oo (tvE ea my s (taS mk ms mo mb ea oo my od x v h s).1 my) od x = 1)
  | 0, s, q => absurd q (Nat.not_lt_zero _)
  | n + 1, s, q => by
    simp only [taS]
    by_cases e : s = n
    · rw [e, va_up_self]
    · rw [va_up_ne _ _ e]
      exact taS_at n s (by omega)
end TVG
