/-! the bound, on both sides -/
theorem gs_ls {v mb : Nat → Nat} {br : Nat → Nat → Nat} {g : Nat} : ∀ n, (∀ i, i < n → mb (10 * g + i) = br g i) → gsF v br g n = lsF v mb g n
  | 0, _ => rfl
  | n + 1, h => by
    simp only [gsF, lsF, gs_ls n (fun i hi => h i (by omega)), h n (Nat.lt_succ_self _)]
    unfold mnF
    by_cases q : v (br g n) < (lsF v mb g n).1
    · rw [if_pos q, if_neg (by omega)]
    · rw [if_neg q, if_pos (by omega)]
theorem gs_le {v : Nat → Nat} {br : Nat → Nat → Nat} {g : Nat} : ∀ n, (gsF v br g n).1 ≤ 2520
  | 0 => Nat.le_refl _
  | n + 1 => by
    have := gs_le (v := v) (br := br) (g := g) n
    simp only [gsF, mnF]
    split <;> omega
theorem gs_congr {v v' : Nat → Nat} {br : Nat → Nat → Nat} {g : Nat} : ∀ n, (∀ i, i < n → v (br g i) = v' (br g i)) → gsF v br g n = gsF v' br g n
  | 0, _ => rfl
  | n + 1, h => by simp only [gsF, gs_congr n (fun i hi => h i (by omega)), h n (Nat.lt_succ_self _)]
theorem gb_congr {v v' : Nat → Nat} {br : Nat → Nat → Nat} {bc vo : Nat → Nat} {kd : Nat → Int32} {g : Nat} (h : ∀ i, i < bc g → v (br g i) = v' (br g i)) : gbF v br bc vo kd g = gbF v' br bc vo kd g := by
  unfold gbF
  rw [gs_congr (bc g) h]
theorem mn_cap (y : Nat) : (if y < 2520 then y else 2520) = mnF y 2520 := by
  unfold mnF
  by_cases h : y < 2520
  · rw [if_pos h, if_pos (by omega)]
  · by_cases h2 : y ≤ 2520
    · rw [if_neg h, if_pos h2]; omega
    · rw [if_neg h, if_neg h2]
theorem mn_le (y : Nat) : mnF y 2520 ≤ 2520 := by
  unfold mnF
  split <;> omega
theorem ng_gb {v mb : Nat → Nat} {br : Nat → Nat → Nat} {bc vo mk : Nat → Nat} {kd : Nat → Int32} {g : Nat} (hm : ∀ i, i < bc g → mb (10 * g + i) = br g i) (hk : kd g = nI (mk g - 1)) (h1 : 1 ≤ mk g) (h3 : mk g ≤ 3) (hv : mk g = 3 → 0 < vo g) : (if ngF mk vo bc mb v g < 2520 then ngF mk vo bc mb v g else 2520) = gbF v br bc vo kd g := by
  rw [mn_cap]
  unfold ngF gbF
  rw [← gs_ls (bc g) hm, hk]
  rcases (show mk g = 1 ∨ mk g = 2 ∨ mk g = 3 by omega) with e | e | e
  · rw [e, if_pos (show (1 : Nat) = 1 from rfl), if_pos (show nI (1 - 1) = 0 by decide)]
    have := gs_le (v := v) (br := br) (g := g) (bc g)
    unfold mnF
    rw [if_pos this]
  · rw [e, if_neg (show ¬ (2 : Nat) = 1 by decide), if_pos (show (2 : Nat) = 2 from rfl), if_neg (show ¬ nI (2 - 1) = 0 by decide), if_neg (fun q => absurd q.1 (by decide))]
  · rw [e, if_neg (show ¬ (3 : Nat) = 1 by decide), if_neg (show ¬ (3 : Nat) = 2 by decide), if_neg (show ¬ nI (3 - 1) = 0 by decide), if_pos ⟨by decide, hv e⟩]
theorem gb_le {v : Nat → Nat} {br : Nat → Nat → Nat} {bc vo : Nat → Nat} {kd : Nat → Int32} {g : Nat} : gbF v br bc vo kd g ≤ 2520 := by
  unfold gbF
  split
  · exact gs_le _
  · split
    · exact mn_le _
    · exact mn_le _
theorem bg_evo {br : Nat → Nat → Nat} {bc vo : Nat → Nat} {kd : Nat → Int32} {li ob : Nat → Nat} : ∀ n, bgF br bc vo kd li ob n = evo (fun v g => gbF v br bc vo kd g) li ob n
  | 0 => rfl
  | n + 1 => by simp only [bgF, evo, bg_evo n]
theorem vg_evo {mk mo ms mb oo v : Nat → Nat} : ∀ n, vgF mk mo ms mb oo v n = evo (fun v g => if ngF mk mo ms mb v g < 2520 then ngF mk mo ms mb v g else 2520) oo v n
  | 0 => rfl
  | n + 1 => by simp only [vgF, evo, vg_evo n]
theorem be_at {eb en ob : Nat → Nat} : ∀ n z, (∃ i, i < n ∧ en i = z) → beF eb en ob n z = eb z
  | 0, z, ⟨i, hi, _⟩ => absurd hi (Nat.not_lt_zero _)
  | n + 1, z, ⟨i, hi, e⟩ => by
    simp only [beF]
    by_cases q : z = en n
    · rw [q, va_up_self]
    · rw [va_up_ne _ _ q]
      exact be_at n z ⟨i, by
        rcases Nat.lt_or_ge i n with h | h
        · exact h
        · exact absurd (by rw [← e, show i = n by omega]) q, e⟩
theorem vb_at {bd ea v : Nat → Nat} : ∀ n z, (∃ i, i < n ∧ ea i = z) → vbF bd ea v n z = bd z
  | 0, z, ⟨i, hi, _⟩ => absurd hi (Nat.not_lt_zero _)
  | n + 1, z, ⟨i, hi, e⟩ => by
    simp only [vbF]
    by_cases q : z = ea n
    · rw [q, va_up_self]
    · rw [va_up_ne _ _ q]
      exact vb_at n z ⟨i, by
        rcases Nat.lt_or_ge i n with h | h
        · exact h
        · exact absurd (by rw [← e, show i = n by omega]) q, e⟩
theorem evo_le {F : (Nat → Nat) → Nat → Nat} {od v : Nat → Nat} {B : Nat} (hF : ∀ v g, F v g ≤ B) (hv : ∀ j, v j ≤ B) : ∀ n j, evo F od v n j ≤ B
  | 0, j => hv j
  | n + 1, j => by
    show va_up _ _ _ j ≤ B
    simp only [va_up]
    split
    · exact hF _ _
    · exact evo_le hF hv n j
theorem be_le {eb en ob : Nat → Nat} {B : Nat} (he : ∀ z, eb z ≤ B) (hv : ∀ j, ob j ≤ B) : ∀ n j, beF eb en ob n j ≤ B
  | 0, j => hv j
  | n + 1, j => by
    show va_up _ _ _ j ≤ B
    simp only [va_up]
    split
    · exact he _
    · exact be_le he hv n j
theorem vb_le {bd ea v : Nat → Nat} {B : Nat} (he : ∀ z, bd z ≤ B) (hv : ∀ j, v j ≤ B) : ∀ n j, vbF bd ea v n j ≤ B
  | 0, j => hv j
  | n + 1, j => by
    show va_up _ _ _ j ≤ B
    simp only [va_up]
    split
    · exact he _
    · exact vb_le he hv n j
section BND
variable {nc nv ng : Nat} {kd : Nat → Int32} {vo nu nd en : Nat → Nat} {br : Nat → Nat → Nat} {bc un eu : Nat → Nat} {tb : Nat → Nat → Int64} {mn mv mg : Nat} {mk mo mu md ms mb : Nat → Nat} {cc0 : Nat} {cp cu cd : Nat → Nat} {mc : Nat} {m1 m2 m3 m4 : Nat → Nat}
theorem it_apart (h : ITr nc nv ng kd vo nu nd en br bc un eu tb mn mv mg mk mo mu md ms mb) {e f : Nat} (e1 : 1 ≤ e) (e2 : e ≤ nc) (e0 : mk e = 0) (f1 : 1 ≤ f) (f2 : f ≤ nc) (f0 : mk f = 0) : eu e &&& eu f = 0 ↔ e ≠ f := by
  obtain ⟨i, i1, i2, i3⟩ := it_evno h e1 e2 e0
  obtain ⟨j, j1, j2, j3⟩ := it_evno h f1 f2 f0
  have hnv : nv ≤ 12 := by
    obtain ⟨-, -, -, -, -, -, -, -, -, h_nv, -, -, -, -, -, -, -, -, -, -, -, -, -, -, -, -, -, -, -, -, -, -⟩ := h
    exact h_nv
  rw [i3, j3, and_pow0, Nat.testBit_two_pow, decide_eq_false_iff_not]
  constructor
  · intro q q2
    rw [← i2, ← j2] at q2
    have a := (it_en h i1).2.2.2
    have b := (it_en h j1).2.2.2
    rw [q2, b] at a
    omega
  · intro q q2
    exact q (by rw [← i2, ← j2, show i = j by omega])
theorem it_eb (h : ITr nc nv ng kd vo nu nd en br bc un eu tb mn mv mg mk mo mu md ms mb) (hc : ICs cc0 cp cu cd nc eu mk mc m1 m2 m3 m4) {e : Nat} (e1 : 1 ≤ e) (e2 : e ≤ nc) (e0 : mk e = 0) : ebF nu nd eu cp cu cd e cc0 = boF nu nd m1 m2 cu cd e cc0 := by
  have hap : ∀ f, 1 ≤ f → f ≤ nc → mk f = 0 → (eu f &&& eu e = 0 ↔ f ≠ e) := fun f f1 f2 f0 => it_apart h f1 f2 f0 e1 e2 e0
  have hnd : 0 < nd e := by
    obtain ⟨-, -, -, -, -, -, -, -, -, -, -, -, -, -, -, -, -, -, -, -, -, -, -, -, -, -, -, -, -, h_ndp, -, -⟩ := h
    exact h_ndp e e0 e1 e2
  obtain ⟨-, -, -, -, hcp, -⟩ := hc
  have key : ∀ n, n ≤ cc0 → ebF nu nd eu cp cu cd e n = boF nu nd m1 m2 cu cd e n := by
    intro n
    induction n with
    | zero =>
      intro _
      show ipF (nu e) (nd e) = nu e * (2520 / nd e)
      unfold ipF
      rw [if_neg (by omega)]
    | succ n ih =>
      intro hn
      obtain ⟨q1, q2, q3, q4, q5, q6, q7, q8⟩ := hcp n (by omega)
      simp only [ebF, boF, ih (by omega)]
      have hz : cp n &&& eu e = 0 ↔ ¬ (m1 n = e ∨ m2 n = e) := by
        rw [q1, Nat.and_or_distrib_right, Nat.or_eq_zero_iff, hap _ q2 q3 q4, hap _ q5 q6 q7]
        constructor
        · intro q q'
          rcases q' with q' | q'
          · exact q.1 q'
          · exact q.2 q'
        · intro q
          exact ⟨fun r => q (Or.inl r), fun r => q (Or.inr r)⟩
      by_cases h0 : cp n &&& eu e = 0
      · rw [if_pos h0, if_neg (hz.mp h0)]
        omega
      · rw [if_neg h0, if_pos (by
          by_cases q : m1 n = e ∨ m2 n = e
          · exact q
          · exact absurd (hz.mpr q) h0)]
        unfold ipF
        rw [if_neg (by omega)]
  exact key cc0 (Nat.le_refl _)
/-- THE BOUND -/
theorem it_bound (h : ITr nc nv ng kd vo nu nd en br bc un eu tb mn mv mg mk mo mu md ms mb) (hc : ICs cc0 cp cu cd nc eu mk mc m1 m2 m3 m4) {x : Nat} (h1 : 1 ≤ x) (h2 : x ≤ nc) (li ob : Nat → Nat) (ud dn : Nat → Bool) (ea oo va : Nat → Nat) :
    vgF mk mo ms mb (pW mk mb ms mn ud dn ea oo x).2.2 (vbF (bdF mu md m1 m2 m3 m4 mc) (pE mk mb ms mn ud dn ea x).2.2 va (pE mk mb ms mn ud dn ea x).2.1) (pW mk mb ms mn ud dn ea oo x).2.1 x =
    bgF br bc vo kd (luS (luC nc kd un x) nc (0, li) 33).2 (beF (fun z => mnF (ebF nu nd eu cp cu cd z cc0) 2520) en ob nv) (luS (luC nc kd un x) nc (0, li) 33).1 x := by
  obtain ⟨v1, v2, v3, v4⟩ := it_events h h1 h2 ud dn ea
  obtain ⟨r1, r2, r3, r4⟩ := it_ordR h h1 h2 ud dn ea oo
  obtain ⟨s1, s2, s3, s4⟩ := it_ordS h h1 h2 li
  have hrg : ∀ {y : Nat}, rcS br bc x y → 1 ≤ y ∧ y ≤ nc := fun {y} q => it_range h h1 h2 q
  have hm := it_brm h
  have hlt := it_lt64 h
  have heb : ∀ e, 1 ≤ e → e ≤ nc → mk e = 0 → ebF nu nd eu cp cu cd e cc0 = boF nu nd m1 m2 cu cd e cc0 := fun e e1 e2 e0 => it_eb h hc e1 e2 e0
  have hno : ∀ e, 1 ≤ e → e ≤ nc → mk e = 0 → ∃ i, i < nv ∧ en i = e ∧ eu e = 2 ^ (11 - i) := fun e e1 e2 e0 => it_evno h e1 e2 e0
  obtain ⟨e_mn, -, -, e_mo, e_mu, e_md, e_ms, -, -, -, -, h_mk, h_kd, -, -, -, -, -, -, -, -, -, -, -, -, -, h_vop, -, -, -, -, -⟩ := h
  subst e_ms
  subst e_mo
  subst e_mu
  subst e_md
  obtain ⟨q0, -, q3, q4, -⟩ := hc
  subst q0
  subst q3
  subst q4
  rw [vg_evo, bg_evo, v1]
  generalize (pE mk mb ms mn ud dn ea x).2.2 = ea' at v2 v3 v4 ⊢
  generalize (pW mk mb ms mn ud dn ea oo x).2.2 = oo' at r1 r2 r3 r4 ⊢
  generalize (pW mk mb ms mn ud dn ea oo x).2.1 = od' at r1 r2 r3 r4 ⊢
  generalize (luS (luC nc kd un x) nc (0, li) 33).2 = li' at s1 s2 s3 s4 ⊢
  generalize (luS (luC nc kd un x) nc (0, li) 33).1 = ln' at s1 s2 s3 s4 ⊢
  have hngc : ∀ (v v' : Nat → Nat) (g : Nat), (∀ i, i < ms g → v (br g i) = v' (br g i)) → ngF mk mo ms mb v g = ngF mk mo ms mb v' g := by
    intro v v' g hv
    unfold ngF
    rw [← gs_ls (ms g) (fun i hi => hm g i hi), ← gs_ls (ms g) (fun i hi => hm g i hi), gs_congr (ms g) hv]
  obtain ⟨t1, t2⟩ := evo_spec (n := od') (od := oo') (br := br) (bc := ms) (F := fun v g => if ngF mk mo ms mb v g < 2520 then ngF mk mo ms mb v g else 2520) (v := vbF (bdF mu md m1 m2 m3 m4 mc) ea' va (popc (eu x) 12)) (fun v v' g hv => by simp only [hngc v v' g hv]) r3 r4
  obtain ⟨w1, w2⟩ := evo_spec (n := ln') (od := li') (br := br) (bc := ms) (F := fun v g => gbF v br ms mo kd g) (v := beF (fun z => mnF (ebF mu md eu cp m3 m4 z mc) 2520) en ob nv) (fun v v' g hv => gb_congr hv) s3 s4
  generalize evo (fun v g => if ngF mk mo ms mb v g < 2520 then ngF mk mo ms mb v g else 2520) oo' (vbF (bdF mu md m1 m2 m3 m4 mc) ea' va (popc (eu x) 12)) od' = V at t1 t2 ⊢
  generalize evo (fun v g => gbF v br ms mo kd g) li' (beF (fun z => mnF (ebF mu md eu cp m3 m4 z mc) 2520) en ob nv) ln' = U at w1 w2 ⊢
  refine uq (α := Nat) (F := fun v g => gbF v br ms mo kd g) (br := br) (bc := ms) (fun v v' g hv => gb_congr hv) (fun j => popc (un j) 64) (fun a i hi => hlt a i hi) V U _ x (Nat.lt_succ_self _) (fun z hz => ?_)
  obtain ⟨z1, z2⟩ := hrg hz
  by_cases hz0 : mk z = 0
  · left
    obtain ⟨c, c1, c2, -⟩ := v2 z hz hz0
    obtain ⟨i, i1, i2, -⟩ := hno z z1 z2 hz0
    rw [t2 z (fun k hk e => (r1 k hk).2 (by rw [e]; exact hz0)), w2 z (fun k hk e => (s1 k hk).2 (by rw [e]; exact hz0)), vb_at _ z ⟨c, c1, c2⟩, be_at nv z ⟨i, i1, i2⟩]
    unfold bdF
    rw [mn_cap, heb z z1 z2 hz0]
  · right
    obtain ⟨k, hk, e⟩ := r2 z ⟨hz, hz0⟩
    obtain ⟨j, hj, e'⟩ := s2 z ⟨hz, hz0⟩
    have a := t1 k hk
    have b := w1 j hj
    rw [e] at a
    rw [e'] at b
    refine ⟨?_, b⟩
    have hkz := h_kd z z1 z2
    rw [if_neg hz0] at hkz
    rw [a]
    exact ng_gb (fun i hi => hm z i hi) hkz (by omega) (h_mk z) (fun q => h_vop z q z1 z2)
end BND
