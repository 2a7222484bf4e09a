/-! the chance, exactly: mixing and spreading -/
def exO : List (Nat × Nat × Nat) → (Nat → Nat) → Nat → Nat
  | [], f, s => f s
  | o :: t, f, s => (o.2.2 - o.2.1) * exO t f s + o.2.1 * exO t f (s ||| o.1)
def dPr : List (Nat × Nat × Nat) → Nat
  | [] => 1
  | o :: t => dPr t * o.2.2
theorem exO_swap (o o' : Nat × Nat × Nat) (t : List (Nat × Nat × Nat)) (f : Nat → Nat) (s : Nat) : exO (o :: o' :: t) f s = exO (o' :: o :: t) f s := by
  simp only [exO]
  rw [show s ||| o.1 ||| o'.1 = s ||| o'.1 ||| o.1 by rw [Nat.or_assoc, Nat.or_comm o.1, ← Nat.or_assoc]]
  generalize exO t f s = p
  generalize exO t f (s ||| o.1) = q
  generalize exO t f (s ||| o'.1) = r
  generalize exO t f (s ||| o'.1 ||| o.1) = w
  generalize o.2.2 - o.2.1 = A
  generalize o'.2.2 - o'.2.1 = B
  generalize o.2.1 = u
  generalize o'.2.1 = v
  rw [Nat.mul_add, Nat.mul_add, Nat.mul_add, Nat.mul_add, Nat.mul_left_comm A B, Nat.mul_left_comm A v, Nat.mul_left_comm u B, Nat.mul_left_comm u v]
  omega
theorem exO_perm {L L' : List (Nat × Nat × Nat)} (h : L.Perm L') (f : Nat → Nat) : ∀ s, exO L f s = exO L' f s := by
  induction h with
  | nil => intro s; rfl
  | cons o _ ih => intro s; simp only [exO, ih]
  | swap o o' t => intro s; exact exO_swap o' o t f s
  | trans _ _ i1 i2 => intro s; rw [i1, i2]
theorem dPr_perm {L L' : List (Nat × Nat × Nat)} (h : L.Perm L') : dPr L = dPr L' := by
  induction h with
  | nil => rfl
  | cons o _ ih => simp only [dPr, ih]
  | swap o o' t =>
    simp only [dPr]
    rw [Nat.mul_assoc, Nat.mul_comm o.2.2, ← Nat.mul_assoc]
  | trans _ _ i1 i2 => rw [i1, i2]
theorem exO_snoc (o : Nat × Nat × Nat) (f : Nat → Nat) : ∀ (L : List (Nat × Nat × Nat)) (s : Nat), exO (L ++ [o]) f s = exO L (fun s => (o.2.2 - o.2.1) * f s + o.2.1 * f (s ||| o.1)) s
  | [], s => rfl
  | a :: t, s => by
    show (a.2.2 - a.2.1) * exO (t ++ [o]) f s + a.2.1 * exO (t ++ [o]) f (s ||| a.1) = _
    rw [exO_snoc o f t, exO_snoc o f t]
    rfl
theorem dPr_snoc (o : Nat × Nat × Nat) : ∀ L : List (Nat × Nat × Nat), dPr (L ++ [o]) = dPr L * o.2.2
  | [] => rfl
  | a :: t => by
    show dPr (t ++ [o]) * a.2.2 = dPr t * a.2.2 * o.2.2
    rw [dPr_snoc o t, Nat.mul_assoc, Nat.mul_comm o.2.2, ← Nat.mul_assoc]
theorem exO_le {f : Nat → Nat} (hf : ∀ s, f s ≤ 1) : ∀ (L : List (Nat × Nat × Nat)), (∀ o ∈ L, o.2.1 ≤ o.2.2) → ∀ s, exO L f s ≤ dPr L
  | [], _, s => hf s
  | o :: t, h, s => by
    have ih := exO_le hf t (fun a ha => h a (List.mem_cons_of_mem _ ha))
    have ho := h o List.mem_cons_self
    show (o.2.2 - o.2.1) * exO t f s + o.2.1 * exO t f (s ||| o.1) ≤ dPr t * o.2.2
    have h1 := Nat.mul_le_mul_left (o.2.2 - o.2.1) (ih s)
    have h2 := Nat.mul_le_mul_left o.2.1 (ih (s ||| o.1))
    have h3 : (o.2.2 - o.2.1) * dPr t + o.2.1 * dPr t = dPr t * o.2.2 := by
      rw [← Nat.add_mul, Nat.sub_add_cancel ho, Nat.mul_comm]
    omega
theorem dPr_pos : ∀ (L : List (Nat × Nat × Nat)), (∀ o ∈ L, 0 < o.2.2) → 0 < dPr L
  | [], _ => Nat.one_pos
  | o :: t, h => Nat.mul_pos (dPr_pos t (fun a ha => h a (List.mem_cons_of_mem _ ha))) (h o List.mem_cons_self)
theorem dPr_le : ∀ (L : List (Nat × Nat × Nat)), (∀ o ∈ L, o.2.2 ≤ 10) → dPr L ≤ 10 ^ L.length
  | [], _ => Nat.le_refl _
  | o :: t, h => by
    show dPr t * o.2.2 ≤ 10 ^ (t.length + 1)
    rw [Nat.pow_succ]
    exact Nat.mul_le_mul (dPr_le t (fun a ha => h a (List.mem_cons_of_mem _ ha))) (h o List.mem_cons_self)
/-- the same mixing in another picture of the sets -/
theorem exO_map {φ : Nat → Nat} {f g : Nat → Nat} {M : Nat} (hφ : ∀ s b, φ (s ||| b) = φ s ||| φ b) (hfg : ∀ s, s < M → f s = g (φ s)) (hor : ∀ s b, s < M → b < M → s ||| b < M) : ∀ (L : List (Nat × Nat × Nat)), (∀ o ∈ L, o.1 < M) → ∀ s, s < M → exO L f s = exO (L.map (fun o => (φ o.1, o.2))) g (φ s)
  | [], _, s, hs => hfg s hs
  | o :: t, h, s, hs => by
    have ih := exO_map hφ hfg hor t (fun a ha => h a (List.mem_cons_of_mem _ ha))
    show (o.2.2 - o.2.1) * exO t f s + o.2.1 * exO t f (s ||| o.1) = (o.2.2 - o.2.1) * exO (t.map _) g (φ s) + o.2.1 * exO (t.map _) g (φ s ||| φ o.1)
    rw [ih s hs, ih (s ||| o.1) (hor s o.1 hs (h o List.mem_cons_self)), hφ]
theorem dPr_map (φ : Nat → Nat) : ∀ (L : List (Nat × Nat × Nat)), dPr (L.map (fun o => (φ o.1, o.2))) = dPr L
  | [] => rfl
  | o :: t => by
    show dPr (t.map _) * o.2.2 = dPr t * o.2.2
    rw [dPr_map φ t]
theorem pd_or {w s t : Nat} : pd 12 w (s ||| t) = pd 12 w s ||| pd 12 w t := by
  apply Nat.eq_of_testBit_eq
  intro p
  rw [pd_tb, Nat.testBit_or, Nat.testBit_or, pd_tb, pd_tb]
  cases decide (p < 12) <;> cases w.testBit p <;> simp
/-! the class's mixing -/
theorem mx_at {w ad u d : Nat} {ow : Nat → Nat} : ∀ n, n ≤ 2 ^ popc w 12 → (∀ i, i < n → mxF w ad u d ow n (pd 12 w i) = (d - u) * ow (pd 12 w i) + u * ow (pd 12 w i ||| ad)) ∧ ∀ s, (∀ i, i < n → s ≠ pd 12 w i) → mxF w ad u d ow n s = ow s
  | 0, _ => ⟨fun i h => absurd h (Nat.not_lt_zero _), fun s _ => rfl⟩
  | n + 1, hn => by
    obtain ⟨i1, i2⟩ := mx_at (w := w) (ad := ad) (u := u) (d := d) (ow := ow) n (by omega)
    have hnew : ∀ i, i < n → pd 12 w n ≠ pd 12 w i := fun i hi q => by have := pd_inj (by omega) (by omega) q; omega
    have e1 : mxF w ad u d ow n (pd 12 w n) = ow (pd 12 w n) := i2 _ hnew
    have e2 : mxF w ad u d ow n (pd 12 w n ||| ad) = ow (pd 12 w n ||| ad) := by
      refine i2 _ (fun i hi q => ?_)
      have hsub : n &&& i = n := sub_and (fun r hr => by
        have hr2 : r < popc w 12 := by
          rcases Nat.lt_or_ge r (popc w 12) with h | h
          · exact h
          · have h3 := Nat.ge_two_pow_of_testBit hr
            have := Nat.pow_le_pow_right (n := 2) (by decide) h
            omega
        obtain ⟨p, p1, p2, p3⟩ := popc_on 12 r hr2
        have := congrArg (fun v => Nat.testBit v p) q
        simp only [Nat.testBit_or, pd_tb, p2, p3, hr, decide_eq_true p1, Bool.true_and, Bool.true_or] at this
        exact this.symm)
      have : n &&& i ≤ i := Nat.and_le_right
      omega
    refine ⟨fun i hi => ?_, fun s hs => ?_⟩
    · show va_up _ _ _ _ = _
      by_cases e : i = n
      · rw [e, va_up_self, e1, e2]
      · rw [va_up_ne _ _ (fun q => hnew i (by omega) q.symm)]
        exact i1 i (by omega)
    · show va_up _ _ _ _ = _
      rw [va_up_ne _ _ (hs n (Nat.lt_succ_self _))]
      exact i2 s (fun i hi => hs i (by omega))
theorem pd_all {w s : Nat} (hw : w < 4096) (h : s &&& w = s) : ∃ k, k < 2 ^ popc w 12 ∧ s = pd 12 w k := by
  have go : ∀ (f w s : Nat), s < 2 ^ f → s &&& w = s → ∃ k, k < 2 ^ popc w f ∧ s = pd f w k := by
    intro f
    induction f with
    | zero => intro w s hs _; exact ⟨0, by simp [popc], by rw [show s = 0 by omega]; rfl⟩
    | succ f ih =>
      intro w s hs hsw
      have h2 : (s / 2) &&& (w / 2) = s / 2 := by
        apply Nat.eq_of_testBit_eq
        intro i
        rw [Nat.testBit_and, ← Nat.testBit_succ, ← Nat.testBit_succ, ← Nat.testBit_and, hsw]
      obtain ⟨k, hk, e⟩ := ih (w / 2) (s / 2) (by rw [Nat.pow_succ] at hs; omega) h2
      have hp : popc w (f + 1) = popc (w / 2) f + w % 2 := by
        have := popc_2 (w / 2) (w % 2) (Nat.mod_lt w (by decide)) f
        rw [show 2 * (w / 2) + w % 2 = w by omega] at this
        exact this
      by_cases hb : w % 2 = 1
      · refine ⟨2 * k + s % 2, ?_, ?_⟩
        · rw [hp, hb, Nat.pow_succ]
          omega
        · simp only [pd, if_pos hb]
          rw [show (2 * k + s % 2) / 2 = k by omega, show (2 * k + s % 2) % 2 = s % 2 by omega, ← e]
          omega
      · refine ⟨k, ?_, ?_⟩
        · rw [hp, show w % 2 = 0 by omega]
          exact hk
        · simp only [pd, if_neg hb]
          rw [← e]
          have h0 : s % 2 = 0 := by
            have h3 : s.testBit 0 = true → w.testBit 0 = true := fun q => and_sub hsw q
            rw [Nat.testBit_zero, Nat.testBit_zero] at h3
            simp only [decide_eq_true_eq] at h3
            omega
          omega
  have hs : s < 2 ^ 12 := by
    have : s &&& w ≤ w := Nat.and_le_right
    rw [h] at this
    show s < 4096
    omega
  exact go 12 w s hs h
theorem mx_full {w ad u d : Nat} {ow : Nat → Nat} (hw : w < 4096) {s : Nat} (h : s &&& w = s) : mxF w ad u d ow (2 ^ popc w 12) s = (d - u) * ow s + u * ow (s ||| ad) := by
  obtain ⟨k, hk, e⟩ := pd_all hw h
  rw [e]
  exact (mx_at _ (Nat.le_refl _)).1 k hk
def opC (W : Nat) (cp cu cd : Nat → Nat) : Nat → List (Nat × Nat × Nat)
  | 0 => []
  | i + 1 => if cp i &&& W = 0 then opC W cp cu cd i else (cp i &&& W, cu i, cd i) :: opC W cp cu cd i
def opE (W : Nat) (en eu nu nd : Nat → Nat) : Nat → List (Nat × Nat × Nat)
  | 0 => []
  | i + 1 => if W &&& eu (en i) = 0 then opE W en eu nu nd i else (eu (en i), nu (en i), nd (en i)) :: opE W en eu nu nd i
theorem or_in {a b W : Nat} (ha : a &&& W = a) (hb : b &&& W = b) : (a ||| b) &&& W = a ||| b := sub_and (fun p hp => by
  rw [Nat.testBit_or, Bool.or_eq_true] at hp
  rcases hp with q | q
  · exact and_sub ha q
  · exact and_sub hb q)
theorem ce_exO {W : Nat} {cp cu cd m0 F : Nat → Nat} (hW : W < 4096) (h0 : ∀ s, s &&& W = s → m0 s = F s) : ∀ n, (∀ s, s &&& W = s → (ceF W cp cu cd m0 n).1 s = exO (opC W cp cu cd n) F s) ∧ (ceF W cp cu cd m0 n).2 = dPr (opC W cp cu cd n)
  | 0 => ⟨h0, rfl⟩
  | n + 1 => by
    obtain ⟨i1, i2⟩ := ce_exO (cp := cp) (cu := cu) (cd := cd) hW h0 n
    simp only [ceF, opC]
    by_cases hz : cp n &&& W = 0
    · rw [if_pos hz, if_pos hz]
      exact ⟨i1, i2⟩
    · rw [if_neg hz, if_neg hz]
      refine ⟨fun s hs => ?_, by show _ * _ = _; rw [i2]; rfl⟩
      show mxF _ _ _ _ _ _ s = _
      rw [mx_full hW hs, i1 s hs, i1 _ (or_in hs (by rw [Nat.and_assoc, Nat.and_self]))]
      rfl
theorem ev_exO {W : Nat} {en eu nu nd F : Nat → Nat} {s0 : (Nat → Nat) × Nat} {L : List (Nat × Nat × Nat)} {nv : Nat} (hW : W < 4096) (hnv : nv ≤ 12) (heu : ∀ i, i < nv → eu (en i) = 2 ^ (11 - i)) (h0 : ∀ s, s &&& W = s → s0.1 s = exO L F s) (h1 : s0.2 = dPr L) : ∀ n, n ≤ nv →
    (evF W en eu nu nd s0 n).2.2 &&& W = (evF W en eu nu nd s0 n).2.2 ∧ (∀ p, p < 12 - n → (evF W en eu nu nd s0 n).2.2.testBit p = W.testBit p) ∧ (∀ s, s &&& (evF W en eu nu nd s0 n).2.2 = s → (evF W en eu nu nd s0 n).1 s = exO (opE W en eu nu nd n ++ L) F s) ∧ (evF W en eu nu nd s0 n).2.1 = dPr (opE W en eu nu nd n ++ L)
  | 0, _ => ⟨Nat.and_self _, fun _ _ => rfl, h0, h1⟩
  | n + 1, hn => by
    obtain ⟨i1, i2, i3, i4⟩ := ev_exO (F := F) (nu := nu) (nd := nd) hW hnv heu h0 h1 n (by omega)
    have hb := heu n (by omega)
    simp only [evF, opE]
    rw [hb]
    by_cases hz : W &&& 2 ^ (11 - n) = 0
    · rw [if_pos hz, if_pos hz]
      exact ⟨i1, fun p hp => i2 p (by omega), i3, i4⟩
    · rw [if_neg hz, if_neg hz]
      have hbit := i2 (11 - n) (by omega)
      rw [tbT hz] at hbit
      generalize hr : (evF W en eu nu nd s0 n).2.2 = r at i1 i2 i3 hbit ⊢
      have hrx : ∀ p, (r ^^^ 2 ^ (11 - n)).testBit p = (r.testBit p && !(decide (11 - n = p))) := by
        intro p
        rw [Nat.testBit_xor, Nat.testBit_two_pow]
        by_cases e : 11 - n = p
        · rw [← e, hbit]; simp
        · rw [decide_eq_false e]; simp
      have hsubr : ∀ s, s &&& (r ^^^ 2 ^ (11 - n)) = s → s &&& r = s := fun s hs => sub_and (fun p hp => by
        have := and_sub hs hp
        rw [hrx, Bool.and_eq_true] at this
        exact this.1)
      have hrW : r ^^^ 2 ^ (11 - n) < 4096 := by
        have hr4 : r < 4096 := by
          have : r &&& W ≤ W := Nat.and_le_right
          rw [i1] at this
          omega
        exact lt_xor (m := 12) hr4 (by omega)
      refine ⟨sub_and (fun p hp => ?_), fun p hp => ?_, fun s hs => ?_, ?_⟩
      · rw [hrx, Bool.and_eq_true] at hp
        exact and_sub i1 hp.1
      · show (r ^^^ 2 ^ (11 - n)).testBit p = _
        rw [hrx, i2 p (by omega), decide_eq_false (show ¬ 11 - n = p by omega)]
        simp
      · show mxF _ _ _ _ _ _ s = _
        have hs' : s &&& (r ^^^ 2 ^ (11 - n)) = s := hs
        have hsr := hsubr s hs'
        have hbr : (2 ^ (11 - n)) &&& r = 2 ^ (11 - n) := sub_and (fun p hp => by
          rw [Nat.testBit_two_pow, decide_eq_true_eq] at hp
          rw [← hp]; exact hbit)
        rw [mx_full hrW hs', i3 s hsr, i3 _ (or_in hsr hbr)]
        rfl
      · show _ * _ = _
        rw [i4]
        rfl
theorem ws_at {tb : Nat → Nat → Int64} {x w : Nat} {ow : Nat → Nat} : ∀ n, n ≤ 2 ^ popc w 12 → ∀ i, i < n → wsF tb x w ow n (pd 12 w i) = if isT tb x (pd 12 w i) = true then 1 else 0
  | 0, _, i, h => absurd h (Nat.not_lt_zero _)
  | n + 1, hn, i, h => by
    show va_up _ _ _ _ = _
    by_cases e : i = n
    · rw [e, va_up_self]
    · rw [va_up_ne _ _ (fun q => e (pd_inj (by omega) (by omega) q))]
      exact ws_at n (by omega) i (by omega)
/-! the reference's spreading -/
def sgF (w G : Nat → Nat) : Nat → Nat
  | 0 => 0
  | s + 1 => sgF w G s + w s * G s
theorem sg_congr {w w' G G' : Nat → Nat} : ∀ n, (∀ s, s < n → w s * G s = w' s * G' s) → sgF w G n = sgF w' G' n
  | 0, _ => rfl
  | n + 1, h => by simp only [sgF, sg_congr n (fun s hs => h s (by omega)), h n (Nat.lt_succ_self _)]
/-- one place changed -/
theorem sg_up {w G : Nat → Nat} {k v : Nat} : ∀ n, k < n → sgF (va_up w k v) G n + w k * G k = sgF w G n + v * G k
  | 0, h => absurd h (Nat.not_lt_zero _)
  | n + 1, h => by
    simp only [sgF]
    by_cases e : n = k
    · subst e
      rw [va_up_self, sg_congr (w' := w) (G' := G) n (fun s hs => by rw [va_up_ne _ _ (by omega)])]
      omega
    · rw [va_up_ne _ _ e]
      have := sg_up (w := w) (G := G) (k := k) (v := v) n (by omega)
      omega
theorem sg_gup {w G : Nat → Nat} {k v : Nat} : ∀ n, k < n → sgF w (va_up G k v) n + w k * G k = sgF w G n + w k * v
  | 0, h => absurd h (Nat.not_lt_zero _)
  | n + 1, h => by
    simp only [sgF]
    by_cases e : n = k
    · subst e
      rw [va_up_self, sg_congr (w' := w) (G' := G) n (fun s hs => by rw [va_up_ne _ _ (by omega)])]
      omega
    · rw [va_up_ne _ _ e]
      have := sg_gup (w := w) (G := G) (k := k) (v := v) n (by omega)
      omega
/-- first the sets that hold the bits already: multiplied -/
theorem spA_at {M bits d : Nat} {wt : Nat → Nat} : ∀ n, n ≤ M → ∀ s, spA M bits d wt n s = if s < M ∧ M ≤ s + n ∧ s ||| bits = s then wt s * d else wt s
  | 0, _, s => by rw [if_neg (by omega)]; rfl
  | n + 1, hn, s => by
    have ih := spA_at (M := M) (bits := bits) (d := d) (wt := wt) n (by omega)
    simp only [spA]
    by_cases hb : (M - 1 - n) ||| bits = M - 1 - n
    · rw [if_pos hb]
      by_cases e : s = M - 1 - n
      · rw [e, va_up_self, ih, if_neg (by omega), if_pos ⟨by omega, by omega, hb⟩]
      · rw [va_up_ne _ _ e, ih]
        by_cases hc : s < M ∧ M ≤ s + n ∧ s ||| bits = s
        · rw [if_pos hc, if_pos ⟨hc.1, by omega, hc.2.2⟩]
        · rw [if_neg hc, if_neg (fun q => hc ⟨q.1, by omega, q.2.2⟩)]
    · rw [if_neg hb, ih]
      by_cases hc : s < M ∧ M ≤ s + n ∧ s ||| bits = s
      · rw [if_pos hc, if_pos ⟨hc.1, by omega, hc.2.2⟩]
      · rw [if_neg hc, if_neg (fun q => hc ⟨q.1, by
          by_cases e : s = M - 1 - n
          · rw [e] at q; exact absurd q.2.2 hb
          · omega, q.2.2⟩)]
/-- then the others, from the top: the sum with what is asked stays -/
theorem spB_sum {M bits a d : Nat} {wt G : Nat → Nat} (hor : ∀ s, s < M → s ||| bits < M) : ∀ n, n ≤ M →
    sgF (spB M bits a d wt n) (fun s => if M ≤ s + n ∨ s ||| bits = s then G s else (d - a) * G s + a * G (s ||| bits)) M = sgF wt (fun s => if s ||| bits = s then G s else (d - a) * G s + a * G (s ||| bits)) M
  | 0, _ => by
    refine sg_congr M (fun s hs => ?_)
    show wt s * _ = wt s * _
    by_cases hb : s ||| bits = s
    · rw [if_pos (Or.inr hb), if_pos hb]
    · rw [if_neg (fun q => q.elim (fun q => by omega) hb), if_neg hb]
  | n + 1, hn => by
    have ih := spB_sum (a := a) (d := d) (wt := wt) (G := G) hor n (by omega)
    rw [← ih]
    simp only [spB]
    have hk : M - 1 - n < M := by omega
    by_cases hb : (M - 1 - n) ||| bits = M - 1 - n
    · rw [if_pos hb]
      refine sg_congr M (fun s hs => ?_)
      congr 1
      by_cases e : s = M - 1 - n
      · rw [if_pos (Or.inr (by rw [e]; exact hb)), if_pos (Or.inr (by rw [e]; exact hb))]
      · by_cases hc : M ≤ s + n ∨ s ||| bits = s
        · rw [if_pos hc, if_pos (hc.elim (fun q => Or.inl (by omega)) Or.inr)]
        · rw [if_neg hc, if_neg (fun q => hc (q.elim (fun q => Or.inl (by omega)) Or.inr))]
    · rw [if_neg hb]
      generalize spB M bits a d wt n = q
      generalize hk0 : M - 1 - n = k at hb hk ⊢
      have hne : k ||| bits ≠ k := hb
      have hgt : k < k ||| bits := Nat.lt_of_le_of_ne Nat.left_le_or (fun h => hne h.symm)
      have hlt := hor k hk
      -- the weights asked for before and behind
      have hG : (fun s => if M ≤ s + (n + 1) ∨ s ||| bits = s then G s else (d - a) * G s + a * G (s ||| bits)) = va_up (fun s => if M ≤ s + n ∨ s ||| bits = s then G s else (d - a) * G s + a * G (s ||| bits)) k (G k) := by
        funext s
        by_cases e : s = k
        · rw [e, va_up_self, if_pos (Or.inl (by omega))]
        · rw [va_up_ne _ _ e]
          by_cases hc : M ≤ s + n ∨ s ||| bits = s
          · rw [if_pos hc, if_pos (hc.elim (fun q => Or.inl (by omega)) Or.inr)]
          · rw [if_neg hc, if_neg (fun q => hc (q.elim (fun q => Or.inl (by omega)) Or.inr))]
      rw [hG]
      have hGk : (fun s => if M ≤ s + n ∨ s ||| bits = s then G s else (d - a) * G s + a * G (s ||| bits)) k = (d - a) * G k + a * G (k ||| bits) := if_neg (fun q => q.elim (fun q => by omega) hne)
      have hGb : (fun s => if M ≤ s + n ∨ s ||| bits = s then G s else (d - a) * G s + a * G (s ||| bits)) (k ||| bits) = G (k ||| bits) := if_pos (Or.inr (by rw [Nat.or_assoc, Nat.or_self]))
      generalize (fun s => if M ≤ s + n ∨ s ||| bits = s then G s else (d - a) * G s + a * G (s ||| bits)) = g at hGk hGb ⊢
      unfold sp1
      rw [va_up_ne (j := k) q _ (fun h => hne h.symm)]
      have t1 := sg_gup (w := va_up (va_up q (k ||| bits) (q (k ||| bits) + q k * a)) k (q k * (d - a))) (G := g) (k := k) (v := G k) M hk
      have t2 := sg_up (w := va_up q (k ||| bits) (q (k ||| bits) + q k * a)) (G := g) (k := k) (v := q k * (d - a)) M hk
      have t3 := sg_up (w := q) (G := g) (k := k ||| bits) (v := q (k ||| bits) + q k * a) M hlt
      rw [va_up_self] at t1
      rw [va_up_ne (j := k) q _ (fun h => hne h.symm)] at t2
      rw [hGb, Nat.add_mul] at t3
      rw [hGk] at t1 t2
      have e1 : q k * ((d - a) * G k + a * G (k ||| bits)) = q k * (d - a) * G k + q k * a * G (k ||| bits) := by rw [Nat.mul_add, Nat.mul_assoc, Nat.mul_assoc]
      rw [e1] at t2
      generalize q k * (d - a) * G k = A at t1 t2
      generalize q k * a * G (k ||| bits) = B at t2 t3
      generalize q (k ||| bits) * G (k ||| bits) = C at t3
      generalize q k * (d - a) * ((d - a) * G k + a * G (k ||| bits)) = D at t1 t2
      omega
theorem sp_sum {M bits a d : Nat} {wt G : Nat → Nat} (hor : ∀ s, s < M → s ||| bits < M) (had : a ≤ d) : sgF (spF M bits a d wt) G M = sgF wt (fun s => (d - a) * G s + a * G (s ||| bits)) M := by
  unfold spF
  have h1 := spB_sum (a := a) (d := d) (wt := spA M bits d wt M) (G := G) hor M (Nat.le_refl _)
  rw [sg_congr (w' := spB M bits a d (spA M bits d wt M) M) (G' := G) M (fun s hs => by rw [if_pos (Or.inl (by omega))])] at h1
  rw [h1]
  refine sg_congr M (fun s hs => ?_)
  rw [spA_at M (Nat.le_refl _)]
  by_cases hb : s ||| bits = s
  · rw [if_pos ⟨hs, by omega, hb⟩, if_pos hb, hb, ← Nat.add_mul, Nat.sub_add_cancel had, Nat.mul_assoc]
  · rw [if_neg (fun q => hb q.2.2), if_neg hb]
def opR (ea mu md : Nat → Nat) (my : Nat) : Nat → List (Nat × Nat × Nat)
  | 0 => []
  | k + 1 => opR ea mu md my k ++ [(2 ^ (my - 1 - k), mu (ea k), md (ea k))]
def opQ (ea m1 m2 m3 m4 : Nat → Nat) (my : Nat) : Nat → List (Nat × Nat × Nat)
  | 0 => []
  | c + 1 => if biF ea my (m1 c) my ||| biF ea my (m2 c) my = 0 then opQ ea m1 m2 m3 m4 my c else opQ ea m1 m2 m3 m4 my c ++ [(biF ea my (m1 c) my ||| biF ea my (m2 c) my, m3 c, m4 c)]
theorem ew_at {wt : Nat → Nat} : ∀ n s, s < n → ewF wt n s = if s = 0 then 1 else 0
  | 0, s, h => absurd h (Nat.not_lt_zero _)
  | n + 1, s, h => by
    show va_up _ _ _ _ = _
    by_cases e : s = n
    · rw [e, va_up_self]
    · rw [va_up_ne _ _ e]
      exact ew_at n s (by omega)
theorem ew_sum {wt G : Nat → Nat} (N : Nat) : ∀ n, 0 < n → n ≤ N → sgF (ewF wt N) G n = G 0
  | 0, h, _ => absurd h (Nat.lt_irrefl _)
  | n + 1, _, hN => by
    simp only [sgF]
    rw [ew_at N n (by omega)]
    by_cases e : n = 0
    · subst e
      simp [sgF]
    · rw [ew_sum N n (by omega) (by omega), if_neg e]
      omega
theorem exE_sum {ea mu md wt : Nat → Nat} {my : Nat} (hud : ∀ j, mu j ≤ md j) : ∀ n, n ≤ my → (∀ G, sgF (exE ea mu md my wt n).1 G (2 ^ my) = exO (opR ea mu md my n) G 0) ∧ (exE ea mu md my wt n).2 = dPr (opR ea mu md my n)
  | 0, _ => ⟨fun G => ew_sum _ _ (Nat.two_pow_pos _) (Nat.le_refl _), rfl⟩
  | n + 1, hn => by
    obtain ⟨i1, i2⟩ := exE_sum (ea := ea) (mu := mu) (md := md) (wt := wt) (my := my) hud n (by omega)
    refine ⟨fun G => ?_, ?_⟩
    · show sgF (spF _ _ _ _ _) G _ = exO (_ ++ [_]) G 0
      rw [sp_sum (fun s hs => Nat.or_lt_two_pow hs (Nat.pow_lt_pow_right (by decide) (by omega))) (hud _), exO_snoc, i1]
    · show _ * _ = dPr (_ ++ [_])
      rw [dPr_snoc, i2]
theorem biF_l2 {ea : Nat → Nat} {my x : Nat} : ∀ n, n ≤ my → biF ea my x n < 2 ^ my
  | 0, _ => Nat.two_pow_pos _
  | n + 1, hn => by
    simp only [biF]
    split
    · exact Nat.or_lt_two_pow (biF_l2 n (by omega)) (Nat.pow_lt_pow_right (by decide) (by omega))
    · exact biF_l2 n (by omega)
theorem exC_sum {ea mu md m1 m2 m3 m4 wt : Nat → Nat} {my : Nat} (hud : ∀ j, mu j ≤ md j) (h34 : ∀ j, m3 j ≤ m4 j) : ∀ n, (∀ G, sgF (exC ea mu md m1 m2 m3 m4 my wt n).1 G (2 ^ my) = exO (opR ea mu md my my ++ opQ ea m1 m2 m3 m4 my n) G 0) ∧ (exC ea mu md m1 m2 m3 m4 my wt n).2 = dPr (opR ea mu md my my ++ opQ ea m1 m2 m3 m4 my n)
  | 0 => by
    rw [show opQ ea m1 m2 m3 m4 my 0 = [] from rfl, List.append_nil]
    exact exE_sum hud my (Nat.le_refl _)
  | n + 1 => by
    obtain ⟨i1, i2⟩ := exC_sum (ea := ea) (mu := mu) (md := md) (m1 := m1) (m2 := m2) (wt := wt) (my := my) hud h34 n
    simp only [exC, opQ]
    by_cases hz : biF ea my (m1 n) my ||| biF ea my (m2 n) my = 0
    · rw [if_pos hz, if_pos hz]
      exact ⟨i1, i2⟩
    · rw [if_neg hz, if_neg hz, ← List.append_assoc]
      refine ⟨fun G => ?_, ?_⟩
      · show sgF (spF _ _ _ _ _) G _ = exO (_ ++ [_]) G 0
        rw [sp_sum (fun s hs => Nat.or_lt_two_pow hs (Nat.or_lt_two_pow (biF_l2 my (Nat.le_refl _)) (biF_l2 my (Nat.le_refl _)))) (h34 _), exO_snoc, i1]
      · show _ * _ = dPr (_ ++ [_])
        rw [dPr_snoc, i2]
theorem exN_sg {ho : Nat → Bool} {w : Nat → Nat} : ∀ n, exN ho w n = sgF w (fun s => if ho s = true then 1 else 0) n
  | 0 => rfl
  | n + 1 => by
    simp only [exN, sgF, exN_sg n]
    by_cases h : ho n = true
    · rw [if_pos h, if_pos h, Nat.mul_one]
    · rw [if_neg h, if_neg h, Nat.mul_zero, Nat.add_zero]
