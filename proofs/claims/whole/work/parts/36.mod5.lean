def iM (mb : Nat → Nat) (x y : Nat) : Nat → Bool
  | 0 => false
  | i + 1 => iM mb x y i || decide (mb (10 * x + i) = y)
theorem iM_t {mb : Nat → Nat} {x y i : Nat} : ∀ n, i < n → mb (10 * x + i) = y → iM mb x y n = true
  | 0, h, _ => by omega
  | n + 1, h, h1 => by
    show (iM mb x y n || _) = true
    rcases Nat.lt_or_ge i n with q | q
    · rw [iM_t n q h1]; rfl
    · have : i = n := by omega
      subst this
      simp [h1]
def mbeR (mn : Nat) (mk : Nat → Nat) (mb ms : Nat → Nat) (ud : Nat → Bool) (x y : Int32) : Int32 := if miG mn mk x = false ∨ isI y.toInt64 (lN 1) (lN mn) = false then -1 else if iM mb x.toNatClampNeg y.toNatClampNeg (ms x.toNatClampNeg) = true then -3 else if ms x.toNatClampNeg = 10 then -4 else if mkF mb ms mn ud y.toNatClampNeg x.toNatClampNeg = true then 0 else 1
def evc (mk : Nat → Nat) : Nat → Nat
  | 0 => 0
  | j + 1 => evc mk j + (if mk (j + 1) = 0 then 1 else 0)
theorem evc_mono (mk : Nat → Nat) : ∀ {i j : Nat}, i ≤ j → evc mk i ≤ evc mk j
  | i, 0, h => by have : i = 0 := by omega
                  subst this; exact Nat.le_refl _
  | i, j + 1, h => by
    rcases Nat.lt_or_ge i (j + 1) with q | q
    · have := evc_mono mk (show i ≤ j by omega)
      show evc mk i ≤ evc mk j + _
      omega
    · have : i = j + 1 := by omega
      subst this; exact Nat.le_refl _
/-- (done, many, eventAt) after the nodes 1 .. j -/
def prE (u : Nat → Bool) (mk : Nat → Nat) (dn : Nat → Bool) (ea : Nat → Nat) : Nat → (Nat → Bool) × Nat × (Nat → Nat)
  | 0 => (dn, 0, ea)
  | j + 1 => if u (j + 1) = true ∧ mk (j + 1) = 0 then (va_up (prE u mk dn ea j).1 (j + 1) (decide (mk (j + 1) = 0)), (prE u mk dn ea j).2.1 + 1, va_up (prE u mk dn ea j).2.2 (prE u mk dn ea j).2.1 (j + 1))
      else (va_up (prE u mk dn ea j).1 (j + 1) (decide (mk (j + 1) = 0)), (prE u mk dn ea j).2.1, (prE u mk dn ea j).2.2)
theorem prE_t {u : Nat → Bool} {mk : Nat → Nat} {dn : Nat → Bool} {ea : Nat → Nat} {j : Nat} (h : u (j + 1) = true ∧ mk (j + 1) = 0) : prE u mk dn ea (j + 1) = (va_up (prE u mk dn ea j).1 (j + 1) (decide (mk (j + 1) = 0)), (prE u mk dn ea j).2.1 + 1, va_up (prE u mk dn ea j).2.2 (prE u mk dn ea j).2.1 (j + 1)) := if_pos h
theorem prE_f {u : Nat → Bool} {mk : Nat → Nat} {dn : Nat → Bool} {ea : Nat → Nat} {j : Nat} (h : ¬ (u (j + 1) = true ∧ mk (j + 1) = 0)) : prE u mk dn ea (j + 1) = (va_up (prE u mk dn ea j).1 (j + 1) (decide (mk (j + 1) = 0)), (prE u mk dn ea j).2.1, (prE u mk dn ea j).2.2) := if_neg h
theorem prE_le {u : Nat → Bool} {mk : Nat → Nat} {dn : Nat → Bool} {ea : Nat → Nat} : ∀ j, (prE u mk dn ea j).2.1 ≤ evc mk j
  | 0 => Nat.le_refl _
  | j + 1 => by
    have := prE_le (u := u) (mk := mk) (dn := dn) (ea := ea) j
    by_cases c : u (j + 1) = true ∧ mk (j + 1) = 0
    · rw [prE_t c]
      show (prE u mk dn ea j).2.1 + 1 ≤ evc mk j + (if mk (j + 1) = 0 then 1 else 0)
      rw [if_pos c.2]; omega
    · rw [prE_f c]
      show (prE u mk dn ea j).2.1 ≤ evc mk j + _
      omega
theorem prE_dn {u : Nat → Bool} {mk : Nat → Nat} {dn : Nat → Bool} {ea : Nat → Nat} : ∀ j i, 1 ≤ i → i ≤ j → (prE u mk dn ea j).1 i = decide (mk i = 0)
  | 0, i, h1, h2 => by omega
  | j + 1, i, h1, h2 => by
    have e : (prE u mk dn ea (j + 1)).1 = va_up (prE u mk dn ea j).1 (j + 1) (decide (mk (j + 1) = 0)) := by
      by_cases c : u (j + 1) = true ∧ mk (j + 1) = 0
      · rw [prE_t c]
      · rw [prE_f c]
    rw [e]
    unfold va_up
    split
    · rename_i q; rw [q]
    · exact prE_dn j i h1 (by omega)
/-- one pass over the gates: done, ordered, order, more -/
def prG (u : Nat → Bool) (ms mb : Nat → Nat) (s : (Nat → Bool) × Nat × (Nat → Nat)) : Nat → (Nat → Bool) × Nat × (Nat → Nat) × Bool
  | 0 => (s.1, s.2.1, s.2.2, false)
  | j + 1 => if u (j + 1) = true ∧ (prG u ms mb s j).1 (j + 1) = false ∧ rdF (prG u ms mb s j).1 mb (j + 1) (ms (j + 1)) = true then
      (va_up (prG u ms mb s j).1 (j + 1) true, (prG u ms mb s j).2.1 + 1, va_up (prG u ms mb s j).2.2.1 (prG u ms mb s j).2.1 (j + 1), true)
    else prG u ms mb s j
theorem prG_t {u : Nat → Bool} {ms mb : Nat → Nat} {s : (Nat → Bool) × Nat × (Nat → Nat)} {j : Nat} (h : u (j + 1) = true ∧ (prG u ms mb s j).1 (j + 1) = false ∧ rdF (prG u ms mb s j).1 mb (j + 1) (ms (j + 1)) = true) : prG u ms mb s (j + 1) = (va_up (prG u ms mb s j).1 (j + 1) true, (prG u ms mb s j).2.1 + 1, va_up (prG u ms mb s j).2.2.1 (prG u ms mb s j).2.1 (j + 1), true) := if_pos h
theorem prG_f {u : Nat → Bool} {ms mb : Nat → Nat} {s : (Nat → Bool) × Nat × (Nat → Nat)} {j : Nat} (h : ¬ (u (j + 1) = true ∧ (prG u ms mb s j).1 (j + 1) = false ∧ rdF (prG u ms mb s j).1 mb (j + 1) (ms (j + 1)) = true)) : prG u ms mb s (j + 1) = prG u ms mb s j := if_neg h
def prW (P : (Nat → Bool) × Nat × (Nat → Nat) → (Nat → Bool) × Nat × (Nat → Nat) × Bool) : Nat → (Nat → Bool) × Nat × (Nat → Nat) → (Nat → Bool) × Nat × (Nat → Nat)
  | 0, s => s
  | f + 1, s => if (P s).2.2.2 = true then prW P f ((P s).1, (P s).2.1, (P s).2.2.1) else ((P s).1, (P s).2.1, (P s).2.2.1)
/-- how many of 1 .. n are not done -/
def ndc (d : Nat → Bool) (n : Nat) : Nat := cfB (fun i => d (i + 1)) n
theorem cfB_congr {u v : Nat → Bool} : ∀ n, (∀ i, i < n → u i = v i) → cfB u n = cfB v n
  | 0, _ => rfl
  | n + 1, h => by
    show cfB u n + _ = cfB v n + _
    rw [cfB_congr n (fun i hi => h i (by omega)), h n (by omega)]
theorem cfB_pos {u : Nat → Bool} {j : Nat} : ∀ n, j < n → u j = false → 0 < cfB u n
  | 0, h, _ => by omega
  | n + 1, h, hu => by
    show 0 < cfB u n + (if u n = true then 0 else 1)
    rcases Nat.lt_or_ge j n with q | q
    · have := cfB_pos n q hu; omega
    · have : j = n := by omega
      subst this; rw [hu, if_neg (by decide)]; omega
theorem ndc_up {d : Nat → Bool} {j n : Nat} (hj : j < n) (hd : d (j + 1) = false) : ndc (va_up d (j + 1) true) n < ndc d n := by
  have e : cfB (fun i => va_up d (j + 1) true (i + 1)) n = cfB (va_up (fun i => d (i + 1)) j true) n := cfB_congr n (fun i _ => by simp only [va_up, Nat.add_right_cancel_iff])
  unfold ndc
  rw [e]
  exact (cfB_up (fun i => d (i + 1)) j n).2 hj hd
theorem prG_nd {u : Nat → Bool} {ms mb : Nat → Nat} {s : (Nat → Bool) × Nat × (Nat → Nat)} {n : Nat} : ∀ j, j ≤ n → (prG u ms mb s j).2.1 + ndc (prG u ms mb s j).1 n ≤ s.2.1 + ndc s.1 n ∧ ndc (prG u ms mb s j).1 n ≤ ndc s.1 n ∧ ((prG u ms mb s j).2.2.2 = true → ndc (prG u ms mb s j).1 n < ndc s.1 n)
  | 0, _ => ⟨Nat.le_refl _, Nat.le_refl _, fun h => absurd h (by show ¬ false = true; decide)⟩
  | j + 1, hj => by
    obtain ⟨h1, h2, h3⟩ := prG_nd (u := u) (ms := ms) (mb := mb) (s := s) (n := n) j (by omega)
    by_cases c : u (j + 1) = true ∧ (prG u ms mb s j).1 (j + 1) = false ∧ rdF (prG u ms mb s j).1 mb (j + 1) (ms (j + 1)) = true
    · have := ndc_up (n := n) (show j < n by omega) c.2.1
      rw [prG_t c]
      refine ⟨?_, ?_, fun _ => ?_⟩
      · show (prG u ms mb s j).2.1 + 1 + ndc (va_up (prG u ms mb s j).1 (j + 1) true) n ≤ _
        omega
      · show ndc (va_up (prG u ms mb s j).1 (j + 1) true) n ≤ _
        omega
      · show ndc (va_up (prG u ms mb s j).1 (j + 1) true) n < _
        omega
    · rw [prG_f c]; exact ⟨h1, h2, h3⟩
set_option maxHeartbeats 4000000 in
set_option maxRecDepth 100000 in
theorem k_Mo_below (l : Launch) (g : va_G) (b : Nat → Nat) (cI cJ cZ : ClassId) (f0 : Nat) (mn : Nat) (mv : Nat) (mg : Nat) (mk : Nat → Nat) (mo : Nat → Nat) (mu : Nat → Nat) (md : Nat → Nat) (ms : Nat → Nat) (mb : Nat → Nat) (mc : Nat) (m1 : Nat → Nat) (m2 : Nat → Nat) (m3 : Nat → Nat) (m4 : Nat → Nat) (we : Bool) (ud : Nat → Bool) (my : Nat) (ea : Nat → Nat) (od : Nat) (oo : Nat → Nat) (dn : Nat → Bool) (va : Nat → Nat) (ho : Nat → Bool) (wt : Nat → Nat) (cm : Nat) (co : Nat → Nat) (te : Nat → Nat) (tm : Nat) (gs : Nat) (gl : Nat → Nat) (rs : Nat) (rg : Nat → Nat) (rp : Nat → Nat) (rt : Nat → Nat) (x : Int32) (y : Int32) (hmn : mn ≤ 32) (hms : ∀ j, ms j ≤ 10) (hmb : ∀ j, mb j ≤ 32) (hmk : ∀ j, mk j ≤ 3) : ct_i l g vwCl (tyM cI cJ cZ) y_Mo_below c_Mo_below 4 (some .int) ({ frames := 2, cells := 0, slots := 0, locals := 46 } : Room) [.ref (b 0), .int x, .int y] (moW b cI cJ cZ f0 mn mv mg mk mo mu md ms mb mc m1 m2 m3 m4 we ud my ea od oo dn va ho wt cm co te tm gs gl rs rg rp rt) (if miG mn mk x = true ∧ isI y.toInt64 (lN 1) (lN mn) = true ∧ iM mb x.toNatClampNeg y.toNatClampNeg (ms x.toNatClampNeg) = false ∧ ¬ ms x.toNatClampNeg = 10 ∧ (mkF mb ms mn ud y.toNatClampNeg) x.toNatClampNeg = false then (moW b cI cJ cZ 0 mn mv mg mk mo mu md (va_up ms x.toNatClampNeg (ms x.toNatClampNeg + 1)) (va_up mb (10 * x.toNatClampNeg + ms x.toNatClampNeg) y.toNatClampNeg) mc m1 m2 m3 m4 we (mkF mb ms mn ud y.toNatClampNeg) my ea od oo dn va ho wt cm co te tm gs gl rs rg rp rt) else (if miG mn mk x = true ∧ isI y.toInt64 (lN 1) (lN mn) = true ∧ iM mb x.toNatClampNeg y.toNatClampNeg (ms x.toNatClampNeg) = false ∧ ¬ ms x.toNatClampNeg = 10 then (moW b cI cJ cZ 0 mn mv mg mk mo mu md ms mb mc m1 m2 m3 m4 we (mkF mb ms mn ud y.toNatClampNeg) my ea od oo dn va ho wt cm co te tm gs gl rs rg rp rt) else (moW b cI cJ cZ 0 mn mv mg mk mo mu md ms mb mc m1 m2 m3 m4 we ud my ea od oo dn va ho wt cm co te tm gs gl rs rg rp rt))) (mbeR mn mk mb ms ud x y) := by
  refine ct_i.intro (by decide) (Nat.le_of_ble_eq_true rfl) ?_
  intro p e s m args below meth c Q A ls hx hb hml hT hown hA hK hN hret hP hD hS hl
  have hown : s.vm.findClass R_Mo = some m.cls := hown
  have hl : lv_has ls 4 [(0, .ref (b 0)), (1, .int x), (2, .int y)] := hl
  refine lv_aload_n hx hb d_Mo_below_0 rfl (lv_at hl 0 rfl) ?_
  refine lv_iconst (v := (nI 0)) hx hb d_Mo_below_1 (by decide) ?_
  refine va_put (D := g) (ci := 8) (v := .int (nI 0)) (ty := .int) (C := R_Mo) (T := F_Mo) (N := 35) hx hb hT i_Mo t_Mo t_Mo_ok n_Mo hown hK hP hD hS 0 rfl rfl 0 (by decide) (hT _ tw_621) (fun _ h9 => h9) rfl (by decide +kernel) rfl rfl (Nat.le_of_ble_eq_true rfl) d_Mo_below_2 (fun H locs hP hD hS => ?_)
  have hP : va_P g vwCl (moW b cI cJ cZ 0 mn mv mg mk mo mu md ms mb mc m1 m2 m3 m4 we ud my ea od oo dn va ho wt cm co te tm gs gl rs rg rp rt) H := hP
  have hD : va_D A (moW b cI cJ cZ 0 mn mv mg mk mo mu md ms mb mc m1 m2 m3 m4 we ud my ea od oo dn va ho wt cm co te tm gs gl rs rg rp rt) := hD
  refine lv_aload_n hx hb d_Mo_below_5 rfl (lv_at hl 0 rfl) ?_
  refine lv_iload_n hx hb d_Mo_below_6 rfl (lv_at hl 1 rfl) ?_
  refine my_V_i (q0 := 0) (ci := 8) (C := R_Mo) (As := [.int x]) (n := 1) (k_Mo_isGate l g b cI cJ cZ 0 mn mv mg mk mo mu md ms mb mc m1 m2 m3 m4 we ud my ea od oo dn va ho wt cm co te tm gs gl rs rg rp rt x hmn hmk) hx hb hml hown hT hN tw_749 tw_751 tp_16 tw_9 tw_752 (by decide +kernel) rfl rfl ⟨Nat.le_of_ble_eq_true rfl, Nat.le_of_ble_eq_true rfl⟩ ⟨Nat.zero_le _, Nat.zero_le _⟩ hK hP hD hS hA rfl rfl rfl hl rfl (Nat.le_of_ble_eq_true rfl) d_Mo_below_7 (fun H locs hP hD hS => ?_)
  refine my_if_eq_b (tgt := 27) hx hb d_Mo_below_10 (by decide) (fun c_10 => ?_) (fun c_10 => ?_)
  · -- 10: taken
    refine lv_iconst (v := (-1)) hx hb d_Mo_below_27 (by decide) ?_
    refine hret _ _ _ _ _ (by rw [if_neg (by intro hh; first | exact absurd (hh.1.symm.trans c_10) (by decide) | exact absurd (hh.2.1.symm.trans c_24) (by decide) | exact absurd (hh.2.2.1.symm.trans (iM_t (ms x1) (by omega) c_53)) (by decide) | exact absurd c_73 (by first | exact hh.2.2.2 | exact hh.2.2.2.1)), if_neg (by intro hh; first | exact absurd (hh.1.symm.trans c_10) (by decide) | exact absurd (hh.2.1.symm.trans c_24) (by decide) | exact absurd (hh.2.2.1.symm.trans (iM_t (ms x1) (by omega) c_53)) (by decide) | exact absurd c_73 (by first | exact hh.2.2.2 | exact hh.2.2.2.1))]; exact hP) (by rw [if_neg (by intro hh; first | exact absurd (hh.1.symm.trans c_10) (by decide) | exact absurd (hh.2.1.symm.trans c_24) (by decide) | exact absurd (hh.2.2.1.symm.trans (iM_t (ms x1) (by omega) c_53)) (by decide) | exact absurd c_73 (by first | exact hh.2.2.2 | exact hh.2.2.2.1)), if_neg (by intro hh; first | exact absurd (hh.1.symm.trans c_10) (by decide) | exact absurd (hh.2.1.symm.trans c_24) (by decide) | exact absurd (hh.2.2.1.symm.trans (iM_t (ms x1) (by omega) c_53)) (by decide) | exact absurd c_73 (by first | exact hh.2.2.2 | exact hh.2.2.2.1))]; exact hD) hS d_Mo_below_28 ?_
    rw [mbeR, if_pos (by first | exact Or.inl c_10 | exact Or.inr c_24)]
  · -- 10: not taken
    obtain ⟨x1, hx11, hx12, rfl⟩ := miG_nat hmn c_10
    have hkc : (nI x1).toNatClampNeg = x1 := nI_clamp (by omega)
    simp only [hkc] at hret
    have q1 := hms x1
    refine lv_iload_n hx hb d_Mo_below_13 rfl (lv_at hl 2 rfl) ?_
    refine lv_i2l (v := y.toInt64) hx hb d_Mo_below_14 rfl ?_
    refine lv_lconst (v := (lN 1)) hx hb d_Mo_below_15 (by decide) ?_
    refine lv_aload_n hx hb d_Mo_below_16 rfl (lv_at hl 0 rfl) ?_
    refine va_get (D := g) (ci := 8) (v := .int (nI mn)) (C := R_Mo) (T := F_Mo) (N := 35) hx hb hT i_Mo hown hK hP 0 rfl rfl 1 (by decide) (hT _ tw_622) (fun _ h9 => h9) rfl d_Mo_below_17 ?_
    refine lv_i2l (v := lN mn) hx hb d_Mo_below_20 (nI_l (by omega)) ?_
    refine my_S_i (As := [.long y.toInt64, .long (lN 1), .long (lN mn)]) (n := 3) (k_Mo_isIn l g vwCl (tyM cI cJ cZ) (moW b cI cJ cZ 0 mn mv mg mk mo mu md ms mb mc m1 m2 m3 m4 we ud my ea od oo dn va ho wt cm co te tm gs gl rs rg rp rt) y.toInt64 (lN 1) (lN mn) ) hx hb hml hown hT hN tw_737 tw_738 tw_9 tw_739 (by decide +kernel) rfl rfl ⟨Nat.le_of_ble_eq_true rfl, Nat.le_of_ble_eq_true rfl⟩ ⟨Nat.zero_le _, Nat.zero_le _⟩ hK hP hD hS hA rfl hl rfl (Nat.le_of_ble_eq_true rfl) d_Mo_below_21 (fun H locs hP hD hS => ?_)
    refine my_if_ne_b (tgt := 29) hx hb d_Mo_below_24 (by decide) (fun c_24 => ?_) (fun c_24 => ?_)
    · -- 24: taken
      obtain ⟨y1, hy11, hy12, rfl⟩ := isI_nat (by decide) (by omega) c_24
      have hkc2 : (nI y1).toNatClampNeg = y1 := nI_clamp (by omega)
      simp only [hkc2] at hret
      refine lv_iconst (v := (nI 0)) hx hb d_Mo_below_29 (by decide) ?_
      refine lv_istore_n (lv' := [(3, .int (nI 0)), (0, .ref (b 0)), (1, .int (nI x1)), (2, .int (nI y1))]) hx hb d_Mo_below_30 rfl hl (by decide) rfl (fun ls hl => ?_)
      have lp_31 : ∀ (k : Nat) (i : Nat) (H : Heap) (locs : List Loc) (ls : Array Slot), (ms x1 < i + k) → (i ≤ ms x1) → (iM mb x1 y1 i = false) → va_P g vwCl (moW b cI cJ cZ 0 mn mv mg mk mo mu md ms mb mc m1 m2 m3 m4 we ud my ea od oo dn va ho wt cm co te tm gs gl rs rg rp rt) H → va_D A (moW b cI cJ cZ 0 mn mv mg mk mo mu md ms mb mc m1 m2 m3 m4 we ud my ea od oo dn va ho wt cm co te tm gs gl rs rg rp rt) → va_S A s.heap H locs → lv_has ls 4 [(0, .ref (b 0)), (1, .int (nI x1)), (2, .int (nI y1)), (3, .int (nI i))] → W p l e ({ frames := 2, cells := 0, slots := 0, locals := 46 } : Room) s m args below meth c H locs 0 0 Q (F0 m 31 ls []) := by
        intro k
        induction k with
        | zero =>
          intro i H locs ls hk hi hf hP hD hS hl
          exfalso
          omega
        | succ k ih_31 =>
          intro i H locs ls hk hi hf hP hD hS hl
          refine lv_iload_n hx hb d_Mo_below_31 rfl (lv_at hl 3 rfl) ?_
          refine lv_aload_n hx hb d_Mo_below_32 rfl (lv_at hl 0 rfl) ?_
          refine va_get (D := g) (ci := 8) (v := .ref (b 5)) (C := R_Mo) (T := F_Mo) (N := 35) hx hb hT i_Mo hown hK hP 0 rfl rfl 8 (by decide) (hT _ tw_629) (fun _ h9 => h9) rfl d_Mo_below_33 ?_
          refine lv_iload_n hx hb d_Mo_below_36 rfl (lv_at hl 1 rfl) ?_
          refine my_iald (v := (nI (ms x1))) (i := x1) hx hb hK hP 5 0 rfl rfl (by omega) (by decide) rfl d_Mo_below_37 ?_
          refine my_icmp_ge (tgt := 65) (a := i) (b := ms x1) hx hb d_Mo_below_38 (by decide) (by omega) (by omega) (fun c_38 => ?_) (fun c_38 => ?_)
          · -- 38: taken
            have hI0 : iM mb x1 y1 (ms x1) = false := by rw [← hf, show i = ms x1 by omega]
            refine lv_aload_n hx hb d_Mo_below_65 rfl (lv_at hl 0 rfl) ?_
            refine va_get (D := g) (ci := 8) (v := .ref (b 5)) (C := R_Mo) (T := F_Mo) (N := 35) hx hb hT i_Mo hown hK hP 0 rfl rfl 8 (by decide) (hT _ tw_629) (fun _ h9 => h9) rfl d_Mo_below_66 ?_
            refine lv_iload_n hx hb d_Mo_below_69 rfl (lv_at hl 1 rfl) ?_
            refine my_iald (v := (nI (ms x1))) (i := x1) hx hb hK hP 5 0 rfl rfl (by omega) (by decide) rfl d_Mo_below_70 ?_
            refine lv_bipush (v := (nI 10)) hx hb d_Mo_below_71 (by decide) ?_
            refine my_icmp_ne (tgt := 79) (a := ms x1) (b := 10) hx hb d_Mo_below_73 (by decide) (by omega) (by omega) (fun c_73 => ?_) (fun c_73 => ?_)
            · -- 73: taken
              refine lv_aload_n hx hb d_Mo_below_79 rfl (lv_at hl 0 rfl) ?_
              refine lv_iload_n hx hb d_Mo_below_80 rfl (lv_at hl 2 rfl) ?_
              refine my_V_v (q0 := 0) (ci := 8) (C := R_Mo) (As := [.int (nI y1)]) (n := 1) (k_Mo_mark l g b cI cJ cZ 0 mn mv mg mk mo mu md ms mb mc m1 m2 m3 m4 we ud my ea od oo dn va ho wt cm co te tm gs gl rs rg rp rt y1 (by omega) hmn hms hmb) hx hb hml hown hT hN tw_753 tw_755 tp_17 tw_9 tw_756 (by decide +kernel) rfl rfl ⟨Nat.le_of_ble_eq_true rfl, Nat.le_of_ble_eq_true rfl⟩ ⟨Nat.zero_le _, Nat.zero_le _⟩ hK hP hD hS hA rfl rfl rfl hl rfl (Nat.le_of_ble_eq_true rfl) d_Mo_below_81 (fun H locs hP hD hS => ?_)
              refine lv_aload_n hx hb d_Mo_below_84 rfl (lv_at hl 0 rfl) ?_
              refine va_get (D := g) (ci := 8) (v := .ref (b 11)) (C := R_Mo) (T := F_Mo) (N := 35) hx hb hT i_Mo hown hK hP 0 rfl rfl 16 (by decide) (hT _ tw_637) (fun _ h9 => h9) rfl d_Mo_below_85 ?_
              refine lv_iload_n hx hb d_Mo_below_88 rfl (lv_at hl 1 rfl) ?_
              refine my_zald (v := (b2 ((mkF mb ms mn ud y1) x1))) (i := x1) hx hb hK hP 11 2 rfl rfl (by omega) (by decide) rfl d_Mo_below_89 ?_
              refine my_if_eq_b (tgt := 95) hx hb d_Mo_below_90 (by decide) (fun c_90 => ?_) (fun c_90 => ?_)
              · -- 90: taken
                refine lv_aload_n hx hb d_Mo_below_95 rfl (lv_at hl 0 rfl) ?_
                refine va_get (D := g) (ci := 8) (v := .ref (b 6)) (C := R_Mo) (T := F_Mo) (N := 35) hx hb hT i_Mo hown hK hP 0 rfl rfl 9 (by decide) (hT _ tw_630) (fun _ h9 => h9) rfl d_Mo_below_96 ?_
                refine lv_bipush (v := (nI 10)) hx hb d_Mo_below_99 (by decide) ?_
                refine lv_iload_n hx hb d_Mo_below_101 rfl (lv_at hl 1 rfl) ?_
                refine lv_imul hx hb d_Mo_below_102 ?_
                refine my_ei (pk_mul 10 x1) ?_
                refine lv_aload_n hx hb d_Mo_below_103 rfl (lv_at hl 0 rfl) ?_
                refine va_get (D := g) (ci := 8) (v := .ref (b 5)) (C := R_Mo) (T := F_Mo) (N := 35) hx hb hT i_Mo hown hK hP 0 rfl rfl 8 (by decide) (hT _ tw_629) (fun _ h9 => h9) rfl d_Mo_below_104 ?_
                refine lv_iload_n hx hb d_Mo_below_107 rfl (lv_at hl 1 rfl) ?_
                refine my_iald (v := (nI (ms x1))) (i := x1) hx hb hK hP 5 0 rfl rfl (by omega) (by decide) rfl d_Mo_below_108 ?_
                refine lv_iadd hx hb d_Mo_below_109 ?_
                refine my_ei (nI_add (10 * x1) (ms x1)) ?_
                refine lv_iload_n hx hb d_Mo_below_110 rfl (lv_at hl 2 rfl) ?_
                refine my_iast (i := (10 * x1) + (ms x1)) hx hb hK hP hD hS 6 0 rfl rfl (by omega) (by decide) (my_upN _ _ _) (w' := (moW b cI cJ cZ 0 mn mv mg mk mo mu md ms (va_up mb ((10 * x1) + (ms x1)) y1) mc m1 m2 m3 m4 we (mkF mb ms mn ud y1) my ea od oo dn va ho wt cm co te tm gs gl rs rg rp rt)) rfl d_Mo_below_111 (fun H locs hP hD hS => ?_)
                refine lv_aload_n hx hb d_Mo_below_112 rfl (lv_at hl 0 rfl) ?_
                refine va_get (D := g) (ci := 8) (v := .ref (b 5)) (C := R_Mo) (T := F_Mo) (N := 35) hx hb hT i_Mo hown hK hP 0 rfl rfl 8 (by decide) (hT _ tw_629) (fun _ h9 => h9) rfl d_Mo_below_113 ?_
                refine lv_iload_n hx hb d_Mo_below_116 rfl (lv_at hl 1 rfl) ?_
                refine lv_dup2_11 hx hb d_Mo_below_117 rfl rfl ?_
                refine my_iald (v := (nI (ms x1))) (i := x1) hx hb hK hP 5 0 rfl rfl (by omega) (by decide) rfl d_Mo_below_118 ?_
                refine lv_iconst (v := (nI 1)) hx hb d_Mo_below_119 (by decide) ?_
                refine lv_iadd hx hb d_Mo_below_120 ?_
                refine my_ei (nI_add (ms x1) 1) ?_
                refine my_iast (i := x1) hx hb hK hP hD hS 5 0 rfl rfl (by omega) (by decide) (my_upN _ _ _) (w' := (moW b cI cJ cZ 0 mn mv mg mk mo mu md (va_up ms x1 ((ms x1) + 1)) (va_up mb ((10 * x1) + (ms x1)) y1) mc m1 m2 m3 m4 we (mkF mb ms mn ud y1) my ea od oo dn va ho wt cm co te tm gs gl rs rg rp rt)) rfl d_Mo_below_121 (fun H locs hP hD hS => ?_)
                refine lv_iconst (v := (nI 1)) hx hb d_Mo_below_122 (by decide) ?_
                refine hret _ _ _ _ _ (by rw [if_pos ⟨c_10, c_24, hI0, c_73, c_90⟩]; exact hP) (by rw [if_pos ⟨c_10, c_24, hI0, c_73, c_90⟩]; exact hD) hS d_Mo_below_123 ?_
                rw [mbeR, if_neg (by simp [c_10, c_24]), hkc, hkc2, if_neg (by simp [hI0]), if_neg c_73, if_neg (by simp [c_90])]; rfl
              · -- 90: not taken
                refine lv_iconst (v := (nI 0)) hx hb d_Mo_below_93 (by decide) ?_
                refine hret _ _ _ _ _ (by rw [if_neg (by intro hh; exact absurd (hh.2.2.2.2.symm.trans c_90) (by decide)), if_pos ⟨c_10, c_24, hI0, c_73⟩]; exact hP) (by rw [if_neg (by intro hh; exact absurd (hh.2.2.2.2.symm.trans c_90) (by decide)), if_pos ⟨c_10, c_24, hI0, c_73⟩]; exact hD) hS d_Mo_below_94 ?_
                rw [mbeR, if_neg (by simp [c_10, c_24]), hkc, hkc2, if_neg (by simp [hI0]), if_neg c_73, if_pos c_90]; rfl
            · -- 73: not taken
              refine lv_bipush (v := (-4)) hx hb d_Mo_below_76 (by decide) ?_
              refine hret _ _ _ _ _ (by rw [if_neg (by intro hh; first | exact absurd (hh.1.symm.trans c_10) (by decide) | exact absurd (hh.2.1.symm.trans c_24) (by decide) | exact absurd (hh.2.2.1.symm.trans (iM_t (ms x1) (by omega) c_53)) (by decide) | exact absurd c_73 (by first | exact hh.2.2.2 | exact hh.2.2.2.1)), if_neg (by intro hh; first | exact absurd (hh.1.symm.trans c_10) (by decide) | exact absurd (hh.2.1.symm.trans c_24) (by decide) | exact absurd (hh.2.2.1.symm.trans (iM_t (ms x1) (by omega) c_53)) (by decide) | exact absurd c_73 (by first | exact hh.2.2.2 | exact hh.2.2.2.1))]; exact hP) (by rw [if_neg (by intro hh; first | exact absurd (hh.1.symm.trans c_10) (by decide) | exact absurd (hh.2.1.symm.trans c_24) (by decide) | exact absurd (hh.2.2.1.symm.trans (iM_t (ms x1) (by omega) c_53)) (by decide) | exact absurd c_73 (by first | exact hh.2.2.2 | exact hh.2.2.2.1)), if_neg (by intro hh; first | exact absurd (hh.1.symm.trans c_10) (by decide) | exact absurd (hh.2.1.symm.trans c_24) (by decide) | exact absurd (hh.2.2.1.symm.trans (iM_t (ms x1) (by omega) c_53)) (by decide) | exact absurd c_73 (by first | exact hh.2.2.2 | exact hh.2.2.2.1))]; exact hD) hS d_Mo_below_78 ?_
              rw [mbeR, if_neg (by simp [c_10, c_24]), hkc, hkc2, if_neg (by simp [hI0]), if_pos c_73]
          · -- 38: not taken
            have q2 := hmb (10 * x1 + i)
            refine lv_aload_n hx hb d_Mo_below_41 rfl (lv_at hl 0 rfl) ?_
            refine va_get (D := g) (ci := 8) (v := .ref (b 6)) (C := R_Mo) (T := F_Mo) (N := 35) hx hb hT i_Mo hown hK hP 0 rfl rfl 9 (by decide) (hT _ tw_630) (fun _ h9 => h9) rfl d_Mo_below_42 ?_
            refine lv_bipush (v := (nI 10)) hx hb d_Mo_below_45 (by decide) ?_
            refine lv_iload_n hx hb d_Mo_below_47 rfl (lv_at hl 1 rfl) ?_
            refine lv_imul hx hb d_Mo_below_48 ?_
            refine my_ei (pk_mul 10 x1) ?_
            refine lv_iload_n hx hb d_Mo_below_49 rfl (lv_at hl 3 rfl) ?_
            refine lv_iadd hx hb d_Mo_below_50 ?_
            refine my_ei (nI_add (10 * x1) i) ?_
            refine my_iald (v := (nI (mb ((10 * x1) + i)))) (i := (10 * x1) + i) hx hb hK hP 6 0 rfl rfl (by omega) (by decide) rfl d_Mo_below_51 ?_
            refine lv_iload_n hx hb d_Mo_below_52 rfl (lv_at hl 2 rfl) ?_
            refine my_icmp_ne (tgt := 59) (a := mb ((10 * x1) + i)) (b := y1) hx hb d_Mo_below_53 (by decide) (by omega) (by omega) (fun c_53 => ?_) (fun c_53 => ?_)
            · -- 53: taken
              refine lv_iinc (v := (nI (i + 1))) (lv' := [(3, .int (nI (i + 1))), (0, .ref (b 0)), (1, .int (nI x1)), (2, .int (nI y1))]) hx hb d_Mo_below_59 hl (k := 3) rfl (nI_1 i) (by decide) rfl (fun ls hl => ?_)
              refine lv_goto (tgt := 31) hx hb d_Mo_below_62 (by decide) ?_
              refine ih_31 _ _ _ _ ?_ ?_ ?_ hP hD hS (lv_sub hl [1, 2, 3, 0] rfl)
              · omega
              · omega
              · simp [iM, hf, c_53]
            · -- 53: not taken
              refine lv_bipush (v := (-3)) hx hb d_Mo_below_56 (by decide) ?_
              refine hret _ _ _ _ _ (by rw [if_neg (by intro hh; first | exact absurd (hh.1.symm.trans c_10) (by decide) | exact absurd (hh.2.1.symm.trans c_24) (by decide) | exact absurd (hh.2.2.1.symm.trans (iM_t (ms x1) (by omega) c_53)) (by decide) | exact absurd c_73 (by first | exact hh.2.2.2 | exact hh.2.2.2.1)), if_neg (by intro hh; first | exact absurd (hh.1.symm.trans c_10) (by decide) | exact absurd (hh.2.1.symm.trans c_24) (by decide) | exact absurd (hh.2.2.1.symm.trans (iM_t (ms x1) (by omega) c_53)) (by decide) | exact absurd c_73 (by first | exact hh.2.2.2 | exact hh.2.2.2.1))]; exact hP) (by rw [if_neg (by intro hh; first | exact absurd (hh.1.symm.trans c_10) (by decide) | exact absurd (hh.2.1.symm.trans c_24) (by decide) | exact absurd (hh.2.2.1.symm.trans (iM_t (ms x1) (by omega) c_53)) (by decide) | exact absurd c_73 (by first | exact hh.2.2.2 | exact hh.2.2.2.1)), if_neg (by intro hh; first | exact absurd (hh.1.symm.trans c_10) (by decide) | exact absurd (hh.2.1.symm.trans c_24) (by decide) | exact absurd (hh.2.2.1.symm.trans (iM_t (ms x1) (by omega) c_53)) (by decide) | exact absurd c_73 (by first | exact hh.2.2.2 | exact hh.2.2.2.1))]; exact hD) hS d_Mo_below_58 ?_
              rw [mbeR, if_neg (by simp [c_10, c_24]), hkc, hkc2, if_pos (iM_t (ms x1) (by omega) c_53)]
      refine lp_31 (ms x1 + 1) _ _ _ _ ?_ ?_ ?_ hP hD hS (lv_sub hl [1, 2, 3, 0] rfl)
      · omega
      · omega
      · rfl
    · -- 24: not taken
      refine lv_iconst (v := (-1)) hx hb d_Mo_below_27 (by decide) ?_
      refine hret _ _ _ _ _ (by rw [if_neg (by intro hh; first | exact absurd (hh.1.symm.trans c_10) (by decide) | exact absurd (hh.2.1.symm.trans c_24) (by decide) | exact absurd (hh.2.2.1.symm.trans (iM_t (ms x1) (by omega) c_53)) (by decide) | exact absurd c_73 (by first | exact hh.2.2.2 | exact hh.2.2.2.1)), if_neg (by intro hh; first | exact absurd (hh.1.symm.trans c_10) (by decide) | exact absurd (hh.2.1.symm.trans c_24) (by decide) | exact absurd (hh.2.2.1.symm.trans (iM_t (ms x1) (by omega) c_53)) (by decide) | exact absurd c_73 (by first | exact hh.2.2.2 | exact hh.2.2.2.1))]; exact hP) (by rw [if_neg (by intro hh; first | exact absurd (hh.1.symm.trans c_10) (by decide) | exact absurd (hh.2.1.symm.trans c_24) (by decide) | exact absurd (hh.2.2.1.symm.trans (iM_t (ms x1) (by omega) c_53)) (by decide) | exact absurd c_73 (by first | exact hh.2.2.2 | exact hh.2.2.2.1)), if_neg (by intro hh; first | exact absurd (hh.1.symm.trans c_10) (by decide) | exact absurd (hh.2.1.symm.trans c_24) (by decide) | exact absurd (hh.2.2.1.symm.trans (iM_t (ms x1) (by omega) c_53)) (by decide) | exact absurd c_73 (by first | exact hh.2.2.2 | exact hh.2.2.2.1))]; exact hD) hS d_Mo_below_28 ?_
      rw [mbeR, if_pos (by first | exact Or.inl c_10 | exact Or.inr c_24)]
set_option maxHeartbeats 4000000 in
set_option maxRecDepth 100000 in
theorem k_Mo_prepare (l : Launch) (g : va_G) (b : Nat → Nat) (cI cJ cZ : ClassId) (f0 : Nat) (mn : Nat) (mv : Nat) (mg : Nat) (mk : Nat → Nat) (mo : Nat → Nat) (mu : Nat → Nat) (md : Nat → Nat) (ms : Nat → Nat) (mb : Nat → Nat) (mc : Nat) (m1 : Nat → Nat) (m2 : Nat → Nat) (m3 : Nat → Nat) (m4 : Nat → Nat) (we : Bool) (ud : Nat → Bool) (my : Nat) (ea : Nat → Nat) (od : Nat) (oo : Nat → Nat) (dn : Nat → Bool) (va : Nat → Nat) (ho : Nat → Bool) (wt : Nat → Nat) (cm : Nat) (co : Nat → Nat) (te : Nat → Nat) (tm : Nat) (gs : Nat) (gl : Nat → Nat) (rs : Nat) (rg : Nat → Nat) (rp : Nat → Nat) (rt : Nat → Nat) (x : Nat) (hx1 : x ≤ 32) (hmn : mn ≤ 32) (hms : ∀ j, ms j ≤ 10) (hmb : ∀ j, mb j ≤ 32) (hev : evc mk mn ≤ 12) (hgt : ndc (fun j => decide (mk j = 0)) mn ≤ 20) (hmk : ∀ j, mk j ≤ 3) : ct_v l g vwCl (tyM cI cJ cZ) y_Mo_prepare c_Mo_prepare 4 none ({ frames := 1, cells := 0, slots := 0, locals := 25 } : Room) [.ref (b 0), .int (nI x)] (moW b cI cJ cZ f0 mn mv mg mk mo mu md ms mb mc m1 m2 m3 m4 we ud my ea od oo dn va ho wt cm co te tm gs gl rs rg rp rt) (moW b cI cJ cZ f0 mn mv mg mk mo mu md ms mb mc m1 m2 m3 m4 we (mkF mb ms mn ud x) ((prE (mkF mb ms mn ud x) mk dn ea mn).2.1) ((prE (mkF mb ms mn ud x) mk dn ea mn).2.2) ((prW (fun s => prG (mkF mb ms mn ud x) ms mb s mn) 34 ((prE (mkF mb ms mn ud x) mk dn ea mn).1, 0, oo)).2.1) ((prW (fun s => prG (mkF mb ms mn ud x) ms mb s mn) 34 ((prE (mkF mb ms mn ud x) mk dn ea mn).1, 0, oo)).2.2) ((prW (fun s => prG (mkF mb ms mn ud x) ms mb s mn) 34 ((prE (mkF mb ms mn ud x) mk dn ea mn).1, 0, oo)).1) va ho wt cm co te tm gs gl rs rg rp rt) := by
  refine ct_v.intro (by decide) (Nat.le_of_ble_eq_true rfl) ?_
  intro p e s m args below meth c Q A ls hx hb hml hT hown hA hK hN hret hP hD hS hl
  have hown : s.vm.findClass R_Mo = some m.cls := hown
  have hl : lv_has ls 4 [(0, .ref (b 0)), (1, .int (nI x))] := hl
  refine lv_aload_n hx hb d_Mo_prepare_0 rfl (lv_at hl 0 rfl) ?_
  refine lv_iload_n hx hb d_Mo_prepare_1 rfl (lv_at hl 1 rfl) ?_
  refine my_V_v (q0 := 0) (ci := 8) (C := R_Mo) (As := [.int (nI x)]) (n := 1) (k_Mo_mark l g b cI cJ cZ f0 mn mv mg mk mo mu md ms mb mc m1 m2 m3 m4 we ud my ea od oo dn va ho wt cm co te tm gs gl rs rg rp rt x hx1 hmn hms hmb) hx hb hml hown hT hN tw_753 tw_755 tp_17 tw_9 tw_756 (by decide +kernel) rfl rfl ⟨Nat.le_of_ble_eq_true rfl, Nat.le_of_ble_eq_true rfl⟩ ⟨Nat.zero_le _, Nat.zero_le _⟩ hK hP hD hS hA rfl rfl rfl hl rfl (Nat.le_of_ble_eq_true rfl) d_Mo_prepare_2 (fun H locs hP hD hS => ?_)
  refine lv_aload_n hx hb d_Mo_prepare_5 rfl (lv_at hl 0 rfl) ?_
  refine lv_iconst (v := (nI 0)) hx hb d_Mo_prepare_6 (by decide) ?_
  refine va_put (D := g) (ci := 8) (v := .int (nI 0)) (ty := .int) (C := R_Mo) (T := F_Mo) (N := 35) hx hb hT i_Mo t_Mo t_Mo_ok n_Mo hown hK hP hD hS 0 rfl rfl 17 (by decide) (hT _ tw_638) (fun _ h9 => h9) rfl (by decide +kernel) rfl rfl (Nat.le_of_ble_eq_true rfl) d_Mo_prepare_7 (fun H locs hP hD hS => ?_)
  have hP : va_P g vwCl (moW b cI cJ cZ f0 mn mv mg mk mo mu md ms mb mc m1 m2 m3 m4 we (mkF mb ms mn ud x) 0 ea od oo dn va ho wt cm co te tm gs gl rs rg rp rt) H := hP
  have hD : va_D A (moW b cI cJ cZ f0 mn mv mg mk mo mu md ms mb mc m1 m2 m3 m4 we (mkF mb ms mn ud x) 0 ea od oo dn va ho wt cm co te tm gs gl rs rg rp rt) := hD
  refine lv_aload_n hx hb d_Mo_prepare_10 rfl (lv_at hl 0 rfl) ?_
  refine lv_iconst (v := (nI 0)) hx hb d_Mo_prepare_11 (by decide) ?_
  refine va_put (D := g) (ci := 8) (v := .int (nI 0)) (ty := .int) (C := R_Mo) (T := F_Mo) (N := 35) hx hb hT i_Mo t_Mo t_Mo_ok n_Mo hown hK hP hD hS 0 rfl rfl 19 (by decide) (hT _ tw_640) (fun _ h9 => h9) rfl (by decide +kernel) rfl rfl (Nat.le_of_ble_eq_true rfl) d_Mo_prepare_12 (fun H locs hP hD hS => ?_)
  have hP : va_P g vwCl (moW b cI cJ cZ f0 mn mv mg mk mo mu md ms mb mc m1 m2 m3 m4 we (mkF mb ms mn ud x) 0 ea 0 oo dn va ho wt cm co te tm gs gl rs rg rp rt) H := hP
  have hD : va_D A (moW b cI cJ cZ f0 mn mv mg mk mo mu md ms mb mc m1 m2 m3 m4 we (mkF mb ms mn ud x) 0 ea 0 oo dn va ho wt cm co te tm gs gl rs rg rp rt) := hD
  refine lv_iconst (v := (nI 1)) hx hb d_Mo_prepare_15 (by decide) ?_
  refine lv_istore_n (lv' := [(2, .int (nI 1)), (0, .ref (b 0)), (1, .int (nI x))]) hx hb d_Mo_prepare_16 rfl hl (by decide) rfl (fun ls hl => ?_)
  have lp_17 : ∀ (k : Nat) (j : Nat) (d0 : Nat → Bool) (n0 : Nat) (e0 : Nat → Nat) (H : Heap) (locs : List Loc) (ls : Array Slot), (mn < j + k) → (j ≤ mn) → ((d0, n0, e0) = (prE (mkF mb ms mn ud x) mk dn ea j)) → va_P g vwCl (moW b cI cJ cZ f0 mn mv mg mk mo mu md ms mb mc m1 m2 m3 m4 we (mkF mb ms mn ud x) n0 e0 0 oo d0 va ho wt cm co te tm gs gl rs rg rp rt) H → va_D A (moW b cI cJ cZ f0 mn mv mg mk mo mu md ms mb mc m1 m2 m3 m4 we (mkF mb ms mn ud x) n0 e0 0 oo d0 va ho wt cm co te tm gs gl rs rg rp rt) → va_S A s.heap H locs → lv_has ls 4 [(0, .ref (b 0)), (1, .int (nI x)), (2, .int (nI (j + 1)))] → W p l e ({ frames := 1, cells := 0, slots := 0, locals := 25 } : Room) s m args below meth c H locs 0 0 Q (F0 m 17 ls []) := by
    intro k
    induction k with
    | zero =>
      intro j d0 n0 e0 H locs ls hk hj hf hP hD hS hl
      exfalso
      omega
    | succ k ih_17 =>
      intro j d0 n0 e0 H locs ls hk hj hf hP hD hS hl
      refine lv_iload_n hx hb d_Mo_prepare_17 rfl (lv_at hl 2 rfl) ?_
      refine lv_aload_n hx hb d_Mo_prepare_18 rfl (lv_at hl 0 rfl) ?_
      refine va_get (D := g) (ci := 8) (v := .int (nI mn)) (C := R_Mo) (T := F_Mo) (N := 35) hx hb hT i_Mo hown hK hP 0 rfl rfl 1 (by decide) (hT _ tw_622) (fun _ h9 => h9) rfl d_Mo_prepare_19 ?_
      refine my_icmp_gt (tgt := 89) (a := j + 1) (b := mn) hx hb d_Mo_prepare_22 (by decide) (by omega) (by omega) (fun c_22 => ?_) (fun c_22 => ?_)
      · -- 22: taken
        have eE : (d0, n0, e0) = (prE (mkF mb ms mn ud x) mk dn ea mn) := by rw [hf, show j = mn by omega]
        have zz1 : (prE (mkF mb ms mn ud x) mk dn ea mn).1 = d0 := by rw [← eE]
        have zz2 : (prE (mkF mb ms mn ud x) mk dn ea mn).2.1 = n0 := by rw [← eE]
        have zz3 : (prE (mkF mb ms mn ud x) mk dn ea mn).2.2 = e0 := by rw [← eE]
        rw [← zz2, ← zz3] at hP hD
        have hnd : ndc (prE (mkF mb ms mn ud x) mk dn ea mn).1 mn ≤ 20 := by
          refine Nat.le_trans (Nat.le_of_eq (cfB_congr mn (fun i hi => ?_))) hgt
          exact prE_dn mn (i + 1) (by omega) (by omega)
        refine lv_iconst (v := (nI 1)) hx hb d_Mo_prepare_89 (by decide) ?_
        refine lv_istore_n (lv' := [(2, .int (nI 1)), (0, .ref (b 0)), (1, .int (nI x))]) hx hb d_Mo_prepare_90 rfl hl (by decide) rfl (fun ls hl => ?_)
        have lp_91 : ∀ (kw : Nat) (f : Nat) (d1 : Nat → Bool) (n1 : Nat) (o1 : Nat → Nat) (r1 : Bool) (H : Heap) (locs : List Loc) (ls : Array Slot), (f < kw) → (n1 + ndc d1 mn ≤ 20) → (r1 = true → prW (fun s => prG (mkF mb ms mn ud x) ms mb s mn) f (d1, n1, o1) = (prW (fun s => prG (mkF mb ms mn ud x) ms mb s mn) 34 ((prE (mkF mb ms mn ud x) mk dn ea mn).1, 0, oo)) ∧ ndc d1 mn < f) → (r1 = false → (d1, n1, o1) = (prW (fun s => prG (mkF mb ms mn ud x) ms mb s mn) 34 ((prE (mkF mb ms mn ud x) mk dn ea mn).1, 0, oo))) → va_P g vwCl (moW b cI cJ cZ f0 mn mv mg mk mo mu md ms mb mc m1 m2 m3 m4 we (mkF mb ms mn ud x) ((prE (mkF mb ms mn ud x) mk dn ea mn).2.1) ((prE (mkF mb ms mn ud x) mk dn ea mn).2.2) n1 o1 d1 va ho wt cm co te tm gs gl rs rg rp rt) H → va_D A (moW b cI cJ cZ f0 mn mv mg mk mo mu md ms mb mc m1 m2 m3 m4 we (mkF mb ms mn ud x) ((prE (mkF mb ms mn ud x) mk dn ea mn).2.1) ((prE (mkF mb ms mn ud x) mk dn ea mn).2.2) n1 o1 d1 va ho wt cm co te tm gs gl rs rg rp rt) → va_S A s.heap H locs → lv_has ls 4 [(0, .ref (b 0)), (1, .int (nI x)), (2, .int (b2 r1))] → W p l e ({ frames := 1, cells := 0, slots := 0, locals := 25 } : Room) s m args below meth c H locs 0 0 Q (F0 m 91 ls []) := by
          intro kw
          induction kw with
          | zero =>
            intro f d1 n1 o1 r1 H locs ls hkW hod hWt hWf hP hD hS hl
            exfalso
            omega
          | succ kw ih_91 =>
            intro f d1 n1 o1 r1 H locs ls hkW hod hWt hWf hP hD hS hl
            refine lv_iload_n hx hb d_Mo_prepare_91 rfl (lv_at hl 2 rfl) ?_
            refine my_if_eq_b (tgt := 171) hx hb d_Mo_prepare_92 (by decide) (fun c_92 => ?_) (fun c_92 => ?_)
            · -- 92: taken
              have eW := hWf c_92
              have v1 : (prW (fun s => prG (mkF mb ms mn ud x) ms mb s mn) 34 ((prE (mkF mb ms mn ud x) mk dn ea mn).1, 0, oo)).1 = d1 := by rw [← eW]
              have v2 : (prW (fun s => prG (mkF mb ms mn ud x) ms mb s mn) 34 ((prE (mkF mb ms mn ud x) mk dn ea mn).1, 0, oo)).2.1 = n1 := by rw [← eW]
              have v3 : (prW (fun s => prG (mkF mb ms mn ud x) ms mb s mn) 34 ((prE (mkF mb ms mn ud x) mk dn ea mn).1, 0, oo)).2.2 = o1 := by rw [← eW]
              rw [← v1, ← v2, ← v3] at hP hD
              exact hret _ _ _ _ hP hD hS d_Mo_prepare_171
            · -- 92: not taken
              obtain ⟨f, rfl⟩ : ∃ q, f = q + 1 := ⟨f - 1, by have := (hWt c_92).2; omega⟩
              refine lv_iconst (v := (nI 0)) hx hb d_Mo_prepare_95 (by decide) ?_
              refine lv_istore_n (lv' := [(2, .int (nI 0)), (0, .ref (b 0)), (1, .int (nI x))]) hx hb d_Mo_prepare_96 rfl hl (by decide) rfl (fun ls hl => ?_)
              refine lv_iconst (v := (nI 1)) hx hb d_Mo_prepare_97 (by decide) ?_
              refine lv_istore_n (lv' := [(3, .int (nI 1)), (2, .int (nI 0)), (0, .ref (b 0)), (1, .int (nI x))]) hx hb d_Mo_prepare_98 rfl hl (by decide) rfl (fun ls hl => ?_)
              have lp_99 : ∀ (k2 : Nat) (j : Nat) (d2 : Nat → Bool) (n2 : Nat) (o2 : Nat → Nat) (r2 : Bool) (H : Heap) (locs : List Loc) (ls : Array Slot), (mn < j + k2) → (j ≤ mn) → ((d2, n2, o2, r2) = (prG (mkF mb ms mn ud x) ms mb (d1, n1, o1) j)) → va_P g vwCl (moW b cI cJ cZ f0 mn mv mg mk mo mu md ms mb mc m1 m2 m3 m4 we (mkF mb ms mn ud x) ((prE (mkF mb ms mn ud x) mk dn ea mn).2.1) ((prE (mkF mb ms mn ud x) mk dn ea mn).2.2) n2 o2 d2 va ho wt cm co te tm gs gl rs rg rp rt) H → va_D A (moW b cI cJ cZ f0 mn mv mg mk mo mu md ms mb mc m1 m2 m3 m4 we (mkF mb ms mn ud x) ((prE (mkF mb ms mn ud x) mk dn ea mn).2.1) ((prE (mkF mb ms mn ud x) mk dn ea mn).2.2) n2 o2 d2 va ho wt cm co te tm gs gl rs rg rp rt) → va_S A s.heap H locs → lv_has ls 4 [(0, .ref (b 0)), (1, .int (nI x)), (2, .int (b2 r2)), (3, .int (nI (j + 1)))] → W p l e ({ frames := 1, cells := 0, slots := 0, locals := 25 } : Room) s m args below meth c H locs 0 0 Q (F0 m 99 ls []) := by
                intro k2
                induction k2 with
                | zero =>
                  intro j d2 n2 o2 r2 H locs ls hk2 hj2 hf2 hP hD hS hl
                  exfalso
                  omega
                | succ k2 ih_99 =>
                  intro j d2 n2 o2 r2 H locs ls hk2 hj2 hf2 hP hD hS hl
                  refine lv_iload_n hx hb d_Mo_prepare_99 rfl (lv_at hl 3 rfl) ?_
                  refine lv_aload_n hx hb d_Mo_prepare_100 rfl (lv_at hl 0 rfl) ?_
                  refine va_get (D := g) (ci := 8) (v := .int (nI mn)) (C := R_Mo) (T := F_Mo) (N := 35) hx hb hT i_Mo hown hK hP 0 rfl rfl 1 (by decide) (hT _ tw_622) (fun _ h9 => h9) rfl d_Mo_prepare_101 ?_
                  refine my_icmp_gt (tgt := 168) (a := j + 1) (b := mn) hx hb d_Mo_prepare_104 (by decide) (by omega) (by omega) (fun c_104 => ?_) (fun c_104 => ?_)
                  · -- 104: taken
                    refine lv_goto (tgt := 91) hx hb d_Mo_prepare_168 (by decide) ?_
                    refine ih_91 f _ _ _ r2 _ _ _ ?_ ?_ ?_ ?_ hP hD hS (lv_sub hl [0, 1, 2] rfl)
                    · omega
                    · have eP : (d2, n2, o2, r2) = prG (mkF mb ms mn ud x) ms mb (d1, n1, o1) mn := by rw [hf2, show j = mn by omega]
                      have y1 : (prG (mkF mb ms mn ud x) ms mb (d1, n1, o1) mn).1 = d2 := by rw [← eP]
                      have y2 : (prG (mkF mb ms mn ud x) ms mb (d1, n1, o1) mn).2.1 = n2 := by rw [← eP]
                      have y3 : (prG (mkF mb ms mn ud x) ms mb (d1, n1, o1) mn).2.2.1 = o2 := by rw [← eP]
                      have y4 : (prG (mkF mb ms mn ud x) ms mb (d1, n1, o1) mn).2.2.2 = r2 := by rw [← eP]
                      have := (prG_nd (u := (mkF mb ms mn ud x)) (ms := ms) (mb := mb) (s := (d1, n1, o1)) mn (Nat.le_refl _)).1; rw [y1, y2] at this; exact Nat.le_trans this hod
                    · intro h
                      have eP : (d2, n2, o2, r2) = prG (mkF mb ms mn ud x) ms mb (d1, n1, o1) mn := by rw [hf2, show j = mn by omega]
                      have y1 : (prG (mkF mb ms mn ud x) ms mb (d1, n1, o1) mn).1 = d2 := by rw [← eP]
                      have y2 : (prG (mkF mb ms mn ud x) ms mb (d1, n1, o1) mn).2.1 = n2 := by rw [← eP]
                      have y3 : (prG (mkF mb ms mn ud x) ms mb (d1, n1, o1) mn).2.2.1 = o2 := by rw [← eP]
                      have y4 : (prG (mkF mb ms mn ud x) ms mb (d1, n1, o1) mn).2.2.2 = r2 := by rw [← eP]
                      obtain ⟨x1, x2⟩ := hWt c_92
                      refine ⟨?_, ?_⟩
                      · rw [← x1]; show _ = (if (prG (mkF mb ms mn ud x) ms mb (d1, n1, o1) mn).2.2.2 = true then prW (fun s => prG (mkF mb ms mn ud x) ms mb s mn) f ((prG (mkF mb ms mn ud x) ms mb (d1, n1, o1) mn).1, (prG (mkF mb ms mn ud x) ms mb (d1, n1, o1) mn).2.1, (prG (mkF mb ms mn ud x) ms mb (d1, n1, o1) mn).2.2.1) else ((prG (mkF mb ms mn ud x) ms mb (d1, n1, o1) mn).1, (prG (mkF mb ms mn ud x) ms mb (d1, n1, o1) mn).2.1, (prG (mkF mb ms mn ud x) ms mb (d1, n1, o1) mn).2.2.1)); rw [y4, y1, y2, y3, if_pos h]
                      · have := (prG_nd (u := (mkF mb ms mn ud x)) (ms := ms) (mb := mb) (s := (d1, n1, o1)) mn (Nat.le_refl _)).2.2 (by rw [y4]; exact h); rw [y1] at this; have x3 : ndc d2 mn < ndc d1 mn := this; omega
                    · intro h
                      have eP : (d2, n2, o2, r2) = prG (mkF mb ms mn ud x) ms mb (d1, n1, o1) mn := by rw [hf2, show j = mn by omega]
                      have y1 : (prG (mkF mb ms mn ud x) ms mb (d1, n1, o1) mn).1 = d2 := by rw [← eP]
                      have y2 : (prG (mkF mb ms mn ud x) ms mb (d1, n1, o1) mn).2.1 = n2 := by rw [← eP]
                      have y3 : (prG (mkF mb ms mn ud x) ms mb (d1, n1, o1) mn).2.2.1 = o2 := by rw [← eP]
                      have y4 : (prG (mkF mb ms mn ud x) ms mb (d1, n1, o1) mn).2.2.2 = r2 := by rw [← eP]
                      obtain ⟨x1, x2⟩ := hWt c_92
                      rw [← x1]; show _ = (if (prG (mkF mb ms mn ud x) ms mb (d1, n1, o1) mn).2.2.2 = true then prW (fun s => prG (mkF mb ms mn ud x) ms mb s mn) f ((prG (mkF mb ms mn ud x) ms mb (d1, n1, o1) mn).1, (prG (mkF mb ms mn ud x) ms mb (d1, n1, o1) mn).2.1, (prG (mkF mb ms mn ud x) ms mb (d1, n1, o1) mn).2.2.1) else ((prG (mkF mb ms mn ud x) ms mb (d1, n1, o1) mn).1, (prG (mkF mb ms mn ud x) ms mb (d1, n1, o1) mn).2.1, (prG (mkF mb ms mn ud x) ms mb (d1, n1, o1) mn).2.2.1)); rw [y4, y1, y2, y3, if_neg (by rw [h]; decide)]
                  · -- 104: not taken
                    refine lv_aload_n hx hb d_Mo_prepare_107 rfl (lv_at hl 0 rfl) ?_
                    refine va_get (D := g) (ci := 8) (v := .ref (b 11)) (C := R_Mo) (T := F_Mo) (N := 35) hx hb hT i_Mo hown hK hP 0 rfl rfl 16 (by decide) (hT _ tw_637) (fun _ h9 => h9) rfl d_Mo_prepare_108 ?_
                    refine lv_iload_n hx hb d_Mo_prepare_111 rfl (lv_at hl 3 rfl) ?_
                    refine my_zald (v := (b2 ((mkF mb ms mn ud x) (j + 1)))) (i := j + 1) hx hb hK hP 11 2 rfl rfl (by omega) (by decide) rfl d_Mo_prepare_112 ?_
                    refine my_if_eq_b (tgt := 162) hx hb d_Mo_prepare_113 (by decide) (fun c_113 => ?_) (fun c_113 => ?_)
                    · -- 113: taken
                      refine lv_iinc (v := (nI (j + 1 + 1))) (lv' := [(3, .int (nI (j + 1 + 1))), (0, .ref (b 0)), (1, .int (nI x)), (2, .int (b2 r2))]) hx hb d_Mo_prepare_162 hl (k := 3) rfl (nI_1 (j + 1)) (by decide) rfl (fun ls hl => ?_)
                      refine lv_goto (tgt := 99) hx hb d_Mo_prepare_165 (by decide) ?_
                      refine ih_99 (j + 1) _ _ _ r2 _ _ _ ?_ ?_ ?_ hP hD hS (lv_sub hl [1, 2, 3, 0] rfl)
                      · omega
                      · omega
                      · have z1 : (prG (mkF mb ms mn ud x) ms mb (d1, n1, o1) j).1 = d2 := by rw [← hf2]
                        have z2 : (prG (mkF mb ms mn ud x) ms mb (d1, n1, o1) j).2.1 = n2 := by rw [← hf2]
                        have z3 : (prG (mkF mb ms mn ud x) ms mb (d1, n1, o1) j).2.2.1 = o2 := by rw [← hf2]
                        rw [prG_f (by intro hh; obtain ⟨y1, y2, y3⟩ := hh; rw [z1] at y2 y3; first | exact absurd (y1.symm.trans c_113) (by decide) | exact absurd (y2.symm.trans c_122) (by decide) | exact absurd (y3.symm.trans c_130) (by decide)), hf2]
                    · -- 113: not taken
                      refine lv_aload_n hx hb d_Mo_prepare_116 rfl (lv_at hl 0 rfl) ?_
                      refine va_get (D := g) (ci := 8) (v := .ref (b 14)) (C := R_Mo) (T := F_Mo) (N := 35) hx hb hT i_Mo hown hK hP 0 rfl rfl 21 (by decide) (hT _ tw_642) (fun _ h9 => h9) rfl d_Mo_prepare_117 ?_
                      refine lv_iload_n hx hb d_Mo_prepare_120 rfl (lv_at hl 3 rfl) ?_
                      refine my_zald (v := (b2 (d2 (j + 1)))) (i := j + 1) hx hb hK hP 14 2 rfl rfl (by omega) (by decide) rfl d_Mo_prepare_121 ?_
                      refine my_if_ne_b (tgt := 162) hx hb d_Mo_prepare_122 (by decide) (fun c_122 => ?_) (fun c_122 => ?_)
                      · -- 122: taken
                        refine lv_iinc (v := (nI (j + 1 + 1))) (lv' := [(3, .int (nI (j + 1 + 1))), (0, .ref (b 0)), (1, .int (nI x)), (2, .int (b2 r2))]) hx hb d_Mo_prepare_162 hl (k := 3) rfl (nI_1 (j + 1)) (by decide) rfl (fun ls hl => ?_)
                        refine lv_goto (tgt := 99) hx hb d_Mo_prepare_165 (by decide) ?_
                        refine ih_99 (j + 1) _ _ _ r2 _ _ _ ?_ ?_ ?_ hP hD hS (lv_sub hl [1, 2, 3, 0] rfl)
                        · omega
                        · omega
                        · have z1 : (prG (mkF mb ms mn ud x) ms mb (d1, n1, o1) j).1 = d2 := by rw [← hf2]
                          have z2 : (prG (mkF mb ms mn ud x) ms mb (d1, n1, o1) j).2.1 = n2 := by rw [← hf2]
                          have z3 : (prG (mkF mb ms mn ud x) ms mb (d1, n1, o1) j).2.2.1 = o2 := by rw [← hf2]
                          rw [prG_f (by intro hh; obtain ⟨y1, y2, y3⟩ := hh; rw [z1] at y2 y3; first | exact absurd (y1.symm.trans c_113) (by decide) | exact absurd (y2.symm.trans c_122) (by decide) | exact absurd (y3.symm.trans c_130) (by decide)), hf2]
                      · -- 122: not taken
                        refine lv_aload_n hx hb d_Mo_prepare_125 rfl (lv_at hl 0 rfl) ?_
                        refine lv_iload_n hx hb d_Mo_prepare_126 rfl (lv_at hl 3 rfl) ?_
                        refine my_V_i (q0 := 0) (ci := 8) (C := R_Mo) (As := [.int (nI (j + 1))]) (n := 1) (k_Mo_isReady l g b cI cJ cZ f0 mn mv mg mk mo mu md ms mb mc m1 m2 m3 m4 we (mkF mb ms mn ud x) ((prE (mkF mb ms mn ud x) mk dn ea mn).2.1) ((prE (mkF mb ms mn ud x) mk dn ea mn).2.2) n2 o2 d2 va ho wt cm co te tm gs gl rs rg rp rt (j + 1) (by omega) hms hmb) hx hb hml hown hT hN tw_765 tw_767 tp_19 tw_9 tw_768 (by decide +kernel) rfl rfl ⟨Nat.le_of_ble_eq_true rfl, Nat.le_of_ble_eq_true rfl⟩ ⟨Nat.zero_le _, Nat.zero_le _⟩ hK hP hD hS hA rfl rfl rfl hl rfl (Nat.le_of_ble_eq_true rfl) d_Mo_prepare_127 (fun H locs hP hD hS => ?_)
                        refine my_if_eq_b (tgt := 162) hx hb d_Mo_prepare_130 (by decide) (fun c_130 => ?_) (fun c_130 => ?_)
                        · -- 130: taken
                          refine lv_iinc (v := (nI (j + 1 + 1))) (lv' := [(3, .int (nI (j + 1 + 1))), (0, .ref (b 0)), (1, .int (nI x)), (2, .int (b2 r2))]) hx hb d_Mo_prepare_162 hl (k := 3) rfl (nI_1 (j + 1)) (by decide) rfl (fun ls hl => ?_)
                          refine lv_goto (tgt := 99) hx hb d_Mo_prepare_165 (by decide) ?_
                          refine ih_99 (j + 1) _ _ _ r2 _ _ _ ?_ ?_ ?_ hP hD hS (lv_sub hl [1, 2, 3, 0] rfl)
                          · omega
                          · omega
                          · have z1 : (prG (mkF mb ms mn ud x) ms mb (d1, n1, o1) j).1 = d2 := by rw [← hf2]
                            have z2 : (prG (mkF mb ms mn ud x) ms mb (d1, n1, o1) j).2.1 = n2 := by rw [← hf2]
                            have z3 : (prG (mkF mb ms mn ud x) ms mb (d1, n1, o1) j).2.2.1 = o2 := by rw [← hf2]
                            rw [prG_f (by intro hh; obtain ⟨y1, y2, y3⟩ := hh; rw [z1] at y2 y3; first | exact absurd (y1.symm.trans c_113) (by decide) | exact absurd (y2.symm.trans c_122) (by decide) | exact absurd (y3.symm.trans c_130) (by decide)), hf2]
                        · -- 130: not taken
                          have qo : n2 < 20 := by
                            have h1 := (prG_nd (u := (mkF mb ms mn ud x)) (ms := ms) (mb := mb) (s := (d1, n1, o1)) (n := mn) j (by omega)).1
                            rw [← hf2] at h1
                            have h1 : n2 + ndc d2 mn ≤ n1 + ndc d1 mn := h1
                            have h2 : 0 < ndc d2 mn := cfB_pos (u := fun i => d2 (i + 1)) (j := j) mn (by omega) c_122
                            omega
                          refine lv_aload_n hx hb d_Mo_prepare_133 rfl (lv_at hl 0 rfl) ?_
                          refine va_get (D := g) (ci := 8) (v := .ref (b 14)) (C := R_Mo) (T := F_Mo) (N := 35) hx hb hT i_Mo hown hK hP 0 rfl rfl 21 (by decide) (hT _ tw_642) (fun _ h9 => h9) rfl d_Mo_prepare_134 ?_
                          refine lv_iload_n hx hb d_Mo_prepare_137 rfl (lv_at hl 3 rfl) ?_
                          refine lv_iconst (v := (nI 1)) hx hb d_Mo_prepare_138 (by decide) ?_
                          refine my_zast (b := true) (i := j + 1) hx hb hK hP hD hS 14 2 rfl rfl (by omega) (by decide) rfl (w' := (moW b cI cJ cZ f0 mn mv mg mk mo mu md ms mb mc m1 m2 m3 m4 we (mkF mb ms mn ud x) ((prE (mkF mb ms mn ud x) mk dn ea mn).2.1) ((prE (mkF mb ms mn ud x) mk dn ea mn).2.2) n2 o2 (va_up d2 (j + 1) true) va ho wt cm co te tm gs gl rs rg rp rt)) rfl d_Mo_prepare_139 (fun H locs hP hD hS => ?_)
                          refine lv_aload_n hx hb d_Mo_prepare_140 rfl (lv_at hl 0 rfl) ?_
                          refine va_get (D := g) (ci := 8) (v := .ref (b 13)) (C := R_Mo) (T := F_Mo) (N := 35) hx hb hT i_Mo hown hK hP 0 rfl rfl 20 (by decide) (hT _ tw_641) (fun _ h9 => h9) rfl d_Mo_prepare_141 ?_
                          refine lv_aload_n hx hb d_Mo_prepare_144 rfl (lv_at hl 0 rfl) ?_
                          refine va_get (D := g) (ci := 8) (v := .int (nI n2)) (C := R_Mo) (T := F_Mo) (N := 35) hx hb hT i_Mo hown hK hP 0 rfl rfl 19 (by decide) (hT _ tw_640) (fun _ h9 => h9) rfl d_Mo_prepare_145 ?_
                          refine lv_iload_n hx hb d_Mo_prepare_148 rfl (lv_at hl 3 rfl) ?_
                          refine my_iast (i := n2) hx hb hK hP hD hS 13 0 rfl rfl (by omega) (by decide) (my_upN _ _ _) (w' := (moW b cI cJ cZ f0 mn mv mg mk mo mu md ms mb mc m1 m2 m3 m4 we (mkF mb ms mn ud x) ((prE (mkF mb ms mn ud x) mk dn ea mn).2.1) ((prE (mkF mb ms mn ud x) mk dn ea mn).2.2) n2 (va_up o2 n2 (j + 1)) (va_up d2 (j + 1) true) va ho wt cm co te tm gs gl rs rg rp rt)) rfl d_Mo_prepare_149 (fun H locs hP hD hS => ?_)
                          refine lv_aload_n hx hb d_Mo_prepare_150 rfl (lv_at hl 0 rfl) ?_
                          refine lv_dup hx hb d_Mo_prepare_151 rfl ?_
                          refine va_get (D := g) (ci := 8) (v := .int (nI n2)) (C := R_Mo) (T := F_Mo) (N := 35) hx hb hT i_Mo hown hK hP 0 rfl rfl 19 (by decide) (hT _ tw_640) (fun _ h9 => h9) rfl d_Mo_prepare_152 ?_
                          refine lv_iconst (v := (nI 1)) hx hb d_Mo_prepare_155 (by decide) ?_
                          refine lv_iadd hx hb d_Mo_prepare_156 ?_
                          refine my_ei (nI_add n2 1) ?_
                          refine va_put (D := g) (ci := 8) (v := .int (nI (n2 + 1))) (ty := .int) (C := R_Mo) (T := F_Mo) (N := 35) hx hb hT i_Mo t_Mo t_Mo_ok n_Mo hown hK hP hD hS 0 rfl rfl 19 (by decide) (hT _ tw_640) (fun _ h9 => h9) rfl (by decide +kernel) rfl rfl (Nat.le_of_ble_eq_true rfl) d_Mo_prepare_157 (fun H locs hP hD hS => ?_)
                          have hP : va_P g vwCl (moW b cI cJ cZ f0 mn mv mg mk mo mu md ms mb mc m1 m2 m3 m4 we (mkF mb ms mn ud x) ((prE (mkF mb ms mn ud x) mk dn ea mn).2.1) ((prE (mkF mb ms mn ud x) mk dn ea mn).2.2) (n2 + 1) (va_up o2 n2 (j + 1)) (va_up d2 (j + 1) true) va ho wt cm co te tm gs gl rs rg rp rt) H := hP
                          have hD : va_D A (moW b cI cJ cZ f0 mn mv mg mk mo mu md ms mb mc m1 m2 m3 m4 we (mkF mb ms mn ud x) ((prE (mkF mb ms mn ud x) mk dn ea mn).2.1) ((prE (mkF mb ms mn ud x) mk dn ea mn).2.2) (n2 + 1) (va_up o2 n2 (j + 1)) (va_up d2 (j + 1) true) va ho wt cm co te tm gs gl rs rg rp rt) := hD
                          refine lv_iconst (v := (nI 1)) hx hb d_Mo_prepare_160 (by decide) ?_
                          refine lv_istore_n (lv' := [(2, .int (nI 1)), (0, .ref (b 0)), (1, .int (nI x)), (3, .int (nI (j + 1)))]) hx hb d_Mo_prepare_161 rfl hl (by decide) rfl (fun ls hl => ?_)
                          refine lv_iinc (v := (nI (j + 1 + 1))) (lv' := [(3, .int (nI (j + 1 + 1))), (2, .int (nI 1)), (0, .ref (b 0)), (1, .int (nI x))]) hx hb d_Mo_prepare_162 hl (k := 3) rfl (nI_1 (j + 1)) (by decide) rfl (fun ls hl => ?_)
                          refine lv_goto (tgt := 99) hx hb d_Mo_prepare_165 (by decide) ?_
                          refine ih_99 (j + 1) _ _ _ true _ _ _ ?_ ?_ ?_ hP hD hS (lv_sub hl [2, 3, 1, 0] rfl)
                          · omega
                          · omega
                          · have z1 : (prG (mkF mb ms mn ud x) ms mb (d1, n1, o1) j).1 = d2 := by rw [← hf2]
                            have z2 : (prG (mkF mb ms mn ud x) ms mb (d1, n1, o1) j).2.1 = n2 := by rw [← hf2]
                            have z3 : (prG (mkF mb ms mn ud x) ms mb (d1, n1, o1) j).2.2.1 = o2 := by rw [← hf2]
                            rw [prG_t ⟨c_113, by rw [z1]; exact c_122, by rw [z1]; exact c_130⟩, z1, z2, z3]
              refine lp_99 (mn + 1) 0 _ _ _ false _ _ _ ?_ ?_ ?_ hP hD hS (lv_sub hl [2, 3, 1, 0] rfl)
              · omega
              · omega
              · rfl
        refine lp_91 (35) 34 _ _ _ true _ _ _ ?_ ?_ ?_ ?_ hP hD hS (lv_sub hl [1, 2, 0] rfl)
        · omega
        · rw [← zz1, Nat.zero_add]; exact hnd
        · intro _; exact ⟨by rw [← zz1], by have := cfB_le (fun i => d0 (i + 1)) mn; show cfB _ _ < 34; omega⟩
        · intro h; exact absurd h (by decide)
      · -- 22: not taken
        refine lv_aload_n hx hb d_Mo_prepare_25 rfl (lv_at hl 0 rfl) ?_
        refine va_get (D := g) (ci := 8) (v := .ref (b 14)) (C := R_Mo) (T := F_Mo) (N := 35) hx hb hT i_Mo hown hK hP 0 rfl rfl 21 (by decide) (hT _ tw_642) (fun _ h9 => h9) rfl d_Mo_prepare_26 ?_
        refine lv_iload_n hx hb d_Mo_prepare_29 rfl (lv_at hl 2 rfl) ?_
        refine lv_aload_n hx hb d_Mo_prepare_30 rfl (lv_at hl 0 rfl) ?_
        refine va_get (D := g) (ci := 8) (v := .ref (b 1)) (C := R_Mo) (T := F_Mo) (N := 35) hx hb hT i_Mo hown hK hP 0 rfl rfl 4 (by decide) (hT _ tw_625) (fun _ h9 => h9) rfl d_Mo_prepare_31 ?_
        refine lv_iload_n hx hb d_Mo_prepare_34 rfl (lv_at hl 2 rfl) ?_
        refine my_iald (v := (nI (mk (j + 1)))) (i := j + 1) hx hb hK hP 1 0 rfl rfl (by omega) (by decide) rfl d_Mo_prepare_35 ?_
        have qk := hmk (j + 1)
        refine my_if_ne (tgt := 43) (a := mk (j + 1)) hx hb d_Mo_prepare_36 (by decide) (by omega) (fun c_36 => ?_) (fun c_36 => ?_)
        · -- 36: taken
          refine lv_iconst (v := (nI 0)) hx hb d_Mo_prepare_43 (by decide) ?_
          refine my_zast (b := false) (i := j + 1) hx hb hK hP hD hS 14 2 rfl rfl (by omega) (by decide) rfl (w' := (moW b cI cJ cZ f0 mn mv mg mk mo mu md ms mb mc m1 m2 m3 m4 we (mkF mb ms mn ud x) n0 e0 0 oo (va_up d0 (j + 1) false) va ho wt cm co te tm gs gl rs rg rp rt)) rfl d_Mo_prepare_44 (fun H locs hP hD hS => ?_)
          refine lv_aload_n hx hb d_Mo_prepare_45 rfl (lv_at hl 0 rfl) ?_
          refine va_get (D := g) (ci := 8) (v := .ref (b 11)) (C := R_Mo) (T := F_Mo) (N := 35) hx hb hT i_Mo hown hK hP 0 rfl rfl 16 (by decide) (hT _ tw_637) (fun _ h9 => h9) rfl d_Mo_prepare_46 ?_
          refine lv_iload_n hx hb d_Mo_prepare_49 rfl (lv_at hl 2 rfl) ?_
          refine my_zald (v := (b2 ((mkF mb ms mn ud x) (j + 1)))) (i := j + 1) hx hb hK hP 11 2 rfl rfl (by omega) (by decide) rfl d_Mo_prepare_50 ?_
          refine my_if_eq_b (tgt := 83) hx hb d_Mo_prepare_51 (by decide) (fun c_51 => ?_) (fun c_51 => ?_)
          · -- 51: taken
            refine lv_iinc (v := (nI (j + 1 + 1))) (lv' := [(2, .int (nI (j + 1 + 1))), (0, .ref (b 0)), (1, .int (nI x))]) hx hb d_Mo_prepare_83 hl (k := 2) rfl (nI_1 (j + 1)) (by decide) rfl (fun ls hl => ?_)
            refine lv_goto (tgt := 17) hx hb d_Mo_prepare_86 (by decide) ?_
            refine ih_17 (j + 1) _ _ _ _ _ _ ?_ ?_ ?_ hP hD hS (lv_sub hl [1, 2, 0] rfl)
            · omega
            · omega
            · have z1 : (prE (mkF mb ms mn ud x) mk dn ea j).1 = d0 := by rw [← hf]
              have z2 : (prE (mkF mb ms mn ud x) mk dn ea j).2.1 = n0 := by rw [← hf]
              have z3 : (prE (mkF mb ms mn ud x) mk dn ea j).2.2 = e0 := by rw [← hf]
              rw [prE_f (by intro hh; rw [c_51] at hh; exact absurd hh.1 (by decide)), z1, z2, z3]; first | rw [decide_eq_true c_36] | rw [decide_eq_false (show ¬ mk (j + 1) = 0 by omega)]
          · -- 51: not taken
            refine lv_aload_n hx hb d_Mo_prepare_54 rfl (lv_at hl 0 rfl) ?_
            refine va_get (D := g) (ci := 8) (v := .ref (b 1)) (C := R_Mo) (T := F_Mo) (N := 35) hx hb hT i_Mo hown hK hP 0 rfl rfl 4 (by decide) (hT _ tw_625) (fun _ h9 => h9) rfl d_Mo_prepare_55 ?_
            refine lv_iload_n hx hb d_Mo_prepare_58 rfl (lv_at hl 2 rfl) ?_
            refine my_iald (v := (nI (mk (j + 1)))) (i := j + 1) hx hb hK hP 1 0 rfl rfl (by omega) (by decide) rfl d_Mo_prepare_59 ?_
            have qk := hmk (j + 1)
            refine my_if_ne (tgt := 83) (a := mk (j + 1)) hx hb d_Mo_prepare_60 (by decide) (by omega) (fun c_60 => ?_) (fun c_60 => ?_)
            · -- 60: taken
              refine lv_iinc (v := (nI (j + 1 + 1))) (lv' := [(2, .int (nI (j + 1 + 1))), (0, .ref (b 0)), (1, .int (nI x))]) hx hb d_Mo_prepare_83 hl (k := 2) rfl (nI_1 (j + 1)) (by decide) rfl (fun ls hl => ?_)
              refine lv_goto (tgt := 17) hx hb d_Mo_prepare_86 (by decide) ?_
              refine ih_17 (j + 1) _ _ _ _ _ _ ?_ ?_ ?_ hP hD hS (lv_sub hl [1, 2, 0] rfl)
              · omega
              · omega
              · have z1 : (prE (mkF mb ms mn ud x) mk dn ea j).1 = d0 := by rw [← hf]
                have z2 : (prE (mkF mb ms mn ud x) mk dn ea j).2.1 = n0 := by rw [← hf]
                have z3 : (prE (mkF mb ms mn ud x) mk dn ea j).2.2 = e0 := by rw [← hf]
                first | (exfalso; omega) | (rw [prE_f (by intro hh; omega), z1, z2, z3]; first | rw [decide_eq_true c_36] | rw [decide_eq_false (show ¬ mk (j + 1) = 0 by omega)])
            · -- 60: not taken
              have qe : n0 < 12 := by
                have h1 := prE_le (u := (mkF mb ms mn ud x)) (mk := mk) (dn := dn) (ea := ea) j
                rw [← hf] at h1
                have h1 : n0 ≤ evc mk j := h1
                have h2 : evc mk (j + 1) = evc mk j + 1 := by show evc mk j + (if mk (j + 1) = 0 then 1 else 0) = _; rw [if_pos c_60]
                have h3 := evc_mono mk (show j + 1 ≤ mn by omega)
                omega
              refine lv_aload_n hx hb d_Mo_prepare_63 rfl (lv_at hl 0 rfl) ?_
              refine va_get (D := g) (ci := 8) (v := .ref (b 12)) (C := R_Mo) (T := F_Mo) (N := 35) hx hb hT i_Mo hown hK hP 0 rfl rfl 18 (by decide) (hT _ tw_639) (fun _ h9 => h9) rfl d_Mo_prepare_64 ?_
              refine lv_aload_n hx hb d_Mo_prepare_67 rfl (lv_at hl 0 rfl) ?_
              refine va_get (D := g) (ci := 8) (v := .int (nI n0)) (C := R_Mo) (T := F_Mo) (N := 35) hx hb hT i_Mo hown hK hP 0 rfl rfl 17 (by decide) (hT _ tw_638) (fun _ h9 => h9) rfl d_Mo_prepare_68 ?_
              refine lv_iload_n hx hb d_Mo_prepare_71 rfl (lv_at hl 2 rfl) ?_
              refine my_iast (i := n0) hx hb hK hP hD hS 12 0 rfl rfl (by omega) (by decide) (my_upN _ _ _) (w' := (moW b cI cJ cZ f0 mn mv mg mk mo mu md ms mb mc m1 m2 m3 m4 we (mkF mb ms mn ud x) n0 (va_up e0 n0 (j + 1)) 0 oo (va_up d0 (j + 1) false) va ho wt cm co te tm gs gl rs rg rp rt)) rfl d_Mo_prepare_72 (fun H locs hP hD hS => ?_)
              refine lv_aload_n hx hb d_Mo_prepare_73 rfl (lv_at hl 0 rfl) ?_
              refine lv_dup hx hb d_Mo_prepare_74 rfl ?_
              refine va_get (D := g) (ci := 8) (v := .int (nI n0)) (C := R_Mo) (T := F_Mo) (N := 35) hx hb hT i_Mo hown hK hP 0 rfl rfl 17 (by decide) (hT _ tw_638) (fun _ h9 => h9) rfl d_Mo_prepare_75 ?_
              refine lv_iconst (v := (nI 1)) hx hb d_Mo_prepare_78 (by decide) ?_
              refine lv_iadd hx hb d_Mo_prepare_79 ?_
              refine my_ei (nI_add n0 1) ?_
              refine va_put (D := g) (ci := 8) (v := .int (nI (n0 + 1))) (ty := .int) (C := R_Mo) (T := F_Mo) (N := 35) hx hb hT i_Mo t_Mo t_Mo_ok n_Mo hown hK hP hD hS 0 rfl rfl 17 (by decide) (hT _ tw_638) (fun _ h9 => h9) rfl (by decide +kernel) rfl rfl (Nat.le_of_ble_eq_true rfl) d_Mo_prepare_80 (fun H locs hP hD hS => ?_)
              have hP : va_P g vwCl (moW b cI cJ cZ f0 mn mv mg mk mo mu md ms mb mc m1 m2 m3 m4 we (mkF mb ms mn ud x) (n0 + 1) (va_up e0 n0 (j + 1)) 0 oo (va_up d0 (j + 1) false) va ho wt cm co te tm gs gl rs rg rp rt) H := hP
              have hD : va_D A (moW b cI cJ cZ f0 mn mv mg mk mo mu md ms mb mc m1 m2 m3 m4 we (mkF mb ms mn ud x) (n0 + 1) (va_up e0 n0 (j + 1)) 0 oo (va_up d0 (j + 1) false) va ho wt cm co te tm gs gl rs rg rp rt) := hD
              refine lv_iinc (v := (nI (j + 1 + 1))) (lv' := [(2, .int (nI (j + 1 + 1))), (0, .ref (b 0)), (1, .int (nI x))]) hx hb d_Mo_prepare_83 hl (k := 2) rfl (nI_1 (j + 1)) (by decide) rfl (fun ls hl => ?_)
              refine lv_goto (tgt := 17) hx hb d_Mo_prepare_86 (by decide) ?_
              refine ih_17 (j + 1) _ _ _ _ _ _ ?_ ?_ ?_ hP hD hS (lv_sub hl [1, 2, 0] rfl)
              · omega
              · omega
              · have z1 : (prE (mkF mb ms mn ud x) mk dn ea j).1 = d0 := by rw [← hf]
                have z2 : (prE (mkF mb ms mn ud x) mk dn ea j).2.1 = n0 := by rw [← hf]
                have z3 : (prE (mkF mb ms mn ud x) mk dn ea j).2.2 = e0 := by rw [← hf]
                first | (exfalso; omega) | (rw [prE_t ⟨c_51, c_60⟩, z1, z2, z3]; first | rw [decide_eq_true c_36] | rw [decide_eq_false (show ¬ mk (j + 1) = 0 by omega)])
        · -- 36: not taken
          refine lv_iconst (v := (nI 1)) hx hb d_Mo_prepare_39 (by decide) ?_
          refine lv_goto (tgt := 44) hx hb d_Mo_prepare_40 (by decide) ?_
          refine my_zast (b := true) (i := j + 1) hx hb hK hP hD hS 14 2 rfl rfl (by omega) (by decide) rfl (w' := (moW b cI cJ cZ f0 mn mv mg mk mo mu md ms mb mc m1 m2 m3 m4 we (mkF mb ms mn ud x) n0 e0 0 oo (va_up d0 (j + 1) true) va ho wt cm co te tm gs gl rs rg rp rt)) rfl d_Mo_prepare_44 (fun H locs hP hD hS => ?_)
          refine lv_aload_n hx hb d_Mo_prepare_45 rfl (lv_at hl 0 rfl) ?_
          refine va_get (D := g) (ci := 8) (v := .ref (b 11)) (C := R_Mo) (T := F_Mo) (N := 35) hx hb hT i_Mo hown hK hP 0 rfl rfl 16 (by decide) (hT _ tw_637) (fun _ h9 => h9) rfl d_Mo_prepare_46 ?_
          refine lv_iload_n hx hb d_Mo_prepare_49 rfl (lv_at hl 2 rfl) ?_
          refine my_zald (v := (b2 ((mkF mb ms mn ud x) (j + 1)))) (i := j + 1) hx hb hK hP 11 2 rfl rfl (by omega) (by decide) rfl d_Mo_prepare_50 ?_
          refine my_if_eq_b (tgt := 83) hx hb d_Mo_prepare_51 (by decide) (fun c_51 => ?_) (fun c_51 => ?_)
          · -- 51: taken
            refine lv_iinc (v := (nI (j + 1 + 1))) (lv' := [(2, .int (nI (j + 1 + 1))), (0, .ref (b 0)), (1, .int (nI x))]) hx hb d_Mo_prepare_83 hl (k := 2) rfl (nI_1 (j + 1)) (by decide) rfl (fun ls hl => ?_)
            refine lv_goto (tgt := 17) hx hb d_Mo_prepare_86 (by decide) ?_
            refine ih_17 (j + 1) _ _ _ _ _ _ ?_ ?_ ?_ hP hD hS (lv_sub hl [1, 2, 0] rfl)
            · omega
            · omega
            · have z1 : (prE (mkF mb ms mn ud x) mk dn ea j).1 = d0 := by rw [← hf]
              have z2 : (prE (mkF mb ms mn ud x) mk dn ea j).2.1 = n0 := by rw [← hf]
              have z3 : (prE (mkF mb ms mn ud x) mk dn ea j).2.2 = e0 := by rw [← hf]
              rw [prE_f (by intro hh; rw [c_51] at hh; exact absurd hh.1 (by decide)), z1, z2, z3]; first | rw [decide_eq_true c_36] | rw [decide_eq_false (show ¬ mk (j + 1) = 0 by omega)]
          · -- 51: not taken
            refine lv_aload_n hx hb d_Mo_prepare_54 rfl (lv_at hl 0 rfl) ?_
            refine va_get (D := g) (ci := 8) (v := .ref (b 1)) (C := R_Mo) (T := F_Mo) (N := 35) hx hb hT i_Mo hown hK hP 0 rfl rfl 4 (by decide) (hT _ tw_625) (fun _ h9 => h9) rfl d_Mo_prepare_55 ?_
            refine lv_iload_n hx hb d_Mo_prepare_58 rfl (lv_at hl 2 rfl) ?_
            refine my_iald (v := (nI (mk (j + 1)))) (i := j + 1) hx hb hK hP 1 0 rfl rfl (by omega) (by decide) rfl d_Mo_prepare_59 ?_
            have qk := hmk (j + 1)
            refine my_if_ne (tgt := 83) (a := mk (j + 1)) hx hb d_Mo_prepare_60 (by decide) (by omega) (fun c_60 => ?_) (fun c_60 => ?_)
            · -- 60: taken
              refine lv_iinc (v := (nI (j + 1 + 1))) (lv' := [(2, .int (nI (j + 1 + 1))), (0, .ref (b 0)), (1, .int (nI x))]) hx hb d_Mo_prepare_83 hl (k := 2) rfl (nI_1 (j + 1)) (by decide) rfl (fun ls hl => ?_)
              refine lv_goto (tgt := 17) hx hb d_Mo_prepare_86 (by decide) ?_
              refine ih_17 (j + 1) _ _ _ _ _ _ ?_ ?_ ?_ hP hD hS (lv_sub hl [1, 2, 0] rfl)
              · omega
              · omega
              · have z1 : (prE (mkF mb ms mn ud x) mk dn ea j).1 = d0 := by rw [← hf]
                have z2 : (prE (mkF mb ms mn ud x) mk dn ea j).2.1 = n0 := by rw [← hf]
                have z3 : (prE (mkF mb ms mn ud x) mk dn ea j).2.2 = e0 := by rw [← hf]
                first | (exfalso; omega) | (rw [prE_f (by intro hh; omega), z1, z2, z3]; first | rw [decide_eq_true c_36] | rw [decide_eq_false (show ¬ mk (j + 1) = 0 by omega)])
            · -- 60: not taken
              have qe : n0 < 12 := by
                have h1 := prE_le (u := (mkF mb ms mn ud x)) (mk := mk) (dn := dn) (ea := ea) j
                rw [← hf] at h1
                have h1 : n0 ≤ evc mk j := h1
                have h2 : evc mk (j + 1) = evc mk j + 1 := by show evc mk j + (if mk (j + 1) = 0 then 1 else 0) = _; rw [if_pos c_60]
                have h3 := evc_mono mk (show j + 1 ≤ mn by omega)
                omega
              refine lv_aload_n hx hb d_Mo_prepare_63 rfl (lv_at hl 0 rfl) ?_
              refine va_get (D := g) (ci := 8) (v := .ref (b 12)) (C := R_Mo) (T := F_Mo) (N := 35) hx hb hT i_Mo hown hK hP 0 rfl rfl 18 (by decide) (hT _ tw_639) (fun _ h9 => h9) rfl d_Mo_prepare_64 ?_
              refine lv_aload_n hx hb d_Mo_prepare_67 rfl (lv_at hl 0 rfl) ?_
              refine va_get (D := g) (ci := 8) (v := .int (nI n0)) (C := R_Mo) (T := F_Mo) (N := 35) hx hb hT i_Mo hown hK hP 0 rfl rfl 17 (by decide) (hT _ tw_638) (fun _ h9 => h9) rfl d_Mo_prepare_68 ?_
              refine lv_iload_n hx hb d_Mo_prepare_71 rfl (lv_at hl 2 rfl) ?_
              refine my_iast (i := n0) hx hb hK hP hD hS 12 0 rfl rfl (by omega) (by decide) (my_upN _ _ _) (w' := (moW b cI cJ cZ f0 mn mv mg mk mo mu md ms mb mc m1 m2 m3 m4 we (mkF mb ms mn ud x) n0 (va_up e0 n0 (j + 1)) 0 oo (va_up d0 (j + 1) true) va ho wt cm co te tm gs gl rs rg rp rt)) rfl d_Mo_prepare_72 (fun H locs hP hD hS => ?_)
              refine lv_aload_n hx hb d_Mo_prepare_73 rfl (lv_at hl 0 rfl) ?_
              refine lv_dup hx hb d_Mo_prepare_74 rfl ?_
              refine va_get (D := g) (ci := 8) (v := .int (nI n0)) (C := R_Mo) (T := F_Mo) (N := 35) hx hb hT i_Mo hown hK hP 0 rfl rfl 17 (by decide) (hT _ tw_638) (fun _ h9 => h9) rfl d_Mo_prepare_75 ?_
              refine lv_iconst (v := (nI 1)) hx hb d_Mo_prepare_78 (by decide) ?_
              refine lv_iadd hx hb d_Mo_prepare_79 ?_
              refine my_ei (nI_add n0 1) ?_
              refine va_put (D := g) (ci := 8) (v := .int (nI (n0 + 1))) (ty := .int) (C := R_Mo) (T := F_Mo) (N := 35) hx hb hT i_Mo t_Mo t_Mo_ok n_Mo hown hK hP hD hS 0 rfl rfl 17 (by decide) (hT _ tw_638) (fun _ h9 => h9) rfl (by decide +kernel) rfl rfl (Nat.le_of_ble_eq_true rfl) d_Mo_prepare_80 (fun H locs hP hD hS => ?_)
              have hP : va_P g vwCl (moW b cI cJ cZ f0 mn mv mg mk mo mu md ms mb mc m1 m2 m3 m4 we (mkF mb ms mn ud x) (n0 + 1) (va_up e0 n0 (j + 1)) 0 oo (va_up d0 (j + 1) true) va ho wt cm co te tm gs gl rs rg rp rt) H := hP
              have hD : va_D A (moW b cI cJ cZ f0 mn mv mg mk mo mu md ms mb mc m1 m2 m3 m4 we (mkF mb ms mn ud x) (n0 + 1) (va_up e0 n0 (j + 1)) 0 oo (va_up d0 (j + 1) true) va ho wt cm co te tm gs gl rs rg rp rt) := hD
              refine lv_iinc (v := (nI (j + 1 + 1))) (lv' := [(2, .int (nI (j + 1 + 1))), (0, .ref (b 0)), (1, .int (nI x))]) hx hb d_Mo_prepare_83 hl (k := 2) rfl (nI_1 (j + 1)) (by decide) rfl (fun ls hl => ?_)
              refine lv_goto (tgt := 17) hx hb d_Mo_prepare_86 (by decide) ?_
              refine ih_17 (j + 1) _ _ _ _ _ _ ?_ ?_ ?_ hP hD hS (lv_sub hl [1, 2, 0] rfl)
              · omega
              · omega
              · have z1 : (prE (mkF mb ms mn ud x) mk dn ea j).1 = d0 := by rw [← hf]
                have z2 : (prE (mkF mb ms mn ud x) mk dn ea j).2.1 = n0 := by rw [← hf]
                have z3 : (prE (mkF mb ms mn ud x) mk dn ea j).2.2 = e0 := by rw [← hf]
                first | (exfalso; omega) | (rw [prE_t ⟨c_51, c_60⟩, z1, z2, z3]; first | rw [decide_eq_true c_36] | rw [decide_eq_false (show ¬ mk (j + 1) = 0 by omega)])
  refine lp_17 (mn + 1) 0 _ _ _ _ _ _ ?_ ?_ ?_ hP hD hS (lv_sub hl [1, 2, 0] rfl)
  · omega
  · omega
  · rfl
