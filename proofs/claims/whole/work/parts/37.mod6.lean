def pU (mb ms : Nat → Nat) (mn : Nat) (ud : Nat → Bool) (x : Nat) : Nat → Bool := mkF mb ms mn ud x
def pE (mk mb ms : Nat → Nat) (mn : Nat) (ud dn : Nat → Bool) (ea : Nat → Nat) (x : Nat) : (Nat → Bool) × Nat × (Nat → Nat) := prE (mkF mb ms mn ud x) mk dn ea mn
def pW (mk mb ms : Nat → Nat) (mn : Nat) (ud dn : Nat → Bool) (ea oo : Nat → Nat) (x : Nat) : (Nat → Bool) × Nat × (Nat → Nat) := prW (fun s => prG (mkF mb ms mn ud x) ms mb s mn) 34 ((prE (mkF mb ms mn ud x) mk dn ea mn).1, 0, oo)
theorem prE_in {u : Nat → Bool} {mk : Nat → Nat} {dn : Nat → Bool} {ea : Nat → Nat} : ∀ j i, i < (prE u mk dn ea j).2.1 → 1 ≤ (prE u mk dn ea j).2.2 i ∧ (prE u mk dn ea j).2.2 i ≤ j
  | 0, i, h => absurd h (Nat.not_lt_zero i)
  | j + 1, i, h => by
    by_cases c : u (j + 1) = true ∧ mk (j + 1) = 0
    · rw [prE_t c] at h ⊢
      show 1 ≤ va_up _ _ _ i ∧ va_up _ _ _ i ≤ j + 1
      unfold va_up
      split
      · omega
      · have h : i < (prE u mk dn ea j).2.1 + 1 := h
        have := prE_in (u := u) (mk := mk) (dn := dn) (ea := ea) j i (by omega)
        omega
    · rw [prE_f c] at h ⊢
      have := prE_in (u := u) (mk := mk) (dn := dn) (ea := ea) j i h
      show 1 ≤ (prE u mk dn ea j).2.2 i ∧ (prE u mk dn ea j).2.2 i ≤ j + 1
      omega
theorem prG_in {u : Nat → Bool} {ms mb : Nat → Nat} {s : (Nat → Bool) × Nat × (Nat → Nat)} {n : Nat} (h0 : ∀ i, i < s.2.1 → 1 ≤ s.2.2 i ∧ s.2.2 i ≤ n) : ∀ j, j ≤ n → ∀ i, i < (prG u ms mb s j).2.1 → 1 ≤ (prG u ms mb s j).2.2.1 i ∧ (prG u ms mb s j).2.2.1 i ≤ n
  | 0, _ => h0
  | j + 1, hj => by
    have ih := prG_in (u := u) (ms := ms) (mb := mb) h0 j (by omega)
    by_cases c : u (j + 1) = true ∧ (prG u ms mb s j).1 (j + 1) = false ∧ rdF (prG u ms mb s j).1 mb (j + 1) (ms (j + 1)) = true
    · rw [prG_t c]
      intro i hi
      show 1 ≤ va_up _ _ _ i ∧ va_up _ _ _ i ≤ n
      unfold va_up
      split
      · omega
      · exact ih i (by have hi2 : i < (prG u ms mb s j).2.1 + 1 := hi; omega)
    · rw [prG_f c]; exact ih
theorem prW_in {u : Nat → Bool} {ms mb : Nat → Nat} {n : Nat} : ∀ f (s : (Nat → Bool) × Nat × (Nat → Nat)), s.2.1 + ndc s.1 n ≤ 20 → (∀ i, i < s.2.1 → 1 ≤ s.2.2 i ∧ s.2.2 i ≤ n) → (prW (fun s => prG u ms mb s n) f s).2.1 ≤ 20 ∧ ∀ i, i < (prW (fun s => prG u ms mb s n) f s).2.1 → 1 ≤ (prW (fun s => prG u ms mb s n) f s).2.2 i ∧ (prW (fun s => prG u ms mb s n) f s).2.2 i ≤ n
  | 0, s, h1, h2 => ⟨by show s.2.1 ≤ 20; omega, h2⟩
  | f + 1, s, h1, h2 => by
    have a := (prG_nd (u := u) (ms := ms) (mb := mb) (s := s) (n := n) n (Nat.le_refl _)).1
    have b := prG_in (u := u) (ms := ms) (mb := mb) h2 n (Nat.le_refl _)
    by_cases c : (prG u ms mb s n).2.2.2 = true
    · rw [show prW (fun s => prG u ms mb s n) (f + 1) s = prW (fun s => prG u ms mb s n) f ((prG u ms mb s n).1, (prG u ms mb s n).2.1, (prG u ms mb s n).2.2.1) from if_pos c]
      exact prW_in f _ (Nat.le_trans a h1) b
    · rw [show prW (fun s => prG u ms mb s n) (f + 1) s = ((prG u ms mb s n).1, (prG u ms mb s n).2.1, (prG u ms mb s n).2.2.1) from if_neg c]
      exact ⟨by show (prG u ms mb s n).2.1 ≤ 20; omega, b⟩
theorem pE_my {mk mb ms : Nat → Nat} {mn : Nat} {ud dn : Nat → Bool} {ea : Nat → Nat} {x : Nat} (h : evc mk mn ≤ 12) : (pE mk mb ms mn ud dn ea x).2.1 ≤ 12 := Nat.le_trans (prE_le mn) h
theorem pE_ea {mk mb ms : Nat → Nat} {mn : Nat} {ud dn : Nat → Bool} {ea : Nat → Nat} {x : Nat} (hmn : mn ≤ 32) : ∀ i, i < (pE mk mb ms mn ud dn ea x).2.1 → 1 ≤ (pE mk mb ms mn ud dn ea x).2.2 i ∧ (pE mk mb ms mn ud dn ea x).2.2 i ≤ mn := fun i h => prE_in mn i h
theorem pW_in {mk mb ms : Nat → Nat} {mn : Nat} {ud dn : Nat → Bool} {ea oo : Nat → Nat} {x : Nat} (hgt : ndc (fun j => decide (mk j = 0)) mn ≤ 20) : (pW mk mb ms mn ud dn ea oo x).2.1 ≤ 20 ∧ ∀ i, i < (pW mk mb ms mn ud dn ea oo x).2.1 → 1 ≤ (pW mk mb ms mn ud dn ea oo x).2.2 i ∧ (pW mk mb ms mn ud dn ea oo x).2.2 i ≤ mn := by
  refine prW_in 34 _ ?_ (fun i h => absurd h (Nat.not_lt_zero i))
  show 0 + ndc _ mn ≤ 20
  rw [Nat.zero_add]
  exact Nat.le_trans (Nat.le_of_eq (cfB_congr mn (fun i hi => prE_dn mn (i + 1) (by omega) (by omega)))) hgt
def tvE (ea : Nat → Nat) (my s : Nat) (v : Nat → Nat) : Nat → (Nat → Nat)
  | 0 => v
  | k + 1 => va_up (tvE ea my s v k) (ea k) (if s &&& 2 ^ (my - 1 - k) = 0 then 0 else 1)
def snF (v mb : Nat → Nat) (g : Nat) : Nat → Nat
  | 0 => 0
  | i + 1 => snF v mb g i + v (mb (10 * g + i))
def gvF (mk ms mo mb v : Nat → Nat) (g : Nat) : Bool := if mk g = 1 then decide (snF v mb g (ms g) = ms g) else if mk g = 2 then decide (0 < snF v mb g (ms g)) else decide (mo g ≤ snF v mb g (ms g))
def tvG (mk ms mo mb oo : Nat → Nat) (v : Nat → Nat) : Nat → (Nat → Nat)
  | 0 => v
  | k + 1 => va_up (tvG mk ms mo mb oo v k) (oo k) (if gvF mk ms mo mb (tvG mk ms mo mb oo v k) (oo k) = true then 1 else 0)
/-- (value, holds) after the sets 0 .. s-1 -/
def taS (mk ms mo mb ea oo : Nat → Nat) (my od x : Nat) (v : Nat → Nat) (h : Nat → Bool) : Nat → (Nat → Nat) × (Nat → Bool)
  | 0 => (v, h)
  | s + 1 => (tvG mk ms mo mb oo (tvE ea my s (taS mk ms mo mb ea oo my od x v h s).1 my) od, va_up (taS mk ms mo mb ea oo my od x v h s).2 s (decide (tvG mk ms mo mb oo (tvE ea my s (taS mk ms mo mb ea oo my od x v h s).1 my) od x = 1)))
def tA (mk ms mo mb ea oo : Nat → Nat) (my od x : Nat) (v : Nat → Nat) (h : Nat → Bool) : (Nat → Nat) × (Nat → Bool) := taS mk ms mo mb ea oo my od x v h (2 ^ my)
theorem up_le {f : Nat → Nat} {n k v : Nat} (h : ∀ j, f j ≤ n) (hv : v ≤ n) : ∀ j, va_up f k v j ≤ n := fun j => by
  unfold va_up
  split
  · exact hv
  · exact h j
theorem tvE_le {ea : Nat → Nat} {my s : Nat} {v : Nat → Nat} (h : ∀ j, v j ≤ 2520) : ∀ k j, tvE ea my s v k j ≤ 2520
  | 0 => h
  | k + 1 => up_le (tvE_le h k) (by split <;> omega)
theorem tvG_le {mk ms mo mb oo v : Nat → Nat} (h : ∀ j, v j ≤ 2520) : ∀ k j, tvG mk ms mo mb oo v k j ≤ 2520
  | 0 => h
  | k + 1 => up_le (tvG_le h k) (by split <;> omega)
theorem taS_le {mk ms mo mb ea oo : Nat → Nat} {my od x : Nat} {v : Nat → Nat} {h : Nat → Bool} (hv : ∀ j, v j ≤ 2520) : ∀ s j, (taS mk ms mo mb ea oo my od x v h s).1 j ≤ 2520
  | 0 => hv
  | s + 1 => tvG_le (tvE_le (taS_le hv s) my) od
theorem snF_le {v mb : Nat → Nat} {g : Nat} (h : ∀ j, v j ≤ 2520) : ∀ i, snF v mb g i ≤ 2520 * i
  | 0 => Nat.le_refl _
  | i + 1 => by have := snF_le (mb := mb) (g := g) h i; have := h (mb (10 * g + i)); show snF v mb g i + _ ≤ _; omega
theorem k_Mo_prepareP (l : Launch) (g : va_G) (b : Nat → Nat) (cI cJ cZ : ClassId) (f0 : Nat) (mn : Nat) (mv : Nat) (mg : Nat) (mk : Nat → Nat) (mo : Nat → Nat) (mu : Nat → Nat) (md : Nat → Nat) (ms : Nat → Nat) (mb : Nat → Nat) (mc : Nat) (m1 : Nat → Nat) (m2 : Nat → Nat) (m3 : Nat → Nat) (m4 : Nat → Nat) (we : Bool) (ud : Nat → Bool) (my : Nat) (ea : Nat → Nat) (od : Nat) (oo : Nat → Nat) (dn : Nat → Bool) (va : Nat → Nat) (ho : Nat → Bool) (wt : Nat → Nat) (cm : Nat) (co : Nat → Nat) (te : Nat → Nat) (tm : Nat) (gs : Nat) (gl : Nat → Nat) (rs : Nat) (rg : Nat → Nat) (rp : Nat → Nat) (rt : Nat → Nat) (x : Nat) (hx1 : x ≤ 32) (hmn : mn ≤ 32) (hms : ∀ j, ms j ≤ 10) (hmb : ∀ j, mb j ≤ 32) (hev : evc mk mn ≤ 12) (hgt : ndc (fun j => decide (mk j = 0)) mn ≤ 20) (hmk : ∀ j, mk j ≤ 3) : ct_v l g vwCl (tyM cI cJ cZ) y_Mo_prepare c_Mo_prepare 4 none ({ frames := 1, cells := 0, slots := 0, locals := 25 } : Room) [.ref (b 0), .int (nI x)] (moW b cI cJ cZ f0 mn mv mg mk mo mu md ms mb mc m1 m2 m3 m4 we ud my ea od oo dn va ho wt cm co te tm gs gl rs rg rp rt) (moW b cI cJ cZ f0 mn mv mg mk mo mu md ms mb mc m1 m2 m3 m4 we (pU mb ms mn ud x) ((pE mk mb ms mn ud dn ea x).2.1) ((pE mk mb ms mn ud dn ea x).2.2) ((pW mk mb ms mn ud dn ea oo x).2.1) ((pW mk mb ms mn ud dn ea oo x).2.2) ((pW mk mb ms mn ud dn ea oo x).1) va ho wt cm co te tm gs gl rs rg rp rt) := k_Mo_prepare l g b cI cJ cZ f0 mn mv mg mk mo mu md ms mb mc m1 m2 m3 m4 we ud my ea od oo dn va ho wt cm co te tm gs gl rs rg rp rt x hx1 hmn hms hmb hev hgt hmk
set_option maxHeartbeats 4000000 in
set_option maxRecDepth 100000 in
theorem k_Mo_tryAll (l : Launch) (g : va_G) (b : Nat → Nat) (cI cJ cZ : ClassId) (f0 : Nat) (mn : Nat) (mv : Nat) (mg : Nat) (mk : Nat → Nat) (mo : Nat → Nat) (mu : Nat → Nat) (md : Nat → Nat) (ms : Nat → Nat) (mb : Nat → Nat) (mc : Nat) (m1 : Nat → Nat) (m2 : Nat → Nat) (m3 : Nat → Nat) (m4 : Nat → Nat) (we : Bool) (ud : Nat → Bool) (my : Nat) (ea : Nat → Nat) (od : Nat) (oo : Nat → Nat) (dn : Nat → Bool) (va : Nat → Nat) (ho : Nat → Bool) (wt : Nat → Nat) (cm : Nat) (co : Nat → Nat) (te : Nat → Nat) (tm : Nat) (gs : Nat) (gl : Nat → Nat) (rs : Nat) (rg : Nat → Nat) (rp : Nat → Nat) (rt : Nat → Nat) (x : Nat) (hx1 : x ≤ 32) (hmn : mn ≤ 32) (hms : ∀ j, ms j ≤ 10) (hmb : ∀ j, mb j ≤ 32) (hev : evc mk mn ≤ 12) (hgt : ndc (fun j => decide (mk j = 0)) mn ≤ 20) (hmk : ∀ j, mk j ≤ 3) (hmo : ∀ j, mo j ≤ 10) (hva : ∀ j, va j ≤ 2520) : ct_v l g vwCl (tyM cI cJ cZ) y_Mo_tryAll c_Mo_tryAll 7 none ({ frames := 2, cells := 0, slots := 0, locals := 48 } : Room) [.ref (b 0), .int (nI x)] (moW b cI cJ cZ f0 mn mv mg mk mo mu md ms mb mc m1 m2 m3 m4 we ud my ea od oo dn va ho wt cm co te tm gs gl rs rg rp rt) (moW b cI cJ cZ f0 mn mv mg mk mo mu md ms mb mc m1 m2 m3 m4 we (pU mb ms mn ud x) ((pE mk mb ms mn ud dn ea x).2.1) ((pE mk mb ms mn ud dn ea x).2.2) ((pW mk mb ms mn ud dn ea oo x).2.1) ((pW mk mb ms mn ud dn ea oo x).2.2) ((pW mk mb ms mn ud dn ea oo x).1) ((tA mk ms mo mb (pE mk mb ms mn ud dn ea x).2.2 (pW mk mb ms mn ud dn ea oo x).2.2 (pE mk mb ms mn ud dn ea x).2.1 (pW mk mb ms mn ud dn ea oo x).2.1 x va ho).1) ((tA mk ms mo mb (pE mk mb ms mn ud dn ea x).2.2 (pW mk mb ms mn ud dn ea oo x).2.2 (pE mk mb ms mn ud dn ea x).2.1 (pW mk mb ms mn ud dn ea oo x).2.1 x va ho).2) wt cm co te tm gs gl rs rg rp rt) := by
  refine ct_v.intro (by decide) (Nat.le_of_ble_eq_true rfl) ?_
  intro p e s m args below meth c Q A ls hx hb hml hT hown hA hK hN hret hP hD hS hl
  have hown : s.vm.findClass R_Mo = some m.cls := hown
  have hl : lv_has ls 7 [(0, .ref (b 0)), (1, .int (nI x))] := hl
  have qM : (pE mk mb ms mn ud dn ea x).2.1 ≤ 12 := pE_my hev
  have qA := pE_ea (mk := mk) (mb := mb) (ms := ms) (ud := ud) (dn := dn) (ea := ea) (x := x) hmn
  have qW := pW_in (mb := mb) (ms := ms) (ud := ud) (dn := dn) (ea := ea) (oo := oo) (x := x) hgt
  have qP : 2 ^ (pE mk mb ms mn ud dn ea x).2.1 ≤ 4096 := pw12c qM
  have qP0 : 0 < 2 ^ (pE mk mb ms mn ud dn ea x).2.1 := Nat.two_pow_pos _
  refine lv_aload_n hx hb d_Mo_tryAll_0 rfl (lv_at hl 0 rfl) ?_
  refine lv_iload_n hx hb d_Mo_tryAll_1 rfl (lv_at hl 1 rfl) ?_
  refine my_V_v (q0 := 0) (ci := 8) (C := R_Mo) (As := [.int (nI x)]) (n := 1) (k_Mo_prepareP l g b cI cJ cZ f0 mn mv mg mk mo mu md ms mb mc m1 m2 m3 m4 we ud my ea od oo dn va ho wt cm co te tm gs gl rs rg rp rt x hx1 hmn hms hmb hev hgt hmk) hx hb hml hown hT hN tw_761 tw_763 tp_18 tw_9 tw_764 (by decide +kernel) rfl rfl ⟨Nat.le_of_ble_eq_true rfl, Nat.le_of_ble_eq_true rfl⟩ ⟨Nat.zero_le _, Nat.zero_le _⟩ hK hP hD hS hA rfl rfl rfl hl rfl (Nat.le_of_ble_eq_true rfl) d_Mo_tryAll_2 (fun H locs hP hD hS => ?_)
  refine lv_iconst (v := (nI 0)) hx hb d_Mo_tryAll_5 (by decide) ?_
  refine lv_istore_n (lv' := [(2, .int (nI 0)), (0, .ref (b 0)), (1, .int (nI x))]) hx hb d_Mo_tryAll_6 rfl hl (by decide) rfl (fun ls hl => ?_)
  have lp_7 : ∀ (k : Nat) (s1 : Nat) (v0 : Nat → Nat) (h0 : Nat → Bool) (H : Heap) (locs : List Loc) (ls : Array Slot), (2 ^ (pE mk mb ms mn ud dn ea x).2.1 < s1 + k) → (s1 ≤ 2 ^ (pE mk mb ms mn ud dn ea x).2.1) → (∀ j, v0 j ≤ 2520) → ((v0, h0) = (taS mk ms mo mb (pE mk mb ms mn ud dn ea x).2.2 (pW mk mb ms mn ud dn ea oo x).2.2 (pE mk mb ms mn ud dn ea x).2.1 (pW mk mb ms mn ud dn ea oo x).2.1 x va ho s1)) → va_P g vwCl (moW b cI cJ cZ f0 mn mv mg mk mo mu md ms mb mc m1 m2 m3 m4 we (pU mb ms mn ud x) ((pE mk mb ms mn ud dn ea x).2.1) ((pE mk mb ms mn ud dn ea x).2.2) ((pW mk mb ms mn ud dn ea oo x).2.1) ((pW mk mb ms mn ud dn ea oo x).2.2) ((pW mk mb ms mn ud dn ea oo x).1) v0 h0 wt cm co te tm gs gl rs rg rp rt) H → va_D A (moW b cI cJ cZ f0 mn mv mg mk mo mu md ms mb mc m1 m2 m3 m4 we (pU mb ms mn ud x) ((pE mk mb ms mn ud dn ea x).2.1) ((pE mk mb ms mn ud dn ea x).2.2) ((pW mk mb ms mn ud dn ea oo x).2.1) ((pW mk mb ms mn ud dn ea oo x).2.2) ((pW mk mb ms mn ud dn ea oo x).1) v0 h0 wt cm co te tm gs gl rs rg rp rt) → va_S A s.heap H locs → lv_has ls 7 [(0, .ref (b 0)), (1, .int (nI x)), (2, .int (nI s1))] → W p l e ({ frames := 2, cells := 0, slots := 0, locals := 48 } : Room) s m args below meth c H locs 0 0 Q (F0 m 7 ls []) := by
    intro k
    induction k with
    | zero =>
      intro s1 v0 h0 H locs ls hk hs hv0 hf hP hD hS hl
      exfalso
      omega
    | succ k ih_7 =>
      intro s1 v0 h0 H locs ls hk hs hv0 hf hP hD hS hl
      refine lv_iload_n hx hb d_Mo_tryAll_7 rfl (lv_at hl 2 rfl) ?_
      refine lv_iconst (v := (nI 1)) hx hb d_Mo_tryAll_8 (by decide) ?_
      refine lv_aload_n hx hb d_Mo_tryAll_9 rfl (lv_at hl 0 rfl) ?_
      refine va_get (D := g) (ci := 8) (v := .int (nI ((pE mk mb ms mn ud dn ea x).2.1))) (C := R_Mo) (T := F_Mo) (N := 35) hx hb hT i_Mo hown hK hP 0 rfl rfl 17 (by decide) (hT _ tw_638) (fun _ h9 => h9) rfl d_Mo_tryAll_10 ?_
      refine lv_ishl hx hb d_Mo_tryAll_13 ?_
      refine my_ei (nx_shl1 ((pE mk mb ms mn ud dn ea x).2.1) (by omega)) ?_
      refine my_icmp_ge (tgt := 248) (a := s1) (b := 2 ^ ((pE mk mb ms mn ud dn ea x).2.1)) hx hb d_Mo_tryAll_14 (by decide) (by omega) (by omega) (fun c_14 => ?_) (fun c_14 => ?_)
      · -- 14: taken
        have e0 : (v0, h0) = (tA mk ms mo mb (pE mk mb ms mn ud dn ea x).2.2 (pW mk mb ms mn ud dn ea oo x).2.2 (pE mk mb ms mn ud dn ea x).2.1 (pW mk mb ms mn ud dn ea oo x).2.1 x va ho) := by rw [hf, show s1 = 2 ^ (pE mk mb ms mn ud dn ea x).2.1 by omega]; rfl
        have e1 : (tA mk ms mo mb (pE mk mb ms mn ud dn ea x).2.2 (pW mk mb ms mn ud dn ea oo x).2.2 (pE mk mb ms mn ud dn ea x).2.1 (pW mk mb ms mn ud dn ea oo x).2.1 x va ho).1 = v0 := by rw [← e0]
        have e2 : (tA mk ms mo mb (pE mk mb ms mn ud dn ea x).2.2 (pW mk mb ms mn ud dn ea oo x).2.2 (pE mk mb ms mn ud dn ea x).2.1 (pW mk mb ms mn ud dn ea oo x).2.1 x va ho).2 = h0 := by rw [← e0]
        rw [← e1, ← e2] at hP hD
        exact hret _ _ _ _ hP hD hS d_Mo_tryAll_248
      · -- 14: not taken
        refine lv_iconst (v := (nI 0)) hx hb d_Mo_tryAll_17 (by decide) ?_
        refine lv_istore_n (lv' := [(3, .int (nI 0)), (0, .ref (b 0)), (1, .int (nI x)), (2, .int (nI s1))]) hx hb d_Mo_tryAll_18 rfl hl (by decide) rfl (fun ls hl => ?_)
        have lp_19 : ∀ (k1 : Nat) (kk : Nat) (v1 : Nat → Nat) (H : Heap) (locs : List Loc) (ls : Array Slot), ((pE mk mb ms mn ud dn ea x).2.1 < kk + k1) → (kk ≤ (pE mk mb ms mn ud dn ea x).2.1) → (∀ j, v1 j ≤ 2520) → (v1 = tvE (pE mk mb ms mn ud dn ea x).2.2 (pE mk mb ms mn ud dn ea x).2.1 s1 v0 kk) → va_P g vwCl (moW b cI cJ cZ f0 mn mv mg mk mo mu md ms mb mc m1 m2 m3 m4 we (pU mb ms mn ud x) ((pE mk mb ms mn ud dn ea x).2.1) ((pE mk mb ms mn ud dn ea x).2.2) ((pW mk mb ms mn ud dn ea oo x).2.1) ((pW mk mb ms mn ud dn ea oo x).2.2) ((pW mk mb ms mn ud dn ea oo x).1) v1 h0 wt cm co te tm gs gl rs rg rp rt) H → va_D A (moW b cI cJ cZ f0 mn mv mg mk mo mu md ms mb mc m1 m2 m3 m4 we (pU mb ms mn ud x) ((pE mk mb ms mn ud dn ea x).2.1) ((pE mk mb ms mn ud dn ea x).2.2) ((pW mk mb ms mn ud dn ea oo x).2.1) ((pW mk mb ms mn ud dn ea oo x).2.2) ((pW mk mb ms mn ud dn ea oo x).1) v1 h0 wt cm co te tm gs gl rs rg rp rt) → va_S A s.heap H locs → lv_has ls 7 [(0, .ref (b 0)), (1, .int (nI x)), (2, .int (nI s1)), (3, .int (nI kk))] → W p l e ({ frames := 2, cells := 0, slots := 0, locals := 48 } : Room) s m args below meth c H locs 0 0 Q (F0 m 19 ls []) := by
          intro k1
          induction k1 with
          | zero =>
            intro kk v1 H locs ls hk1 hkk hv1 hf1 hP hD hS hl
            exfalso
            omega
          | succ k1 ih_19 =>
            intro kk v1 H locs ls hk1 hkk hv1 hf1 hP hD hS hl
            refine lv_iload_n hx hb d_Mo_tryAll_19 rfl (lv_at hl 3 rfl) ?_
            refine lv_aload_n hx hb d_Mo_tryAll_20 rfl (lv_at hl 0 rfl) ?_
            refine va_get (D := g) (ci := 8) (v := .int (nI ((pE mk mb ms mn ud dn ea x).2.1))) (C := R_Mo) (T := F_Mo) (N := 35) hx hb hT i_Mo hown hK hP 0 rfl rfl 17 (by decide) (hT _ tw_638) (fun _ h9 => h9) rfl d_Mo_tryAll_21 ?_
            refine my_icmp_ge (tgt := 59) (a := kk) (b := (pE mk mb ms mn ud dn ea x).2.1) hx hb d_Mo_tryAll_24 (by decide) (by omega) (by omega) (fun c_24 => ?_) (fun c_24 => ?_)
            · -- 24: taken
              refine lv_iconst (v := (nI 0)) hx hb d_Mo_tryAll_59 (by decide) ?_
              refine lv_istore_n (lv' := [(3, .int (nI 0)), (0, .ref (b 0)), (1, .int (nI x)), (2, .int (nI s1))]) hx hb d_Mo_tryAll_60 rfl hl (by decide) rfl (fun ls hl => ?_)
              have lp_61 : ∀ (k2 : Nat) (kk : Nat) (v2 : Nat → Nat) (H : Heap) (locs : List Loc) (ls : Array Slot), ((pW mk mb ms mn ud dn ea oo x).2.1 < kk + k2) → (kk ≤ (pW mk mb ms mn ud dn ea oo x).2.1) → (∀ j, v2 j ≤ 2520) → (v2 = (tvG mk ms mo mb (pW mk mb ms mn ud dn ea oo x).2.2 (tvE (pE mk mb ms mn ud dn ea x).2.2 (pE mk mb ms mn ud dn ea x).2.1 s1 v0 (pE mk mb ms mn ud dn ea x).2.1) kk)) → va_P g vwCl (moW b cI cJ cZ f0 mn mv mg mk mo mu md ms mb mc m1 m2 m3 m4 we (pU mb ms mn ud x) ((pE mk mb ms mn ud dn ea x).2.1) ((pE mk mb ms mn ud dn ea x).2.2) ((pW mk mb ms mn ud dn ea oo x).2.1) ((pW mk mb ms mn ud dn ea oo x).2.2) ((pW mk mb ms mn ud dn ea oo x).1) v2 h0 wt cm co te tm gs gl rs rg rp rt) H → va_D A (moW b cI cJ cZ f0 mn mv mg mk mo mu md ms mb mc m1 m2 m3 m4 we (pU mb ms mn ud x) ((pE mk mb ms mn ud dn ea x).2.1) ((pE mk mb ms mn ud dn ea x).2.2) ((pW mk mb ms mn ud dn ea oo x).2.1) ((pW mk mb ms mn ud dn ea oo x).2.2) ((pW mk mb ms mn ud dn ea oo x).1) v2 h0 wt cm co te tm gs gl rs rg rp rt) → va_S A s.heap H locs → lv_has ls 7 [(0, .ref (b 0)), (1, .int (nI x)), (2, .int (nI s1)), (3, .int (nI kk))] → W p l e ({ frames := 2, cells := 0, slots := 0, locals := 48 } : Room) s m args below meth c H locs 0 0 Q (F0 m 61 ls []) := by
                intro k2
                induction k2 with
                | zero =>
                  intro kk v2 H locs ls hk2 hkk2 hv2 hf2 hP hD hS hl
                  exfalso
                  omega
                | succ k2 ih_61 =>
                  intro kk v2 H locs ls hk2 hkk2 hv2 hf2 hP hD hS hl
                  refine lv_iload_n hx hb d_Mo_tryAll_61 rfl (lv_at hl 3 rfl) ?_
                  refine lv_aload_n hx hb d_Mo_tryAll_62 rfl (lv_at hl 0 rfl) ?_
                  refine va_get (D := g) (ci := 8) (v := .int (nI ((pW mk mb ms mn ud dn ea oo x).2.1))) (C := R_Mo) (T := F_Mo) (N := 35) hx hb hT i_Mo hown hK hP 0 rfl rfl 19 (by decide) (hT _ tw_640) (fun _ h9 => h9) rfl d_Mo_tryAll_63 ?_
                  refine my_icmp_ge (tgt := 221) (a := kk) (b := (pW mk mb ms mn ud dn ea oo x).2.1) hx hb d_Mo_tryAll_66 (by decide) (by omega) (by omega) (fun c_66 => ?_) (fun c_66 => ?_)
                  · -- 66: taken
                    refine lv_aload_n hx hb d_Mo_tryAll_221 rfl (lv_at hl 0 rfl) ?_
                    refine va_get (D := g) (ci := 8) (v := .ref (b 16)) (C := R_Mo) (T := F_Mo) (N := 35) hx hb hT i_Mo hown hK hP 0 rfl rfl 23 (by decide) (hT _ tw_644) (fun _ h9 => h9) rfl d_Mo_tryAll_222 ?_
                    refine lv_iload_n hx hb d_Mo_tryAll_225 rfl (lv_at hl 2 rfl) ?_
                    refine lv_aload_n hx hb d_Mo_tryAll_226 rfl (lv_at hl 0 rfl) ?_
                    refine va_get (D := g) (ci := 8) (v := .ref (b 15)) (C := R_Mo) (T := F_Mo) (N := 35) hx hb hT i_Mo hown hK hP 0 rfl rfl 22 (by decide) (hT _ tw_643) (fun _ h9 => h9) rfl d_Mo_tryAll_227 ?_
                    refine lv_iload_n hx hb d_Mo_tryAll_230 rfl (lv_at hl 1 rfl) ?_
                    have qx := hv2 x
                    refine my_iald (v := (nI (v2 x))) (i := x) hx hb hK hP 15 0 rfl rfl (by omega) (by decide) rfl d_Mo_tryAll_231 ?_
                    refine lv_iconst (v := (nI 1)) hx hb d_Mo_tryAll_232 (by decide) ?_
                    refine my_icmp_ne (tgt := 240) (a := v2 x) (b := 1) hx hb d_Mo_tryAll_233 (by decide) (by omega) (by omega) (fun c_233 => ?_) (fun c_233 => ?_)
                    · -- 233: taken
                      refine lv_iconst (v := (nI 0)) hx hb d_Mo_tryAll_240 (by decide) ?_
                      refine my_zast (b := false) (i := s1) hx hb hK hP hD hS 16 2 rfl rfl (by omega) (by decide) rfl (w' := (moW b cI cJ cZ f0 mn mv mg mk mo mu md ms mb mc m1 m2 m3 m4 we (pU mb ms mn ud x) ((pE mk mb ms mn ud dn ea x).2.1) ((pE mk mb ms mn ud dn ea x).2.2) ((pW mk mb ms mn ud dn ea oo x).2.1) ((pW mk mb ms mn ud dn ea oo x).2.2) ((pW mk mb ms mn ud dn ea oo x).1) v2 (va_up h0 s1 false) wt cm co te tm gs gl rs rg rp rt)) rfl d_Mo_tryAll_241 (fun H locs hP hD hS => ?_)
                      refine lv_iinc (v := (nI (s1 + 1))) (lv' := [(2, .int (nI (s1 + 1))), (0, .ref (b 0)), (1, .int (nI x)), (3, .int (nI kk))]) hx hb d_Mo_tryAll_242 hl (k := 2) rfl (nI_1 s1) (by decide) rfl (fun ls hl => ?_)
                      refine lv_goto (tgt := 7) hx hb d_Mo_tryAll_245 (by decide) ?_
                      refine ih_7 _ _ _ _ _ _ ?_ ?_ ?_ ?_ hP hD hS (lv_sub hl [1, 2, 0] rfl)
                      · omega
                      · omega
                      · rw [hf2]; exact tvG_le (tvE_le hv0 _) _
                      · have z1 : (taS mk ms mo mb (pE mk mb ms mn ud dn ea x).2.2 (pW mk mb ms mn ud dn ea oo x).2.2 (pE mk mb ms mn ud dn ea x).2.1 (pW mk mb ms mn ud dn ea oo x).2.1 x va ho s1).1 = v0 := by rw [← hf]
                        have z2 : (taS mk ms mo mb (pE mk mb ms mn ud dn ea x).2.2 (pW mk mb ms mn ud dn ea oo x).2.2 (pE mk mb ms mn ud dn ea x).2.1 (pW mk mb ms mn ud dn ea oo x).2.1 x va ho s1).2 = h0 := by rw [← hf]
                        have z3 : v2 = tvG mk ms mo mb (pW mk mb ms mn ud dn ea oo x).2.2 (tvE (pE mk mb ms mn ud dn ea x).2.2 (pE mk mb ms mn ud dn ea x).2.1 s1 v0 (pE mk mb ms mn ud dn ea x).2.1) (pW mk mb ms mn ud dn ea oo x).2.1 := by rw [hf2, show kk = (pW mk mb ms mn ud dn ea oo x).2.1 by omega]
                        show _ = (tvG mk ms mo mb (pW mk mb ms mn ud dn ea oo x).2.2 (tvE (pE mk mb ms mn ud dn ea x).2.2 (pE mk mb ms mn ud dn ea x).2.1 s1 (taS mk ms mo mb (pE mk mb ms mn ud dn ea x).2.2 (pW mk mb ms mn ud dn ea oo x).2.2 (pE mk mb ms mn ud dn ea x).2.1 (pW mk mb ms mn ud dn ea oo x).2.1 x va ho s1).1 (pE mk mb ms mn ud dn ea x).2.1) (pW mk mb ms mn ud dn ea oo x).2.1, va_up (taS mk ms mo mb (pE mk mb ms mn ud dn ea x).2.2 (pW mk mb ms mn ud dn ea oo x).2.2 (pE mk mb ms mn ud dn ea x).2.1 (pW mk mb ms mn ud dn ea oo x).2.1 x va ho s1).2 s1 (decide (tvG mk ms mo mb (pW mk mb ms mn ud dn ea oo x).2.2 (tvE (pE mk mb ms mn ud dn ea x).2.2 (pE mk mb ms mn ud dn ea x).2.1 s1 (taS mk ms mo mb (pE mk mb ms mn ud dn ea x).2.2 (pW mk mb ms mn ud dn ea oo x).2.2 (pE mk mb ms mn ud dn ea x).2.1 (pW mk mb ms mn ud dn ea oo x).2.1 x va ho s1).1 (pE mk mb ms mn ud dn ea x).2.1) (pW mk mb ms mn ud dn ea oo x).2.1 x = 1)))
                        rw [z1, z2, ← z3]
                        first | rw [decide_eq_true c_233] | rw [decide_eq_false c_233]
                    · -- 233: not taken
                      refine lv_iconst (v := (nI 1)) hx hb d_Mo_tryAll_236 (by decide) ?_
                      refine lv_goto (tgt := 241) hx hb d_Mo_tryAll_237 (by decide) ?_
                      refine my_zast (b := true) (i := s1) hx hb hK hP hD hS 16 2 rfl rfl (by omega) (by decide) rfl (w' := (moW b cI cJ cZ f0 mn mv mg mk mo mu md ms mb mc m1 m2 m3 m4 we (pU mb ms mn ud x) ((pE mk mb ms mn ud dn ea x).2.1) ((pE mk mb ms mn ud dn ea x).2.2) ((pW mk mb ms mn ud dn ea oo x).2.1) ((pW mk mb ms mn ud dn ea oo x).2.2) ((pW mk mb ms mn ud dn ea oo x).1) v2 (va_up h0 s1 true) wt cm co te tm gs gl rs rg rp rt)) rfl d_Mo_tryAll_241 (fun H locs hP hD hS => ?_)
                      refine lv_iinc (v := (nI (s1 + 1))) (lv' := [(2, .int (nI (s1 + 1))), (0, .ref (b 0)), (1, .int (nI x)), (3, .int (nI kk))]) hx hb d_Mo_tryAll_242 hl (k := 2) rfl (nI_1 s1) (by decide) rfl (fun ls hl => ?_)
                      refine lv_goto (tgt := 7) hx hb d_Mo_tryAll_245 (by decide) ?_
                      refine ih_7 _ _ _ _ _ _ ?_ ?_ ?_ ?_ hP hD hS (lv_sub hl [1, 2, 0] rfl)
                      · omega
                      · omega
                      · rw [hf2]; exact tvG_le (tvE_le hv0 _) _
                      · have z1 : (taS mk ms mo mb (pE mk mb ms mn ud dn ea x).2.2 (pW mk mb ms mn ud dn ea oo x).2.2 (pE mk mb ms mn ud dn ea x).2.1 (pW mk mb ms mn ud dn ea oo x).2.1 x va ho s1).1 = v0 := by rw [← hf]
                        have z2 : (taS mk ms mo mb (pE mk mb ms mn ud dn ea x).2.2 (pW mk mb ms mn ud dn ea oo x).2.2 (pE mk mb ms mn ud dn ea x).2.1 (pW mk mb ms mn ud dn ea oo x).2.1 x va ho s1).2 = h0 := by rw [← hf]
                        have z3 : v2 = tvG mk ms mo mb (pW mk mb ms mn ud dn ea oo x).2.2 (tvE (pE mk mb ms mn ud dn ea x).2.2 (pE mk mb ms mn ud dn ea x).2.1 s1 v0 (pE mk mb ms mn ud dn ea x).2.1) (pW mk mb ms mn ud dn ea oo x).2.1 := by rw [hf2, show kk = (pW mk mb ms mn ud dn ea oo x).2.1 by omega]
                        show _ = (tvG mk ms mo mb (pW mk mb ms mn ud dn ea oo x).2.2 (tvE (pE mk mb ms mn ud dn ea x).2.2 (pE mk mb ms mn ud dn ea x).2.1 s1 (taS mk ms mo mb (pE mk mb ms mn ud dn ea x).2.2 (pW mk mb ms mn ud dn ea oo x).2.2 (pE mk mb ms mn ud dn ea x).2.1 (pW mk mb ms mn ud dn ea oo x).2.1 x va ho s1).1 (pE mk mb ms mn ud dn ea x).2.1) (pW mk mb ms mn ud dn ea oo x).2.1, va_up (taS mk ms mo mb (pE mk mb ms mn ud dn ea x).2.2 (pW mk mb ms mn ud dn ea oo x).2.2 (pE mk mb ms mn ud dn ea x).2.1 (pW mk mb ms mn ud dn ea oo x).2.1 x va ho s1).2 s1 (decide (tvG mk ms mo mb (pW mk mb ms mn ud dn ea oo x).2.2 (tvE (pE mk mb ms mn ud dn ea x).2.2 (pE mk mb ms mn ud dn ea x).2.1 s1 (taS mk ms mo mb (pE mk mb ms mn ud dn ea x).2.2 (pW mk mb ms mn ud dn ea oo x).2.2 (pE mk mb ms mn ud dn ea x).2.1 (pW mk mb ms mn ud dn ea oo x).2.1 x va ho s1).1 (pE mk mb ms mn ud dn ea x).2.1) (pW mk mb ms mn ud dn ea oo x).2.1 x = 1)))
                        rw [z1, z2, ← z3]
                        first | rw [decide_eq_true c_233] | rw [decide_eq_false c_233]
                  · -- 66: not taken
                    have qo := qW.2 kk c_66
                    have q5 := hms ((pW mk mb ms mn ud dn ea oo x).2.2 kk)
                    have q6 := hmk ((pW mk mb ms mn ud dn ea oo x).2.2 kk)
                    have q7 := hmo ((pW mk mb ms mn ud dn ea oo x).2.2 kk)
                    refine lv_aload_n hx hb d_Mo_tryAll_69 rfl (lv_at hl 0 rfl) ?_
                    refine va_get (D := g) (ci := 8) (v := .ref (b 13)) (C := R_Mo) (T := F_Mo) (N := 35) hx hb hT i_Mo hown hK hP 0 rfl rfl 20 (by decide) (hT _ tw_641) (fun _ h9 => h9) rfl d_Mo_tryAll_70 ?_
                    refine lv_iload_n hx hb d_Mo_tryAll_73 rfl (lv_at hl 3 rfl) ?_
                    refine my_iald (v := (nI (((pW mk mb ms mn ud dn ea oo x).2.2) kk))) (i := kk) hx hb hK hP 13 0 rfl rfl (by omega) (by decide) rfl d_Mo_tryAll_74 ?_
                    refine lv_istore (lv' := [(4, .int (nI (((pW mk mb ms mn ud dn ea oo x).2.2) kk))), (0, .ref (b 0)), (1, .int (nI x)), (2, .int (nI s1)), (3, .int (nI kk))]) hx hb d_Mo_tryAll_75 hl (by decide) rfl (fun ls hl => ?_)
                    refine lv_iconst (v := (nI 0)) hx hb d_Mo_tryAll_77 (by decide) ?_
                    refine lv_istore (lv' := [(5, .int (nI 0)), (4, .int (nI (((pW mk mb ms mn ud dn ea oo x).2.2) kk))), (0, .ref (b 0)), (1, .int (nI x)), (2, .int (nI s1)), (3, .int (nI kk))]) hx hb d_Mo_tryAll_78 hl (by decide) rfl (fun ls hl => ?_)
                    refine lv_iconst (v := (nI 0)) hx hb d_Mo_tryAll_80 (by decide) ?_
                    refine lv_istore (lv' := [(6, .int (nI 0)), (5, .int (nI 0)), (4, .int (nI (((pW mk mb ms mn ud dn ea oo x).2.2) kk))), (0, .ref (b 0)), (1, .int (nI x)), (2, .int (nI s1)), (3, .int (nI kk))]) hx hb d_Mo_tryAll_81 hl (by decide) rfl (fun ls hl => ?_)
                    have lp_83 : ∀ (k3 : Nat) (i : Nat) (n5 : Nat) (H : Heap) (locs : List Loc) (ls : Array Slot), (ms ((pW mk mb ms mn ud dn ea oo x).2.2 kk) < i + k3) → (i ≤ ms ((pW mk mb ms mn ud dn ea oo x).2.2 kk)) → (n5 = snF v2 mb ((pW mk mb ms mn ud dn ea oo x).2.2 kk) i) → va_P g vwCl (moW b cI cJ cZ f0 mn mv mg mk mo mu md ms mb mc m1 m2 m3 m4 we (pU mb ms mn ud x) ((pE mk mb ms mn ud dn ea x).2.1) ((pE mk mb ms mn ud dn ea x).2.2) ((pW mk mb ms mn ud dn ea oo x).2.1) ((pW mk mb ms mn ud dn ea oo x).2.2) ((pW mk mb ms mn ud dn ea oo x).1) v2 h0 wt cm co te tm gs gl rs rg rp rt) H → va_D A (moW b cI cJ cZ f0 mn mv mg mk mo mu md ms mb mc m1 m2 m3 m4 we (pU mb ms mn ud x) ((pE mk mb ms mn ud dn ea x).2.1) ((pE mk mb ms mn ud dn ea x).2.2) ((pW mk mb ms mn ud dn ea oo x).2.1) ((pW mk mb ms mn ud dn ea oo x).2.2) ((pW mk mb ms mn ud dn ea oo x).1) v2 h0 wt cm co te tm gs gl rs rg rp rt) → va_S A s.heap H locs → lv_has ls 7 [(0, .ref (b 0)), (1, .int (nI x)), (2, .int (nI s1)), (3, .int (nI kk)), (4, .int (nI ((pW mk mb ms mn ud dn ea oo x).2.2 kk))), (5, .int (nI n5)), (6, .int (nI i))] → W p l e ({ frames := 2, cells := 0, slots := 0, locals := 48 } : Room) s m args below meth c H locs 0 0 Q (F0 m 83 ls []) := by
                      intro k3
                      induction k3 with
                      | zero =>
                        intro i n5 H locs ls hk3 hi3 hf5 hP hD hS hl
                        exfalso
                        omega
                      | succ k3 ih_83 =>
                        intro i n5 H locs ls hk3 hi3 hf5 hP hD hS hl
                        refine lv_iload hx hb d_Mo_tryAll_83 (lv_at hl 6 rfl) ?_
                        refine lv_aload_n hx hb d_Mo_tryAll_85 rfl (lv_at hl 0 rfl) ?_
                        refine va_get (D := g) (ci := 8) (v := .ref (b 5)) (C := R_Mo) (T := F_Mo) (N := 35) hx hb hT i_Mo hown hK hP 0 rfl rfl 8 (by decide) (hT _ tw_629) (fun _ h9 => h9) rfl d_Mo_tryAll_86 ?_
                        refine lv_iload hx hb d_Mo_tryAll_89 (lv_at hl 4 rfl) ?_
                        refine my_iald (v := (nI (ms ((pW mk mb ms mn ud dn ea oo x).2.2 kk)))) (i := (pW mk mb ms mn ud dn ea oo x).2.2 kk) hx hb hK hP 5 0 rfl rfl (by omega) (by decide) rfl d_Mo_tryAll_91 ?_
                        refine my_icmp_ge (tgt := 124) (a := i) (b := ms ((pW mk mb ms mn ud dn ea oo x).2.2 kk)) hx hb d_Mo_tryAll_92 (by decide) (by omega) (by omega) (fun c_92 => ?_) (fun c_92 => ?_)
                        · -- 92: taken
                          have hn5 : snF v2 mb ((pW mk mb ms mn ud dn ea oo x).2.2 kk) (ms ((pW mk mb ms mn ud dn ea oo x).2.2 kk)) = n5 := by rw [hf5, show i = ms ((pW mk mb ms mn ud dn ea oo x).2.2 kk) by omega]
                          have q10 := snF_le (mb := mb) (g := (pW mk mb ms mn ud dn ea oo x).2.2 kk) hv2 i
                          rw [← hf5] at q10
                          refine lv_aload_n hx hb d_Mo_tryAll_124 rfl (lv_at hl 0 rfl) ?_
                          refine va_get (D := g) (ci := 8) (v := .ref (b 1)) (C := R_Mo) (T := F_Mo) (N := 35) hx hb hT i_Mo hown hK hP 0 rfl rfl 4 (by decide) (hT _ tw_625) (fun _ h9 => h9) rfl d_Mo_tryAll_125 ?_
                          refine lv_iload hx hb d_Mo_tryAll_128 (lv_at hl 4 rfl) ?_
                          refine my_iald (v := (nI (mk ((pW mk mb ms mn ud dn ea oo x).2.2 kk)))) (i := (pW mk mb ms mn ud dn ea oo x).2.2 kk) hx hb hK hP 1 0 rfl rfl (by omega) (by decide) rfl d_Mo_tryAll_130 ?_
                          refine lv_iconst (v := (nI 1)) hx hb d_Mo_tryAll_131 (by decide) ?_
                          refine my_icmp_ne (tgt := 155) (a := mk ((pW mk mb ms mn ud dn ea oo x).2.2 kk)) (b := 1) hx hb d_Mo_tryAll_132 (by decide) (by omega) (by omega) (fun c_132 => ?_) (fun c_132 => ?_)
                          · -- 132: taken
                            refine lv_aload_n hx hb d_Mo_tryAll_155 rfl (lv_at hl 0 rfl) ?_
                            refine va_get (D := g) (ci := 8) (v := .ref (b 1)) (C := R_Mo) (T := F_Mo) (N := 35) hx hb hT i_Mo hown hK hP 0 rfl rfl 4 (by decide) (hT _ tw_625) (fun _ h9 => h9) rfl d_Mo_tryAll_156 ?_
                            refine lv_iload hx hb d_Mo_tryAll_159 (lv_at hl 4 rfl) ?_
                            refine my_iald (v := (nI (mk ((pW mk mb ms mn ud dn ea oo x).2.2 kk)))) (i := (pW mk mb ms mn ud dn ea oo x).2.2 kk) hx hb hK hP 1 0 rfl rfl (by omega) (by decide) rfl d_Mo_tryAll_161 ?_
                            refine lv_iconst (v := (nI 2)) hx hb d_Mo_tryAll_162 (by decide) ?_
                            refine my_icmp_ne (tgt := 179) (a := mk ((pW mk mb ms mn ud dn ea oo x).2.2 kk)) (b := 2) hx hb d_Mo_tryAll_163 (by decide) (by omega) (by omega) (fun c_163 => ?_) (fun c_163 => ?_)
                            · -- 163: taken
                              refine lv_iload hx hb d_Mo_tryAll_179 (lv_at hl 5 rfl) ?_
                              refine lv_aload_n hx hb d_Mo_tryAll_181 rfl (lv_at hl 0 rfl) ?_
                              refine va_get (D := g) (ci := 8) (v := .ref (b 2)) (C := R_Mo) (T := F_Mo) (N := 35) hx hb hT i_Mo hown hK hP 0 rfl rfl 5 (by decide) (hT _ tw_626) (fun _ h9 => h9) rfl d_Mo_tryAll_182 ?_
                              refine lv_iload hx hb d_Mo_tryAll_185 (lv_at hl 4 rfl) ?_
                              refine my_iald (v := (nI (mo ((pW mk mb ms mn ud dn ea oo x).2.2 kk)))) (i := (pW mk mb ms mn ud dn ea oo x).2.2 kk) hx hb hK hP 2 0 rfl rfl (by omega) (by decide) rfl d_Mo_tryAll_187 ?_
                              refine my_icmp_lt (tgt := 195) (a := n5) (b := mo ((pW mk mb ms mn ud dn ea oo x).2.2 kk)) hx hb d_Mo_tryAll_188 (by decide) (by omega) (by omega) (fun c_188 => ?_) (fun c_188 => ?_)
                              · -- 188: taken
                                refine lv_iconst (v := (nI 0)) hx hb d_Mo_tryAll_195 (by decide) ?_
                                refine lv_istore (lv' := [(6, .int (nI 0)), (0, .ref (b 0)), (1, .int (nI x)), (2, .int (nI s1)), (3, .int (nI kk)), (4, .int (nI ((pW mk mb ms mn ud dn ea oo x).2.2 kk))), (5, .int (nI n5))]) hx hb d_Mo_tryAll_196 hl (by decide) rfl (fun ls hl => ?_)
                                refine lv_aload_n hx hb d_Mo_tryAll_198 rfl (lv_at hl 1 rfl) ?_
                                refine va_get (D := g) (ci := 8) (v := .ref (b 15)) (C := R_Mo) (T := F_Mo) (N := 35) hx hb hT i_Mo hown hK hP 0 rfl rfl 22 (by decide) (hT _ tw_643) (fun _ h9 => h9) rfl d_Mo_tryAll_199 ?_
                                refine lv_iload hx hb d_Mo_tryAll_202 (lv_at hl 5 rfl) ?_
                                refine lv_iload hx hb d_Mo_tryAll_204 (lv_at hl 0 rfl) ?_
                                refine lv_if_eq (tgt := 213) hx hb d_Mo_tryAll_206 (by decide) (fun _ => ?_) (fun q => absurd (by decide) q)
                                refine lv_iconst (v := (nI 0)) hx hb d_Mo_tryAll_213 (by decide) ?_
                                refine my_iast (i := (pW mk mb ms mn ud dn ea oo x).2.2 kk) hx hb hK hP hD hS 15 0 rfl rfl (by omega) (by decide) (my_upN _ _ _) (w' := (moW b cI cJ cZ f0 mn mv mg mk mo mu md ms mb mc m1 m2 m3 m4 we (pU mb ms mn ud x) ((pE mk mb ms mn ud dn ea x).2.1) ((pE mk mb ms mn ud dn ea x).2.2) ((pW mk mb ms mn ud dn ea oo x).2.1) ((pW mk mb ms mn ud dn ea oo x).2.2) ((pW mk mb ms mn ud dn ea oo x).1) (va_up v2 ((pW mk mb ms mn ud dn ea oo x).2.2 kk) 0) h0 wt cm co te tm gs gl rs rg rp rt)) rfl d_Mo_tryAll_214 (fun H locs hP hD hS => ?_)
                                refine lv_iinc (v := (nI (kk + 1))) (lv' := [(3, .int (nI (kk + 1))), (6, .int (nI 0)), (0, .ref (b 0)), (1, .int (nI x)), (2, .int (nI s1)), (4, .int (nI ((pW mk mb ms mn ud dn ea oo x).2.2 kk))), (5, .int (nI n5))]) hx hb d_Mo_tryAll_215 hl (k := 4) rfl (nI_1 kk) (by decide) rfl (fun ls hl => ?_)
                                refine lv_goto (tgt := 61) hx hb d_Mo_tryAll_218 (by decide) ?_
                                refine ih_61 (kk + 1) _ _ _ _ ?_ ?_ ?_ ?_ hP hD hS (lv_sub hl [2, 3, 4, 0] rfl)
                                · omega
                                · omega
                                · exact up_le hv2 (by omega)
                                · have eg : gvF mk ms mo mb v2 ((pW mk mb ms mn ud dn ea oo x).2.2 kk) = false := by rw [gvF, if_neg c_132, if_neg c_163, hn5]; exact decide_eq_false (by omega)
                                  rw [hf2]
                                  show _ = va_up (tvG mk ms mo mb (pW mk mb ms mn ud dn ea oo x).2.2 (tvE (pE mk mb ms mn ud dn ea x).2.2 (pE mk mb ms mn ud dn ea x).2.1 s1 v0 (pE mk mb ms mn ud dn ea x).2.1) kk) ((pW mk mb ms mn ud dn ea oo x).2.2 kk) (if gvF mk ms mo mb (tvG mk ms mo mb (pW mk mb ms mn ud dn ea oo x).2.2 (tvE (pE mk mb ms mn ud dn ea x).2.2 (pE mk mb ms mn ud dn ea x).2.1 s1 v0 (pE mk mb ms mn ud dn ea x).2.1) kk) ((pW mk mb ms mn ud dn ea oo x).2.2 kk) = true then 1 else 0)
                                  rw [← hf2, eg]; rfl
                              · -- 188: not taken
                                refine lv_iconst (v := (nI 1)) hx hb d_Mo_tryAll_191 (by decide) ?_
                                refine lv_goto (tgt := 196) hx hb d_Mo_tryAll_192 (by decide) ?_
                                refine lv_istore (lv' := [(6, .int (nI 1)), (0, .ref (b 0)), (1, .int (nI x)), (2, .int (nI s1)), (3, .int (nI kk)), (4, .int (nI ((pW mk mb ms mn ud dn ea oo x).2.2 kk))), (5, .int (nI n5))]) hx hb d_Mo_tryAll_196 hl (by decide) rfl (fun ls hl => ?_)
                                refine lv_aload_n hx hb d_Mo_tryAll_198 rfl (lv_at hl 1 rfl) ?_
                                refine va_get (D := g) (ci := 8) (v := .ref (b 15)) (C := R_Mo) (T := F_Mo) (N := 35) hx hb hT i_Mo hown hK hP 0 rfl rfl 22 (by decide) (hT _ tw_643) (fun _ h9 => h9) rfl d_Mo_tryAll_199 ?_
                                refine lv_iload hx hb d_Mo_tryAll_202 (lv_at hl 5 rfl) ?_
                                refine lv_iload hx hb d_Mo_tryAll_204 (lv_at hl 0 rfl) ?_
                                refine lv_if_eq (tgt := 213) hx hb d_Mo_tryAll_206 (by decide) (fun q => absurd q (by decide)) (fun _ => ?_)
                                refine lv_iconst (v := (nI 1)) hx hb d_Mo_tryAll_209 (by decide) ?_
                                refine lv_goto (tgt := 214) hx hb d_Mo_tryAll_210 (by decide) ?_
                                refine my_iast (i := (pW mk mb ms mn ud dn ea oo x).2.2 kk) hx hb hK hP hD hS 15 0 rfl rfl (by omega) (by decide) (my_upN _ _ _) (w' := (moW b cI cJ cZ f0 mn mv mg mk mo mu md ms mb mc m1 m2 m3 m4 we (pU mb ms mn ud x) ((pE mk mb ms mn ud dn ea x).2.1) ((pE mk mb ms mn ud dn ea x).2.2) ((pW mk mb ms mn ud dn ea oo x).2.1) ((pW mk mb ms mn ud dn ea oo x).2.2) ((pW mk mb ms mn ud dn ea oo x).1) (va_up v2 ((pW mk mb ms mn ud dn ea oo x).2.2 kk) 1) h0 wt cm co te tm gs gl rs rg rp rt)) rfl d_Mo_tryAll_214 (fun H locs hP hD hS => ?_)
                                refine lv_iinc (v := (nI (kk + 1))) (lv' := [(3, .int (nI (kk + 1))), (6, .int (nI 1)), (0, .ref (b 0)), (1, .int (nI x)), (2, .int (nI s1)), (4, .int (nI ((pW mk mb ms mn ud dn ea oo x).2.2 kk))), (5, .int (nI n5))]) hx hb d_Mo_tryAll_215 hl (k := 4) rfl (nI_1 kk) (by decide) rfl (fun ls hl => ?_)
                                refine lv_goto (tgt := 61) hx hb d_Mo_tryAll_218 (by decide) ?_
                                refine ih_61 (kk + 1) _ _ _ _ ?_ ?_ ?_ ?_ hP hD hS (lv_sub hl [2, 3, 4, 0] rfl)
                                · omega
                                · omega
                                · exact up_le hv2 (by omega)
                                · have eg : gvF mk ms mo mb v2 ((pW mk mb ms mn ud dn ea oo x).2.2 kk) = true := by rw [gvF, if_neg c_132, if_neg c_163, hn5]; exact decide_eq_true c_188
                                  rw [hf2]
                                  show _ = va_up (tvG mk ms mo mb (pW mk mb ms mn ud dn ea oo x).2.2 (tvE (pE mk mb ms mn ud dn ea x).2.2 (pE mk mb ms mn ud dn ea x).2.1 s1 v0 (pE mk mb ms mn ud dn ea x).2.1) kk) ((pW mk mb ms mn ud dn ea oo x).2.2 kk) (if gvF mk ms mo mb (tvG mk ms mo mb (pW mk mb ms mn ud dn ea oo x).2.2 (tvE (pE mk mb ms mn ud dn ea x).2.2 (pE mk mb ms mn ud dn ea x).2.1 s1 v0 (pE mk mb ms mn ud dn ea x).2.1) kk) ((pW mk mb ms mn ud dn ea oo x).2.2 kk) = true then 1 else 0)
                                  rw [← hf2, eg]; rfl
                            · -- 163: not taken
                              refine lv_iload hx hb d_Mo_tryAll_166 (lv_at hl 5 rfl) ?_
                              refine my_if_le (tgt := 175) (a := n5) hx hb d_Mo_tryAll_168 (by decide) (by omega) (fun c_168 => ?_) (fun c_168 => ?_)
                              · -- 168: taken
                                refine lv_iconst (v := (nI 0)) hx hb d_Mo_tryAll_175 (by decide) ?_
                                refine lv_goto (tgt := 196) hx hb d_Mo_tryAll_176 (by decide) ?_
                                refine lv_istore (lv' := [(6, .int (nI 0)), (0, .ref (b 0)), (1, .int (nI x)), (2, .int (nI s1)), (3, .int (nI kk)), (4, .int (nI ((pW mk mb ms mn ud dn ea oo x).2.2 kk))), (5, .int (nI n5))]) hx hb d_Mo_tryAll_196 hl (by decide) rfl (fun ls hl => ?_)
                                refine lv_aload_n hx hb d_Mo_tryAll_198 rfl (lv_at hl 1 rfl) ?_
                                refine va_get (D := g) (ci := 8) (v := .ref (b 15)) (C := R_Mo) (T := F_Mo) (N := 35) hx hb hT i_Mo hown hK hP 0 rfl rfl 22 (by decide) (hT _ tw_643) (fun _ h9 => h9) rfl d_Mo_tryAll_199 ?_
                                refine lv_iload hx hb d_Mo_tryAll_202 (lv_at hl 5 rfl) ?_
                                refine lv_iload hx hb d_Mo_tryAll_204 (lv_at hl 0 rfl) ?_
                                refine lv_if_eq (tgt := 213) hx hb d_Mo_tryAll_206 (by decide) (fun _ => ?_) (fun q => absurd (by decide) q)
                                refine lv_iconst (v := (nI 0)) hx hb d_Mo_tryAll_213 (by decide) ?_
                                refine my_iast (i := (pW mk mb ms mn ud dn ea oo x).2.2 kk) hx hb hK hP hD hS 15 0 rfl rfl (by omega) (by decide) (my_upN _ _ _) (w' := (moW b cI cJ cZ f0 mn mv mg mk mo mu md ms mb mc m1 m2 m3 m4 we (pU mb ms mn ud x) ((pE mk mb ms mn ud dn ea x).2.1) ((pE mk mb ms mn ud dn ea x).2.2) ((pW mk mb ms mn ud dn ea oo x).2.1) ((pW mk mb ms mn ud dn ea oo x).2.2) ((pW mk mb ms mn ud dn ea oo x).1) (va_up v2 ((pW mk mb ms mn ud dn ea oo x).2.2 kk) 0) h0 wt cm co te tm gs gl rs rg rp rt)) rfl d_Mo_tryAll_214 (fun H locs hP hD hS => ?_)
                                refine lv_iinc (v := (nI (kk + 1))) (lv' := [(3, .int (nI (kk + 1))), (6, .int (nI 0)), (0, .ref (b 0)), (1, .int (nI x)), (2, .int (nI s1)), (4, .int (nI ((pW mk mb ms mn ud dn ea oo x).2.2 kk))), (5, .int (nI n5))]) hx hb d_Mo_tryAll_215 hl (k := 4) rfl (nI_1 kk) (by decide) rfl (fun ls hl => ?_)
                                refine lv_goto (tgt := 61) hx hb d_Mo_tryAll_218 (by decide) ?_
                                refine ih_61 (kk + 1) _ _ _ _ ?_ ?_ ?_ ?_ hP hD hS (lv_sub hl [2, 3, 4, 0] rfl)
                                · omega
                                · omega
                                · exact up_le hv2 (by omega)
                                · have eg : gvF mk ms mo mb v2 ((pW mk mb ms mn ud dn ea oo x).2.2 kk) = false := by rw [gvF, if_neg c_132, if_pos c_163, hn5]; exact decide_eq_false (by omega)
                                  rw [hf2]
                                  show _ = va_up (tvG mk ms mo mb (pW mk mb ms mn ud dn ea oo x).2.2 (tvE (pE mk mb ms mn ud dn ea x).2.2 (pE mk mb ms mn ud dn ea x).2.1 s1 v0 (pE mk mb ms mn ud dn ea x).2.1) kk) ((pW mk mb ms mn ud dn ea oo x).2.2 kk) (if gvF mk ms mo mb (tvG mk ms mo mb (pW mk mb ms mn ud dn ea oo x).2.2 (tvE (pE mk mb ms mn ud dn ea x).2.2 (pE mk mb ms mn ud dn ea x).2.1 s1 v0 (pE mk mb ms mn ud dn ea x).2.1) kk) ((pW mk mb ms mn ud dn ea oo x).2.2 kk) = true then 1 else 0)
                                  rw [← hf2, eg]; rfl
                              · -- 168: not taken
                                refine lv_iconst (v := (nI 1)) hx hb d_Mo_tryAll_171 (by decide) ?_
                                refine lv_goto (tgt := 196) hx hb d_Mo_tryAll_172 (by decide) ?_
                                refine lv_istore (lv' := [(6, .int (nI 1)), (0, .ref (b 0)), (1, .int (nI x)), (2, .int (nI s1)), (3, .int (nI kk)), (4, .int (nI ((pW mk mb ms mn ud dn ea oo x).2.2 kk))), (5, .int (nI n5))]) hx hb d_Mo_tryAll_196 hl (by decide) rfl (fun ls hl => ?_)
                                refine lv_aload_n hx hb d_Mo_tryAll_198 rfl (lv_at hl 1 rfl) ?_
                                refine va_get (D := g) (ci := 8) (v := .ref (b 15)) (C := R_Mo) (T := F_Mo) (N := 35) hx hb hT i_Mo hown hK hP 0 rfl rfl 22 (by decide) (hT _ tw_643) (fun _ h9 => h9) rfl d_Mo_tryAll_199 ?_
                                refine lv_iload hx hb d_Mo_tryAll_202 (lv_at hl 5 rfl) ?_
                                refine lv_iload hx hb d_Mo_tryAll_204 (lv_at hl 0 rfl) ?_
                                refine lv_if_eq (tgt := 213) hx hb d_Mo_tryAll_206 (by decide) (fun q => absurd q (by decide)) (fun _ => ?_)
                                refine lv_iconst (v := (nI 1)) hx hb d_Mo_tryAll_209 (by decide) ?_
                                refine lv_goto (tgt := 214) hx hb d_Mo_tryAll_210 (by decide) ?_
                                refine my_iast (i := (pW mk mb ms mn ud dn ea oo x).2.2 kk) hx hb hK hP hD hS 15 0 rfl rfl (by omega) (by decide) (my_upN _ _ _) (w' := (moW b cI cJ cZ f0 mn mv mg mk mo mu md ms mb mc m1 m2 m3 m4 we (pU mb ms mn ud x) ((pE mk mb ms mn ud dn ea x).2.1) ((pE mk mb ms mn ud dn ea x).2.2) ((pW mk mb ms mn ud dn ea oo x).2.1) ((pW mk mb ms mn ud dn ea oo x).2.2) ((pW mk mb ms mn ud dn ea oo x).1) (va_up v2 ((pW mk mb ms mn ud dn ea oo x).2.2 kk) 1) h0 wt cm co te tm gs gl rs rg rp rt)) rfl d_Mo_tryAll_214 (fun H locs hP hD hS => ?_)
                                refine lv_iinc (v := (nI (kk + 1))) (lv' := [(3, .int (nI (kk + 1))), (6, .int (nI 1)), (0, .ref (b 0)), (1, .int (nI x)), (2, .int (nI s1)), (4, .int (nI ((pW mk mb ms mn ud dn ea oo x).2.2 kk))), (5, .int (nI n5))]) hx hb d_Mo_tryAll_215 hl (k := 4) rfl (nI_1 kk) (by decide) rfl (fun ls hl => ?_)
                                refine lv_goto (tgt := 61) hx hb d_Mo_tryAll_218 (by decide) ?_
                                refine ih_61 (kk + 1) _ _ _ _ ?_ ?_ ?_ ?_ hP hD hS (lv_sub hl [2, 3, 4, 0] rfl)
                                · omega
                                · omega
                                · exact up_le hv2 (by omega)
                                · have eg : gvF mk ms mo mb v2 ((pW mk mb ms mn ud dn ea oo x).2.2 kk) = true := by rw [gvF, if_neg c_132, if_pos c_163, hn5]; exact decide_eq_true c_168
                                  rw [hf2]
                                  show _ = va_up (tvG mk ms mo mb (pW mk mb ms mn ud dn ea oo x).2.2 (tvE (pE mk mb ms mn ud dn ea x).2.2 (pE mk mb ms mn ud dn ea x).2.1 s1 v0 (pE mk mb ms mn ud dn ea x).2.1) kk) ((pW mk mb ms mn ud dn ea oo x).2.2 kk) (if gvF mk ms mo mb (tvG mk ms mo mb (pW mk mb ms mn ud dn ea oo x).2.2 (tvE (pE mk mb ms mn ud dn ea x).2.2 (pE mk mb ms mn ud dn ea x).2.1 s1 v0 (pE mk mb ms mn ud dn ea x).2.1) kk) ((pW mk mb ms mn ud dn ea oo x).2.2 kk) = true then 1 else 0)
                                  rw [← hf2, eg]; rfl
                          · -- 132: not taken
                            refine lv_iload hx hb d_Mo_tryAll_135 (lv_at hl 5 rfl) ?_
                            refine lv_aload_n hx hb d_Mo_tryAll_137 rfl (lv_at hl 0 rfl) ?_
                            refine va_get (D := g) (ci := 8) (v := .ref (b 5)) (C := R_Mo) (T := F_Mo) (N := 35) hx hb hT i_Mo hown hK hP 0 rfl rfl 8 (by decide) (hT _ tw_629) (fun _ h9 => h9) rfl d_Mo_tryAll_138 ?_
                            refine lv_iload hx hb d_Mo_tryAll_141 (lv_at hl 4 rfl) ?_
                            refine my_iald (v := (nI (ms ((pW mk mb ms mn ud dn ea oo x).2.2 kk)))) (i := (pW mk mb ms mn ud dn ea oo x).2.2 kk) hx hb hK hP 5 0 rfl rfl (by omega) (by decide) rfl d_Mo_tryAll_143 ?_
                            refine my_icmp_ne (tgt := 151) (a := n5) (b := ms ((pW mk mb ms mn ud dn ea oo x).2.2 kk)) hx hb d_Mo_tryAll_144 (by decide) (by omega) (by omega) (fun c_144 => ?_) (fun c_144 => ?_)
                            · -- 144: taken
                              refine lv_iconst (v := (nI 0)) hx hb d_Mo_tryAll_151 (by decide) ?_
                              refine lv_goto (tgt := 196) hx hb d_Mo_tryAll_152 (by decide) ?_
                              refine lv_istore (lv' := [(6, .int (nI 0)), (0, .ref (b 0)), (1, .int (nI x)), (2, .int (nI s1)), (3, .int (nI kk)), (4, .int (nI ((pW mk mb ms mn ud dn ea oo x).2.2 kk))), (5, .int (nI n5))]) hx hb d_Mo_tryAll_196 hl (by decide) rfl (fun ls hl => ?_)
                              refine lv_aload_n hx hb d_Mo_tryAll_198 rfl (lv_at hl 1 rfl) ?_
                              refine va_get (D := g) (ci := 8) (v := .ref (b 15)) (C := R_Mo) (T := F_Mo) (N := 35) hx hb hT i_Mo hown hK hP 0 rfl rfl 22 (by decide) (hT _ tw_643) (fun _ h9 => h9) rfl d_Mo_tryAll_199 ?_
                              refine lv_iload hx hb d_Mo_tryAll_202 (lv_at hl 5 rfl) ?_
                              refine lv_iload hx hb d_Mo_tryAll_204 (lv_at hl 0 rfl) ?_
                              refine lv_if_eq (tgt := 213) hx hb d_Mo_tryAll_206 (by decide) (fun _ => ?_) (fun q => absurd (by decide) q)
                              refine lv_iconst (v := (nI 0)) hx hb d_Mo_tryAll_213 (by decide) ?_
                              refine my_iast (i := (pW mk mb ms mn ud dn ea oo x).2.2 kk) hx hb hK hP hD hS 15 0 rfl rfl (by omega) (by decide) (my_upN _ _ _) (w' := (moW b cI cJ cZ f0 mn mv mg mk mo mu md ms mb mc m1 m2 m3 m4 we (pU mb ms mn ud x) ((pE mk mb ms mn ud dn ea x).2.1) ((pE mk mb ms mn ud dn ea x).2.2) ((pW mk mb ms mn ud dn ea oo x).2.1) ((pW mk mb ms mn ud dn ea oo x).2.2) ((pW mk mb ms mn ud dn ea oo x).1) (va_up v2 ((pW mk mb ms mn ud dn ea oo x).2.2 kk) 0) h0 wt cm co te tm gs gl rs rg rp rt)) rfl d_Mo_tryAll_214 (fun H locs hP hD hS => ?_)
                              refine lv_iinc (v := (nI (kk + 1))) (lv' := [(3, .int (nI (kk + 1))), (6, .int (nI 0)), (0, .ref (b 0)), (1, .int (nI x)), (2, .int (nI s1)), (4, .int (nI ((pW mk mb ms mn ud dn ea oo x).2.2 kk))), (5, .int (nI n5))]) hx hb d_Mo_tryAll_215 hl (k := 4) rfl (nI_1 kk) (by decide) rfl (fun ls hl => ?_)
                              refine lv_goto (tgt := 61) hx hb d_Mo_tryAll_218 (by decide) ?_
                              refine ih_61 (kk + 1) _ _ _ _ ?_ ?_ ?_ ?_ hP hD hS (lv_sub hl [2, 3, 4, 0] rfl)
                              · omega
                              · omega
                              · exact up_le hv2 (by omega)
                              · have eg : gvF mk ms mo mb v2 ((pW mk mb ms mn ud dn ea oo x).2.2 kk) = false := by rw [gvF, if_pos c_132, hn5]; exact decide_eq_false c_144
                                rw [hf2]
                                show _ = va_up (tvG mk ms mo mb (pW mk mb ms mn ud dn ea oo x).2.2 (tvE (pE mk mb ms mn ud dn ea x).2.2 (pE mk mb ms mn ud dn ea x).2.1 s1 v0 (pE mk mb ms mn ud dn ea x).2.1) kk) ((pW mk mb ms mn ud dn ea oo x).2.2 kk) (if gvF mk ms mo mb (tvG mk ms mo mb (pW mk mb ms mn ud dn ea oo x).2.2 (tvE (pE mk mb ms mn ud dn ea x).2.2 (pE mk mb ms mn ud dn ea x).2.1 s1 v0 (pE mk mb ms mn ud dn ea x).2.1) kk) ((pW mk mb ms mn ud dn ea oo x).2.2 kk) = true then 1 else 0)
                                rw [← hf2, eg]; rfl
                            · -- 144: not taken
                              refine lv_iconst (v := (nI 1)) hx hb d_Mo_tryAll_147 (by decide) ?_
                              refine lv_goto (tgt := 196) hx hb d_Mo_tryAll_148 (by decide) ?_
                              refine lv_istore (lv' := [(6, .int (nI 1)), (0, .ref (b 0)), (1, .int (nI x)), (2, .int (nI s1)), (3, .int (nI kk)), (4, .int (nI ((pW mk mb ms mn ud dn ea oo x).2.2 kk))), (5, .int (nI n5))]) hx hb d_Mo_tryAll_196 hl (by decide) rfl (fun ls hl => ?_)
                              refine lv_aload_n hx hb d_Mo_tryAll_198 rfl (lv_at hl 1 rfl) ?_
                              refine va_get (D := g) (ci := 8) (v := .ref (b 15)) (C := R_Mo) (T := F_Mo) (N := 35) hx hb hT i_Mo hown hK hP 0 rfl rfl 22 (by decide) (hT _ tw_643) (fun _ h9 => h9) rfl d_Mo_tryAll_199 ?_
                              refine lv_iload hx hb d_Mo_tryAll_202 (lv_at hl 5 rfl) ?_
                              refine lv_iload hx hb d_Mo_tryAll_204 (lv_at hl 0 rfl) ?_
                              refine lv_if_eq (tgt := 213) hx hb d_Mo_tryAll_206 (by decide) (fun q => absurd q (by decide)) (fun _ => ?_)
                              refine lv_iconst (v := (nI 1)) hx hb d_Mo_tryAll_209 (by decide) ?_
                              refine lv_goto (tgt := 214) hx hb d_Mo_tryAll_210 (by decide) ?_
                              refine my_iast (i := (pW mk mb ms mn ud dn ea oo x).2.2 kk) hx hb hK hP hD hS 15 0 rfl rfl (by omega) (by decide) (my_upN _ _ _) (w' := (moW b cI cJ cZ f0 mn mv mg mk mo mu md ms mb mc m1 m2 m3 m4 we (pU mb ms mn ud x) ((pE mk mb ms mn ud dn ea x).2.1) ((pE mk mb ms mn ud dn ea x).2.2) ((pW mk mb ms mn ud dn ea oo x).2.1) ((pW mk mb ms mn ud dn ea oo x).2.2) ((pW mk mb ms mn ud dn ea oo x).1) (va_up v2 ((pW mk mb ms mn ud dn ea oo x).2.2 kk) 1) h0 wt cm co te tm gs gl rs rg rp rt)) rfl d_Mo_tryAll_214 (fun H locs hP hD hS => ?_)
                              refine lv_iinc (v := (nI (kk + 1))) (lv' := [(3, .int (nI (kk + 1))), (6, .int (nI 1)), (0, .ref (b 0)), (1, .int (nI x)), (2, .int (nI s1)), (4, .int (nI ((pW mk mb ms mn ud dn ea oo x).2.2 kk))), (5, .int (nI n5))]) hx hb d_Mo_tryAll_215 hl (k := 4) rfl (nI_1 kk) (by decide) rfl (fun ls hl => ?_)
                              refine lv_goto (tgt := 61) hx hb d_Mo_tryAll_218 (by decide) ?_
                              refine ih_61 (kk + 1) _ _ _ _ ?_ ?_ ?_ ?_ hP hD hS (lv_sub hl [2, 3, 4, 0] rfl)
                              · omega
                              · omega
                              · exact up_le hv2 (by omega)
                              · have eg : gvF mk ms mo mb v2 ((pW mk mb ms mn ud dn ea oo x).2.2 kk) = true := by rw [gvF, if_pos c_132, hn5]; exact decide_eq_true c_144
                                rw [hf2]
                                show _ = va_up (tvG mk ms mo mb (pW mk mb ms mn ud dn ea oo x).2.2 (tvE (pE mk mb ms mn ud dn ea x).2.2 (pE mk mb ms mn ud dn ea x).2.1 s1 v0 (pE mk mb ms mn ud dn ea x).2.1) kk) ((pW mk mb ms mn ud dn ea oo x).2.2 kk) (if gvF mk ms mo mb (tvG mk ms mo mb (pW mk mb ms mn ud dn ea oo x).2.2 (tvE (pE mk mb ms mn ud dn ea x).2.2 (pE mk mb ms mn ud dn ea x).2.1 s1 v0 (pE mk mb ms mn ud dn ea x).2.1) kk) ((pW mk mb ms mn ud dn ea oo x).2.2 kk) = true then 1 else 0)
                                rw [← hf2, eg]; rfl
                        · -- 92: not taken
                          have q8 := hmb (10 * (pW mk mb ms mn ud dn ea oo x).2.2 kk + i)
                          have q9 := hv2 (mb (10 * (pW mk mb ms mn ud dn ea oo x).2.2 kk + i))
                          refine lv_iload hx hb d_Mo_tryAll_95 (lv_at hl 5 rfl) ?_
                          refine lv_aload_n hx hb d_Mo_tryAll_97 rfl (lv_at hl 0 rfl) ?_
                          refine va_get (D := g) (ci := 8) (v := .ref (b 15)) (C := R_Mo) (T := F_Mo) (N := 35) hx hb hT i_Mo hown hK hP 0 rfl rfl 22 (by decide) (hT _ tw_643) (fun _ h9 => h9) rfl d_Mo_tryAll_98 ?_
                          refine lv_aload_n hx hb d_Mo_tryAll_101 rfl (lv_at hl 0 rfl) ?_
                          refine va_get (D := g) (ci := 8) (v := .ref (b 6)) (C := R_Mo) (T := F_Mo) (N := 35) hx hb hT i_Mo hown hK hP 0 rfl rfl 9 (by decide) (hT _ tw_630) (fun _ h9 => h9) rfl d_Mo_tryAll_102 ?_
                          refine lv_bipush (v := (nI 10)) hx hb d_Mo_tryAll_105 (by decide) ?_
                          refine lv_iload hx hb d_Mo_tryAll_107 (lv_at hl 4 rfl) ?_
                          refine lv_imul hx hb d_Mo_tryAll_109 ?_
                          refine my_ei (pk_mul 10 ((pW mk mb ms mn ud dn ea oo x).2.2 kk)) ?_
                          refine lv_iload hx hb d_Mo_tryAll_110 (lv_at hl 6 rfl) ?_
                          refine lv_iadd hx hb d_Mo_tryAll_112 ?_
                          refine my_ei (nI_add (10 * ((pW mk mb ms mn ud dn ea oo x).2.2 kk)) i) ?_
                          refine my_iald (v := (nI (mb ((10 * ((pW mk mb ms mn ud dn ea oo x).2.2 kk)) + i)))) (i := (10 * ((pW mk mb ms mn ud dn ea oo x).2.2 kk)) + i) hx hb hK hP 6 0 rfl rfl (by omega) (by decide) rfl d_Mo_tryAll_113 ?_
                          refine my_iald (v := (nI (v2 (mb ((10 * ((pW mk mb ms mn ud dn ea oo x).2.2 kk)) + i))))) (i := mb ((10 * ((pW mk mb ms mn ud dn ea oo x).2.2 kk)) + i)) hx hb hK hP 15 0 rfl rfl (by omega) (by decide) rfl d_Mo_tryAll_114 ?_
                          refine lv_iadd hx hb d_Mo_tryAll_115 ?_
                          refine my_ei (nI_add n5 (v2 (mb ((10 * ((pW mk mb ms mn ud dn ea oo x).2.2 kk)) + i)))) ?_
                          refine lv_istore (lv' := [(5, .int (nI (n5 + (v2 (mb ((10 * ((pW mk mb ms mn ud dn ea oo x).2.2 kk)) + i)))))), (0, .ref (b 0)), (1, .int (nI x)), (2, .int (nI s1)), (3, .int (nI kk)), (4, .int (nI ((pW mk mb ms mn ud dn ea oo x).2.2 kk))), (6, .int (nI i))]) hx hb d_Mo_tryAll_116 hl (by decide) rfl (fun ls hl => ?_)
                          refine lv_iinc (v := (nI (i + 1))) (lv' := [(6, .int (nI (i + 1))), (5, .int (nI (n5 + (v2 (mb ((10 * ((pW mk mb ms mn ud dn ea oo x).2.2 kk)) + i)))))), (0, .ref (b 0)), (1, .int (nI x)), (2, .int (nI s1)), (3, .int (nI kk)), (4, .int (nI ((pW mk mb ms mn ud dn ea oo x).2.2 kk)))]) hx hb d_Mo_tryAll_118 hl (k := 6) rfl (nI_1 i) (by decide) rfl (fun ls hl => ?_)
                          refine lv_goto (tgt := 83) hx hb d_Mo_tryAll_121 (by decide) ?_
                          refine ih_83 _ _ _ _ _ ?_ ?_ ?_ hP hD hS (lv_sub hl [2, 3, 4, 5, 6, 1, 0] rfl)
                          · omega
                          · omega
                          · rw [hf5]; rfl
                    refine lp_83 (ms ((pW mk mb ms mn ud dn ea oo x).2.2 kk) + 1) _ _ _ _ _ ?_ ?_ ?_ hP hD hS (lv_sub hl [3, 4, 5, 6, 2, 1, 0] rfl)
                    · omega
                    · omega
                    · rfl
              refine lp_61 ((pW mk mb ms mn ud dn ea oo x).2.1 + 1) 0 _ _ _ _ ?_ ?_ ?_ ?_ hP hD hS (lv_sub hl [1, 2, 3, 0] rfl)
              · omega
              · omega
              · exact hv1
              · rw [hf1, show kk = (pE mk mb ms mn ud dn ea x).2.1 by omega]; rfl
            · -- 24: not taken
              have qa := qA kk c_24
              refine lv_aload_n hx hb d_Mo_tryAll_27 rfl (lv_at hl 0 rfl) ?_
              refine va_get (D := g) (ci := 8) (v := .ref (b 15)) (C := R_Mo) (T := F_Mo) (N := 35) hx hb hT i_Mo hown hK hP 0 rfl rfl 22 (by decide) (hT _ tw_643) (fun _ h9 => h9) rfl d_Mo_tryAll_28 ?_
              refine lv_aload_n hx hb d_Mo_tryAll_31 rfl (lv_at hl 0 rfl) ?_
              refine va_get (D := g) (ci := 8) (v := .ref (b 12)) (C := R_Mo) (T := F_Mo) (N := 35) hx hb hT i_Mo hown hK hP 0 rfl rfl 18 (by decide) (hT _ tw_639) (fun _ h9 => h9) rfl d_Mo_tryAll_32 ?_
              refine lv_iload_n hx hb d_Mo_tryAll_35 rfl (lv_at hl 3 rfl) ?_
              refine my_iald (v := (nI (((pE mk mb ms mn ud dn ea x).2.2) kk))) (i := kk) hx hb hK hP 12 0 rfl rfl (by omega) (by decide) rfl d_Mo_tryAll_36 ?_
              refine lv_iload_n hx hb d_Mo_tryAll_37 rfl (lv_at hl 2 rfl) ?_
              refine lv_aload_n hx hb d_Mo_tryAll_38 rfl (lv_at hl 0 rfl) ?_
              refine lv_iload_n hx hb d_Mo_tryAll_39 rfl (lv_at hl 3 rfl) ?_
              refine my_V_i (q0 := 0) (ci := 8) (C := R_Mo) (As := [.int (nI kk)]) (n := 1) (k_Mo_bit l g b cI cJ cZ f0 mn mv mg mk mo mu md ms mb mc m1 m2 m3 m4 we (pU mb ms mn ud x) ((pE mk mb ms mn ud dn ea x).2.1) ((pE mk mb ms mn ud dn ea x).2.2) ((pW mk mb ms mn ud dn ea oo x).2.1) ((pW mk mb ms mn ud dn ea oo x).2.2) ((pW mk mb ms mn ud dn ea oo x).1) v1 h0 wt cm co te tm gs gl rs rg rp rt kk (by omega) qM) hx hb hml hown hT hN tw_773 tw_775 tp_21 tw_9 tw_776 (by decide +kernel) rfl rfl ⟨Nat.le_of_ble_eq_true rfl, Nat.le_of_ble_eq_true rfl⟩ ⟨Nat.zero_le _, Nat.zero_le _⟩ hK hP hD hS hA rfl rfl rfl hl rfl (Nat.le_of_ble_eq_true rfl) d_Mo_tryAll_40 (fun H locs hP hD hS => ?_)
              have qb : 0 < 2 ^ ((pE mk mb ms mn ud dn ea x).2.1 - 1 - kk) := Nat.two_pow_pos _
              refine lv_iand hx hb d_Mo_tryAll_43 ?_
              refine my_ei (nx_and s1 (2 ^ (((pE mk mb ms mn ud dn ea x).2.1) - 1 - kk))) ?_
              have qs : s1 &&& 2 ^ ((pE mk mb ms mn ud dn ea x).2.1 - 1 - kk) ≤ s1 := Nat.and_le_left
              refine my_if_eq (tgt := 51) (a := s1 &&& (2 ^ (((pE mk mb ms mn ud dn ea x).2.1) - 1 - kk))) hx hb d_Mo_tryAll_44 (by decide) (by omega) (fun c_44 => ?_) (fun c_44 => ?_)
              · -- 44: taken
                refine lv_iconst (v := (nI 0)) hx hb d_Mo_tryAll_51 (by decide) ?_
                refine my_iast (i := ((pE mk mb ms mn ud dn ea x).2.2) kk) hx hb hK hP hD hS 15 0 rfl rfl (by omega) (by decide) (my_upN _ _ _) (w' := (moW b cI cJ cZ f0 mn mv mg mk mo mu md ms mb mc m1 m2 m3 m4 we (pU mb ms mn ud x) ((pE mk mb ms mn ud dn ea x).2.1) ((pE mk mb ms mn ud dn ea x).2.2) ((pW mk mb ms mn ud dn ea oo x).2.1) ((pW mk mb ms mn ud dn ea oo x).2.2) ((pW mk mb ms mn ud dn ea oo x).1) (va_up v1 (((pE mk mb ms mn ud dn ea x).2.2) kk) 0) h0 wt cm co te tm gs gl rs rg rp rt)) rfl d_Mo_tryAll_52 (fun H locs hP hD hS => ?_)
                refine lv_iinc (v := (nI (kk + 1))) (lv' := [(3, .int (nI (kk + 1))), (0, .ref (b 0)), (1, .int (nI x)), (2, .int (nI s1))]) hx hb d_Mo_tryAll_53 hl (k := 3) rfl (nI_1 kk) (by decide) rfl (fun ls hl => ?_)
                refine lv_goto (tgt := 19) hx hb d_Mo_tryAll_56 (by decide) ?_
                refine ih_19 _ _ _ _ _ ?_ ?_ ?_ ?_ hP hD hS (lv_sub hl [1, 2, 3, 0] rfl)
                · omega
                · omega
                · exact up_le hv1 (by omega)
                · rw [hf1]
                  show _ = va_up _ _ (if s1 &&& 2 ^ ((pE mk mb ms mn ud dn ea x).2.1 - 1 - kk) = 0 then 0 else 1)
                  first | rw [if_pos c_44] | rw [if_neg (show ¬ s1 &&& 2 ^ ((pE mk mb ms mn ud dn ea x).2.1 - 1 - kk) = 0 by omega)]
              · -- 44: not taken
                refine lv_iconst (v := (nI 1)) hx hb d_Mo_tryAll_47 (by decide) ?_
                refine lv_goto (tgt := 52) hx hb d_Mo_tryAll_48 (by decide) ?_
                refine my_iast (i := ((pE mk mb ms mn ud dn ea x).2.2) kk) hx hb hK hP hD hS 15 0 rfl rfl (by omega) (by decide) (my_upN _ _ _) (w' := (moW b cI cJ cZ f0 mn mv mg mk mo mu md ms mb mc m1 m2 m3 m4 we (pU mb ms mn ud x) ((pE mk mb ms mn ud dn ea x).2.1) ((pE mk mb ms mn ud dn ea x).2.2) ((pW mk mb ms mn ud dn ea oo x).2.1) ((pW mk mb ms mn ud dn ea oo x).2.2) ((pW mk mb ms mn ud dn ea oo x).1) (va_up v1 (((pE mk mb ms mn ud dn ea x).2.2) kk) 1) h0 wt cm co te tm gs gl rs rg rp rt)) rfl d_Mo_tryAll_52 (fun H locs hP hD hS => ?_)
                refine lv_iinc (v := (nI (kk + 1))) (lv' := [(3, .int (nI (kk + 1))), (0, .ref (b 0)), (1, .int (nI x)), (2, .int (nI s1))]) hx hb d_Mo_tryAll_53 hl (k := 3) rfl (nI_1 kk) (by decide) rfl (fun ls hl => ?_)
                refine lv_goto (tgt := 19) hx hb d_Mo_tryAll_56 (by decide) ?_
                refine ih_19 _ _ _ _ _ ?_ ?_ ?_ ?_ hP hD hS (lv_sub hl [1, 2, 3, 0] rfl)
                · omega
                · omega
                · exact up_le hv1 (by omega)
                · rw [hf1]
                  show _ = va_up _ _ (if s1 &&& 2 ^ ((pE mk mb ms mn ud dn ea x).2.1 - 1 - kk) = 0 then 0 else 1)
                  first | rw [if_pos c_44] | rw [if_neg (show ¬ s1 &&& 2 ^ ((pE mk mb ms mn ud dn ea x).2.1 - 1 - kk) = 0 by omega)]
        refine lp_19 ((pE mk mb ms mn ud dn ea x).2.1 + 1) _ _ _ _ _ ?_ ?_ ?_ ?_ hP hD hS (lv_sub hl [1, 2, 3, 0] rfl)
        · omega
        · omega
        · exact hv0
        · rfl
  refine lp_7 (2 ^ (pE mk mb ms mn ud dn ea x).2.1 + 1) _ _ _ _ _ _ ?_ ?_ ?_ ?_ hP hD hS (lv_sub hl [1, 2, 0] rfl)
  · omega
  · omega
  · exact hva
  · rfl
