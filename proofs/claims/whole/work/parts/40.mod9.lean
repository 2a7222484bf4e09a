theorem prE_all {u : Nat → Bool} {mk : Nat → Nat} {dn : Nat → Bool} {ea : Nat → Nat} (h : ∀ j, ea j ≤ 32) : ∀ j, j ≤ 32 → ∀ i, (prE u mk dn ea j).2.2 i ≤ 32
  | 0, _ => h
  | j + 1, hj => by
    have ih := prE_all (u := u) (mk := mk) (dn := dn) h j (by omega)
    by_cases c : u (j + 1) = true ∧ mk (j + 1) = 0
    · rw [prE_t c]; exact up_le ih hj
    · rw [prE_f c]; exact ih
theorem prE_ev {u : Nat → Bool} {mk : Nat → Nat} {dn : Nat → Bool} {ea : Nat → Nat} : ∀ j i, i < (prE u mk dn ea j).2.1 → mk ((prE u mk dn ea j).2.2 i) = 0
  | 0, i, h => absurd h (Nat.not_lt_zero i)
  | j + 1, i, h => by
    by_cases c : u (j + 1) = true ∧ mk (j + 1) = 0
    · rw [prE_t c] at h ⊢
      show mk (va_up _ _ _ i) = 0
      unfold va_up
      split
      · exact c.2
      · have h : i < (prE u mk dn ea j).2.1 + 1 := h
        exact prE_ev j i (by omega)
    · rw [prE_f c] at h ⊢
      exact prE_ev j i h
theorem prG_gt {u : Nat → Bool} {mk ms mb : Nat → Nat} {s : (Nat → Bool) × Nat × (Nat → Nat)} {n : Nat} (h0 : ∀ i, i < s.2.1 → ¬ mk (s.2.2 i) = 0) (hd : ∀ j, 1 ≤ j → j ≤ n → mk j = 0 → s.1 j = true) : ∀ j, j ≤ n → (∀ i, i < (prG u ms mb s j).2.1 → ¬ mk ((prG u ms mb s j).2.2.1 i) = 0) ∧ ∀ a, 1 ≤ a → a ≤ n → mk a = 0 → (prG u ms mb s j).1 a = true
  | 0, _ => ⟨h0, hd⟩
  | j + 1, hj => by
    obtain ⟨i1, i2⟩ := prG_gt (u := u) (ms := ms) (mb := mb) h0 hd j (by omega)
    by_cases c : u (j + 1) = true ∧ (prG u ms mb s j).1 (j + 1) = false ∧ rdF (prG u ms mb s j).1 mb (j + 1) (ms (j + 1)) = true
    · rw [prG_t c]
      refine ⟨fun i hi => ?_, fun a h1 h2 h3 => ?_⟩
      · show ¬ mk (va_up _ _ _ i) = 0
        unfold va_up
        split
        · intro q
          have := i2 (j + 1) (by omega) hj q
          rw [c.2.1] at this
          exact absurd this (by decide)
        · exact i1 i (by have hi2 : i < (prG u ms mb s j).2.1 + 1 := hi; omega)
      · show va_up _ _ _ a = true
        unfold va_up
        split
        · rfl
        · exact i2 a h1 h2 h3
    · rw [prG_f c]; exact ⟨i1, i2⟩
theorem prW_gt {u : Nat → Bool} {mk ms mb : Nat → Nat} {n : Nat} : ∀ f (s : (Nat → Bool) × Nat × (Nat → Nat)), (∀ i, i < s.2.1 → ¬ mk (s.2.2 i) = 0) → (∀ j, 1 ≤ j → j ≤ n → mk j = 0 → s.1 j = true) → ∀ i, i < (prW (fun s => prG u ms mb s n) f s).2.1 → ¬ mk ((prW (fun s => prG u ms mb s n) f s).2.2 i) = 0
  | 0, s, h1, _ => h1
  | f + 1, s, h1, h2 => by
    obtain ⟨a, b⟩ := prG_gt (u := u) (ms := ms) (mb := mb) h1 h2 n (Nat.le_refl _)
    by_cases c : (prG u ms mb s n).2.2.2 = true
    · rw [show prW (fun s => prG u ms mb s n) (f + 1) s = prW (fun s => prG u ms mb s n) f ((prG u ms mb s n).1, (prG u ms mb s n).2.1, (prG u ms mb s n).2.2.1) from if_pos c]
      exact prW_gt f _ a b
    · rw [show prW (fun s => prG u ms mb s n) (f + 1) s = ((prG u ms mb s n).1, (prG u ms mb s n).2.1, (prG u ms mb s n).2.2.1) from if_neg c]
      exact a
theorem pW_gt {mk mb ms : Nat → Nat} {mn : Nat} {ud dn : Nat → Bool} {ea oo : Nat → Nat} {x : Nat} : ∀ i, i < (pW mk mb ms mn ud dn ea oo x).2.1 → ¬ mk ((pW mk mb ms mn ud dn ea oo x).2.2 i) = 0 :=
  prW_gt 34 _ (fun i h => absurd h (Nat.not_lt_zero i)) (fun j h1 h2 h3 => by show (prE _ mk dn ea mn).1 j = true; rw [prE_dn mn j h1 h2]; exact decide_eq_true h3)
def ewF (wt : Nat → Nat) : Nat → (Nat → Nat)
  | 0 => wt
  | s + 1 => va_up (ewF wt s) s (if s = 0 then 1 else 0)
def exE (ea mu md : Nat → Nat) (my : Nat) (wt : Nat → Nat) : Nat → (Nat → Nat) × Nat
  | 0 => (ewF wt (2 ^ my), 1)
  | k + 1 => (spF (2 ^ my) (2 ^ (my - 1 - k)) (mu (ea k)) (md (ea k)) (exE ea mu md my wt k).1, (exE ea mu md my wt k).2 * md (ea k))
def exC (ea mu md m1 m2 m3 m4 : Nat → Nat) (my : Nat) (wt : Nat → Nat) : Nat → (Nat → Nat) × Nat
  | 0 => exE ea mu md my wt my
  | c + 1 => if biF ea my (m1 c) my ||| biF ea my (m2 c) my = 0 then exC ea mu md m1 m2 m3 m4 my wt c else
      (spF (2 ^ my) (biF ea my (m1 c) my ||| biF ea my (m2 c) my) (m3 c) (m4 c) (exC ea mu md m1 m2 m3 m4 my wt c).1, (exC ea mu md m1 m2 m3 m4 my wt c).2 * m4 c)
theorem exC_f {ea mu md m1 m2 m3 m4 : Nat → Nat} {my : Nat} {wt : Nat → Nat} {c : Nat} (h : biF ea my (m1 c) my ||| biF ea my (m2 c) my = 0) : exC ea mu md m1 m2 m3 m4 my wt (c + 1) = exC ea mu md m1 m2 m3 m4 my wt c := if_pos h
theorem exC_t {ea mu md m1 m2 m3 m4 : Nat → Nat} {my : Nat} {wt : Nat → Nat} {c : Nat} (h : ¬ biF ea my (m1 c) my ||| biF ea my (m2 c) my = 0) : exC ea mu md m1 m2 m3 m4 my wt (c + 1) = (spF (2 ^ my) (biF ea my (m1 c) my ||| biF ea my (m2 c) my) (m3 c) (m4 c) (exC ea mu md m1 m2 m3 m4 my wt c).1, (exC ea mu md m1 m2 m3 m4 my wt c).2 * m4 c) := if_neg h
def exN (ho : Nat → Bool) (w : Nat → Nat) : Nat → Nat
  | 0 => 0
  | s + 1 => if ho s = true then exN ho w s + w s else exN ho w s
set_option maxHeartbeats 4000000 in
set_option maxRecDepth 100000 in
theorem k_Mo_exactChance (l : Launch) (g : va_G) (b : Nat → Nat) (cI cJ cZ : ClassId) (f0 : Nat) (mn : Nat) (mv : Nat) (mg : Nat) (mk : Nat → Nat) (mo : Nat → Nat) (mu : Nat → Nat) (md : Nat → Nat) (ms : Nat → Nat) (mb : Nat → Nat) (mc : Nat) (m1 : Nat → Nat) (m2 : Nat → Nat) (m3 : Nat → Nat) (m4 : Nat → Nat) (we : Bool) (ud : Nat → Bool) (my : Nat) (ea : Nat → Nat) (od : Nat) (oo : Nat → Nat) (dn : Nat → Bool) (va : Nat → Nat) (ho : Nat → Bool) (wt : Nat → Nat) (cm : Nat) (co : Nat → Nat) (te : Nat → Nat) (tm : Nat) (gs : Nat) (gl : Nat → Nat) (rs : Nat) (rg : Nat → Nat) (rp : Nat → Nat) (rt : Nat → Nat) (x : Nat) (z : Int32) (hx1 : x ≤ 32) (hmn : mn ≤ 32) (hms : ∀ j, ms j ≤ 10) (hmb : ∀ j, mb j ≤ 32) (hev : evc mk mn ≤ 12) (hgt : ndc (fun j => decide (mk j = 0)) mn ≤ 20) (hmk : ∀ j, mk j ≤ 3) (hmo : ∀ j, mo j ≤ 10) (hva : ∀ j, va j ≤ 2520) (hea : ∀ j, ea j ≤ 32) (hmc : mc ≤ 4) (hmud : ∀ j, mu j ≤ md j) (hmd : ∀ j, md j ≤ 10) (hm1 : ∀ j, m1 j ≤ 32) (hm2 : ∀ j, m2 j ≤ 32) (hm34 : ∀ j, m3 j ≤ m4 j) (hm4 : ∀ j, m4 j ≤ 10) (hlim : (exN (tA mk ms mo mb (pE mk mb ms mn ud dn ea x).2.2 (pW mk mb ms mn ud dn ea oo x).2.2 (pE mk mb ms mn ud dn ea x).2.1 (pW mk mb ms mn ud dn ea oo x).2.1 x va ho).2 (exC (pE mk mb ms mn ud dn ea x).2.2 mu md m1 m2 m3 m4 (pE mk mb ms mn ud dn ea x).2.1 wt mc).1 (2 ^ (pE mk mb ms mn ud dn ea x).2.1)) < 2 ^ 62 ∧ (exC (pE mk mb ms mn ud dn ea x).2.2 mu md m1 m2 m3 m4 (pE mk mb ms mn ud dn ea x).2.1 wt mc).2 < 2 ^ 62 ∧ 0 < (exC (pE mk mb ms mn ud dn ea x).2.2 mu md m1 m2 m3 m4 (pE mk mb ms mn ud dn ea x).2.1 wt mc).2) : ct_l l g vwCl (tyM cI cJ cZ) y_Mo_exactChance c_Mo_exactChance 8 (some .long) ({ frames := 3, cells := 0, slots := 0, locals := 74 } : Room) [.ref (b 0), .int (nI x), .int z] (moW b cI cJ cZ f0 mn mv mg mk mo mu md ms mb mc m1 m2 m3 m4 we ud my ea od oo dn va ho wt cm co te tm gs gl rs rg rp rt) (moW b cI cJ cZ f0 mn mv mg mk mo mu md ms mb mc m1 m2 m3 m4 we (pU mb ms mn ud x) ((pE mk mb ms mn ud dn ea x).2.1) ((pE mk mb ms mn ud dn ea x).2.2) ((pW mk mb ms mn ud dn ea oo x).2.1) ((pW mk mb ms mn ud dn ea oo x).2.2) ((pW mk mb ms mn ud dn ea oo x).1) ((tA mk ms mo mb (pE mk mb ms mn ud dn ea x).2.2 (pW mk mb ms mn ud dn ea oo x).2.2 (pE mk mb ms mn ud dn ea x).2.1 (pW mk mb ms mn ud dn ea oo x).2.1 x va ho).1) ((tA mk ms mo mb (pE mk mb ms mn ud dn ea x).2.2 (pW mk mb ms mn ud dn ea oo x).2.2 (pE mk mb ms mn ud dn ea x).2.1 (pW mk mb ms mn ud dn ea oo x).2.1 x va ho).2) ((exC (pE mk mb ms mn ud dn ea x).2.2 mu md m1 m2 m3 m4 (pE mk mb ms mn ud dn ea x).2.1 wt mc).1) cm co te tm gs gl rs rg rp rt) (lN (if z = 0 then (exN (tA mk ms mo mb (pE mk mb ms mn ud dn ea x).2.2 (pW mk mb ms mn ud dn ea oo x).2.2 (pE mk mb ms mn ud dn ea x).2.1 (pW mk mb ms mn ud dn ea oo x).2.1 x va ho).2 (exC (pE mk mb ms mn ud dn ea x).2.2 mu md m1 m2 m3 m4 (pE mk mb ms mn ud dn ea x).2.1 wt mc).1 (2 ^ (pE mk mb ms mn ud dn ea x).2.1)) / gcF ((exC (pE mk mb ms mn ud dn ea x).2.2 mu md m1 m2 m3 m4 (pE mk mb ms mn ud dn ea x).2.1 wt mc).2 + 1) (exN (tA mk ms mo mb (pE mk mb ms mn ud dn ea x).2.2 (pW mk mb ms mn ud dn ea oo x).2.2 (pE mk mb ms mn ud dn ea x).2.1 (pW mk mb ms mn ud dn ea oo x).2.1 x va ho).2 (exC (pE mk mb ms mn ud dn ea x).2.2 mu md m1 m2 m3 m4 (pE mk mb ms mn ud dn ea x).2.1 wt mc).1 (2 ^ (pE mk mb ms mn ud dn ea x).2.1)) (exC (pE mk mb ms mn ud dn ea x).2.2 mu md m1 m2 m3 m4 (pE mk mb ms mn ud dn ea x).2.1 wt mc).2 else (exC (pE mk mb ms mn ud dn ea x).2.2 mu md m1 m2 m3 m4 (pE mk mb ms mn ud dn ea x).2.1 wt mc).2 / gcF ((exC (pE mk mb ms mn ud dn ea x).2.2 mu md m1 m2 m3 m4 (pE mk mb ms mn ud dn ea x).2.1 wt mc).2 + 1) (exN (tA mk ms mo mb (pE mk mb ms mn ud dn ea x).2.2 (pW mk mb ms mn ud dn ea oo x).2.2 (pE mk mb ms mn ud dn ea x).2.1 (pW mk mb ms mn ud dn ea oo x).2.1 x va ho).2 (exC (pE mk mb ms mn ud dn ea x).2.2 mu md m1 m2 m3 m4 (pE mk mb ms mn ud dn ea x).2.1 wt mc).1 (2 ^ (pE mk mb ms mn ud dn ea x).2.1)) (exC (pE mk mb ms mn ud dn ea x).2.2 mu md m1 m2 m3 m4 (pE mk mb ms mn ud dn ea x).2.1 wt mc).2)) := by
  refine ct_l.intro (by decide) (Nat.le_of_ble_eq_true rfl) ?_
  intro p e s m args below meth c Q A ls hx hb hml hT hown hA hK hN hret hP hD hS hl
  have hown : s.vm.findClass R_Mo = some m.cls := hown
  have hl : lv_has ls 8 [(0, .ref (b 0)), (1, .int (nI x)), (2, .int z)] := hl
  have qM : (pE mk mb ms mn ud dn ea x).2.1 ≤ 12 := pE_my hev
  have qP : 2 ^ (pE mk mb ms mn ud dn ea x).2.1 ≤ 4096 := pw12c qM
  have qP0 : 0 < 2 ^ (pE mk mb ms mn ud dn ea x).2.1 := Nat.two_pow_pos _
  have qA := pE_ea (mk := mk) (mb := mb) (ms := ms) (ud := ud) (dn := dn) (ea := ea) (x := x) hmn
  have qE : ∀ j, (pE mk mb ms mn ud dn ea x).2.2 j ≤ 32 := prE_all hea mn hmn
  refine lv_aload_n hx hb d_Mo_exactChance_0 rfl (lv_at hl 0 rfl) ?_
  refine lv_iload_n hx hb d_Mo_exactChance_1 rfl (lv_at hl 1 rfl) ?_
  refine my_V_v (q0 := 0) (ci := 8) (C := R_Mo) (As := [.int (nI x)]) (n := 1) (k_Mo_tryAll l g b cI cJ cZ f0 mn mv mg mk mo mu md ms mb mc m1 m2 m3 m4 we ud my ea od oo dn va ho wt cm co te tm gs gl rs rg rp rt x hx1 hmn hms hmb hev hgt hmk hmo hva) hx hb hml hown hT hN tw_769 tw_771 tp_20 tw_9 tw_772 (by decide +kernel) rfl rfl ⟨Nat.le_of_ble_eq_true rfl, Nat.le_of_ble_eq_true rfl⟩ ⟨Nat.zero_le _, Nat.zero_le _⟩ hK hP hD hS hA rfl rfl rfl hl rfl (Nat.le_of_ble_eq_true rfl) d_Mo_exactChance_2 (fun H locs hP hD hS => ?_)
  refine lv_lconst (v := (lN 1)) hx hb d_Mo_exactChance_5 (by decide) ?_
  refine lv_lstore_n (lv' := [(3, .long (lN 1)), (0, .ref (b 0)), (1, .int (nI x)), (2, .int z)]) hx hb d_Mo_exactChance_6 rfl hl (by decide) rfl (fun ls hl => ?_)
  refine lv_iconst (v := (nI 0)) hx hb d_Mo_exactChance_7 (by decide) ?_
  refine lv_istore (lv' := [(5, .int (nI 0)), (3, .long (lN 1)), (0, .ref (b 0)), (1, .int (nI x)), (2, .int z)]) hx hb d_Mo_exactChance_8 hl (by decide) rfl (fun ls hl => ?_)
  have lp_10 : ∀ (k : Nat) (s1 : Nat) (q : Nat → Nat) (H : Heap) (locs : List Loc) (ls : Array Slot), (2 ^ (pE mk mb ms mn ud dn ea x).2.1 < s1 + k) → (s1 ≤ 2 ^ (pE mk mb ms mn ud dn ea x).2.1) → (q = ewF wt s1) → va_P g vwCl (moW b cI cJ cZ f0 mn mv mg mk mo mu md ms mb mc m1 m2 m3 m4 we (pU mb ms mn ud x) ((pE mk mb ms mn ud dn ea x).2.1) ((pE mk mb ms mn ud dn ea x).2.2) ((pW mk mb ms mn ud dn ea oo x).2.1) ((pW mk mb ms mn ud dn ea oo x).2.2) ((pW mk mb ms mn ud dn ea oo x).1) ((tA mk ms mo mb (pE mk mb ms mn ud dn ea x).2.2 (pW mk mb ms mn ud dn ea oo x).2.2 (pE mk mb ms mn ud dn ea x).2.1 (pW mk mb ms mn ud dn ea oo x).2.1 x va ho).1) ((tA mk ms mo mb (pE mk mb ms mn ud dn ea x).2.2 (pW mk mb ms mn ud dn ea oo x).2.2 (pE mk mb ms mn ud dn ea x).2.1 (pW mk mb ms mn ud dn ea oo x).2.1 x va ho).2) q cm co te tm gs gl rs rg rp rt) H → va_D A (moW b cI cJ cZ f0 mn mv mg mk mo mu md ms mb mc m1 m2 m3 m4 we (pU mb ms mn ud x) ((pE mk mb ms mn ud dn ea x).2.1) ((pE mk mb ms mn ud dn ea x).2.2) ((pW mk mb ms mn ud dn ea oo x).2.1) ((pW mk mb ms mn ud dn ea oo x).2.2) ((pW mk mb ms mn ud dn ea oo x).1) ((tA mk ms mo mb (pE mk mb ms mn ud dn ea x).2.2 (pW mk mb ms mn ud dn ea oo x).2.2 (pE mk mb ms mn ud dn ea x).2.1 (pW mk mb ms mn ud dn ea oo x).2.1 x va ho).1) ((tA mk ms mo mb (pE mk mb ms mn ud dn ea x).2.2 (pW mk mb ms mn ud dn ea oo x).2.2 (pE mk mb ms mn ud dn ea x).2.1 (pW mk mb ms mn ud dn ea oo x).2.1 x va ho).2) q cm co te tm gs gl rs rg rp rt) → va_S A s.heap H locs → lv_has ls 8 [(0, .ref (b 0)), (1, .int (nI x)), (2, .int z), (3, .long (lN 1)), (5, .int (nI s1))] → W p l e ({ frames := 3, cells := 0, slots := 0, locals := 74 } : Room) s m args below meth c H locs 0 0 Q (F0 m 10 ls []) := by
    intro k
    induction k with
    | zero =>
      intro s1 q H locs ls hk hs hf hP hD hS hl
      exfalso
      omega
    | succ k ih_10 =>
      intro s1 q H locs ls hk hs hf hP hD hS hl
      refine lv_iload hx hb d_Mo_exactChance_10 (lv_at hl 4 rfl) ?_
      refine lv_iconst (v := (nI 1)) hx hb d_Mo_exactChance_12 (by decide) ?_
      refine lv_aload_n hx hb d_Mo_exactChance_13 rfl (lv_at hl 0 rfl) ?_
      refine va_get (D := g) (ci := 8) (v := .int (nI ((pE mk mb ms mn ud dn ea x).2.1))) (C := R_Mo) (T := F_Mo) (N := 35) hx hb hT i_Mo hown hK hP 0 rfl rfl 17 (by decide) (hT _ tw_638) (fun _ h9 => h9) rfl d_Mo_exactChance_14 ?_
      refine lv_ishl hx hb d_Mo_exactChance_17 ?_
      refine my_ei (nx_shl1 ((pE mk mb ms mn ud dn ea x).2.1) (by omega)) ?_
      refine my_icmp_ge (tgt := 44) (a := s1) (b := 2 ^ ((pE mk mb ms mn ud dn ea x).2.1)) hx hb d_Mo_exactChance_18 (by decide) (by omega) (by omega) (fun c_18 => ?_) (fun c_18 => ?_)
      · -- 18: taken
        refine lv_iconst (v := (nI 0)) hx hb d_Mo_exactChance_44 (by decide) ?_
        refine lv_istore (lv' := [(5, .int (nI 0)), (0, .ref (b 0)), (1, .int (nI x)), (2, .int z), (3, .long (lN 1))]) hx hb d_Mo_exactChance_45 hl (by decide) rfl (fun ls hl => ?_)
        have lp_47 : ∀ (k : Nat) (kk : Nat) (q : Nat → Nat) (wh : Nat) (H : Heap) (locs : List Loc) (ls : Array Slot), ((pE mk mb ms mn ud dn ea x).2.1 < kk + k) → (kk ≤ (pE mk mb ms mn ud dn ea x).2.1) → ((q, wh) = (exE (pE mk mb ms mn ud dn ea x).2.2 mu md (pE mk mb ms mn ud dn ea x).2.1 wt kk)) → va_P g vwCl (moW b cI cJ cZ f0 mn mv mg mk mo mu md ms mb mc m1 m2 m3 m4 we (pU mb ms mn ud x) ((pE mk mb ms mn ud dn ea x).2.1) ((pE mk mb ms mn ud dn ea x).2.2) ((pW mk mb ms mn ud dn ea oo x).2.1) ((pW mk mb ms mn ud dn ea oo x).2.2) ((pW mk mb ms mn ud dn ea oo x).1) ((tA mk ms mo mb (pE mk mb ms mn ud dn ea x).2.2 (pW mk mb ms mn ud dn ea oo x).2.2 (pE mk mb ms mn ud dn ea x).2.1 (pW mk mb ms mn ud dn ea oo x).2.1 x va ho).1) ((tA mk ms mo mb (pE mk mb ms mn ud dn ea x).2.2 (pW mk mb ms mn ud dn ea oo x).2.2 (pE mk mb ms mn ud dn ea x).2.1 (pW mk mb ms mn ud dn ea oo x).2.1 x va ho).2) q cm co te tm gs gl rs rg rp rt) H → va_D A (moW b cI cJ cZ f0 mn mv mg mk mo mu md ms mb mc m1 m2 m3 m4 we (pU mb ms mn ud x) ((pE mk mb ms mn ud dn ea x).2.1) ((pE mk mb ms mn ud dn ea x).2.2) ((pW mk mb ms mn ud dn ea oo x).2.1) ((pW mk mb ms mn ud dn ea oo x).2.2) ((pW mk mb ms mn ud dn ea oo x).1) ((tA mk ms mo mb (pE mk mb ms mn ud dn ea x).2.2 (pW mk mb ms mn ud dn ea oo x).2.2 (pE mk mb ms mn ud dn ea x).2.1 (pW mk mb ms mn ud dn ea oo x).2.1 x va ho).1) ((tA mk ms mo mb (pE mk mb ms mn ud dn ea x).2.2 (pW mk mb ms mn ud dn ea oo x).2.2 (pE mk mb ms mn ud dn ea x).2.1 (pW mk mb ms mn ud dn ea oo x).2.1 x va ho).2) q cm co te tm gs gl rs rg rp rt) → va_S A s.heap H locs → lv_has ls 8 [(0, .ref (b 0)), (1, .int (nI x)), (2, .int z), (3, .long (lN wh)), (5, .int (nI kk))] → W p l e ({ frames := 3, cells := 0, slots := 0, locals := 74 } : Room) s m args below meth c H locs 0 0 Q (F0 m 47 ls []) := by
          intro k
          induction k with
          | zero =>
            intro kk q wh H locs ls hk hkk hf1 hP hD hS hl
            exfalso
            omega
          | succ k ih_47 =>
            intro kk q wh H locs ls hk hkk hf1 hP hD hS hl
            refine lv_iload hx hb d_Mo_exactChance_47 (lv_at hl 4 rfl) ?_
            refine lv_aload_n hx hb d_Mo_exactChance_49 rfl (lv_at hl 0 rfl) ?_
            refine va_get (D := g) (ci := 8) (v := .int (nI ((pE mk mb ms mn ud dn ea x).2.1))) (C := R_Mo) (T := F_Mo) (N := 35) hx hb hT i_Mo hown hK hP 0 rfl rfl 17 (by decide) (hT _ tw_638) (fun _ h9 => h9) rfl d_Mo_exactChance_50 ?_
            refine my_icmp_ge (tgt := 114) (a := kk) (b := (pE mk mb ms mn ud dn ea x).2.1) hx hb d_Mo_exactChance_53 (by decide) (by omega) (by omega) (fun c_53 => ?_) (fun c_53 => ?_)
            · -- 53: taken
              refine lv_iconst (v := (nI 0)) hx hb d_Mo_exactChance_114 (by decide) ?_
              refine lv_istore (lv' := [(5, .int (nI 0)), (0, .ref (b 0)), (1, .int (nI x)), (2, .int z), (3, .long (lN wh))]) hx hb d_Mo_exactChance_115 hl (by decide) rfl (fun ls hl => ?_)
              have lp_117 : ∀ (k : Nat) (c9 : Nat) (q : Nat → Nat) (wh : Nat) (H : Heap) (locs : List Loc) (ls : Array Slot), (mc < c9 + k) → (c9 ≤ mc) → ((q, wh) = (exC (pE mk mb ms mn ud dn ea x).2.2 mu md m1 m2 m3 m4 (pE mk mb ms mn ud dn ea x).2.1 wt c9)) → va_P g vwCl (moW b cI cJ cZ f0 mn mv mg mk mo mu md ms mb mc m1 m2 m3 m4 we (pU mb ms mn ud x) ((pE mk mb ms mn ud dn ea x).2.1) ((pE mk mb ms mn ud dn ea x).2.2) ((pW mk mb ms mn ud dn ea oo x).2.1) ((pW mk mb ms mn ud dn ea oo x).2.2) ((pW mk mb ms mn ud dn ea oo x).1) ((tA mk ms mo mb (pE mk mb ms mn ud dn ea x).2.2 (pW mk mb ms mn ud dn ea oo x).2.2 (pE mk mb ms mn ud dn ea x).2.1 (pW mk mb ms mn ud dn ea oo x).2.1 x va ho).1) ((tA mk ms mo mb (pE mk mb ms mn ud dn ea x).2.2 (pW mk mb ms mn ud dn ea oo x).2.2 (pE mk mb ms mn ud dn ea x).2.1 (pW mk mb ms mn ud dn ea oo x).2.1 x va ho).2) q cm co te tm gs gl rs rg rp rt) H → va_D A (moW b cI cJ cZ f0 mn mv mg mk mo mu md ms mb mc m1 m2 m3 m4 we (pU mb ms mn ud x) ((pE mk mb ms mn ud dn ea x).2.1) ((pE mk mb ms mn ud dn ea x).2.2) ((pW mk mb ms mn ud dn ea oo x).2.1) ((pW mk mb ms mn ud dn ea oo x).2.2) ((pW mk mb ms mn ud dn ea oo x).1) ((tA mk ms mo mb (pE mk mb ms mn ud dn ea x).2.2 (pW mk mb ms mn ud dn ea oo x).2.2 (pE mk mb ms mn ud dn ea x).2.1 (pW mk mb ms mn ud dn ea oo x).2.1 x va ho).1) ((tA mk ms mo mb (pE mk mb ms mn ud dn ea x).2.2 (pW mk mb ms mn ud dn ea oo x).2.2 (pE mk mb ms mn ud dn ea x).2.1 (pW mk mb ms mn ud dn ea oo x).2.1 x va ho).2) q cm co te tm gs gl rs rg rp rt) → va_S A s.heap H locs → lv_has ls 8 [(0, .ref (b 0)), (1, .int (nI x)), (2, .int z), (3, .long (lN wh)), (5, .int (nI c9))] → W p l e ({ frames := 3, cells := 0, slots := 0, locals := 74 } : Room) s m args below meth c H locs 0 0 Q (F0 m 117 ls []) := by
                intro k
                induction k with
                | zero =>
                  intro c9 q wh H locs ls hk hc hf2 hP hD hS hl
                  exfalso
                  omega
                | succ k ih_117 =>
                  intro c9 q wh H locs ls hk hc hf2 hP hD hS hl
                  refine lv_iload hx hb d_Mo_exactChance_117 (lv_at hl 4 rfl) ?_
                  refine lv_aload_n hx hb d_Mo_exactChance_119 rfl (lv_at hl 0 rfl) ?_
                  refine va_get (D := g) (ci := 8) (v := .int (nI mc)) (C := R_Mo) (T := F_Mo) (N := 35) hx hb hT i_Mo hown hK hP 0 rfl rfl 10 (by decide) (hT _ tw_631) (fun _ h9 => h9) rfl d_Mo_exactChance_120 ?_
                  refine my_icmp_ge (tgt := 195) (a := c9) (b := mc) hx hb d_Mo_exactChance_123 (by decide) (by omega) (by omega) (fun c_123 => ?_) (fun c_123 => ?_)
                  · -- 123: taken
                    have e9 : (q, wh) = (exC (pE mk mb ms mn ud dn ea x).2.2 mu md m1 m2 m3 m4 (pE mk mb ms mn ud dn ea x).2.1 wt mc) := by rw [hf2, show c9 = mc by omega]
                    have e1 : (exC (pE mk mb ms mn ud dn ea x).2.2 mu md m1 m2 m3 m4 (pE mk mb ms mn ud dn ea x).2.1 wt mc).1 = q := by rw [← e9]
                    have e2 : (exC (pE mk mb ms mn ud dn ea x).2.2 mu md m1 m2 m3 m4 (pE mk mb ms mn ud dn ea x).2.1 wt mc).2 = wh := by rw [← e9]
                    rw [← e1] at hP hD
                    rw [← e2] at hl
                    refine lv_lconst (v := (lN 0)) hx hb d_Mo_exactChance_195 (by decide) ?_
                    refine lv_lstore (lv' := [(5, .long (lN 0)), (0, .ref (b 0)), (1, .int (nI x)), (2, .int z), (3, .long (lN ((exC (pE mk mb ms mn ud dn ea x).2.2 mu md m1 m2 m3 m4 (pE mk mb ms mn ud dn ea x).2.1 wt mc).2)))]) hx hb d_Mo_exactChance_196 hl (by decide) rfl (fun ls hl => ?_)
                    refine lv_iconst (v := (nI 0)) hx hb d_Mo_exactChance_198 (by decide) ?_
                    refine lv_istore (lv' := [(7, .int (nI 0)), (5, .long (lN 0)), (0, .ref (b 0)), (1, .int (nI x)), (2, .int z), (3, .long (lN ((exC (pE mk mb ms mn ud dn ea x).2.2 mu md m1 m2 m3 m4 (pE mk mb ms mn ud dn ea x).2.1 wt mc).2)))]) hx hb d_Mo_exactChance_199 hl (by decide) rfl (fun ls hl => ?_)
                    have lp_201 : ∀ (k : Nat) (s1 : Nat) (n : Nat) (H : Heap) (locs : List Loc) (ls : Array Slot), (2 ^ (pE mk mb ms mn ud dn ea x).2.1 < s1 + k) → (s1 ≤ 2 ^ (pE mk mb ms mn ud dn ea x).2.1) → (n = exN (tA mk ms mo mb (pE mk mb ms mn ud dn ea x).2.2 (pW mk mb ms mn ud dn ea oo x).2.2 (pE mk mb ms mn ud dn ea x).2.1 (pW mk mb ms mn ud dn ea oo x).2.1 x va ho).2 (exC (pE mk mb ms mn ud dn ea x).2.2 mu md m1 m2 m3 m4 (pE mk mb ms mn ud dn ea x).2.1 wt mc).1 s1) → va_P g vwCl (moW b cI cJ cZ f0 mn mv mg mk mo mu md ms mb mc m1 m2 m3 m4 we (pU mb ms mn ud x) ((pE mk mb ms mn ud dn ea x).2.1) ((pE mk mb ms mn ud dn ea x).2.2) ((pW mk mb ms mn ud dn ea oo x).2.1) ((pW mk mb ms mn ud dn ea oo x).2.2) ((pW mk mb ms mn ud dn ea oo x).1) ((tA mk ms mo mb (pE mk mb ms mn ud dn ea x).2.2 (pW mk mb ms mn ud dn ea oo x).2.2 (pE mk mb ms mn ud dn ea x).2.1 (pW mk mb ms mn ud dn ea oo x).2.1 x va ho).1) ((tA mk ms mo mb (pE mk mb ms mn ud dn ea x).2.2 (pW mk mb ms mn ud dn ea oo x).2.2 (pE mk mb ms mn ud dn ea x).2.1 (pW mk mb ms mn ud dn ea oo x).2.1 x va ho).2) ((exC (pE mk mb ms mn ud dn ea x).2.2 mu md m1 m2 m3 m4 (pE mk mb ms mn ud dn ea x).2.1 wt mc).1) cm co te tm gs gl rs rg rp rt) H → va_D A (moW b cI cJ cZ f0 mn mv mg mk mo mu md ms mb mc m1 m2 m3 m4 we (pU mb ms mn ud x) ((pE mk mb ms mn ud dn ea x).2.1) ((pE mk mb ms mn ud dn ea x).2.2) ((pW mk mb ms mn ud dn ea oo x).2.1) ((pW mk mb ms mn ud dn ea oo x).2.2) ((pW mk mb ms mn ud dn ea oo x).1) ((tA mk ms mo mb (pE mk mb ms mn ud dn ea x).2.2 (pW mk mb ms mn ud dn ea oo x).2.2 (pE mk mb ms mn ud dn ea x).2.1 (pW mk mb ms mn ud dn ea oo x).2.1 x va ho).1) ((tA mk ms mo mb (pE mk mb ms mn ud dn ea x).2.2 (pW mk mb ms mn ud dn ea oo x).2.2 (pE mk mb ms mn ud dn ea x).2.1 (pW mk mb ms mn ud dn ea oo x).2.1 x va ho).2) ((exC (pE mk mb ms mn ud dn ea x).2.2 mu md m1 m2 m3 m4 (pE mk mb ms mn ud dn ea x).2.1 wt mc).1) cm co te tm gs gl rs rg rp rt) → va_S A s.heap H locs → lv_has ls 8 [(0, .ref (b 0)), (1, .int (nI x)), (2, .int z), (3, .long (lN ((exC (pE mk mb ms mn ud dn ea x).2.2 mu md m1 m2 m3 m4 (pE mk mb ms mn ud dn ea x).2.1 wt mc).2))), (5, .long (lN n)), (7, .int (nI s1))] → W p l e ({ frames := 3, cells := 0, slots := 0, locals := 74 } : Room) s m args below meth c H locs 0 0 Q (F0 m 201 ls []) := by
                      intro k
                      induction k with
                      | zero =>
                        intro s1 n H locs ls hk hs hf3 hP hD hS hl
                        exfalso
                        omega
                      | succ k ih_201 =>
                        intro s1 n H locs ls hk hs hf3 hP hD hS hl
                        refine lv_iload hx hb d_Mo_exactChance_201 (lv_at hl 5 rfl) ?_
                        refine lv_iconst (v := (nI 1)) hx hb d_Mo_exactChance_203 (by decide) ?_
                        refine lv_aload_n hx hb d_Mo_exactChance_204 rfl (lv_at hl 0 rfl) ?_
                        refine va_get (D := g) (ci := 8) (v := .int (nI ((pE mk mb ms mn ud dn ea x).2.1))) (C := R_Mo) (T := F_Mo) (N := 35) hx hb hT i_Mo hown hK hP 0 rfl rfl 17 (by decide) (hT _ tw_638) (fun _ h9 => h9) rfl d_Mo_exactChance_205 ?_
                        refine lv_ishl hx hb d_Mo_exactChance_208 ?_
                        refine my_ei (nx_shl1 ((pE mk mb ms mn ud dn ea x).2.1) (by omega)) ?_
                        refine my_icmp_ge (tgt := 245) (a := s1) (b := 2 ^ ((pE mk mb ms mn ud dn ea x).2.1)) hx hb d_Mo_exactChance_209 (by decide) (by omega) (by omega) (fun c_209 => ?_) (fun c_209 => ?_)
                        · -- 209: taken
                          have e3 : n = (exN (tA mk ms mo mb (pE mk mb ms mn ud dn ea x).2.2 (pW mk mb ms mn ud dn ea oo x).2.2 (pE mk mb ms mn ud dn ea x).2.1 (pW mk mb ms mn ud dn ea oo x).2.1 x va ho).2 (exC (pE mk mb ms mn ud dn ea x).2.2 mu md m1 m2 m3 m4 (pE mk mb ms mn ud dn ea x).2.1 wt mc).1 (2 ^ (pE mk mb ms mn ud dn ea x).2.1)) := by rw [hf3, show s1 = 2 ^ (pE mk mb ms mn ud dn ea x).2.1 by omega]
                          rw [e3] at hl
                          refine lv_lload hx hb d_Mo_exactChance_245 (lv_at hl 4 rfl) ?_
                          refine lv_lload_n hx hb d_Mo_exactChance_247 rfl (lv_at hl 3 rfl) ?_
                          refine lv_iload_n hx hb d_Mo_exactChance_248 rfl (lv_at hl 2 rfl) ?_
                          refine my_S_l (As := [.long (lN (exN (tA mk ms mo mb (pE mk mb ms mn ud dn ea x).2.2 (pW mk mb ms mn ud dn ea oo x).2.2 (pE mk mb ms mn ud dn ea x).2.1 (pW mk mb ms mn ud dn ea oo x).2.1 x va ho).2 (exC (pE mk mb ms mn ud dn ea x).2.2 mu md m1 m2 m3 m4 (pE mk mb ms mn ud dn ea x).2.1 wt mc).1 (2 ^ (pE mk mb ms mn ud dn ea x).2.1))), .long (lN ((exC (pE mk mb ms mn ud dn ea x).2.2 mu md m1 m2 m3 m4 (pE mk mb ms mn ud dn ea x).2.1 wt mc).2)), .int z]) (n := 3) (k_Mo_lowest l g vwCl (tyM cI cJ cZ) (moW b cI cJ cZ f0 mn mv mg mk mo mu md ms mb mc m1 m2 m3 m4 we (pU mb ms mn ud x) ((pE mk mb ms mn ud dn ea x).2.1) ((pE mk mb ms mn ud dn ea x).2.2) ((pW mk mb ms mn ud dn ea oo x).2.1) ((pW mk mb ms mn ud dn ea oo x).2.2) ((pW mk mb ms mn ud dn ea oo x).1) ((tA mk ms mo mb (pE mk mb ms mn ud dn ea x).2.2 (pW mk mb ms mn ud dn ea oo x).2.2 (pE mk mb ms mn ud dn ea x).2.1 (pW mk mb ms mn ud dn ea oo x).2.1 x va ho).1) ((tA mk ms mo mb (pE mk mb ms mn ud dn ea x).2.2 (pW mk mb ms mn ud dn ea oo x).2.2 (pE mk mb ms mn ud dn ea x).2.1 (pW mk mb ms mn ud dn ea oo x).2.1 x va ho).2) ((exC (pE mk mb ms mn ud dn ea x).2.2 mu md m1 m2 m3 m4 (pE mk mb ms mn ud dn ea x).2.1 wt mc).1) cm co te tm gs gl rs rg rp rt) (exN (tA mk ms mo mb (pE mk mb ms mn ud dn ea x).2.2 (pW mk mb ms mn ud dn ea oo x).2.2 (pE mk mb ms mn ud dn ea x).2.1 (pW mk mb ms mn ud dn ea oo x).2.1 x va ho).2 (exC (pE mk mb ms mn ud dn ea x).2.2 mu md m1 m2 m3 m4 (pE mk mb ms mn ud dn ea x).2.1 wt mc).1 (2 ^ (pE mk mb ms mn ud dn ea x).2.1)) ((exC (pE mk mb ms mn ud dn ea x).2.2 mu md m1 m2 m3 m4 (pE mk mb ms mn ud dn ea x).2.1 wt mc).2) z hlim.1 hlim.2.1 hlim.2.2) hx hb hml hown hT hN tw_809 tw_810 tw_9 tw_811 (by decide +kernel) rfl rfl ⟨Nat.le_of_ble_eq_true rfl, Nat.le_of_ble_eq_true rfl⟩ ⟨Nat.zero_le _, Nat.zero_le _⟩ hK hP hD hS hA rfl hl rfl (Nat.le_of_ble_eq_true rfl) d_Mo_exactChance_249 (fun H locs hP hD hS => ?_)
                          refine hret _ _ _ _ _ hP hD hS d_Mo_exactChance_252 ?_
                          rfl
                        · -- 209: not taken
                          refine lv_aload_n hx hb d_Mo_exactChance_212 rfl (lv_at hl 0 rfl) ?_
                          refine va_get (D := g) (ci := 8) (v := .ref (b 16)) (C := R_Mo) (T := F_Mo) (N := 35) hx hb hT i_Mo hown hK hP 0 rfl rfl 23 (by decide) (hT _ tw_644) (fun _ h9 => h9) rfl d_Mo_exactChance_213 ?_
                          refine lv_iload hx hb d_Mo_exactChance_216 (lv_at hl 5 rfl) ?_
                          refine my_zald (v := (b2 (((tA mk ms mo mb (pE mk mb ms mn ud dn ea x).2.2 (pW mk mb ms mn ud dn ea oo x).2.2 (pE mk mb ms mn ud dn ea x).2.1 (pW mk mb ms mn ud dn ea oo x).2.1 x va ho).2) s1))) (i := s1) hx hb hK hP 16 2 rfl rfl (by omega) (by decide) rfl d_Mo_exactChance_218 ?_
                          refine my_if_eq_b (tgt := 235) hx hb d_Mo_exactChance_219 (by decide) (fun c_219 => ?_) (fun c_219 => ?_)
                          · -- 219: taken
                            refine lv_lload hx hb d_Mo_exactChance_235 (lv_at hl 4 rfl) ?_
                            refine lv_lstore (lv' := [(5, .long (lN n)), (0, .ref (b 0)), (1, .int (nI x)), (2, .int z), (3, .long (lN ((exC (pE mk mb ms mn ud dn ea x).2.2 mu md m1 m2 m3 m4 (pE mk mb ms mn ud dn ea x).2.1 wt mc).2))), (7, .int (nI s1))]) hx hb d_Mo_exactChance_237 hl (by decide) rfl (fun ls hl => ?_)
                            refine lv_iinc (v := (nI (s1 + 1))) (lv' := [(7, .int (nI (s1 + 1))), (5, .long (lN n)), (0, .ref (b 0)), (1, .int (nI x)), (2, .int z), (3, .long (lN ((exC (pE mk mb ms mn ud dn ea x).2.2 mu md m1 m2 m3 m4 (pE mk mb ms mn ud dn ea x).2.1 wt mc).2)))]) hx hb d_Mo_exactChance_239 hl (k := 5) rfl (nI_1 s1) (by decide) rfl (fun ls hl => ?_)
                            refine lv_goto (tgt := 201) hx hb d_Mo_exactChance_242 (by decide) ?_
                            refine ih_201 _ _ _ _ _ ?_ ?_ ?_ hP hD hS (lv_sub hl [2, 3, 4, 5, 1, 0] rfl)
                            · omega
                            · omega
                            · rw [hf3]; simp [exN, c_219]
                          · -- 219: not taken
                            refine lv_lload hx hb d_Mo_exactChance_222 (lv_at hl 4 rfl) ?_
                            refine lv_aload_n hx hb d_Mo_exactChance_224 rfl (lv_at hl 0 rfl) ?_
                            refine va_get (D := g) (ci := 8) (v := .ref (b 17)) (C := R_Mo) (T := F_Mo) (N := 35) hx hb hT i_Mo hown hK hP 0 rfl rfl 24 (by decide) (hT _ tw_645) (fun _ h9 => h9) rfl d_Mo_exactChance_225 ?_
                            refine lv_iload hx hb d_Mo_exactChance_228 (lv_at hl 5 rfl) ?_
                            refine my_lald (v := (lN (((exC (pE mk mb ms mn ud dn ea x).2.2 mu md m1 m2 m3 m4 (pE mk mb ms mn ud dn ea x).2.1 wt mc).1) s1))) (i := s1) hx hb hK hP 17 1 rfl rfl (by omega) (by decide) rfl d_Mo_exactChance_230 ?_
                            refine lv_ladd hx hb d_Mo_exactChance_231 ?_
                            refine my_el (lN_add n (((exC (pE mk mb ms mn ud dn ea x).2.2 mu md m1 m2 m3 m4 (pE mk mb ms mn ud dn ea x).2.1 wt mc).1) s1)) ?_
                            refine lv_goto (tgt := 237) hx hb d_Mo_exactChance_232 (by decide) ?_
                            refine lv_lstore (lv' := [(5, .long (lN (n + (((exC (pE mk mb ms mn ud dn ea x).2.2 mu md m1 m2 m3 m4 (pE mk mb ms mn ud dn ea x).2.1 wt mc).1) s1)))), (0, .ref (b 0)), (1, .int (nI x)), (2, .int z), (3, .long (lN ((exC (pE mk mb ms mn ud dn ea x).2.2 mu md m1 m2 m3 m4 (pE mk mb ms mn ud dn ea x).2.1 wt mc).2))), (7, .int (nI s1))]) hx hb d_Mo_exactChance_237 hl (by decide) rfl (fun ls hl => ?_)
                            refine lv_iinc (v := (nI (s1 + 1))) (lv' := [(7, .int (nI (s1 + 1))), (5, .long (lN (n + (((exC (pE mk mb ms mn ud dn ea x).2.2 mu md m1 m2 m3 m4 (pE mk mb ms mn ud dn ea x).2.1 wt mc).1) s1)))), (0, .ref (b 0)), (1, .int (nI x)), (2, .int z), (3, .long (lN ((exC (pE mk mb ms mn ud dn ea x).2.2 mu md m1 m2 m3 m4 (pE mk mb ms mn ud dn ea x).2.1 wt mc).2)))]) hx hb d_Mo_exactChance_239 hl (k := 5) rfl (nI_1 s1) (by decide) rfl (fun ls hl => ?_)
                            refine lv_goto (tgt := 201) hx hb d_Mo_exactChance_242 (by decide) ?_
                            refine ih_201 _ _ _ _ _ ?_ ?_ ?_ hP hD hS (lv_sub hl [2, 3, 4, 5, 1, 0] rfl)
                            · omega
                            · omega
                            · rw [hf3]; simp [exN, c_219]
                    refine lp_201 (2 ^ (pE mk mb ms mn ud dn ea x).2.1 + 1) _ _ _ _ _ ?_ ?_ ?_ hP hD hS (lv_sub hl [2, 3, 4, 5, 1, 0] rfl)
                    · omega
                    · omega
                    · rfl
                  · -- 123: not taken
                    refine lv_aload_n hx hb d_Mo_exactChance_126 rfl (lv_at hl 0 rfl) ?_
                    refine lv_aload_n hx hb d_Mo_exactChance_127 rfl (lv_at hl 0 rfl) ?_
                    refine va_get (D := g) (ci := 8) (v := .ref (b 7)) (C := R_Mo) (T := F_Mo) (N := 35) hx hb hT i_Mo hown hK hP 0 rfl rfl 11 (by decide) (hT _ tw_632) (fun _ h9 => h9) rfl d_Mo_exactChance_128 ?_
                    refine lv_iload hx hb d_Mo_exactChance_131 (lv_at hl 4 rfl) ?_
                    have q3 := hm1 c9; have q4 := hm2 c9; have q5 := hm34 c9; have q6 := hm4 c9
                    refine my_iald (v := (nI (m1 c9))) (i := c9) hx hb hK hP 7 0 rfl rfl (by omega) (by decide) rfl d_Mo_exactChance_133 ?_
                    refine my_V_i (q0 := 0) (ci := 8) (C := R_Mo) (As := [.int (nI (m1 c9))]) (n := 1) (k_Mo_bitsOf l g b cI cJ cZ f0 mn mv mg mk mo mu md ms mb mc m1 m2 m3 m4 we (pU mb ms mn ud x) ((pE mk mb ms mn ud dn ea x).2.1) ((pE mk mb ms mn ud dn ea x).2.2) ((pW mk mb ms mn ud dn ea oo x).2.1) ((pW mk mb ms mn ud dn ea oo x).2.2) ((pW mk mb ms mn ud dn ea oo x).1) ((tA mk ms mo mb (pE mk mb ms mn ud dn ea x).2.2 (pW mk mb ms mn ud dn ea oo x).2.2 (pE mk mb ms mn ud dn ea x).2.1 (pW mk mb ms mn ud dn ea oo x).2.1 x va ho).1) ((tA mk ms mo mb (pE mk mb ms mn ud dn ea x).2.2 (pW mk mb ms mn ud dn ea oo x).2.2 (pE mk mb ms mn ud dn ea x).2.1 (pW mk mb ms mn ud dn ea oo x).2.1 x va ho).2) q cm co te tm gs gl rs rg rp rt (m1 c9) (hm1 c9) qM qE) hx hb hml hown hT hN tw_805 tw_807 tp_25 tw_9 tw_808 (by decide +kernel) rfl rfl ⟨Nat.le_of_ble_eq_true rfl, Nat.le_of_ble_eq_true rfl⟩ ⟨Nat.zero_le _, Nat.zero_le _⟩ hK hP hD hS hA rfl rfl rfl hl rfl (Nat.le_of_ble_eq_true rfl) d_Mo_exactChance_134 (fun H locs hP hD hS => ?_)
                    refine lv_aload_n hx hb d_Mo_exactChance_137 rfl (lv_at hl 0 rfl) ?_
                    refine lv_aload_n hx hb d_Mo_exactChance_138 rfl (lv_at hl 0 rfl) ?_
                    refine va_get (D := g) (ci := 8) (v := .ref (b 8)) (C := R_Mo) (T := F_Mo) (N := 35) hx hb hT i_Mo hown hK hP 0 rfl rfl 12 (by decide) (hT _ tw_633) (fun _ h9 => h9) rfl d_Mo_exactChance_139 ?_
                    refine lv_iload hx hb d_Mo_exactChance_142 (lv_at hl 4 rfl) ?_
                    refine my_iald (v := (nI (m2 c9))) (i := c9) hx hb hK hP 8 0 rfl rfl (by omega) (by decide) rfl d_Mo_exactChance_144 ?_
                    refine my_V_i (q0 := 0) (ci := 8) (C := R_Mo) (As := [.int (nI (m2 c9))]) (n := 1) (k_Mo_bitsOf l g b cI cJ cZ f0 mn mv mg mk mo mu md ms mb mc m1 m2 m3 m4 we (pU mb ms mn ud x) ((pE mk mb ms mn ud dn ea x).2.1) ((pE mk mb ms mn ud dn ea x).2.2) ((pW mk mb ms mn ud dn ea oo x).2.1) ((pW mk mb ms mn ud dn ea oo x).2.2) ((pW mk mb ms mn ud dn ea oo x).1) ((tA mk ms mo mb (pE mk mb ms mn ud dn ea x).2.2 (pW mk mb ms mn ud dn ea oo x).2.2 (pE mk mb ms mn ud dn ea x).2.1 (pW mk mb ms mn ud dn ea oo x).2.1 x va ho).1) ((tA mk ms mo mb (pE mk mb ms mn ud dn ea x).2.2 (pW mk mb ms mn ud dn ea oo x).2.2 (pE mk mb ms mn ud dn ea x).2.1 (pW mk mb ms mn ud dn ea oo x).2.1 x va ho).2) q cm co te tm gs gl rs rg rp rt (m2 c9) (hm2 c9) qM qE) hx hb hml hown hT hN tw_805 tw_807 tp_25 tw_9 tw_808 (by decide +kernel) rfl rfl ⟨Nat.le_of_ble_eq_true rfl, Nat.le_of_ble_eq_true rfl⟩ ⟨Nat.zero_le _, Nat.zero_le _⟩ hK hP hD hS hA rfl rfl rfl hl rfl (Nat.le_of_ble_eq_true rfl) d_Mo_exactChance_145 (fun H locs hP hD hS => ?_)
                    refine lv_ior hx hb d_Mo_exactChance_148 ?_
                    refine my_ei (nx_or (biF ((pE mk mb ms mn ud dn ea x).2.2) ((pE mk mb ms mn ud dn ea x).2.1) (m1 c9) ((pE mk mb ms mn ud dn ea x).2.1)) (biF ((pE mk mb ms mn ud dn ea x).2.2) ((pE mk mb ms mn ud dn ea x).2.1) (m2 c9) ((pE mk mb ms mn ud dn ea x).2.1))) ?_
                    refine lv_istore (lv' := [(6, .int (nI ((biF ((pE mk mb ms mn ud dn ea x).2.2) ((pE mk mb ms mn ud dn ea x).2.1) (m1 c9) ((pE mk mb ms mn ud dn ea x).2.1)) ||| (biF ((pE mk mb ms mn ud dn ea x).2.2) ((pE mk mb ms mn ud dn ea x).2.1) (m2 c9) ((pE mk mb ms mn ud dn ea x).2.1))))), (0, .ref (b 0)), (1, .int (nI x)), (2, .int z), (3, .long (lN wh)), (5, .int (nI c9))]) hx hb d_Mo_exactChance_149 hl (by decide) rfl (fun ls hl => ?_)
                    refine lv_iload hx hb d_Mo_exactChance_151 (lv_at hl 0 rfl) ?_
                    have qs : biF (pE mk mb ms mn ud dn ea x).2.2 (pE mk mb ms mn ud dn ea x).2.1 (m1 c9) (pE mk mb ms mn ud dn ea x).2.1 ||| biF (pE mk mb ms mn ud dn ea x).2.2 (pE mk mb ms mn ud dn ea x).2.1 (m2 c9) (pE mk mb ms mn ud dn ea x).2.1 < 4096 := or_lt (k := 12) (biF_lt qM _ (Nat.le_refl _)) (biF_lt qM _ (Nat.le_refl _))
                    refine my_if_eq (tgt := 189) (a := (biF ((pE mk mb ms mn ud dn ea x).2.2) ((pE mk mb ms mn ud dn ea x).2.1) (m1 c9) ((pE mk mb ms mn ud dn ea x).2.1)) ||| (biF ((pE mk mb ms mn ud dn ea x).2.2) ((pE mk mb ms mn ud dn ea x).2.1) (m2 c9) ((pE mk mb ms mn ud dn ea x).2.1))) hx hb d_Mo_exactChance_153 (by decide) (by omega) (fun c_153 => ?_) (fun c_153 => ?_)
                    · -- 153: taken
                      refine lv_iinc (v := (nI (c9 + 1))) (lv' := [(5, .int (nI (c9 + 1))), (6, .int (nI ((biF ((pE mk mb ms mn ud dn ea x).2.2) ((pE mk mb ms mn ud dn ea x).2.1) (m1 c9) ((pE mk mb ms mn ud dn ea x).2.1)) ||| (biF ((pE mk mb ms mn ud dn ea x).2.2) ((pE mk mb ms mn ud dn ea x).2.1) (m2 c9) ((pE mk mb ms mn ud dn ea x).2.1))))), (0, .ref (b 0)), (1, .int (nI x)), (2, .int z), (3, .long (lN wh))]) hx hb d_Mo_exactChance_189 hl (k := 5) rfl (nI_1 c9) (by decide) rfl (fun ls hl => ?_)
                      refine lv_goto (tgt := 117) hx hb d_Mo_exactChance_192 (by decide) ?_
                      refine ih_117 _ _ _ _ _ _ ?_ ?_ ?_ hP hD hS (lv_sub hl [2, 3, 4, 5, 0] rfl)
                      · omega
                      · omega
                      · rw [exC_f c_153, hf2]
                    · -- 153: not taken
                      refine lv_aload_n hx hb d_Mo_exactChance_156 rfl (lv_at hl 1 rfl) ?_
                      refine lv_iload hx hb d_Mo_exactChance_157 (lv_at hl 0 rfl) ?_
                      refine lv_aload_n hx hb d_Mo_exactChance_159 rfl (lv_at hl 1 rfl) ?_
                      refine va_get (D := g) (ci := 8) (v := .ref (b 9)) (C := R_Mo) (T := F_Mo) (N := 35) hx hb hT i_Mo hown hK hP 0 rfl rfl 13 (by decide) (hT _ tw_634) (fun _ h9 => h9) rfl d_Mo_exactChance_160 ?_
                      refine lv_iload hx hb d_Mo_exactChance_163 (lv_at hl 5 rfl) ?_
                      refine my_iald (v := (nI (m3 c9))) (i := c9) hx hb hK hP 9 0 rfl rfl (by omega) (by decide) rfl d_Mo_exactChance_165 ?_
                      refine lv_i2l (v := lN (m3 c9)) hx hb d_Mo_exactChance_166 (nI_l (by omega)) ?_
                      refine lv_aload_n hx hb d_Mo_exactChance_167 rfl (lv_at hl 1 rfl) ?_
                      refine va_get (D := g) (ci := 8) (v := .ref (b 10)) (C := R_Mo) (T := F_Mo) (N := 35) hx hb hT i_Mo hown hK hP 0 rfl rfl 14 (by decide) (hT _ tw_635) (fun _ h9 => h9) rfl d_Mo_exactChance_168 ?_
                      refine lv_iload hx hb d_Mo_exactChance_171 (lv_at hl 5 rfl) ?_
                      refine my_iald (v := (nI (m4 c9))) (i := c9) hx hb hK hP 10 0 rfl rfl (by omega) (by decide) rfl d_Mo_exactChance_173 ?_
                      refine lv_i2l (v := lN (m4 c9)) hx hb d_Mo_exactChance_174 (nI_l (by omega)) ?_
                      refine my_V_v (q0 := 0) (ci := 8) (C := R_Mo) (As := [.int (nI ((biF ((pE mk mb ms mn ud dn ea x).2.2) ((pE mk mb ms mn ud dn ea x).2.1) (m1 c9) ((pE mk mb ms mn ud dn ea x).2.1)) ||| (biF ((pE mk mb ms mn ud dn ea x).2.2) ((pE mk mb ms mn ud dn ea x).2.1) (m2 c9) ((pE mk mb ms mn ud dn ea x).2.1)))), .long (lN (m3 c9)), .long (lN (m4 c9))]) (n := 3) (k_Mo_spread l g b cI cJ cZ f0 mn mv mg mk mo mu md ms mb mc m1 m2 m3 m4 we (pU mb ms mn ud x) ((pE mk mb ms mn ud dn ea x).2.1) ((pE mk mb ms mn ud dn ea x).2.2) ((pW mk mb ms mn ud dn ea oo x).2.1) ((pW mk mb ms mn ud dn ea oo x).2.2) ((pW mk mb ms mn ud dn ea oo x).1) ((tA mk ms mo mb (pE mk mb ms mn ud dn ea x).2.2 (pW mk mb ms mn ud dn ea oo x).2.2 (pE mk mb ms mn ud dn ea x).2.1 (pW mk mb ms mn ud dn ea oo x).2.1 x va ho).1) ((tA mk ms mo mb (pE mk mb ms mn ud dn ea x).2.2 (pW mk mb ms mn ud dn ea oo x).2.2 (pE mk mb ms mn ud dn ea x).2.1 (pW mk mb ms mn ud dn ea oo x).2.1 x va ho).2) q cm co te tm gs gl rs rg rp rt ((biF ((pE mk mb ms mn ud dn ea x).2.2) ((pE mk mb ms mn ud dn ea x).2.1) (m1 c9) ((pE mk mb ms mn ud dn ea x).2.1)) ||| (biF ((pE mk mb ms mn ud dn ea x).2.2) ((pE mk mb ms mn ud dn ea x).2.1) (m2 c9) ((pE mk mb ms mn ud dn ea x).2.1))) (m3 c9) (m4 c9) qM qs (hm34 c9)) hx hb hml hown hT hN tw_801 tw_803 tp_24 tw_9 tw_804 (by decide +kernel) rfl rfl ⟨Nat.le_of_ble_eq_true rfl, Nat.le_of_ble_eq_true rfl⟩ ⟨Nat.zero_le _, Nat.zero_le _⟩ hK hP hD hS hA rfl rfl rfl hl rfl (Nat.le_of_ble_eq_true rfl) d_Mo_exactChance_175 (fun H locs hP hD hS => ?_)
                      refine lv_lload_n hx hb d_Mo_exactChance_178 rfl (lv_at hl 4 rfl) ?_
                      refine lv_aload_n hx hb d_Mo_exactChance_179 rfl (lv_at hl 1 rfl) ?_
                      refine va_get (D := g) (ci := 8) (v := .ref (b 10)) (C := R_Mo) (T := F_Mo) (N := 35) hx hb hT i_Mo hown hK hP 0 rfl rfl 14 (by decide) (hT _ tw_635) (fun _ h9 => h9) rfl d_Mo_exactChance_180 ?_
                      refine lv_iload hx hb d_Mo_exactChance_183 (lv_at hl 5 rfl) ?_
                      refine my_iald (v := (nI (m4 c9))) (i := c9) hx hb hK hP 10 0 rfl rfl (by omega) (by decide) rfl d_Mo_exactChance_185 ?_
                      refine lv_i2l (v := lN (m4 c9)) hx hb d_Mo_exactChance_186 (nI_l (by omega)) ?_
                      refine lv_lmul hx hb d_Mo_exactChance_187 ?_
                      refine my_el (lN_mul wh (m4 c9)) ?_
                      refine lv_lstore_n (lv' := [(3, .long (lN (wh * (m4 c9)))), (6, .int (nI ((biF ((pE mk mb ms mn ud dn ea x).2.2) ((pE mk mb ms mn ud dn ea x).2.1) (m1 c9) ((pE mk mb ms mn ud dn ea x).2.1)) ||| (biF ((pE mk mb ms mn ud dn ea x).2.2) ((pE mk mb ms mn ud dn ea x).2.1) (m2 c9) ((pE mk mb ms mn ud dn ea x).2.1))))), (0, .ref (b 0)), (1, .int (nI x)), (2, .int z), (5, .int (nI c9))]) hx hb d_Mo_exactChance_188 rfl hl (by decide) rfl (fun ls hl => ?_)
                      refine lv_iinc (v := (nI (c9 + 1))) (lv' := [(5, .int (nI (c9 + 1))), (3, .long (lN (wh * (m4 c9)))), (6, .int (nI ((biF ((pE mk mb ms mn ud dn ea x).2.2) ((pE mk mb ms mn ud dn ea x).2.1) (m1 c9) ((pE mk mb ms mn ud dn ea x).2.1)) ||| (biF ((pE mk mb ms mn ud dn ea x).2.2) ((pE mk mb ms mn ud dn ea x).2.1) (m2 c9) ((pE mk mb ms mn ud dn ea x).2.1))))), (0, .ref (b 0)), (1, .int (nI x)), (2, .int z)]) hx hb d_Mo_exactChance_189 hl (k := 5) rfl (nI_1 c9) (by decide) rfl (fun ls hl => ?_)
                      refine lv_goto (tgt := 117) hx hb d_Mo_exactChance_192 (by decide) ?_
                      refine ih_117 _ _ _ _ _ _ ?_ ?_ ?_ hP hD hS (lv_sub hl [3, 4, 5, 1, 0] rfl)
                      · omega
                      · omega
                      · rw [exC_t (by omega)]; simp only [← hf2]
              refine lp_117 (mc + 1) _ _ _ _ _ _ ?_ ?_ ?_ hP hD hS (lv_sub hl [1, 2, 3, 4, 0] rfl)
              · omega
              · omega
              · rw [hf1, show kk = (pE mk mb ms mn ud dn ea x).2.1 by omega]; rfl
            · -- 53: not taken
              refine lv_aload_n hx hb d_Mo_exactChance_56 rfl (lv_at hl 0 rfl) ?_
              refine lv_aload_n hx hb d_Mo_exactChance_57 rfl (lv_at hl 0 rfl) ?_
              refine lv_iload hx hb d_Mo_exactChance_58 (lv_at hl 4 rfl) ?_
              have qb : 2 ^ ((pE mk mb ms mn ud dn ea x).2.1 - 1 - kk) < 4096 := (show 2 ^ ((pE mk mb ms mn ud dn ea x).2.1 - 1 - kk) < 2 ^ 12 from Nat.pow_lt_pow_right (by decide) (by omega))
              refine my_V_i (q0 := 0) (ci := 8) (C := R_Mo) (As := [.int (nI kk)]) (n := 1) (k_Mo_bit l g b cI cJ cZ f0 mn mv mg mk mo mu md ms mb mc m1 m2 m3 m4 we (pU mb ms mn ud x) ((pE mk mb ms mn ud dn ea x).2.1) ((pE mk mb ms mn ud dn ea x).2.2) ((pW mk mb ms mn ud dn ea oo x).2.1) ((pW mk mb ms mn ud dn ea oo x).2.2) ((pW mk mb ms mn ud dn ea oo x).1) ((tA mk ms mo mb (pE mk mb ms mn ud dn ea x).2.2 (pW mk mb ms mn ud dn ea oo x).2.2 (pE mk mb ms mn ud dn ea x).2.1 (pW mk mb ms mn ud dn ea oo x).2.1 x va ho).1) ((tA mk ms mo mb (pE mk mb ms mn ud dn ea x).2.2 (pW mk mb ms mn ud dn ea oo x).2.2 (pE mk mb ms mn ud dn ea x).2.1 (pW mk mb ms mn ud dn ea oo x).2.1 x va ho).2) q cm co te tm gs gl rs rg rp rt kk (by omega) qM) hx hb hml hown hT hN tw_773 tw_775 tp_21 tw_9 tw_776 (by decide +kernel) rfl rfl ⟨Nat.le_of_ble_eq_true rfl, Nat.le_of_ble_eq_true rfl⟩ ⟨Nat.zero_le _, Nat.zero_le _⟩ hK hP hD hS hA rfl rfl rfl hl rfl (Nat.le_of_ble_eq_true rfl) d_Mo_exactChance_60 (fun H locs hP hD hS => ?_)
              refine lv_aload_n hx hb d_Mo_exactChance_63 rfl (lv_at hl 0 rfl) ?_
              refine va_get (D := g) (ci := 8) (v := .ref (b 3)) (C := R_Mo) (T := F_Mo) (N := 35) hx hb hT i_Mo hown hK hP 0 rfl rfl 6 (by decide) (hT _ tw_627) (fun _ h9 => h9) rfl d_Mo_exactChance_64 ?_
              refine lv_aload_n hx hb d_Mo_exactChance_67 rfl (lv_at hl 0 rfl) ?_
              refine va_get (D := g) (ci := 8) (v := .ref (b 12)) (C := R_Mo) (T := F_Mo) (N := 35) hx hb hT i_Mo hown hK hP 0 rfl rfl 18 (by decide) (hT _ tw_639) (fun _ h9 => h9) rfl d_Mo_exactChance_68 ?_
              refine lv_iload hx hb d_Mo_exactChance_71 (lv_at hl 4 rfl) ?_
              refine my_iald (v := (nI (((pE mk mb ms mn ud dn ea x).2.2) kk))) (i := kk) hx hb hK hP 12 0 rfl rfl (by omega) (by decide) rfl d_Mo_exactChance_73 ?_
              have qa := qA kk c_53
              have q1 := hmud ((pE mk mb ms mn ud dn ea x).2.2 kk)
              have q2 := hmd ((pE mk mb ms mn ud dn ea x).2.2 kk)
              refine my_iald (v := (nI (mu (((pE mk mb ms mn ud dn ea x).2.2) kk)))) (i := ((pE mk mb ms mn ud dn ea x).2.2) kk) hx hb hK hP 3 0 rfl rfl (by omega) (by decide) rfl d_Mo_exactChance_74 ?_
              refine lv_i2l (v := lN (mu (((pE mk mb ms mn ud dn ea x).2.2) kk))) hx hb d_Mo_exactChance_75 (nI_l (by omega)) ?_
              refine lv_aload_n hx hb d_Mo_exactChance_76 rfl (lv_at hl 0 rfl) ?_
              refine va_get (D := g) (ci := 8) (v := .ref (b 4)) (C := R_Mo) (T := F_Mo) (N := 35) hx hb hT i_Mo hown hK hP 0 rfl rfl 7 (by decide) (hT _ tw_628) (fun _ h9 => h9) rfl d_Mo_exactChance_77 ?_
              refine lv_aload_n hx hb d_Mo_exactChance_80 rfl (lv_at hl 0 rfl) ?_
              refine va_get (D := g) (ci := 8) (v := .ref (b 12)) (C := R_Mo) (T := F_Mo) (N := 35) hx hb hT i_Mo hown hK hP 0 rfl rfl 18 (by decide) (hT _ tw_639) (fun _ h9 => h9) rfl d_Mo_exactChance_81 ?_
              refine lv_iload hx hb d_Mo_exactChance_84 (lv_at hl 4 rfl) ?_
              refine my_iald (v := (nI (((pE mk mb ms mn ud dn ea x).2.2) kk))) (i := kk) hx hb hK hP 12 0 rfl rfl (by omega) (by decide) rfl d_Mo_exactChance_86 ?_
              refine my_iald (v := (nI (md (((pE mk mb ms mn ud dn ea x).2.2) kk)))) (i := ((pE mk mb ms mn ud dn ea x).2.2) kk) hx hb hK hP 4 0 rfl rfl (by omega) (by decide) rfl d_Mo_exactChance_87 ?_
              refine lv_i2l (v := lN (md (((pE mk mb ms mn ud dn ea x).2.2) kk))) hx hb d_Mo_exactChance_88 (nI_l (by omega)) ?_
              refine my_V_v (q0 := 0) (ci := 8) (C := R_Mo) (As := [.int (nI (2 ^ (((pE mk mb ms mn ud dn ea x).2.1) - 1 - kk))), .long (lN (mu (((pE mk mb ms mn ud dn ea x).2.2) kk))), .long (lN (md (((pE mk mb ms mn ud dn ea x).2.2) kk)))]) (n := 3) (k_Mo_spread l g b cI cJ cZ f0 mn mv mg mk mo mu md ms mb mc m1 m2 m3 m4 we (pU mb ms mn ud x) ((pE mk mb ms mn ud dn ea x).2.1) ((pE mk mb ms mn ud dn ea x).2.2) ((pW mk mb ms mn ud dn ea oo x).2.1) ((pW mk mb ms mn ud dn ea oo x).2.2) ((pW mk mb ms mn ud dn ea oo x).1) ((tA mk ms mo mb (pE mk mb ms mn ud dn ea x).2.2 (pW mk mb ms mn ud dn ea oo x).2.2 (pE mk mb ms mn ud dn ea x).2.1 (pW mk mb ms mn ud dn ea oo x).2.1 x va ho).1) ((tA mk ms mo mb (pE mk mb ms mn ud dn ea x).2.2 (pW mk mb ms mn ud dn ea oo x).2.2 (pE mk mb ms mn ud dn ea x).2.1 (pW mk mb ms mn ud dn ea oo x).2.1 x va ho).2) q cm co te tm gs gl rs rg rp rt (2 ^ (((pE mk mb ms mn ud dn ea x).2.1) - 1 - kk)) (mu (((pE mk mb ms mn ud dn ea x).2.2) kk)) (md (((pE mk mb ms mn ud dn ea x).2.2) kk)) qM qb (hmud _)) hx hb hml hown hT hN tw_801 tw_803 tp_24 tw_9 tw_804 (by decide +kernel) rfl rfl ⟨Nat.le_of_ble_eq_true rfl, Nat.le_of_ble_eq_true rfl⟩ ⟨Nat.zero_le _, Nat.zero_le _⟩ hK hP hD hS hA rfl rfl rfl hl rfl (Nat.le_of_ble_eq_true rfl) d_Mo_exactChance_89 (fun H locs hP hD hS => ?_)
              refine lv_lload_n hx hb d_Mo_exactChance_92 rfl (lv_at hl 3 rfl) ?_
              refine lv_aload_n hx hb d_Mo_exactChance_93 rfl (lv_at hl 0 rfl) ?_
              refine va_get (D := g) (ci := 8) (v := .ref (b 4)) (C := R_Mo) (T := F_Mo) (N := 35) hx hb hT i_Mo hown hK hP 0 rfl rfl 7 (by decide) (hT _ tw_628) (fun _ h9 => h9) rfl d_Mo_exactChance_94 ?_
              refine lv_aload_n hx hb d_Mo_exactChance_97 rfl (lv_at hl 0 rfl) ?_
              refine va_get (D := g) (ci := 8) (v := .ref (b 12)) (C := R_Mo) (T := F_Mo) (N := 35) hx hb hT i_Mo hown hK hP 0 rfl rfl 18 (by decide) (hT _ tw_639) (fun _ h9 => h9) rfl d_Mo_exactChance_98 ?_
              refine lv_iload hx hb d_Mo_exactChance_101 (lv_at hl 4 rfl) ?_
              refine my_iald (v := (nI (((pE mk mb ms mn ud dn ea x).2.2) kk))) (i := kk) hx hb hK hP 12 0 rfl rfl (by omega) (by decide) rfl d_Mo_exactChance_103 ?_
              refine my_iald (v := (nI (md (((pE mk mb ms mn ud dn ea x).2.2) kk)))) (i := ((pE mk mb ms mn ud dn ea x).2.2) kk) hx hb hK hP 4 0 rfl rfl (by omega) (by decide) rfl d_Mo_exactChance_104 ?_
              refine lv_i2l (v := lN (md (((pE mk mb ms mn ud dn ea x).2.2) kk))) hx hb d_Mo_exactChance_105 (nI_l (by omega)) ?_
              refine lv_lmul hx hb d_Mo_exactChance_106 ?_
              refine my_el (lN_mul wh (md (((pE mk mb ms mn ud dn ea x).2.2) kk))) ?_
              refine lv_lstore_n (lv' := [(3, .long (lN (wh * (md (((pE mk mb ms mn ud dn ea x).2.2) kk))))), (0, .ref (b 0)), (1, .int (nI x)), (2, .int z), (5, .int (nI kk))]) hx hb d_Mo_exactChance_107 rfl hl (by decide) rfl (fun ls hl => ?_)
              refine lv_iinc (v := (nI (kk + 1))) (lv' := [(5, .int (nI (kk + 1))), (3, .long (lN (wh * (md (((pE mk mb ms mn ud dn ea x).2.2) kk))))), (0, .ref (b 0)), (1, .int (nI x)), (2, .int z)]) hx hb d_Mo_exactChance_108 hl (k := 4) rfl (nI_1 kk) (by decide) rfl (fun ls hl => ?_)
              refine lv_goto (tgt := 47) hx hb d_Mo_exactChance_111 (by decide) ?_
              refine ih_47 _ _ _ _ _ _ ?_ ?_ ?_ hP hD hS (lv_sub hl [2, 3, 4, 1, 0] rfl)
              · omega
              · omega
              · simp only [exE, ← hf1]
        refine lp_47 ((pE mk mb ms mn ud dn ea x).2.1 + 1) _ _ _ _ _ _ ?_ ?_ ?_ hP hD hS (lv_sub hl [1, 2, 3, 4, 0] rfl)
        · omega
        · omega
        · rw [hf, show s1 = 2 ^ (pE mk mb ms mn ud dn ea x).2.1 by omega]; rfl
      · -- 18: not taken
        refine lv_aload_n hx hb d_Mo_exactChance_21 rfl (lv_at hl 0 rfl) ?_
        refine va_get (D := g) (ci := 8) (v := .ref (b 17)) (C := R_Mo) (T := F_Mo) (N := 35) hx hb hT i_Mo hown hK hP 0 rfl rfl 24 (by decide) (hT _ tw_645) (fun _ h9 => h9) rfl d_Mo_exactChance_22 ?_
        refine lv_iload hx hb d_Mo_exactChance_25 (lv_at hl 4 rfl) ?_
        refine lv_iload hx hb d_Mo_exactChance_27 (lv_at hl 4 rfl) ?_
        refine my_if_ne (tgt := 36) (a := s1) hx hb d_Mo_exactChance_29 (by decide) (by omega) (fun c_29 => ?_) (fun c_29 => ?_)
        · -- 29: taken
          refine lv_lconst (v := (lN 0)) hx hb d_Mo_exactChance_36 (by decide) ?_
          refine my_last (i := s1) hx hb hK hP hD hS 17 1 rfl rfl (by omega) (by decide) (my_upL _ _ _) (w' := (moW b cI cJ cZ f0 mn mv mg mk mo mu md ms mb mc m1 m2 m3 m4 we (pU mb ms mn ud x) ((pE mk mb ms mn ud dn ea x).2.1) ((pE mk mb ms mn ud dn ea x).2.2) ((pW mk mb ms mn ud dn ea oo x).2.1) ((pW mk mb ms mn ud dn ea oo x).2.2) ((pW mk mb ms mn ud dn ea oo x).1) ((tA mk ms mo mb (pE mk mb ms mn ud dn ea x).2.2 (pW mk mb ms mn ud dn ea oo x).2.2 (pE mk mb ms mn ud dn ea x).2.1 (pW mk mb ms mn ud dn ea oo x).2.1 x va ho).1) ((tA mk ms mo mb (pE mk mb ms mn ud dn ea x).2.2 (pW mk mb ms mn ud dn ea oo x).2.2 (pE mk mb ms mn ud dn ea x).2.1 (pW mk mb ms mn ud dn ea oo x).2.1 x va ho).2) (va_up q s1 0) cm co te tm gs gl rs rg rp rt)) rfl d_Mo_exactChance_37 (fun H locs hP hD hS => ?_)
          refine lv_iinc (v := (nI (s1 + 1))) (lv' := [(5, .int (nI (s1 + 1))), (0, .ref (b 0)), (1, .int (nI x)), (2, .int z), (3, .long (lN 1))]) hx hb d_Mo_exactChance_38 hl (k := 4) rfl (nI_1 s1) (by decide) rfl (fun ls hl => ?_)
          refine lv_goto (tgt := 10) hx hb d_Mo_exactChance_41 (by decide) ?_
          refine ih_10 _ _ _ _ _ ?_ ?_ ?_ hP hD hS (lv_sub hl [1, 2, 3, 4, 0] rfl)
          · omega
          · omega
          · rw [hf]
            show _ = va_up _ _ (if s1 = 0 then 1 else 0)
            first | rw [if_pos c_29] | rw [if_neg (show ¬ s1 = 0 by omega)]
        · -- 29: not taken
          refine lv_lconst (v := (lN 1)) hx hb d_Mo_exactChance_32 (by decide) ?_
          refine lv_goto (tgt := 37) hx hb d_Mo_exactChance_33 (by decide) ?_
          refine my_last (i := s1) hx hb hK hP hD hS 17 1 rfl rfl (by omega) (by decide) (my_upL _ _ _) (w' := (moW b cI cJ cZ f0 mn mv mg mk mo mu md ms mb mc m1 m2 m3 m4 we (pU mb ms mn ud x) ((pE mk mb ms mn ud dn ea x).2.1) ((pE mk mb ms mn ud dn ea x).2.2) ((pW mk mb ms mn ud dn ea oo x).2.1) ((pW mk mb ms mn ud dn ea oo x).2.2) ((pW mk mb ms mn ud dn ea oo x).1) ((tA mk ms mo mb (pE mk mb ms mn ud dn ea x).2.2 (pW mk mb ms mn ud dn ea oo x).2.2 (pE mk mb ms mn ud dn ea x).2.1 (pW mk mb ms mn ud dn ea oo x).2.1 x va ho).1) ((tA mk ms mo mb (pE mk mb ms mn ud dn ea x).2.2 (pW mk mb ms mn ud dn ea oo x).2.2 (pE mk mb ms mn ud dn ea x).2.1 (pW mk mb ms mn ud dn ea oo x).2.1 x va ho).2) (va_up q s1 1) cm co te tm gs gl rs rg rp rt)) rfl d_Mo_exactChance_37 (fun H locs hP hD hS => ?_)
          refine lv_iinc (v := (nI (s1 + 1))) (lv' := [(5, .int (nI (s1 + 1))), (0, .ref (b 0)), (1, .int (nI x)), (2, .int z), (3, .long (lN 1))]) hx hb d_Mo_exactChance_38 hl (k := 4) rfl (nI_1 s1) (by decide) rfl (fun ls hl => ?_)
          refine lv_goto (tgt := 10) hx hb d_Mo_exactChance_41 (by decide) ?_
          refine ih_10 _ _ _ _ _ ?_ ?_ ?_ hP hD hS (lv_sub hl [1, 2, 3, 4, 0] rfl)
          · omega
          · omega
          · rw [hf]
            show _ = va_up _ _ (if s1 = 0 then 1 else 0)
            first | rw [if_pos c_29] | rw [if_neg (show ¬ s1 = 0 by omega)]
  refine lp_10 (2 ^ (pE mk mb ms mn ud dn ea x).2.1 + 1) _ _ _ _ _ ?_ ?_ ?_ hP hD hS (lv_sub hl [2, 3, 4, 1, 0] rfl)
  · omega
  · omega
  · rfl
