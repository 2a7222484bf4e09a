def isI (v lo hi : Int64) : Bool := decide (¬ v < lo) && decide (¬ hi < v)
theorem toI64 (x : Int32) : x.toInt64.toInt = x.toInt := Int32.toInt_toInt64 x
theorem isI_W {x : Int32} {a b : Nat} (ha : a < 2 ^ 31) (hb : b < 2 ^ 31) : isI x.toInt64 (lN a) (lN b) = isW x (nI a) (nI b) := by
  have h1 : x.toInt64 < lN a ↔ x < nI a := by rw [Int64.lt_iff_toInt_lt, Int32.lt_iff_toInt_lt, toI64, lN_toInt ha, nI_toInt ha]
  have h2 : lN b < x.toInt64 ↔ nI b < x := by rw [Int64.lt_iff_toInt_lt, Int32.lt_iff_toInt_lt, toI64, lN_toInt hb, nI_toInt hb]
  simp only [isI, isW, h1, h2]
theorem isI_nat {x : Int32} {a b : Nat} (ha : a < 2 ^ 31) (hb : b < 2 ^ 31) (h : isI x.toInt64 (lN a) (lN b) = true) : ∃ k : Nat, a ≤ k ∧ k ≤ b ∧ x = nI k := isW_nat ha hb (by rw [← isI_W ha hb]; exact h)
def miG (mn : Nat) (mk : Nat → Nat) (x : Int32) : Bool := isI x.toInt64 (lN 1) (lN mn) && decide (0 < mk x.toNatClampNeg)
def miE (mn : Nat) (mk : Nat → Nat) (x : Int32) : Bool := isI x.toInt64 (lN 1) (lN mn) && decide (mk x.toNatClampNeg = 0)
def onF (v : Nat) : Nat → Nat
  | 0 => 0
  | i + 1 => onF v i + (v / 2 ^ i &&& 1)
theorem onF_le (v : Nat) : ∀ i, onF v i ≤ i
  | 0 => Nat.le_refl _
  | i + 1 => by
    have := onF_le v i
    have h : v / 2 ^ i &&& 1 ≤ 1 := Nat.and_le_right
    show onF v i + (v / 2 ^ i &&& 1) ≤ i + 1
    omega
/-- the reference's gcd, by steps enough -/
def gcF : Nat → Nat → Nat → Nat
  | 0, x, _ => x
  | f + 1, x, y => if y = 0 then x else gcF f y (x % y)
set_option maxHeartbeats 4000000 in
set_option maxRecDepth 100000 in
theorem k_Mo_thrown (l : Launch) (g : va_G) (b : Nat → Nat) (cI cJ cZ : ClassId) (f0 : Nat) (mn : Nat) (mv : Nat) (mg : Nat) (mk : Nat → Nat) (mo : Nat → Nat) (mu : Nat → Nat) (md : Nat → Nat) (ms : Nat → Nat) (mb : Nat → Nat) (mc : Nat) (m1 : Nat → Nat) (m2 : Nat → Nat) (m3 : Nat → Nat) (m4 : Nat → Nat) (we : Bool) (ud : Nat → Bool) (my : Nat) (ea : Nat → Nat) (od : Nat) (oo : Nat → Nat) (dn : Nat → Bool) (va : Nat → Nat) (ho : Nat → Bool) (wt : Nat → Nat) (cm : Nat) (co : Nat → Nat) (te : Nat → Nat) (tm : Nat) (gs : Nat) (gl : Nat → Nat) (rs : Nat) (rg : Nat → Nat) (rp : Nat → Nat) (rt : Nat → Nat)   : ct_i l g vwCl (tyM cI cJ cZ) y_Mo_thrown c_Mo_thrown 1 (some .int) ({ frames := 0, cells := 0, slots := 0, locals := 0 } : Room) [.ref (b 0)] (moW b cI cJ cZ f0 mn mv mg mk mo mu md ms mb mc m1 m2 m3 m4 we ud my ea od oo dn va ho wt cm co te tm gs gl rs rg rp rt) (moW b cI cJ cZ f0 mn mv mg mk mo mu md ms mb mc m1 m2 m3 m4 we ud my ea od oo dn va ho wt cm co te tm gs gl rs rg rp rt) (nI f0) := by
  refine ct_i.intro (by decide) (Nat.le_of_ble_eq_true rfl) ?_
  intro p e s m args below meth c Q A ls hx hb hml hT hown hA hK hN hret hP hD hS hl
  have hown : s.vm.findClass R_Mo = some m.cls := hown
  have hl : lv_has ls 1 [(0, .ref (b 0))] := hl
  refine lv_aload_n hx hb d_Mo_thrown_0 rfl (lv_at hl 0 rfl) ?_
  refine va_get (D := g) (ci := 8) (v := .int (nI f0)) (C := R_Mo) (T := F_Mo) (N := 35) hx hb hT i_Mo hown hK hP 0 rfl rfl 0 (by decide) (hT _ tw_621) (fun _ h9 => h9) rfl d_Mo_thrown_1 ?_
  refine hret _ _ _ _ _ hP hD hS d_Mo_thrown_4 ?_
  rfl
set_option maxHeartbeats 4000000 in
set_option maxRecDepth 100000 in
theorem k_Mo_isIn (l : Launch) (g : va_G) (cl : List vw_C) (tys : List (ClassId × FieldType)) (ww : va_W) (v : Int64) (lo : Int64) (hi : Int64)  : ct_i l g cl tys y_Mo_isIn c_Mo_isIn 6 (some .boolean) ({ frames := 0, cells := 0, slots := 0, locals := 0 } : Room) [.long v, .long lo, .long hi] ww ww (b2 (isI v lo hi)) := by
  refine ct_i.introZ (by decide) (Nat.le_of_ble_eq_true rfl) ?_
  intro p e s m args below meth c Q A ls hx hb hml hT hown hA hK hN hret hP hD hS hl
  have hown : s.vm.findClass R_Mo = some m.cls := hown
  have hl : lv_has ls 6 [(0, .long v), (2, .long lo), (4, .long hi)] := hl
  refine lv_lload_n hx hb d_Mo_isIn_0 rfl (lv_at hl 0 rfl) ?_
  refine lv_lload_n hx hb d_Mo_isIn_1 rfl (lv_at hl 1 rfl) ?_
  refine my_lcmpR_lt (tgt := 17) hx hb d_Mo_isIn_2 d_Mo_isIn_3 (by decide) (fun c_2 => ?_) (fun c_2 => ?_)
  · -- 2: taken
    refine lv_iconst (v := (nI 0)) hx hb d_Mo_isIn_17 (by decide) ?_
    refine hret _ _ _ _ _ hP hD hS d_Mo_isIn_18 ?_
    exact b2F (by first | (simp [isI, c_2]; done) | (simp [isI, c_2]; omega))
  · -- 2: not taken
    refine lv_lload_n hx hb d_Mo_isIn_6 rfl (lv_at hl 0 rfl) ?_
    refine lv_lload hx hb d_Mo_isIn_7 (lv_at hl 2 rfl) ?_
    refine my_lcmpR_gt (tgt := 17) hx hb d_Mo_isIn_9 d_Mo_isIn_10 (by decide) (fun c_9 => ?_) (fun c_9 => ?_)
    · -- 9: taken
      refine lv_iconst (v := (nI 0)) hx hb d_Mo_isIn_17 (by decide) ?_
      refine hret _ _ _ _ _ hP hD hS d_Mo_isIn_18 ?_
      exact b2F (by first | (simp [isI, c_2, c_9]; done) | (simp [isI, c_2, c_9]; omega))
    · -- 9: not taken
      refine lv_iconst (v := (nI 1)) hx hb d_Mo_isIn_13 (by decide) ?_
      refine lv_goto (tgt := 18) hx hb d_Mo_isIn_14 (by decide) ?_
      refine hret _ _ _ _ _ hP hD hS d_Mo_isIn_18 ?_
      exact b2T (by first | (simp [isI, c_2, c_9]; done) | (simp [isI, c_2, c_9]; omega))
set_option maxHeartbeats 4000000 in
set_option maxRecDepth 100000 in
theorem k_Mo_isGate (l : Launch) (g : va_G) (b : Nat → Nat) (cI cJ cZ : ClassId) (f0 : Nat) (mn : Nat) (mv : Nat) (mg : Nat) (mk : Nat → Nat) (mo : Nat → Nat) (mu : Nat → Nat) (md : Nat → Nat) (ms : Nat → Nat) (mb : Nat → Nat) (mc : Nat) (m1 : Nat → Nat) (m2 : Nat → Nat) (m3 : Nat → Nat) (m4 : Nat → Nat) (we : Bool) (ud : Nat → Bool) (my : Nat) (ea : Nat → Nat) (od : Nat) (oo : Nat → Nat) (dn : Nat → Bool) (va : Nat → Nat) (ho : Nat → Bool) (wt : Nat → Nat) (cm : Nat) (co : Nat → Nat) (te : Nat → Nat) (tm : Nat) (gs : Nat) (gl : Nat → Nat) (rs : Nat) (rg : Nat → Nat) (rp : Nat → Nat) (rt : Nat → Nat) (x : Int32) (hmn : mn ≤ 32) (hmk : ∀ j, mk j ≤ 3) : ct_i l g vwCl (tyM cI cJ cZ) y_Mo_isGate c_Mo_isGate 2 (some .boolean) ({ frames := 1, cells := 0, slots := 0, locals := 25 } : Room) [.ref (b 0), .int x] (moW b cI cJ cZ f0 mn mv mg mk mo mu md ms mb mc m1 m2 m3 m4 we ud my ea od oo dn va ho wt cm co te tm gs gl rs rg rp rt) (moW b cI cJ cZ f0 mn mv mg mk mo mu md ms mb mc m1 m2 m3 m4 we ud my ea od oo dn va ho wt cm co te tm gs gl rs rg rp rt) (b2 (miG mn mk x)) := by
  refine ct_i.introZ (by decide) (Nat.le_of_ble_eq_true rfl) ?_
  intro p e s m args below meth c Q A ls hx hb hml hT hown hA hK hN hret hP hD hS hl
  have hown : s.vm.findClass R_Mo = some m.cls := hown
  have hl : lv_has ls 2 [(0, .ref (b 0)), (1, .int x)] := hl
  refine lv_iload_n hx hb d_Mo_isGate_0 rfl (lv_at hl 1 rfl) ?_
  refine lv_i2l (v := x.toInt64) hx hb d_Mo_isGate_1 rfl ?_
  refine lv_lconst (v := (lN 1)) hx hb d_Mo_isGate_2 (by decide) ?_
  refine lv_aload_n hx hb d_Mo_isGate_3 rfl (lv_at hl 0 rfl) ?_
  refine va_get (D := g) (ci := 8) (v := .int (nI mn)) (C := R_Mo) (T := F_Mo) (N := 35) hx hb hT i_Mo hown hK hP 0 rfl rfl 1 (by decide) (hT _ tw_622) (fun _ h9 => h9) rfl d_Mo_isGate_4 ?_
  refine lv_i2l (v := lN mn) hx hb d_Mo_isGate_7 (nI_l (by omega)) ?_
  refine my_S_i (As := [.long x.toInt64, .long (lN 1), .long (lN mn)]) (n := 3) (k_Mo_isIn l g vwCl (tyM cI cJ cZ) (moW b cI cJ cZ f0 mn mv mg mk mo mu md ms mb mc m1 m2 m3 m4 we ud my ea od oo dn va ho wt cm co te tm gs gl rs rg rp rt) x.toInt64 (lN 1) (lN mn) ) hx hb hml hown hT hN tw_737 tw_738 tw_9 tw_739 (by decide +kernel) rfl rfl ⟨Nat.le_of_ble_eq_true rfl, Nat.le_of_ble_eq_true rfl⟩ ⟨Nat.zero_le _, Nat.zero_le _⟩ hK hP hD hS hA rfl hl rfl (Nat.le_of_ble_eq_true rfl) d_Mo_isGate_8 (fun H locs hP hD hS => ?_)
  refine my_if_eq_b (tgt := 27) hx hb d_Mo_isGate_11 (by decide) (fun c_11 => ?_) (fun c_11 => ?_)
  · -- 11: taken
    refine lv_iconst (v := (nI 0)) hx hb d_Mo_isGate_27 (by decide) ?_
    refine hret _ _ _ _ _ hP hD hS d_Mo_isGate_28 ?_
    exact b2F (by first | (simp [miG, c_11]; done) | (simp [miG, c_11]; omega))
  · -- 11: not taken
    obtain ⟨k, hk1, hk2, rfl⟩ := isI_nat (by decide) (by omega) c_11
    have hkc : (nI k).toNatClampNeg = k := nI_clamp (by omega)
    have q1 := hmk k
    refine lv_aload_n hx hb d_Mo_isGate_14 rfl (lv_at hl 0 rfl) ?_
    refine va_get (D := g) (ci := 8) (v := .ref (b 1)) (C := R_Mo) (T := F_Mo) (N := 35) hx hb hT i_Mo hown hK hP 0 rfl rfl 4 (by decide) (hT _ tw_625) (fun _ h9 => h9) rfl d_Mo_isGate_15 ?_
    refine lv_iload_n hx hb d_Mo_isGate_18 rfl (lv_at hl 1 rfl) ?_
    refine my_iald (v := (nI (mk k))) (i := k) hx hb hK hP 1 0 rfl rfl (by omega) (by decide) rfl d_Mo_isGate_19 ?_
    refine my_if_le (tgt := 27) (a := mk k) hx hb d_Mo_isGate_20 (by decide) (by omega) (fun c_20 => ?_) (fun c_20 => ?_)
    · -- 20: taken
      refine lv_iconst (v := (nI 0)) hx hb d_Mo_isGate_27 (by decide) ?_
      refine hret _ _ _ _ _ hP hD hS d_Mo_isGate_28 ?_
      exact b2F (by first | (simp [miG, c_11, hkc, c_20]; done) | (simp [miG, c_11, hkc, c_20]; omega))
    · -- 20: not taken
      refine lv_iconst (v := (nI 1)) hx hb d_Mo_isGate_23 (by decide) ?_
      refine lv_goto (tgt := 28) hx hb d_Mo_isGate_24 (by decide) ?_
      refine hret _ _ _ _ _ hP hD hS d_Mo_isGate_28 ?_
      exact b2T (by first | (simp [miG, c_11, hkc, c_20]; done) | (simp [miG, c_11, hkc, c_20]; omega))
set_option maxHeartbeats 4000000 in
set_option maxRecDepth 100000 in
theorem k_Mo_isEvent (l : Launch) (g : va_G) (b : Nat → Nat) (cI cJ cZ : ClassId) (f0 : Nat) (mn : Nat) (mv : Nat) (mg : Nat) (mk : Nat → Nat) (mo : Nat → Nat) (mu : Nat → Nat) (md : Nat → Nat) (ms : Nat → Nat) (mb : Nat → Nat) (mc : Nat) (m1 : Nat → Nat) (m2 : Nat → Nat) (m3 : Nat → Nat) (m4 : Nat → Nat) (we : Bool) (ud : Nat → Bool) (my : Nat) (ea : Nat → Nat) (od : Nat) (oo : Nat → Nat) (dn : Nat → Bool) (va : Nat → Nat) (ho : Nat → Bool) (wt : Nat → Nat) (cm : Nat) (co : Nat → Nat) (te : Nat → Nat) (tm : Nat) (gs : Nat) (gl : Nat → Nat) (rs : Nat) (rg : Nat → Nat) (rp : Nat → Nat) (rt : Nat → Nat) (x : Int32) (hmn : mn ≤ 32) (hmk : ∀ j, mk j ≤ 3) : ct_i l g vwCl (tyM cI cJ cZ) y_Mo_isEvent c_Mo_isEvent 2 (some .boolean) ({ frames := 1, cells := 0, slots := 0, locals := 25 } : Room) [.ref (b 0), .int x] (moW b cI cJ cZ f0 mn mv mg mk mo mu md ms mb mc m1 m2 m3 m4 we ud my ea od oo dn va ho wt cm co te tm gs gl rs rg rp rt) (moW b cI cJ cZ f0 mn mv mg mk mo mu md ms mb mc m1 m2 m3 m4 we ud my ea od oo dn va ho wt cm co te tm gs gl rs rg rp rt) (b2 (miE mn mk x)) := by
  refine ct_i.introZ (by decide) (Nat.le_of_ble_eq_true rfl) ?_
  intro p e s m args below meth c Q A ls hx hb hml hT hown hA hK hN hret hP hD hS hl
  have hown : s.vm.findClass R_Mo = some m.cls := hown
  have hl : lv_has ls 2 [(0, .ref (b 0)), (1, .int x)] := hl
  refine lv_iload_n hx hb d_Mo_isEvent_0 rfl (lv_at hl 1 rfl) ?_
  refine lv_i2l (v := x.toInt64) hx hb d_Mo_isEvent_1 rfl ?_
  refine lv_lconst (v := (lN 1)) hx hb d_Mo_isEvent_2 (by decide) ?_
  refine lv_aload_n hx hb d_Mo_isEvent_3 rfl (lv_at hl 0 rfl) ?_
  refine va_get (D := g) (ci := 8) (v := .int (nI mn)) (C := R_Mo) (T := F_Mo) (N := 35) hx hb hT i_Mo hown hK hP 0 rfl rfl 1 (by decide) (hT _ tw_622) (fun _ h9 => h9) rfl d_Mo_isEvent_4 ?_
  refine lv_i2l (v := lN mn) hx hb d_Mo_isEvent_7 (nI_l (by omega)) ?_
  refine my_S_i (As := [.long x.toInt64, .long (lN 1), .long (lN mn)]) (n := 3) (k_Mo_isIn l g vwCl (tyM cI cJ cZ) (moW b cI cJ cZ f0 mn mv mg mk mo mu md ms mb mc m1 m2 m3 m4 we ud my ea od oo dn va ho wt cm co te tm gs gl rs rg rp rt) x.toInt64 (lN 1) (lN mn) ) hx hb hml hown hT hN tw_737 tw_738 tw_9 tw_739 (by decide +kernel) rfl rfl ⟨Nat.le_of_ble_eq_true rfl, Nat.le_of_ble_eq_true rfl⟩ ⟨Nat.zero_le _, Nat.zero_le _⟩ hK hP hD hS hA rfl hl rfl (Nat.le_of_ble_eq_true rfl) d_Mo_isEvent_8 (fun H locs hP hD hS => ?_)
  refine my_if_eq_b (tgt := 27) hx hb d_Mo_isEvent_11 (by decide) (fun c_11 => ?_) (fun c_11 => ?_)
  · -- 11: taken
    refine lv_iconst (v := (nI 0)) hx hb d_Mo_isEvent_27 (by decide) ?_
    refine hret _ _ _ _ _ hP hD hS d_Mo_isEvent_28 ?_
    exact b2F (by first | (simp [miE, c_11]; done) | (simp [miE, c_11]; omega))
  · -- 11: not taken
    obtain ⟨k, hk1, hk2, rfl⟩ := isI_nat (by decide) (by omega) c_11
    have hkc : (nI k).toNatClampNeg = k := nI_clamp (by omega)
    have q1 := hmk k
    refine lv_aload_n hx hb d_Mo_isEvent_14 rfl (lv_at hl 0 rfl) ?_
    refine va_get (D := g) (ci := 8) (v := .ref (b 1)) (C := R_Mo) (T := F_Mo) (N := 35) hx hb hT i_Mo hown hK hP 0 rfl rfl 4 (by decide) (hT _ tw_625) (fun _ h9 => h9) rfl d_Mo_isEvent_15 ?_
    refine lv_iload_n hx hb d_Mo_isEvent_18 rfl (lv_at hl 1 rfl) ?_
    refine my_iald (v := (nI (mk k))) (i := k) hx hb hK hP 1 0 rfl rfl (by omega) (by decide) rfl d_Mo_isEvent_19 ?_
    refine my_if_ne (tgt := 27) (a := mk k) hx hb d_Mo_isEvent_20 (by decide) (by omega) (fun c_20 => ?_) (fun c_20 => ?_)
    · -- 20: taken
      refine lv_iconst (v := (nI 0)) hx hb d_Mo_isEvent_27 (by decide) ?_
      refine hret _ _ _ _ _ hP hD hS d_Mo_isEvent_28 ?_
      exact b2F (by first | (simp [miE, c_11, hkc, c_20]; done) | (simp [miE, c_11, hkc, c_20]; omega))
    · -- 20: not taken
      refine lv_iconst (v := (nI 1)) hx hb d_Mo_isEvent_23 (by decide) ?_
      refine lv_goto (tgt := 28) hx hb d_Mo_isEvent_24 (by decide) ?_
      refine hret _ _ _ _ _ hP hD hS d_Mo_isEvent_28 ?_
      exact b2T (by first | (simp [miE, c_11, hkc, c_20]; done) | (simp [miE, c_11, hkc, c_20]; omega))
set_option maxHeartbeats 4000000 in
set_option maxRecDepth 100000 in
theorem k_Mo_exact (l : Launch) (g : va_G) (b : Nat → Nat) (cI cJ cZ : ClassId) (f0 : Nat) (mn : Nat) (mv : Nat) (mg : Nat) (mk : Nat → Nat) (mo : Nat → Nat) (mu : Nat → Nat) (md : Nat → Nat) (ms : Nat → Nat) (mb : Nat → Nat) (mc : Nat) (m1 : Nat → Nat) (m2 : Nat → Nat) (m3 : Nat → Nat) (m4 : Nat → Nat) (we : Bool) (ud : Nat → Bool) (my : Nat) (ea : Nat → Nat) (od : Nat) (oo : Nat → Nat) (dn : Nat → Bool) (va : Nat → Nat) (ho : Nat → Bool) (wt : Nat → Nat) (cm : Nat) (co : Nat → Nat) (te : Nat → Nat) (tm : Nat) (gs : Nat) (gl : Nat → Nat) (rs : Nat) (rg : Nat → Nat) (rp : Nat → Nat) (rt : Nat → Nat)   : ct_i l g vwCl (tyM cI cJ cZ) y_Mo_exact c_Mo_exact 1 (some .boolean) ({ frames := 0, cells := 0, slots := 0, locals := 0 } : Room) [.ref (b 0)] (moW b cI cJ cZ f0 mn mv mg mk mo mu md ms mb mc m1 m2 m3 m4 we ud my ea od oo dn va ho wt cm co te tm gs gl rs rg rp rt) (moW b cI cJ cZ 0 mn mv mg mk mo mu md ms mb mc m1 m2 m3 m4 we ud my ea od oo dn va ho wt cm co te tm gs gl rs rg rp rt) (b2 we) := by
  refine ct_i.introZ (by decide) (Nat.le_of_ble_eq_true rfl) ?_
  intro p e s m args below meth c Q A ls hx hb hml hT hown hA hK hN hret hP hD hS hl
  have hown : s.vm.findClass R_Mo = some m.cls := hown
  have hl : lv_has ls 1 [(0, .ref (b 0))] := hl
  refine lv_aload_n hx hb d_Mo_exact_0 rfl (lv_at hl 0 rfl) ?_
  refine lv_iconst (v := (nI 0)) hx hb d_Mo_exact_1 (by decide) ?_
  refine va_put (D := g) (ci := 8) (v := .int (nI 0)) (ty := .int) (C := R_Mo) (T := F_Mo) (N := 35) hx hb hT i_Mo t_Mo t_Mo_ok n_Mo hown hK hP hD hS 0 rfl rfl 0 (by decide) (hT _ tw_621) (fun _ h9 => h9) rfl (by decide +kernel) rfl rfl (Nat.le_of_ble_eq_true rfl) d_Mo_exact_2 (fun H locs hP hD hS => ?_)
  have hP : va_P g vwCl (moW b cI cJ cZ 0 mn mv mg mk mo mu md ms mb mc m1 m2 m3 m4 we ud my ea od oo dn va ho wt cm co te tm gs gl rs rg rp rt) H := hP
  have hD : va_D A (moW b cI cJ cZ 0 mn mv mg mk mo mu md ms mb mc m1 m2 m3 m4 we ud my ea od oo dn va ho wt cm co te tm gs gl rs rg rp rt) := hD
  refine lv_aload_n hx hb d_Mo_exact_5 rfl (lv_at hl 0 rfl) ?_
  refine va_get (D := g) (ci := 8) (v := .int (b2 we)) (C := R_Mo) (T := F_Mo) (N := 35) hx hb hT i_Mo hown hK hP 0 rfl rfl 15 (by decide) (hT _ tw_636) (fun _ h9 => h9) rfl d_Mo_exact_6 ?_
  refine hret _ _ _ _ _ hP hD hS d_Mo_exact_9 ?_
  rfl
set_option maxHeartbeats 4000000 in
set_option maxRecDepth 100000 in
theorem k_Mo_ones (l : Launch) (g : va_G) (cl : List vw_C) (tys : List (ClassId × FieldType)) (ww : va_W) (v : Nat) (hv : v < 2 ^ 31) : ct_i l g cl tys y_Mo_ones c_Mo_ones 3 (some .int) ({ frames := 0, cells := 0, slots := 0, locals := 0 } : Room) [.int (nI v)] ww ww (nI (onF v 12)) := by
  refine ct_i.intro (by decide) (Nat.le_of_ble_eq_true rfl) ?_
  intro p e s m args below meth c Q A ls hx hb hml hT hown hA hK hN hret hP hD hS hl
  have hown : s.vm.findClass R_Mo = some m.cls := hown
  have hl : lv_has ls 3 [(0, .int (nI v))] := hl
  refine lv_iconst (v := (nI 0)) hx hb d_Mo_ones_0 (by decide) ?_
  refine lv_istore_n (lv' := [(1, .int (nI 0)), (0, .int (nI v))]) hx hb d_Mo_ones_1 rfl hl (by decide) rfl (fun ls hl => ?_)
  refine lv_iconst (v := (nI 0)) hx hb d_Mo_ones_2 (by decide) ?_
  refine lv_istore_n (lv' := [(2, .int (nI 0)), (1, .int (nI 0)), (0, .int (nI v))]) hx hb d_Mo_ones_3 rfl hl (by decide) rfl (fun ls hl => ?_)
  have lp_4 : ∀ (k : Nat) (i : Nat) (f : Nat) (H : Heap) (locs : List Loc) (ls : Array Slot), (12 < i + k) → (i ≤ 12) → (f = onF v i) → va_P g cl ww H → va_D A ww → va_S A s.heap H locs → lv_has ls 3 [(0, .int (nI v)), (1, .int (nI f)), (2, .int (nI i))] → W p l e ({ frames := 0, cells := 0, slots := 0, locals := 0 } : Room) s m args below meth c H locs 0 0 Q (F0 m 4 ls []) := by
    intro k
    induction k with
    | zero =>
      intro i f H locs ls hk hi hf hP hD hS hl
      exfalso
      omega
    | succ k ih_4 =>
      intro i f H locs ls hk hi hf hP hD hS hl
      refine lv_iload_n hx hb d_Mo_ones_4 rfl (lv_at hl 2 rfl) ?_
      refine lv_bipush (v := (nI 12)) hx hb d_Mo_ones_5 (by decide) ?_
      refine my_icmp_ge (tgt := 24) (a := i) (b := 12) hx hb d_Mo_ones_7 (by decide) (by omega) (by omega) (fun c_7 => ?_) (fun c_7 => ?_)
      · -- 7: taken
        refine lv_iload_n hx hb d_Mo_ones_24 rfl (lv_at hl 1 rfl) ?_
        refine hret _ _ _ _ _ hP hD hS d_Mo_ones_25 ?_
        rw [hf, show i = 12 by omega]
      · -- 7: not taken
        refine lv_iload_n hx hb d_Mo_ones_10 rfl (lv_at hl 1 rfl) ?_
        refine lv_iload_n hx hb d_Mo_ones_11 rfl (lv_at hl 0 rfl) ?_
        refine lv_iload_n hx hb d_Mo_ones_12 rfl (lv_at hl 2 rfl) ?_
        refine lv_ishr hx hb d_Mo_ones_13 ?_
        refine my_ei (pk_shrN (n := v) (by omega) _ i (s_l i (by omega))) ?_
        refine lv_iconst (v := (nI 1)) hx hb d_Mo_ones_14 (by decide) ?_
        refine lv_iand hx hb d_Mo_ones_15 ?_
        refine my_ei (nx_and (v / 2 ^ i) 1) ?_
        refine lv_iadd hx hb d_Mo_ones_16 ?_
        refine my_ei (nI_add f ((v / 2 ^ i) &&& 1)) ?_
        refine lv_istore_n (lv' := [(1, .int (nI (f + ((v / 2 ^ i) &&& 1)))), (0, .int (nI v)), (2, .int (nI i))]) hx hb d_Mo_ones_17 rfl hl (by decide) rfl (fun ls hl => ?_)
        refine lv_iinc (v := (nI (i + 1))) (lv' := [(2, .int (nI (i + 1))), (1, .int (nI (f + ((v / 2 ^ i) &&& 1)))), (0, .int (nI v))]) hx hb d_Mo_ones_18 hl (k := 2) rfl (nI_1 i) (by decide) rfl (fun ls hl => ?_)
        refine lv_goto (tgt := 4) hx hb d_Mo_ones_21 (by decide) ?_
        refine ih_4 _ _ _ _ _ ?_ ?_ ?_ hP hD hS (lv_sub hl [2, 1, 0] rfl)
        · omega
        · omega
        · rw [hf]; rfl
  refine lp_4 (13) _ _ _ _ _ ?_ ?_ ?_ hP hD hS (lv_sub hl [2, 1, 0] rfl)
  · omega
  · omega
  · rfl
