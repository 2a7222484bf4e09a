def isN (nc : Nat) (x : Int32) : Bool := decide (¬ x < nI 1) && decide (¬ nI nc < x)
def isE (nc : Nat) (kd : Nat → Int32) (x : Int32) : Bool := isN nc x && decide (kd x.toNatClampNeg = -1)
def isG (nc : Nat) (kd : Nat → Int32) (x : Int32) : Bool := isN nc x && decide (¬ kd x.toNatClampNeg = -1)
theorem isN_nat {nc : Nat} {x : Int32} (hnc : nc ≤ 32) (h : isN nc x = true) : ∃ k : Nat, 1 ≤ k ∧ k ≤ nc ∧ x = nI k := by
  simp only [isN, Bool.and_eq_true, decide_eq_true_eq] at h
  obtain ⟨h1, h2⟩ := h
  have h0 : ¬ x < 0 := fun q => h1 (by
    rw [Int32.lt_iff_toInt_lt] at q ⊢
    rw [nI_toInt (by decide)]
    rw [Int32.toInt_zero] at q
    omega)
  obtain ⟨j, hj, rfl⟩ := nI_of h0
  rw [nI_ltI hj (by decide)] at h1
  rw [nI_ltI (by omega) hj] at h2
  exact ⟨j, by omega, by omega, rfl⟩
theorem isN_of {nc k : Nat} (hnc : nc ≤ 32) (h1 : 1 ≤ k) (h2 : k ≤ nc) : isN nc (nI k) = true := by
  simp only [isN, Bool.and_eq_true, decide_eq_true_eq]
  rw [nI_ltI (by omega) (by decide), nI_ltI (by omega) (by omega)]
  omega
def cT (cp : Nat → Nat) (ev : Nat) : Nat → Nat
  | 0 => 0
  | i + 1 => cT cp ev i + (if cp i &&& ev = 0 then 0 else 1)
theorem cT_le (cp : Nat → Nat) (ev i : Nat) : cT cp ev i ≤ i := by
  induction i with
  | zero => exact Nat.le_refl _
  | succ i ih => show cT cp ev i + _ ≤ i + 1; split <;> omega
set_option maxHeartbeats 4000000 in
set_option maxRecDepth 100000 in
theorem k_No_isNode (l : Launch) (g : va_G) (a rB rT : Nat → Nat) (cI cJ cII cJJ : ClassId) (nc : Nat) (nv : Nat) (ng : Nat) (kd : Nat → Int32) (vo : Nat → Nat) (nu : Nat → Nat) (nd : Nat → Nat) (en : Nat → Nat) (br : Nat → Nat → Nat) (bc : Nat → Nat) (un : Nat → Nat) (eu : Nat → Nat) (li : Nat → Nat) (tb : Nat → Nat → Int64) (cc0 : Nat) (cp : Nat → Nat) (cu : Nat → Nat) (cd : Nat → Nat) (tc : Nat) (ts : Nat → Nat) (tf : Nat → Nat) (ox : Bool) (ow : Nat → Nat) (ob : Nat → Nat) (ra : Nat) (rb : Nat) (gc : Nat) (gr : Nat) (gk : Nat → Nat) (gg : Nat → Nat) (gp : Nat → Nat) (gt : Nat → Nat) (sa : Nat) (sb : Nat) (x : Int32)  : ct_i l g vwCl (tyS cI cJ cII cJJ) y_No_isNode c_No_isNode 2 (some .boolean) ({ frames := 0, cells := 0, slots := 0, locals := 0 } : Room) [.ref (a 1), .int x] (stW a rB rT cI cJ cII cJJ nc nv ng kd vo nu nd en br bc un eu li tb cc0 cp cu cd tc ts tf ox ow ob ra rb gc gr gk gg gp gt sa sb) (stW a rB rT cI cJ cII cJJ nc nv ng kd vo nu nd en br bc un eu li tb cc0 cp cu cd tc ts tf ox ow ob ra rb gc gr gk gg gp gt sa sb) (b2 (isN nc x)) := by
  refine ct_i.introZ (by decide) (Nat.le_of_ble_eq_true rfl) ?_
  intro p e s m args below meth c Q A ls hx hb hml hT hown hA hK hN hret hP hD hS hl
  have hown : s.vm.findClass R_No = some m.cls := hown
  have hl : lv_has ls 2 [(0, .ref (a 1)), (1, .int x)] := hl
  refine lv_iload_n hx hb d_No_isNode_0 rfl (lv_at hl 1 rfl) ?_
  refine lv_iconst (v := (nI 1)) hx hb d_No_isNode_1 (by decide) ?_
  refine lv_icmp_lt (tgt := 17) hx hb d_No_isNode_2 (by decide) (fun c_2 => ?_) (fun c_2 => ?_)
  · -- 2: taken
    refine lv_iconst (v := (nI 0)) hx hb d_No_isNode_17 (by decide) ?_
    refine hret _ _ _ _ _ hP hD hS d_No_isNode_18 ?_
    exact b2F (by first | (simp [isN, c_2]; done) | (simp [isN, c_2]; omega))
  · -- 2: not taken
    refine lv_iload_n hx hb d_No_isNode_5 rfl (lv_at hl 1 rfl) ?_
    refine lv_aload_n hx hb d_No_isNode_6 rfl (lv_at hl 0 rfl) ?_
    refine va_get (D := g) (ci := 1) (v := .int (nI nc)) (C := R_No) (T := F_No) (N := 13) hx hb hT i_No hown hK hP 1 rfl rfl 0 (by decide) (hT _ tw_33) (fun _ h9 => h9) rfl d_No_isNode_7 ?_
    refine lv_icmp_gt (tgt := 17) hx hb d_No_isNode_10 (by decide) (fun c_10 => ?_) (fun c_10 => ?_)
    · -- 10: taken
      refine lv_iconst (v := (nI 0)) hx hb d_No_isNode_17 (by decide) ?_
      refine hret _ _ _ _ _ hP hD hS d_No_isNode_18 ?_
      exact b2F (by first | (simp [isN, c_2, c_10]; done) | (simp [isN, c_2, c_10]; omega))
    · -- 10: not taken
      refine lv_iconst (v := (nI 1)) hx hb d_No_isNode_13 (by decide) ?_
      refine lv_goto (tgt := 18) hx hb d_No_isNode_14 (by decide) ?_
      refine hret _ _ _ _ _ hP hD hS d_No_isNode_18 ?_
      exact b2T (by first | (simp [isN, c_2, c_10]; done) | (simp [isN, c_2, c_10]; omega))
set_option maxHeartbeats 4000000 in
set_option maxRecDepth 100000 in
theorem k_No_isEvent (l : Launch) (g : va_G) (a rB rT : Nat → Nat) (cI cJ cII cJJ : ClassId) (nc : Nat) (nv : Nat) (ng : Nat) (kd : Nat → Int32) (vo : Nat → Nat) (nu : Nat → Nat) (nd : Nat → Nat) (en : Nat → Nat) (br : Nat → Nat → Nat) (bc : Nat → Nat) (un : Nat → Nat) (eu : Nat → Nat) (li : Nat → Nat) (tb : Nat → Nat → Int64) (cc0 : Nat) (cp : Nat → Nat) (cu : Nat → Nat) (cd : Nat → Nat) (tc : Nat) (ts : Nat → Nat) (tf : Nat → Nat) (ox : Bool) (ow : Nat → Nat) (ob : Nat → Nat) (ra : Nat) (rb : Nat) (gc : Nat) (gr : Nat) (gk : Nat → Nat) (gg : Nat → Nat) (gp : Nat → Nat) (gt : Nat → Nat) (sa : Nat) (sb : Nat) (x : Int32) (hnc : nc ≤ 32) : ct_i l g vwCl (tyS cI cJ cII cJJ) y_No_isEvent c_No_isEvent 2 (some .boolean) ({ frames := 1, cells := 0, slots := 0, locals := 21 } : Room) [.ref (a 1), .int x] (stW a rB rT cI cJ cII cJJ nc nv ng kd vo nu nd en br bc un eu li tb cc0 cp cu cd tc ts tf ox ow ob ra rb gc gr gk gg gp gt sa sb) (stW a rB rT cI cJ cII cJJ nc nv ng kd vo nu nd en br bc un eu li tb cc0 cp cu cd tc ts tf ox ow ob ra rb gc gr gk gg gp gt sa sb) (b2 (isE nc kd x)) := by
  refine ct_i.introZ (by decide) (Nat.le_of_ble_eq_true rfl) ?_
  intro p e s m args below meth c Q A ls hx hb hml hT hown hA hK hN hret hP hD hS hl
  have hown : s.vm.findClass R_No = some m.cls := hown
  have hl : lv_has ls 2 [(0, .ref (a 1)), (1, .int x)] := hl
  refine lv_aload_n hx hb d_No_isEvent_0 rfl (lv_at hl 0 rfl) ?_
  refine lv_iload_n hx hb d_No_isEvent_1 rfl (lv_at hl 1 rfl) ?_
  refine my_V_i (q0 := 1) (ci := 1) (C := R_No) (As := [.int x]) (n := 1) (k_No_isNode l g a rB rT cI cJ cII cJJ nc nv ng kd vo nu nd en br bc un eu li tb cc0 cp cu cd tc ts tf ox ow ob ra rb gc gr gk gg gp gt sa sb x ) hx hb hml hown hT hN tw_292 tw_293 tw_294 tw_2 tw_295 (by decide +kernel) rfl rfl ⟨Nat.le_of_ble_eq_true rfl, Nat.le_of_ble_eq_true rfl⟩ ⟨Nat.zero_le _, Nat.zero_le _⟩ hK hP hD hS hA rfl rfl rfl hl rfl (Nat.le_of_ble_eq_true rfl) d_No_isEvent_2 (fun H locs hP hD hS => ?_)
  refine my_if_eq_b (tgt := 22) hx hb d_No_isEvent_5 (by decide) (fun c_5 => ?_) (fun c_5 => ?_)
  · -- 5: taken
    refine lv_iconst (v := (nI 0)) hx hb d_No_isEvent_22 (by decide) ?_
    refine hret _ _ _ _ _ hP hD hS d_No_isEvent_23 ?_
    exact b2F (by first | (simp [isE, c_5]; done) | (simp [isE, c_5]; omega))
  · -- 5: not taken
    obtain ⟨k, hk1, hk2, rfl⟩ := isN_nat hnc c_5
    have hkc : (nI k).toNatClampNeg = k := nI_clamp (by omega)
    refine lv_aload_n hx hb d_No_isEvent_8 rfl (lv_at hl 0 rfl) ?_
    refine va_get (D := g) (ci := 1) (v := .ref (a 9)) (C := R_No) (T := F_No) (N := 13) hx hb hT i_No hown hK hP 1 rfl rfl 3 (by decide) (hT _ tw_39) (fun _ h9 => h9) rfl d_No_isEvent_9 ?_
    refine lv_iload_n hx hb d_No_isEvent_12 rfl (lv_at hl 1 rfl) ?_
    refine my_iald (v := (kd k)) (i := k) hx hb hK hP 9 0 rfl rfl (by omega) (by decide) rfl d_No_isEvent_13 ?_
    refine lv_iconst (v := (-1)) hx hb d_No_isEvent_14 (by decide) ?_
    refine lv_icmp_ne (tgt := 22) hx hb d_No_isEvent_15 (by decide) (fun c_15 => ?_) (fun c_15 => ?_)
    · -- 15: taken
      refine lv_iconst (v := (nI 0)) hx hb d_No_isEvent_22 (by decide) ?_
      refine hret _ _ _ _ _ hP hD hS d_No_isEvent_23 ?_
      exact b2F (by first | (simp [isE, c_5, hkc, c_15]; done) | (simp [isE, c_5, hkc, c_15]; omega))
    · -- 15: not taken
      refine lv_iconst (v := (nI 1)) hx hb d_No_isEvent_18 (by decide) ?_
      refine lv_goto (tgt := 23) hx hb d_No_isEvent_19 (by decide) ?_
      refine hret _ _ _ _ _ hP hD hS d_No_isEvent_23 ?_
      exact b2T (by first | (simp [isE, c_5, hkc, c_15]; done) | (simp [isE, c_5, hkc, c_15]; omega))
set_option maxHeartbeats 4000000 in
set_option maxRecDepth 100000 in
theorem k_No_isGate (l : Launch) (g : va_G) (a rB rT : Nat → Nat) (cI cJ cII cJJ : ClassId) (nc : Nat) (nv : Nat) (ng : Nat) (kd : Nat → Int32) (vo : Nat → Nat) (nu : Nat → Nat) (nd : Nat → Nat) (en : Nat → Nat) (br : Nat → Nat → Nat) (bc : Nat → Nat) (un : Nat → Nat) (eu : Nat → Nat) (li : Nat → Nat) (tb : Nat → Nat → Int64) (cc0 : Nat) (cp : Nat → Nat) (cu : Nat → Nat) (cd : Nat → Nat) (tc : Nat) (ts : Nat → Nat) (tf : Nat → Nat) (ox : Bool) (ow : Nat → Nat) (ob : Nat → Nat) (ra : Nat) (rb : Nat) (gc : Nat) (gr : Nat) (gk : Nat → Nat) (gg : Nat → Nat) (gp : Nat → Nat) (gt : Nat → Nat) (sa : Nat) (sb : Nat) (x : Int32) (hnc : nc ≤ 32) : ct_i l g vwCl (tyS cI cJ cII cJJ) y_No_isGate c_No_isGate 2 (some .boolean) ({ frames := 1, cells := 0, slots := 0, locals := 21 } : Room) [.ref (a 1), .int x] (stW a rB rT cI cJ cII cJJ nc nv ng kd vo nu nd en br bc un eu li tb cc0 cp cu cd tc ts tf ox ow ob ra rb gc gr gk gg gp gt sa sb) (stW a rB rT cI cJ cII cJJ nc nv ng kd vo nu nd en br bc un eu li tb cc0 cp cu cd tc ts tf ox ow ob ra rb gc gr gk gg gp gt sa sb) (b2 (isG nc kd x)) := by
  refine ct_i.introZ (by decide) (Nat.le_of_ble_eq_true rfl) ?_
  intro p e s m args below meth c Q A ls hx hb hml hT hown hA hK hN hret hP hD hS hl
  have hown : s.vm.findClass R_No = some m.cls := hown
  have hl : lv_has ls 2 [(0, .ref (a 1)), (1, .int x)] := hl
  refine lv_aload_n hx hb d_No_isGate_0 rfl (lv_at hl 0 rfl) ?_
  refine lv_iload_n hx hb d_No_isGate_1 rfl (lv_at hl 1 rfl) ?_
  refine my_V_i (q0 := 1) (ci := 1) (C := R_No) (As := [.int x]) (n := 1) (k_No_isNode l g a rB rT cI cJ cII cJJ nc nv ng kd vo nu nd en br bc un eu li tb cc0 cp cu cd tc ts tf ox ow ob ra rb gc gr gk gg gp gt sa sb x ) hx hb hml hown hT hN tw_292 tw_293 tw_294 tw_2 tw_295 (by decide +kernel) rfl rfl ⟨Nat.le_of_ble_eq_true rfl, Nat.le_of_ble_eq_true rfl⟩ ⟨Nat.zero_le _, Nat.zero_le _⟩ hK hP hD hS hA rfl rfl rfl hl rfl (Nat.le_of_ble_eq_true rfl) d_No_isGate_2 (fun H locs hP hD hS => ?_)
  refine my_if_eq_b (tgt := 22) hx hb d_No_isGate_5 (by decide) (fun c_5 => ?_) (fun c_5 => ?_)
  · -- 5: taken
    refine lv_iconst (v := (nI 0)) hx hb d_No_isGate_22 (by decide) ?_
    refine hret _ _ _ _ _ hP hD hS d_No_isGate_23 ?_
    exact b2F (by first | (simp [isG, c_5]; done) | (simp [isG, c_5]; omega))
  · -- 5: not taken
    obtain ⟨k, hk1, hk2, rfl⟩ := isN_nat hnc c_5
    have hkc : (nI k).toNatClampNeg = k := nI_clamp (by omega)
    refine lv_aload_n hx hb d_No_isGate_8 rfl (lv_at hl 0 rfl) ?_
    refine va_get (D := g) (ci := 1) (v := .ref (a 9)) (C := R_No) (T := F_No) (N := 13) hx hb hT i_No hown hK hP 1 rfl rfl 3 (by decide) (hT _ tw_39) (fun _ h9 => h9) rfl d_No_isGate_9 ?_
    refine lv_iload_n hx hb d_No_isGate_12 rfl (lv_at hl 1 rfl) ?_
    refine my_iald (v := (kd k)) (i := k) hx hb hK hP 9 0 rfl rfl (by omega) (by decide) rfl d_No_isGate_13 ?_
    refine lv_iconst (v := (-1)) hx hb d_No_isGate_14 (by decide) ?_
    refine lv_icmp_eq (tgt := 22) hx hb d_No_isGate_15 (by decide) (fun c_15 => ?_) (fun c_15 => ?_)
    · -- 15: taken
      refine lv_iconst (v := (nI 0)) hx hb d_No_isGate_22 (by decide) ?_
      refine hret _ _ _ _ _ hP hD hS d_No_isGate_23 ?_
      exact b2F (by first | (simp [isG, c_5, hkc, c_15]; done) | (simp [isG, c_5, hkc, c_15]; omega))
    · -- 15: not taken
      refine lv_iconst (v := (nI 1)) hx hb d_No_isGate_18 (by decide) ?_
      refine lv_goto (tgt := 23) hx hb d_No_isGate_19 (by decide) ?_
      refine hret _ _ _ _ _ hP hD hS d_No_isGate_23 ?_
      exact b2T (by first | (simp [isG, c_5, hkc, c_15]; done) | (simp [isG, c_5, hkc, c_15]; omega))
set_option maxHeartbeats 4000000 in
set_option maxRecDepth 100000 in
theorem k_Ca_touches (l : Launch) (g : va_G) (a rB rT : Nat → Nat) (cI cJ cII cJJ : ClassId) (nc : Nat) (nv : Nat) (ng : Nat) (kd : Nat → Int32) (vo : Nat → Nat) (nu : Nat → Nat) (nd : Nat → Nat) (en : Nat → Nat) (br : Nat → Nat → Nat) (bc : Nat → Nat) (un : Nat → Nat) (eu : Nat → Nat) (li : Nat → Nat) (tb : Nat → Nat → Int64) (cc0 : Nat) (cp : Nat → Nat) (cu : Nat → Nat) (cd : Nat → Nat) (tc : Nat) (ts : Nat → Nat) (tf : Nat → Nat) (ox : Bool) (ow : Nat → Nat) (ob : Nat → Nat) (ra : Nat) (rb : Nat) (gc : Nat) (gr : Nat) (gk : Nat → Nat) (gg : Nat → Nat) (gp : Nat → Nat) (gt : Nat → Nat) (sa : Nat) (sb : Nat) (i : Nat) (ev : Nat) (hi : i < 4) (hp : ∀ j, cp j < 4096) : ct_i l g vwCl (tyS cI cJ cII cJJ) y_Ca_touches c_Ca_touches 3 (some .boolean) ({ frames := 0, cells := 0, slots := 0, locals := 0 } : Room) [.ref (a 3), .int (nI i), .int (nI ev)] (stW a rB rT cI cJ cII cJJ nc nv ng kd vo nu nd en br bc un eu li tb cc0 cp cu cd tc ts tf ox ow ob ra rb gc gr gk gg gp gt sa sb) (stW a rB rT cI cJ cII cJJ nc nv ng kd vo nu nd en br bc un eu li tb cc0 cp cu cd tc ts tf ox ow ob ra rb gc gr gk gg gp gt sa sb) (b2 (decide (cp i &&& ev ≠ 0))) := by
  refine ct_i.introZ (by decide) (Nat.le_of_ble_eq_true rfl) ?_
  intro p e s m args below meth c Q A ls hx hb hml hT hown hA hK hN hret hP hD hS hl
  have hown : s.vm.findClass R_Ca = some m.cls := hown
  have hl : lv_has ls 3 [(0, .ref (a 3)), (1, .int (nI i)), (2, .int (nI ev))] := hl
  refine lv_aload_n hx hb d_Ca_touches_0 rfl (lv_at hl 0 rfl) ?_
  refine va_get (D := g) (ci := 3) (v := .ref (a 20)) (C := R_Ca) (T := F_Ca) (N := 4) hx hb hT i_Ca hown hK hP 3 rfl rfl 1 (by decide) (hT _ tw_120) (fun _ h9 => h9) rfl d_Ca_touches_1 ?_
  refine lv_iload_n hx hb d_Ca_touches_4 rfl (lv_at hl 1 rfl) ?_
  refine my_iald (v := (nI (cp i))) (i := i) hx hb hK hP 20 0 rfl rfl (by omega) (by decide) rfl d_Ca_touches_5 ?_
  refine lv_iload_n hx hb d_Ca_touches_6 rfl (lv_at hl 2 rfl) ?_
  refine lv_iand hx hb d_Ca_touches_7 ?_
  refine my_ei (nx_and (cp i) ev) ?_
  have hlt : cp i &&& ev < 4096 := Nat.lt_of_le_of_lt Nat.and_le_left (hp i)
  refine my_if_eq (tgt := 15) (a := (cp i) &&& ev) hx hb d_Ca_touches_8 (by decide) (by omega) (fun c_8 => ?_) (fun c_8 => ?_)
  · -- 8: taken
    refine lv_iconst (v := (nI 0)) hx hb d_Ca_touches_15 (by decide) ?_
    refine hret _ _ _ _ _ hP hD hS d_Ca_touches_16 ?_
    exact b2F (by first | (simp [c_8]; done) | (simp [c_8]; omega))
  · -- 8: not taken
    have c_8 : ¬ cp i &&& ev = 0 := by omega
    refine lv_iconst (v := (nI 1)) hx hb d_Ca_touches_11 (by decide) ?_
    refine lv_goto (tgt := 16) hx hb d_Ca_touches_12 (by decide) ?_
    refine hret _ _ _ _ _ hP hD hS d_Ca_touches_16 ?_
    exact b2T (by first | (simp [c_8]; done) | (simp [c_8]; omega))
set_option maxHeartbeats 4000000 in
set_option maxRecDepth 100000 in
theorem k_Ca_countTouching (l : Launch) (g : va_G) (a rB rT : Nat → Nat) (cI cJ cII cJJ : ClassId) (nc : Nat) (nv : Nat) (ng : Nat) (kd : Nat → Int32) (vo : Nat → Nat) (nu : Nat → Nat) (nd : Nat → Nat) (en : Nat → Nat) (br : Nat → Nat → Nat) (bc : Nat → Nat) (un : Nat → Nat) (eu : Nat → Nat) (li : Nat → Nat) (tb : Nat → Nat → Int64) (cc0 : Nat) (cp : Nat → Nat) (cu : Nat → Nat) (cd : Nat → Nat) (tc : Nat) (ts : Nat → Nat) (tf : Nat → Nat) (ox : Bool) (ow : Nat → Nat) (ob : Nat → Nat) (ra : Nat) (rb : Nat) (gc : Nat) (gr : Nat) (gk : Nat → Nat) (gg : Nat → Nat) (gp : Nat → Nat) (gt : Nat → Nat) (sa : Nat) (sb : Nat) (ev : Nat) (hc : cc0 ≤ 4) (hp : ∀ j, cp j < 4096) : ct_i l g vwCl (tyS cI cJ cII cJJ) y_Ca_countTouching c_Ca_countTouching 4 (some .int) ({ frames := 1, cells := 0, slots := 0, locals := 22 } : Room) [.ref (a 3), .int (nI ev)] (stW a rB rT cI cJ cII cJJ nc nv ng kd vo nu nd en br bc un eu li tb cc0 cp cu cd tc ts tf ox ow ob ra rb gc gr gk gg gp gt sa sb) (stW a rB rT cI cJ cII cJJ nc nv ng kd vo nu nd en br bc un eu li tb cc0 cp cu cd tc ts tf ox ow ob ra rb gc gr gk gg gp gt sa sb) (nI (cT cp ev cc0)) := by
  refine ct_i.intro (by decide) (Nat.le_of_ble_eq_true rfl) ?_
  intro p e s m args below meth c Q A ls hx hb hml hT hown hA hK hN hret hP hD hS hl
  have hown : s.vm.findClass R_Ca = some m.cls := hown
  have hl : lv_has ls 4 [(0, .ref (a 3)), (1, .int (nI ev))] := hl
  refine lv_iconst (v := (nI 0)) hx hb d_Ca_countTouching_0 (by decide) ?_
  refine lv_istore_n (lv' := [(2, .int (nI 0)), (0, .ref (a 3)), (1, .int (nI ev))]) hx hb d_Ca_countTouching_1 rfl hl (by decide) rfl (fun ls hl => ?_)
  refine lv_iconst (v := (nI 0)) hx hb d_Ca_countTouching_2 (by decide) ?_
  refine lv_istore_n (lv' := [(3, .int (nI 0)), (2, .int (nI 0)), (0, .ref (a 3)), (1, .int (nI ev))]) hx hb d_Ca_countTouching_3 rfl hl (by decide) rfl (fun ls hl => ?_)
  have lp_4 : ∀ (k : Nat) (i : Nat) (f : Nat) (H : Heap) (locs : List Loc) (ls : Array Slot), (cc0 < i + k) → (i ≤ cc0) → (f = cT cp ev i) → va_P g vwCl (stW a rB rT cI cJ cII cJJ nc nv ng kd vo nu nd en br bc un eu li tb cc0 cp cu cd tc ts tf ox ow ob ra rb gc gr gk gg gp gt sa sb) H → va_D A (stW a rB rT cI cJ cII cJJ nc nv ng kd vo nu nd en br bc un eu li tb cc0 cp cu cd tc ts tf ox ow ob ra rb gc gr gk gg gp gt sa sb) → va_S A s.heap H locs → lv_has ls 4 [(0, .ref (a 3)), (1, .int (nI ev)), (2, .int (nI f)), (3, .int (nI i))] → W p l e ({ frames := 1, cells := 0, slots := 0, locals := 22 } : Room) s m args below meth c H locs 0 0 Q (F0 m 4 ls []) := by
    intro k
    induction k with
    | zero =>
      intro i f H locs ls hk hi hf hP hD hS hl
      exfalso
      omega
    | succ k ih_4 =>
      intro i f H locs ls hk hi hf hP hD hS hl
      refine lv_iload_n hx hb d_Ca_countTouching_4 rfl (lv_at hl 3 rfl) ?_
      refine lv_aload_n hx hb d_Ca_countTouching_5 rfl (lv_at hl 0 rfl) ?_
      refine va_get (D := g) (ci := 3) (v := .int (nI cc0)) (C := R_Ca) (T := F_Ca) (N := 4) hx hb hT i_Ca hown hK hP 3 rfl rfl 0 (by decide) (hT _ tw_117) (fun _ h9 => h9) rfl d_Ca_countTouching_6 ?_
      refine my_icmp_ge (tgt := 30) (a := i) (b := cc0) hx hb d_Ca_countTouching_9 (by decide) (by omega) (by omega) (fun c_9 => ?_) (fun c_9 => ?_)
      · -- 9: taken
        refine lv_iload_n hx hb d_Ca_countTouching_30 rfl (lv_at hl 2 rfl) ?_
        refine hret _ _ _ _ _ hP hD hS d_Ca_countTouching_31 ?_
        rw [hf, show i = cc0 by omega]
      · -- 9: not taken
        refine lv_aload_n hx hb d_Ca_countTouching_12 rfl (lv_at hl 0 rfl) ?_
        refine lv_iload_n hx hb d_Ca_countTouching_13 rfl (lv_at hl 3 rfl) ?_
        refine lv_iload_n hx hb d_Ca_countTouching_14 rfl (lv_at hl 1 rfl) ?_
        refine my_V_i (q0 := 3) (ci := 3) (C := R_Ca) (As := [.int (nI i), .int (nI ev)]) (n := 2) (k_Ca_touches l g a rB rT cI cJ cII cJJ nc nv ng kd vo nu nd en br bc un eu li tb cc0 cp cu cd tc ts tf ox ow ob ra rb gc gr gk gg gp gt sa sb i ev (by omega) hp) hx hb hml hown hT hN tw_410 tw_411 tw_412 tw_4 tw_413 (by decide +kernel) rfl rfl ⟨Nat.le_of_ble_eq_true rfl, Nat.le_of_ble_eq_true rfl⟩ ⟨Nat.zero_le _, Nat.zero_le _⟩ hK hP hD hS hA rfl rfl rfl hl rfl (Nat.le_of_ble_eq_true rfl) d_Ca_countTouching_15 (fun H locs hP hD hS => ?_)
        refine my_if_eq_b (tgt := 24) hx hb d_Ca_countTouching_18 (by decide) (fun c_18 => ?_) (fun c_18 => ?_)
        · -- 18: taken
          refine lv_iinc (v := (nI (i + 1))) (lv' := [(3, .int (nI (i + 1))), (0, .ref (a 3)), (1, .int (nI ev)), (2, .int (nI f))]) hx hb d_Ca_countTouching_24 hl (k := 3) rfl (nI_1 i) (by decide) rfl (fun ls hl => ?_)
          refine lv_goto (tgt := 4) hx hb d_Ca_countTouching_27 (by decide) ?_
          refine ih_4 _ _ _ _ _ ?_ ?_ ?_ hP hD hS (lv_sub hl [1, 2, 3, 0] rfl)
          · omega
          · omega
          · rw [hf]; simp at c_18; simp [cT, c_18]
        · -- 18: not taken
          refine lv_iinc (v := (nI (f + 1))) (lv' := [(2, .int (nI (f + 1))), (0, .ref (a 3)), (1, .int (nI ev)), (3, .int (nI i))]) hx hb d_Ca_countTouching_21 hl (k := 2) rfl (nI_1 f) (by decide) rfl (fun ls hl => ?_)
          refine lv_iinc (v := (nI (i + 1))) (lv' := [(3, .int (nI (i + 1))), (2, .int (nI (f + 1))), (0, .ref (a 3)), (1, .int (nI ev))]) hx hb d_Ca_countTouching_24 hl (k := 3) rfl (nI_1 i) (by decide) rfl (fun ls hl => ?_)
          refine lv_goto (tgt := 4) hx hb d_Ca_countTouching_27 (by decide) ?_
          refine ih_4 _ _ _ _ _ ?_ ?_ ?_ hP hD hS (lv_sub hl [2, 3, 1, 0] rfl)
          · omega
          · omega
          · rw [hf]; simp at c_18; simp [cT, c_18]
  refine lp_4 (cc0 + 1) _ _ _ _ _ ?_ ?_ ?_ hP hD hS (lv_sub hl [2, 3, 1, 0] rfl)
  · omega
  · omega
  · rfl
