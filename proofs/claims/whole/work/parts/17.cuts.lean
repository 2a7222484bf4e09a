theorem and_top {s w n : Nat} (hw : w < 2 ^ n) : (s + 2 ^ n) &&& w = s &&& w := by
  apply Nat.eq_of_testBit_eq
  intro i
  rw [Nat.testBit_and, Nat.testBit_and]
  rcases Nat.lt_or_ge i n with h | h
  · rw [Nat.add_comm s, Nat.testBit_two_pow_add_gt h]
  · rw [Nat.testBit_lt_two_pow (Nat.lt_of_lt_of_le hw (Nat.pow_le_pow_right (by decide) h)), Bool.and_false, Bool.and_false]
/-- the next smaller one -/
theorem pd_prev : ∀ (f w k n : Nat), f ≤ n → w < 2 ^ f → k + 1 < 2 ^ popc w f → (pd f w (k + 1) + 2 ^ n - 1) &&& w = pd f w k
  | 0, w, k, n, _, hw, hk => by
    have : 2 ^ popc w 0 = 1 := rfl
    omega
  | f + 1, w, k, n, hn, hw, hk => by
    obtain ⟨n, rfl⟩ : ∃ k, n = k + 1 := ⟨n - 1, by omega⟩
    have hw2 : w / 2 < 2 ^ f := by rw [Nat.pow_succ] at hw; omega
    have hp : w / 2 < 2 ^ n := Nat.lt_of_lt_of_le hw2 (Nat.pow_le_pow_right (by decide) (by omega))
    have e : w = 2 * (w / 2) + w % 2 := by omega
    have hc := popc_2 (w / 2) (w % 2) (by omega) f
    rw [← e] at hc
    rw [hc] at hk
    have c : w % 2 = 0 ∨ w % 2 = 1 := by omega
    have pn : 0 < 2 ^ n := Nat.two_pow_pos n
    rcases c with c | c
    · have d1 : pd (f + 1) w k = 2 * pd f (w / 2) k := by show (if w % 2 = 1 then _ else _) = _; rw [if_neg (by omega)]
      have d2 : pd (f + 1) w (k + 1) = 2 * pd f (w / 2) (k + 1) := by show (if w % 2 = 1 then _ else _) = _; rw [if_neg (by omega)]
      rw [c, Nat.add_zero] at hk
      have ih := pd_prev f (w / 2) k n (by omega) hw2 hk
      have e2 : 2 * pd f (w / 2) (k + 1) + 2 ^ (n + 1) - 1 = 2 * (pd f (w / 2) (k + 1) + 2 ^ n - 1) + 1 := by rw [Nat.pow_succ]; omega
      have h3 := and2 (pd f (w / 2) (k + 1) + 2 ^ n - 1) (w / 2) (show 1 < 2 by omega) (show w % 2 < 2 by omega)
      rw [← e, ← e2, ih, c, Nat.and_zero] at h3
      rw [d1, d2]
      exact h3
    · have d1 : pd (f + 1) w k = 2 * pd f (w / 2) (k / 2) + k % 2 := by show (if w % 2 = 1 then _ else _) = _; rw [if_pos c]
      have d2 : pd (f + 1) w (k + 1) = 2 * pd f (w / 2) ((k + 1) / 2) + (k + 1) % 2 := by show (if w % 2 = 1 then _ else _) = _; rw [if_pos c]
      rw [c, Nat.pow_succ] at hk
      have b : k % 2 = 0 ∨ k % 2 = 1 := by omega
      rcases b with b | b
      · have e2 : 2 * pd f (w / 2) ((k + 1) / 2) + (k + 1) % 2 + 2 ^ (n + 1) - 1 = 2 * (pd f (w / 2) (k / 2) + 2 ^ n) + 0 := by rw [Nat.pow_succ, show (k + 1) / 2 = k / 2 by omega, show (k + 1) % 2 = 1 by omega]; omega
        have h3 := and2 (pd f (w / 2) (k / 2) + 2 ^ n) (w / 2) (show 0 < 2 by omega) (show w % 2 < 2 by omega)
        rw [← e, ← e2, and_top hp, pd_sub f (w / 2) (k / 2) hw2, Nat.zero_and] at h3
        rw [d1, d2, h3, b]
      · have ih := pd_prev f (w / 2) (k / 2) n (by omega) hw2 (by omega)
        have e2 : 2 * pd f (w / 2) ((k + 1) / 2) + (k + 1) % 2 + 2 ^ (n + 1) - 1 = 2 * (pd f (w / 2) (k / 2 + 1) + 2 ^ n - 1) + 1 := by rw [Nat.pow_succ, show (k + 1) / 2 = k / 2 + 1 by omega, show (k + 1) % 2 = 0 by omega]; omega
        have h3 := and2 (pd f (w / 2) (k / 2 + 1) + 2 ^ n - 1) (w / 2) (show 1 < 2 by omega) (show w % 2 < 2 by omega)
        rw [← e, ← e2, ih, c] at h3
        rw [d1, d2, h3, b]
        rfl
theorem pd_top : ∀ f w, w < 2 ^ f → pd f w (2 ^ popc w f - 1) = w
  | 0, w, hw => by
    have : w = 0 := by omega
    subst this
    rfl
  | f + 1, w, hw => by
    have hw2 : w / 2 < 2 ^ f := by rw [Nat.pow_succ] at hw; omega
    have e : w = 2 * (w / 2) + w % 2 := by omega
    have hc := popc_2 (w / 2) (w % 2) (by omega) f
    rw [← e] at hc
    have ih := pd_top f (w / 2) hw2
    have pp : 0 < 2 ^ popc (w / 2) f := Nat.two_pow_pos _
    rw [hc]
    show (if w % 2 = 1 then 2 * pd f (w / 2) ((2 ^ (popc (w / 2) f + w % 2) - 1) / 2) + (2 ^ (popc (w / 2) f + w % 2) - 1) % 2 else 2 * pd f (w / 2) (2 ^ (popc (w / 2) f + w % 2) - 1)) = w
    by_cases c : w % 2 = 1
    · rw [if_pos c, c, Nat.pow_succ, show (2 ^ popc (w / 2) f * 2 - 1) / 2 = 2 ^ popc (w / 2) f - 1 by omega, show (2 ^ popc (w / 2) f * 2 - 1) % 2 = 1 by omega, ih]
      omega
    · rw [if_neg c, show w % 2 = 0 by omega, Nat.add_zero, ih]
      omega
def fdF (tb : Nat → Nat → Int64) (x w : Nat) (tf : Nat → Nat) : Nat → Nat × (Nat → Nat)
  | 0 => (0, tf)
  | i + 1 => if isM tb x (pd 12 w (2 ^ popc w 12 - 1 - i)) = true ∧ (fdF tb x w tf i).1 < 924 then ((fdF tb x w tf i).1 + 1, va_up (fdF tb x w tf i).2 (fdF tb x w tf i).1 (pd 12 w (2 ^ popc w 12 - 1 - i))) else fdF tb x w tf i
def tkF (tf : Nat → Nat) (z : Nat) (s : Nat × (Nat → Nat)) : Nat → Nat × (Nat → Nat)
  | 0 => s
  | i + 1 => if popc (tf i) 12 = z ∧ (tkF tf z s i).1 < 924 then ((tkF tf z s i).1 + 1, va_up (tkF tf z s i).2 (tkF tf z s i).1 (tf i)) else tkF tf z s i
def tlF (tf ts : Nat → Nat) (n : Nat) : Nat → Nat × (Nat → Nat)
  | 0 => (0, ts)
  | z + 1 => tkF tf z (tlF tf ts n z) n
theorem fdF_le (tb : Nat → Nat → Int64) (x w : Nat) (tf : Nat → Nat) : ∀ i, (fdF tb x w tf i).1 ≤ 924
  | 0 => Nat.zero_le _
  | i + 1 => by
    have := fdF_le tb x w tf i
    by_cases c : isM tb x (pd 12 w (2 ^ popc w 12 - 1 - i)) = true ∧ (fdF tb x w tf i).1 < 924
    · rw [show fdF tb x w tf (i + 1) = _ from if_pos c]
      show (fdF tb x w tf i).1 + 1 ≤ 924
      omega
    · rw [show fdF tb x w tf (i + 1) = _ from if_neg c]; exact this
theorem fdF_lt (tb : Nat → Nat → Int64) (x w : Nat) (tf : Nat → Nat) (hw : w < 4096) (h : ∀ j, tf j < 4096) : ∀ i j, (fdF tb x w tf i).2 j < 4096
  | 0 => h
  | i + 1 => by
    have ih := fdF_lt tb x w tf hw h i
    by_cases c : isM tb x (pd 12 w (2 ^ popc w 12 - 1 - i)) = true ∧ (fdF tb x w tf i).1 < 924
    · rw [show fdF tb x w tf (i + 1) = _ from if_pos c]
      exact up_lt ih (pd_lt hw)
    · rw [show fdF tb x w tf (i + 1) = _ from if_neg c]; exact ih
theorem tkF_le (tf : Nat → Nat) (z : Nat) (s : Nat × (Nat → Nat)) (h : s.1 ≤ 924) : ∀ i, (tkF tf z s i).1 ≤ 924
  | 0 => h
  | i + 1 => by
    have := tkF_le tf z s h i
    by_cases c : popc (tf i) 12 = z ∧ (tkF tf z s i).1 < 924
    · rw [show tkF tf z s (i + 1) = _ from if_pos c]
      show (tkF tf z s i).1 + 1 ≤ 924
      omega
    · rw [show tkF tf z s (i + 1) = _ from if_neg c]; exact this
theorem tkF_lt (tf : Nat → Nat) (z : Nat) (s : Nat × (Nat → Nat)) (hf : ∀ j, tf j < 4096) (h : ∀ j, s.2 j < 4096) : ∀ i j, (tkF tf z s i).2 j < 4096
  | 0 => h
  | i + 1 => by
    have ih := tkF_lt tf z s hf h i
    by_cases c : popc (tf i) 12 = z ∧ (tkF tf z s i).1 < 924
    · rw [show tkF tf z s (i + 1) = _ from if_pos c]
      exact up_lt ih (hf i)
    · rw [show tkF tf z s (i + 1) = _ from if_neg c]; exact ih
theorem tlF_le (tf ts : Nat → Nat) (n : Nat) : ∀ z, (tlF tf ts n z).1 ≤ 924
  | 0 => Nat.zero_le _
  | z + 1 => tkF_le tf z _ (tlF_le tf ts n z) n
theorem tlF_lt (tf ts : Nat → Nat) (n : Nat) (hf : ∀ j, tf j < 4096) (h : ∀ j, ts j < 4096) : ∀ z j, (tlF tf ts n z).2 j < 4096
  | 0 => h
  | z + 1 => tkF_lt tf z _ hf (tlF_lt tf ts n hf h z) n
def eiL (s : Nat) : Nat → Nat → Nat → Int32
  | 0, _, _ => -1
  | f + 1, j, lf => if s.testBit (11 - j) = true then (if lf = 0 then nI j else eiL s f (j + 1) (lf - 1)) else eiL s f (j + 1) lf
def eiF (tc : Nat) (ts : Nat → Nat) (i k : Int32) : Int32 := if i < 0 ∨ nI tc ≤ i ∨ k < 0 then -1 else eiL (ts i.toNatClampNeg) 12 0 k.toNatClampNeg
theorem i32nn {x : Int32} {n : Nat} (h0 : ¬ x < 0) (h : ¬ nI n ≤ x) (hn : n < 2 ^ 31) : ∃ j : Nat, j < n ∧ x = nI j := by
  obtain ⟨j, hj, rfl⟩ := nI_of h0
  rw [nI_leI hn hj] at h
  exact ⟨j, by omega, rfl⟩
set_option maxHeartbeats 4000000 in
set_option maxRecDepth 100000 in
theorem k_Cu_clear (l : Launch) (g : va_G) (a rB rT : Nat → Nat) (cI cJ cII cJJ : ClassId) (nc : Nat) (nv : Nat) (ng : Nat) (kd : Nat → Int32) (vo : Nat → Nat) (nu : Nat → Nat) (nd : Nat → Nat) (en : Nat → Nat) (br : Nat → Nat → Nat) (bc : Nat → Nat) (un : Nat → Nat) (eu : Nat → Nat) (li : Nat → Nat) (tb : Nat → Nat → Int64) (cc0 : Nat) (cp : Nat → Nat) (cu : Nat → Nat) (cd : Nat → Nat) (tc : Nat) (ts : Nat → Nat) (tf : Nat → Nat) (ox : Bool) (ow : Nat → Nat) (ob : Nat → Nat) (ra : Nat) (rb : Nat) (gc : Nat) (gr : Nat) (gk : Nat → Nat) (gg : Nat → Nat) (gp : Nat → Nat) (gt : Nat → Nat) (sa : Nat) (sb : Nat)   : ct_v l g vwCl (tyS cI cJ cII cJJ) y_Cu_clear c_Cu_clear 1 none ({ frames := 0, cells := 0, slots := 0, locals := 0 } : Room) [.ref (a 4)] (stW a rB rT cI cJ cII cJJ nc nv ng kd vo nu nd en br bc un eu li tb cc0 cp cu cd tc ts tf ox ow ob ra rb gc gr gk gg gp gt sa sb) (stW a rB rT cI cJ cII cJJ nc nv ng kd vo nu nd en br bc un eu li tb cc0 cp cu cd 0 ts tf ox ow ob ra rb gc gr gk gg gp gt sa sb) := by
  refine ct_v.intro (by decide) (Nat.le_of_ble_eq_true rfl) ?_
  intro p e s m args below meth c Q A ls hx hb hml hT hown hA hK hN hret hP hD hS hl
  have hown : s.vm.findClass R_Cu = some m.cls := hown
  have hl : lv_has ls 1 [(0, .ref (a 4))] := hl
  refine lv_aload_n hx hb d_Cu_clear_0 rfl (lv_at hl 0 rfl) ?_
  refine lv_iconst (v := (nI 0)) hx hb d_Cu_clear_1 (by decide) ?_
  refine va_put (D := g) (ci := 4) (v := .int (nI 0)) (ty := .int) (C := R_Cu) (T := F_Cu) (N := 3) hx hb hT i_Cu t_Cu t_Cu_ok n_Cu hown hK hP hD hS 4 rfl rfl 0 (by decide) (hT _ tw_141) (fun _ h9 => h9) rfl (by decide +kernel) rfl rfl (Nat.le_of_ble_eq_true rfl) d_Cu_clear_2 (fun H locs hP hD hS => ?_)
  have hP : va_P g vwCl (stW a rB rT cI cJ cII cJJ nc nv ng kd vo nu nd en br bc un eu li tb cc0 cp cu cd 0 ts tf ox ow ob ra rb gc gr gk gg gp gt sa sb) H := hP
  have hD : va_D A (stW a rB rT cI cJ cII cJJ nc nv ng kd vo nu nd en br bc un eu li tb cc0 cp cu cd 0 ts tf ox ow ob ra rb gc gr gk gg gp gt sa sb) := hD
  exact hret _ _ _ _ hP hD hS d_Cu_clear_5
set_option maxHeartbeats 4000000 in
set_option maxRecDepth 100000 in
theorem k_Cu_find (l : Launch) (g : va_G) (a rB rT : Nat → Nat) (cI cJ cII cJJ : ClassId) (nc : Nat) (nv : Nat) (ng : Nat) (kd : Nat → Int32) (vo : Nat → Nat) (nu : Nat → Nat) (nd : Nat → Nat) (en : Nat → Nat) (br : Nat → Nat → Nat) (bc : Nat → Nat) (un : Nat → Nat) (eu : Nat → Nat) (li : Nat → Nat) (tb : Nat → Nat → Int64) (cc0 : Nat) (cp : Nat → Nat) (cu : Nat → Nat) (cd : Nat → Nat) (tc : Nat) (ts : Nat → Nat) (tf : Nat → Nat) (ox : Bool) (ow : Nat → Nat) (ob : Nat → Nat) (ra : Nat) (rb : Nat) (gc : Nat) (gr : Nat) (gk : Nat → Nat) (gg : Nat → Nat) (gp : Nat → Nat) (gt : Nat → Nat) (sa : Nat) (sb : Nat) (x : Nat) (w : Nat) (hx1 : x ≤ 32) (hw : w < 4096) : ct_i l g vwCl (tyS cI cJ cII cJJ) y_Cu_find c_Cu_find 8 (some .int) ({ frames := 2, cells := 0, slots := 0, locals := 46 } : Room) [.ref (a 4), .ref (a 2), .int (nI x), .int (nI w)] (stW a rB rT cI cJ cII cJJ nc nv ng kd vo nu nd en br bc un eu li tb cc0 cp cu cd tc ts tf ox ow ob ra rb gc gr gk gg gp gt sa sb) (stW a rB rT cI cJ cII cJJ nc nv ng kd vo nu nd en br bc un eu li tb cc0 cp cu cd tc ts ((fdF tb x w tf (2 ^ popc w 12)).2) ox ow ob ra rb gc gr gk gg gp gt sa sb) (nI ((fdF tb x w tf (2 ^ popc w 12)).1)) := by
  refine ct_i.intro (by decide) (Nat.le_of_ble_eq_true rfl) ?_
  intro p e s m args below meth c Q A ls hx hb hml hT hown hA hK hN hret hP hD hS hl
  have hown : s.vm.findClass R_Cu = some m.cls := hown
  have hl : lv_has ls 8 [(0, .ref (a 4)), (1, .ref (a 2)), (2, .int (nI x)), (3, .int (nI w))] := hl
  have q1 := pop12 w
  have q0 : 0 < 2 ^ popc w 12 := Nat.two_pow_pos _
  refine lv_iconst (v := (nI 0)) hx hb d_Cu_find_0 (by decide) ?_
  refine lv_istore (lv' := [(4, .int (nI 0)), (0, .ref (a 4)), (1, .ref (a 2)), (2, .int (nI x)), (3, .int (nI w))]) hx hb d_Cu_find_1 hl (by decide) rfl (fun ls hl => ?_)
  refine lv_iload_n hx hb d_Cu_find_3 rfl (lv_at hl 4 rfl) ?_
  refine my_SN_i (As := [.int (nI w)]) (n := 1) (k_ST_countOfSets l g vwCl (tyS cI cJ cII cJJ) (stW a rB rT cI cJ cII cJJ nc nv ng kd vo nu nd en br bc un eu li tb cc0 cp cu cd tc ts tf ox ow ob ra rb gc gr gk gg gp gt sa sb) w (by omega)) hx hb hml hown hT hN tw_373 tw_315 tw_1 tw_316 (by decide +kernel) rfl rfl ⟨Nat.le_of_ble_eq_true rfl, Nat.le_of_ble_eq_true rfl⟩ ⟨Nat.zero_le _, Nat.zero_le _⟩ hK hP hD hS hA rfl hl rfl (Nat.le_of_ble_eq_true rfl) d_Cu_find_4 (fun H locs hP hD hS => ?_)
  refine lv_istore (lv' := [(5, .int (nI (2 ^ popc w 12))), (4, .int (nI 0)), (0, .ref (a 4)), (1, .ref (a 2)), (2, .int (nI x)), (3, .int (nI w))]) hx hb d_Cu_find_7 hl (by decide) rfl (fun ls hl => ?_)
  refine lv_iload_n hx hb d_Cu_find_9 rfl (lv_at hl 5 rfl) ?_
  refine lv_istore (lv' := [(6, .int (nI w)), (5, .int (nI (2 ^ popc w 12))), (4, .int (nI 0)), (0, .ref (a 4)), (1, .ref (a 2)), (2, .int (nI x)), (3, .int (nI w))]) hx hb d_Cu_find_10 hl (by decide) rfl (fun ls hl => ?_)
  refine lv_iconst (v := (nI 0)) hx hb d_Cu_find_12 (by decide) ?_
  refine lv_istore (lv' := [(7, .int (nI 0)), (6, .int (nI w)), (5, .int (nI (2 ^ popc w 12))), (4, .int (nI 0)), (0, .ref (a 4)), (1, .ref (a 2)), (2, .int (nI x)), (3, .int (nI w))]) hx hb d_Cu_find_13 hl (by decide) rfl (fun ls hl => ?_)
  have lp_15 : ∀ (k : Nat) (i : Nat) (v : Nat) (n : Nat) (q : Nat → Nat) (H : Heap) (locs : List Loc) (ls : Array Slot), (2 ^ popc w 12 < i + k) → (i ≤ 2 ^ popc w 12) → (v < 4096) → (i < 2 ^ popc w 12 → v = pd 12 w (2 ^ popc w 12 - 1 - i)) → (n ≤ 924) → ((n, q) = fdF tb x w tf i) → va_P g vwCl (stW a rB rT cI cJ cII cJJ nc nv ng kd vo nu nd en br bc un eu li tb cc0 cp cu cd tc ts q ox ow ob ra rb gc gr gk gg gp gt sa sb) H → va_D A (stW a rB rT cI cJ cII cJJ nc nv ng kd vo nu nd en br bc un eu li tb cc0 cp cu cd tc ts q ox ow ob ra rb gc gr gk gg gp gt sa sb) → va_S A s.heap H locs → lv_has ls 8 [(0, .ref (a 4)), (1, .ref (a 2)), (2, .int (nI x)), (3, .int (nI w)), (4, .int (nI n)), (5, .int (nI (2 ^ popc w 12))), (6, .int (nI v)), (7, .int (nI i))] → W p l e ({ frames := 2, cells := 0, slots := 0, locals := 46 } : Room) s m args below meth c H locs 0 0 Q (F0 m 15 ls []) := by
    intro k
    induction k with
    | zero =>
      intro i v n q H locs ls hk hi hv hp hn hf hP hD hS hl
      exfalso
      omega
    | succ k ih_15 =>
      intro i v n q H locs ls hk hi hv hp hn hf hP hD hS hl
      refine lv_iload hx hb d_Cu_find_15 (lv_at hl 7 rfl) ?_
      refine lv_iload hx hb d_Cu_find_17 (lv_at hl 5 rfl) ?_
      refine my_icmp_ge (tgt := 66) (a := i) (b := 2 ^ popc w 12) hx hb d_Cu_find_19 (by decide) (by omega) (by omega) (fun c_19 => ?_) (fun c_19 => ?_)
      · -- 19: taken
        have e0 : i = 2 ^ popc w 12 := by omega
        subst e0
        have e1 : (fdF tb x w tf (2 ^ popc w 12)).1 = n := by rw [← hf]
        have e2 : (fdF tb x w tf (2 ^ popc w 12)).2 = q := by rw [← hf]
        rw [← e2] at hP hD
        refine lv_iload hx hb d_Cu_find_66 (lv_at hl 4 rfl) ?_
        refine hret _ _ _ _ _ hP hD hS d_Cu_find_68 ?_
        rw [e1]
      · -- 19: not taken
        refine lv_aload_n hx hb d_Cu_find_22 rfl (lv_at hl 1 rfl) ?_
        refine lv_iload_n hx hb d_Cu_find_23 rfl (lv_at hl 2 rfl) ?_
        refine lv_iload hx hb d_Cu_find_24 (lv_at hl 6 rfl) ?_
        refine my_V_i (q0 := 2) (ci := 2) (C := R_Tr) (As := [.int (nI x), .int (nI v)]) (n := 2) (k_Tr_isMinimal l g a rB rT cI cJ cII cJJ nc nv ng kd vo nu nd en br bc un eu li tb cc0 cp cu cd tc ts q ox ow ob ra rb gc gr gk gg gp gt sa sb x v (by omega) (by omega)) hx hb hml hown hT hN tw_374 tw_375 tw_376 tw_3 tw_377 (by decide +kernel) rfl rfl ⟨Nat.le_of_ble_eq_true rfl, Nat.le_of_ble_eq_true rfl⟩ ⟨Nat.zero_le _, Nat.zero_le _⟩ hK hP hD hS hA rfl rfl rfl hl rfl (Nat.le_of_ble_eq_true rfl) d_Cu_find_26 (fun H locs hP hD hS => ?_)
        refine my_if_eq_b (tgt := 52) hx hb d_Cu_find_29 (by decide) (fun c_29 => ?_) (fun c_29 => ?_)
        · -- 29: taken
          refine lv_iload hx hb d_Cu_find_52 (lv_at hl 6 rfl) ?_
          refine lv_iconst (v := (nI 1)) hx hb d_Cu_find_54 (by decide) ?_
          refine lv_isub hx hb d_Cu_find_55 ?_
          refine my_ei (nxS (by omega)) ?_
          refine lv_iload_n hx hb d_Cu_find_56 rfl (lv_at hl 3 rfl) ?_
          refine lv_iand hx hb d_Cu_find_57 ?_
          refine my_ei (nx_and (v + 2 ^ 32 - 1) w) ?_
          refine lv_istore (lv' := [(6, .int (nI ((v + 2 ^ 32 - 1) &&& w))), (0, .ref (a 4)), (1, .ref (a 2)), (2, .int (nI x)), (3, .int (nI w)), (4, .int (nI n)), (5, .int (nI (2 ^ popc w 12))), (7, .int (nI i))]) hx hb d_Cu_find_58 hl (by decide) rfl (fun ls hl => ?_)
          refine lv_iinc (v := (nI (i + 1))) (lv' := [(7, .int (nI (i + 1))), (6, .int (nI ((v + 2 ^ 32 - 1) &&& w))), (0, .ref (a 4)), (1, .ref (a 2)), (2, .int (nI x)), (3, .int (nI w)), (4, .int (nI n)), (5, .int (nI (2 ^ popc w 12)))]) hx hb d_Cu_find_60 hl (k := 7) rfl (nI_1 i) (by decide) rfl (fun ls hl => ?_)
          refine lv_goto (tgt := 15) hx hb d_Cu_find_63 (by decide) ?_
          refine ih_15 _ _ _ _ _ _ _ ?_ ?_ ?_ ?_ ?_ ?_ hP hD hS (lv_sub hl [2, 3, 4, 5, 6, 7, 1, 0] rfl)
          · omega
          · omega
          · exact Nat.lt_of_le_of_lt Nat.and_le_right hw
          · intro h
            rw [hp (by omega), show 2 ^ popc w 12 - 1 - i = (2 ^ popc w 12 - 1 - (i + 1)) + 1 by omega]
            exact pd_prev 12 w _ 32 (by omega) hw (by omega)
          · omega
          · have e1 : (fdF tb x w tf i).1 = n := by rw [← hf]
            have e2 : (fdF tb x w tf i).2 = q := by rw [← hf]
            have e3 := hp (by omega)
            refine Eq.trans hf (if_neg (fun hh => ?_)).symm
            rw [← e3, c_29] at hh; exact absurd hh.1 (by decide)
        · -- 29: not taken
          refine lv_iload hx hb d_Cu_find_32 (lv_at hl 4 rfl) ?_
          refine lv_sipush (v := (nI 924)) hx hb d_Cu_find_34 (by decide) ?_
          refine my_icmp_ge (tgt := 52) (a := n) (b := 924) hx hb d_Cu_find_37 (by decide) (by omega) (by omega) (fun c_37 => ?_) (fun c_37 => ?_)
          · -- 37: taken
            refine lv_iload hx hb d_Cu_find_52 (lv_at hl 6 rfl) ?_
            refine lv_iconst (v := (nI 1)) hx hb d_Cu_find_54 (by decide) ?_
            refine lv_isub hx hb d_Cu_find_55 ?_
            refine my_ei (nxS (by omega)) ?_
            refine lv_iload_n hx hb d_Cu_find_56 rfl (lv_at hl 3 rfl) ?_
            refine lv_iand hx hb d_Cu_find_57 ?_
            refine my_ei (nx_and (v + 2 ^ 32 - 1) w) ?_
            refine lv_istore (lv' := [(6, .int (nI ((v + 2 ^ 32 - 1) &&& w))), (0, .ref (a 4)), (1, .ref (a 2)), (2, .int (nI x)), (3, .int (nI w)), (4, .int (nI n)), (5, .int (nI (2 ^ popc w 12))), (7, .int (nI i))]) hx hb d_Cu_find_58 hl (by decide) rfl (fun ls hl => ?_)
            refine lv_iinc (v := (nI (i + 1))) (lv' := [(7, .int (nI (i + 1))), (6, .int (nI ((v + 2 ^ 32 - 1) &&& w))), (0, .ref (a 4)), (1, .ref (a 2)), (2, .int (nI x)), (3, .int (nI w)), (4, .int (nI n)), (5, .int (nI (2 ^ popc w 12)))]) hx hb d_Cu_find_60 hl (k := 7) rfl (nI_1 i) (by decide) rfl (fun ls hl => ?_)
            refine lv_goto (tgt := 15) hx hb d_Cu_find_63 (by decide) ?_
            refine ih_15 _ _ _ _ _ _ _ ?_ ?_ ?_ ?_ ?_ ?_ hP hD hS (lv_sub hl [2, 3, 4, 5, 6, 7, 1, 0] rfl)
            · omega
            · omega
            · exact Nat.lt_of_le_of_lt Nat.and_le_right hw
            · intro h
              rw [hp (by omega), show 2 ^ popc w 12 - 1 - i = (2 ^ popc w 12 - 1 - (i + 1)) + 1 by omega]
              exact pd_prev 12 w _ 32 (by omega) hw (by omega)
            · omega
            · have e1 : (fdF tb x w tf i).1 = n := by rw [← hf]
              have e2 : (fdF tb x w tf i).2 = q := by rw [← hf]
              have e3 := hp (by omega)
              refine Eq.trans hf (if_neg (fun hh => ?_)).symm
              omega
          · -- 37: not taken
            refine lv_aload_n hx hb d_Cu_find_40 rfl (lv_at hl 0 rfl) ?_
            refine va_get (D := g) (ci := 4) (v := .ref (a 24)) (C := R_Cu) (T := F_Cu) (N := 3) hx hb hT i_Cu hown hK hP 4 rfl rfl 2 (by decide) (hT _ tw_143) (fun _ h9 => h9) rfl d_Cu_find_41 ?_
            refine lv_iload hx hb d_Cu_find_44 (lv_at hl 4 rfl) ?_
            refine lv_iload hx hb d_Cu_find_46 (lv_at hl 6 rfl) ?_
            refine my_iast (i := n) hx hb hK hP hD hS 24 0 rfl rfl (by omega) (by decide) (my_upN _ _ _) (w' := (stW a rB rT cI cJ cII cJJ nc nv ng kd vo nu nd en br bc un eu li tb cc0 cp cu cd tc ts (va_up q n v) ox ow ob ra rb gc gr gk gg gp gt sa sb)) rfl d_Cu_find_48 (fun H locs hP hD hS => ?_)
            refine lv_iinc (v := (nI (n + 1))) (lv' := [(4, .int (nI (n + 1))), (0, .ref (a 4)), (1, .ref (a 2)), (2, .int (nI x)), (3, .int (nI w)), (5, .int (nI (2 ^ popc w 12))), (6, .int (nI v)), (7, .int (nI i))]) hx hb d_Cu_find_49 hl (k := 4) rfl (nI_1 n) (by decide) rfl (fun ls hl => ?_)
            refine lv_iload hx hb d_Cu_find_52 (lv_at hl 6 rfl) ?_
            refine lv_iconst (v := (nI 1)) hx hb d_Cu_find_54 (by decide) ?_
            refine lv_isub hx hb d_Cu_find_55 ?_
            refine my_ei (nxS (by omega)) ?_
            refine lv_iload_n hx hb d_Cu_find_56 rfl (lv_at hl 4 rfl) ?_
            refine lv_iand hx hb d_Cu_find_57 ?_
            refine my_ei (nx_and (v + 2 ^ 32 - 1) w) ?_
            refine lv_istore (lv' := [(6, .int (nI ((v + 2 ^ 32 - 1) &&& w))), (4, .int (nI (n + 1))), (0, .ref (a 4)), (1, .ref (a 2)), (2, .int (nI x)), (3, .int (nI w)), (5, .int (nI (2 ^ popc w 12))), (7, .int (nI i))]) hx hb d_Cu_find_58 hl (by decide) rfl (fun ls hl => ?_)
            refine lv_iinc (v := (nI (i + 1))) (lv' := [(7, .int (nI (i + 1))), (6, .int (nI ((v + 2 ^ 32 - 1) &&& w))), (4, .int (nI (n + 1))), (0, .ref (a 4)), (1, .ref (a 2)), (2, .int (nI x)), (3, .int (nI w)), (5, .int (nI (2 ^ popc w 12)))]) hx hb d_Cu_find_60 hl (k := 7) rfl (nI_1 i) (by decide) rfl (fun ls hl => ?_)
            refine lv_goto (tgt := 15) hx hb d_Cu_find_63 (by decide) ?_
            refine ih_15 _ _ _ _ _ _ _ ?_ ?_ ?_ ?_ ?_ ?_ hP hD hS (lv_sub hl [3, 4, 5, 6, 2, 7, 1, 0] rfl)
            · omega
            · omega
            · exact Nat.lt_of_le_of_lt Nat.and_le_right hw
            · intro h
              rw [hp (by omega), show 2 ^ popc w 12 - 1 - i = (2 ^ popc w 12 - 1 - (i + 1)) + 1 by omega]
              exact pd_prev 12 w _ 32 (by omega) hw (by omega)
            · omega
            · have e1 : (fdF tb x w tf i).1 = n := by rw [← hf]
              have e2 : (fdF tb x w tf i).2 = q := by rw [← hf]
              have e3 := hp (by omega)
              refine Eq.trans ?_ (if_pos ⟨by rw [← e3]; exact c_29, by omega⟩).symm
              rw [e1, e2, e3]
  refine lp_15 (2 ^ popc w 12 + 1) _ _ _ _ _ _ _ ?_ ?_ ?_ ?_ ?_ ?_ hP hD hS (lv_sub hl [4, 5, 6, 7, 3, 2, 1, 0] rfl)
  · omega
  · omega
  · exact hw
  · intro _; exact (pd_top 12 w hw).symm
  · omega
  · rfl
set_option maxHeartbeats 4000000 in
set_option maxRecDepth 100000 in
theorem k_Cu_takeOfSize (l : Launch) (g : va_G) (a rB rT : Nat → Nat) (cI cJ cII cJJ : ClassId) (nc : Nat) (nv : Nat) (ng : Nat) (kd : Nat → Int32) (vo : Nat → Nat) (nu : Nat → Nat) (nd : Nat → Nat) (en : Nat → Nat) (br : Nat → Nat → Nat) (bc : Nat → Nat) (un : Nat → Nat) (eu : Nat → Nat) (li : Nat → Nat) (tb : Nat → Nat → Int64) (cc0 : Nat) (cp : Nat → Nat) (cu : Nat → Nat) (cd : Nat → Nat) (tc : Nat) (ts : Nat → Nat) (tf : Nat → Nat) (ox : Bool) (ow : Nat → Nat) (ob : Nat → Nat) (ra : Nat) (rb : Nat) (gc : Nat) (gr : Nat) (gk : Nat → Nat) (gg : Nat → Nat) (gp : Nat → Nat) (gt : Nat → Nat) (sa : Nat) (sb : Nat) (z : Nat) (n : Nat) (hz : z ≤ 12) (hn : n ≤ 924) (htc : tc ≤ 924) (htf : ∀ j, tf j < 4096) : ct_v l g vwCl (tyS cI cJ cII cJJ) y_Cu_takeOfSize c_Cu_takeOfSize 4 none ({ frames := 1, cells := 0, slots := 0, locals := 20 } : Room) [.ref (a 4), .int (nI z), .int (nI n)] (stW a rB rT cI cJ cII cJJ nc nv ng kd vo nu nd en br bc un eu li tb cc0 cp cu cd tc ts tf ox ow ob ra rb gc gr gk gg gp gt sa sb) (stW a rB rT cI cJ cII cJJ nc nv ng kd vo nu nd en br bc un eu li tb cc0 cp cu cd ((tkF tf z (tc, ts) n).1) ((tkF tf z (tc, ts) n).2) tf ox ow ob ra rb gc gr gk gg gp gt sa sb) := by
  refine ct_v.intro (by decide) (Nat.le_of_ble_eq_true rfl) ?_
  intro p e s m args below meth c Q A ls hx hb hml hT hown hA hK hN hret hP hD hS hl
  have hown : s.vm.findClass R_Cu = some m.cls := hown
  have hl : lv_has ls 4 [(0, .ref (a 4)), (1, .int (nI z)), (2, .int (nI n))] := hl
  refine lv_iconst (v := (nI 0)) hx hb d_Cu_takeOfSize_0 (by decide) ?_
  refine lv_istore_n (lv' := [(3, .int (nI 0)), (0, .ref (a 4)), (1, .int (nI z)), (2, .int (nI n))]) hx hb d_Cu_takeOfSize_1 rfl hl (by decide) rfl (fun ls hl => ?_)
  have lp_2 : ∀ (k : Nat) (i : Nat) (u : Nat) (q : Nat → Nat) (H : Heap) (locs : List Loc) (ls : Array Slot), (n < i + k) → (i ≤ n) → (u ≤ 924) → ((u, q) = (tkF tf z (tc, ts) i)) → va_P g vwCl (stW a rB rT cI cJ cII cJJ nc nv ng kd vo nu nd en br bc un eu li tb cc0 cp cu cd u q tf ox ow ob ra rb gc gr gk gg gp gt sa sb) H → va_D A (stW a rB rT cI cJ cII cJJ nc nv ng kd vo nu nd en br bc un eu li tb cc0 cp cu cd u q tf ox ow ob ra rb gc gr gk gg gp gt sa sb) → va_S A s.heap H locs → lv_has ls 4 [(0, .ref (a 4)), (1, .int (nI z)), (2, .int (nI n)), (3, .int (nI i))] → W p l e ({ frames := 1, cells := 0, slots := 0, locals := 20 } : Room) s m args below meth c H locs 0 0 Q (F0 m 2 ls []) := by
    intro k
    induction k with
    | zero =>
      intro i u q H locs ls hk hi hu hf hP hD hS hl
      exfalso
      omega
    | succ k ih_2 =>
      intro i u q H locs ls hk hi hu hf hP hD hS hl
      refine lv_iload_n hx hb d_Cu_takeOfSize_2 rfl (lv_at hl 3 rfl) ?_
      refine lv_iload_n hx hb d_Cu_takeOfSize_3 rfl (lv_at hl 2 rfl) ?_
      refine my_icmp_ge (tgt := 61) (a := i) (b := n) hx hb d_Cu_takeOfSize_4 (by decide) (by omega) (by omega) (fun c_4 => ?_) (fun c_4 => ?_)
      · -- 4: taken
        have e0 : i = n := by omega
        subst e0
        have e1 : (tkF tf z (tc, ts) i).1 = u := by rw [← hf]
        have e2 : (tkF tf z (tc, ts) i).2 = q := by rw [← hf]
        rw [← e1, ← e2] at hP hD
        exact hret _ _ _ _ hP hD hS d_Cu_takeOfSize_61
      · -- 4: not taken
        refine lv_aload_n hx hb d_Cu_takeOfSize_7 rfl (lv_at hl 0 rfl) ?_
        refine va_get (D := g) (ci := 4) (v := .ref (a 24)) (C := R_Cu) (T := F_Cu) (N := 3) hx hb hT i_Cu hown hK hP 4 rfl rfl 2 (by decide) (hT _ tw_143) (fun _ h9 => h9) rfl d_Cu_takeOfSize_8 ?_
        refine lv_iload_n hx hb d_Cu_takeOfSize_11 rfl (lv_at hl 3 rfl) ?_
        refine my_iald (v := (nI (tf i))) (i := i) hx hb hK hP 24 0 rfl rfl (by omega) (by decide) rfl d_Cu_takeOfSize_12 ?_
        refine my_S_i (As := [.int (nI (tf i))]) (n := 1) (k_Ji_bitCount l g vwCl (tyS cI cJ cII cJJ) (stW a rB rT cI cJ cII cJJ nc nv ng kd vo nu nd en br bc un eu li tb cc0 cp cu cd u q tf ox ow ob ra rb gc gr gk gg gp gt sa sb) (tf i) (htf i)) hx hb hml hown hT hN tw_386 tw_318 tw_10 tw_319 (by decide +kernel) rfl rfl ⟨Nat.le_of_ble_eq_true rfl, Nat.le_of_ble_eq_true rfl⟩ ⟨Nat.zero_le _, Nat.zero_le _⟩ hK hP hD hS hA rfl hl rfl (Nat.le_of_ble_eq_true rfl) d_Cu_takeOfSize_13 (fun H locs hP hD hS => ?_)
        refine lv_iload_n hx hb d_Cu_takeOfSize_16 rfl (lv_at hl 1 rfl) ?_
        have q1 := popc_le (tf i) 12
        refine my_icmp_ne (tgt := 55) (a := popc (tf i) 12) (b := z) hx hb d_Cu_takeOfSize_17 (by decide) (by omega) (by omega) (fun c_17 => ?_) (fun c_17 => ?_)
        · -- 17: taken
          refine lv_iinc (v := (nI (i + 1))) (lv' := [(3, .int (nI (i + 1))), (0, .ref (a 4)), (1, .int (nI z)), (2, .int (nI n))]) hx hb d_Cu_takeOfSize_55 hl (k := 3) rfl (nI_1 i) (by decide) rfl (fun ls hl => ?_)
          refine lv_goto (tgt := 2) hx hb d_Cu_takeOfSize_58 (by decide) ?_
          refine ih_2 _ _ _ _ _ _ ?_ ?_ ?_ ?_ hP hD hS (lv_sub hl [1, 2, 3, 0] rfl)
          · omega
          · omega
          · omega
          · have e1 : (tkF tf z (tc, ts) i).1 = u := by rw [← hf]
            have e2 : (tkF tf z (tc, ts) i).2 = q := by rw [← hf]
            refine Eq.trans hf (if_neg (fun hh => ?_)).symm
            omega
        · -- 17: not taken
          refine lv_aload_n hx hb d_Cu_takeOfSize_20 rfl (lv_at hl 0 rfl) ?_
          refine va_get (D := g) (ci := 4) (v := .int (nI u)) (C := R_Cu) (T := F_Cu) (N := 3) hx hb hT i_Cu hown hK hP 4 rfl rfl 0 (by decide) (hT _ tw_141) (fun _ h9 => h9) rfl d_Cu_takeOfSize_21 ?_
          refine lv_sipush (v := (nI 924)) hx hb d_Cu_takeOfSize_24 (by decide) ?_
          refine my_icmp_ge (tgt := 55) (a := u) (b := 924) hx hb d_Cu_takeOfSize_27 (by decide) (by omega) (by omega) (fun c_27 => ?_) (fun c_27 => ?_)
          · -- 27: taken
            refine lv_iinc (v := (nI (i + 1))) (lv' := [(3, .int (nI (i + 1))), (0, .ref (a 4)), (1, .int (nI z)), (2, .int (nI n))]) hx hb d_Cu_takeOfSize_55 hl (k := 3) rfl (nI_1 i) (by decide) rfl (fun ls hl => ?_)
            refine lv_goto (tgt := 2) hx hb d_Cu_takeOfSize_58 (by decide) ?_
            refine ih_2 _ _ _ _ _ _ ?_ ?_ ?_ ?_ hP hD hS (lv_sub hl [1, 2, 3, 0] rfl)
            · omega
            · omega
            · omega
            · have e1 : (tkF tf z (tc, ts) i).1 = u := by rw [← hf]
              have e2 : (tkF tf z (tc, ts) i).2 = q := by rw [← hf]
              refine Eq.trans hf (if_neg (fun hh => ?_)).symm
              omega
          · -- 27: not taken
            refine lv_aload_n hx hb d_Cu_takeOfSize_30 rfl (lv_at hl 0 rfl) ?_
            refine va_get (D := g) (ci := 4) (v := .ref (a 23)) (C := R_Cu) (T := F_Cu) (N := 3) hx hb hT i_Cu hown hK hP 4 rfl rfl 1 (by decide) (hT _ tw_142) (fun _ h9 => h9) rfl d_Cu_takeOfSize_31 ?_
            refine lv_aload_n hx hb d_Cu_takeOfSize_34 rfl (lv_at hl 0 rfl) ?_
            refine va_get (D := g) (ci := 4) (v := .int (nI u)) (C := R_Cu) (T := F_Cu) (N := 3) hx hb hT i_Cu hown hK hP 4 rfl rfl 0 (by decide) (hT _ tw_141) (fun _ h9 => h9) rfl d_Cu_takeOfSize_35 ?_
            refine lv_aload_n hx hb d_Cu_takeOfSize_38 rfl (lv_at hl 0 rfl) ?_
            refine va_get (D := g) (ci := 4) (v := .ref (a 24)) (C := R_Cu) (T := F_Cu) (N := 3) hx hb hT i_Cu hown hK hP 4 rfl rfl 2 (by decide) (hT _ tw_143) (fun _ h9 => h9) rfl d_Cu_takeOfSize_39 ?_
            refine lv_iload_n hx hb d_Cu_takeOfSize_42 rfl (lv_at hl 3 rfl) ?_
            refine my_iald (v := (nI (tf i))) (i := i) hx hb hK hP 24 0 rfl rfl (by omega) (by decide) rfl d_Cu_takeOfSize_43 ?_
            refine my_iast (i := u) hx hb hK hP hD hS 23 0 rfl rfl (by omega) (by decide) (my_upN _ _ _) (w' := (stW a rB rT cI cJ cII cJJ nc nv ng kd vo nu nd en br bc un eu li tb cc0 cp cu cd u (va_up q u (tf i)) tf ox ow ob ra rb gc gr gk gg gp gt sa sb)) rfl d_Cu_takeOfSize_44 (fun H locs hP hD hS => ?_)
            refine lv_aload_n hx hb d_Cu_takeOfSize_45 rfl (lv_at hl 0 rfl) ?_
            refine lv_dup hx hb d_Cu_takeOfSize_46 rfl ?_
            refine va_get (D := g) (ci := 4) (v := .int (nI u)) (C := R_Cu) (T := F_Cu) (N := 3) hx hb hT i_Cu hown hK hP 4 rfl rfl 0 (by decide) (hT _ tw_141) (fun _ h9 => h9) rfl d_Cu_takeOfSize_47 ?_
            refine lv_iconst (v := (nI 1)) hx hb d_Cu_takeOfSize_50 (by decide) ?_
            refine lv_iadd hx hb d_Cu_takeOfSize_51 ?_
            refine my_ei (nI_add u 1) ?_
            refine va_put (D := g) (ci := 4) (v := .int (nI (u + 1))) (ty := .int) (C := R_Cu) (T := F_Cu) (N := 3) hx hb hT i_Cu t_Cu t_Cu_ok n_Cu hown hK hP hD hS 4 rfl rfl 0 (by decide) (hT _ tw_141) (fun _ h9 => h9) rfl (by decide +kernel) rfl rfl (Nat.le_of_ble_eq_true rfl) d_Cu_takeOfSize_52 (fun H locs hP hD hS => ?_)
            have hP : va_P g vwCl (stW a rB rT cI cJ cII cJJ nc nv ng kd vo nu nd en br bc un eu li tb cc0 cp cu cd (u + 1) (va_up q u (tf i)) tf ox ow ob ra rb gc gr gk gg gp gt sa sb) H := hP
            have hD : va_D A (stW a rB rT cI cJ cII cJJ nc nv ng kd vo nu nd en br bc un eu li tb cc0 cp cu cd (u + 1) (va_up q u (tf i)) tf ox ow ob ra rb gc gr gk gg gp gt sa sb) := hD
            refine lv_iinc (v := (nI (i + 1))) (lv' := [(3, .int (nI (i + 1))), (0, .ref (a 4)), (1, .int (nI z)), (2, .int (nI n))]) hx hb d_Cu_takeOfSize_55 hl (k := 3) rfl (nI_1 i) (by decide) rfl (fun ls hl => ?_)
            refine lv_goto (tgt := 2) hx hb d_Cu_takeOfSize_58 (by decide) ?_
            refine ih_2 _ _ _ _ _ _ ?_ ?_ ?_ ?_ hP hD hS (lv_sub hl [1, 2, 3, 0] rfl)
            · omega
            · omega
            · omega
            · have e1 : (tkF tf z (tc, ts) i).1 = u := by rw [← hf]
              have e2 : (tkF tf z (tc, ts) i).2 = q := by rw [← hf]
              refine Eq.trans ?_ (if_pos ⟨c_17, by omega⟩).symm
              rw [e1, e2]
  refine lp_2 (n + 1) _ _ _ _ _ _ ?_ ?_ ?_ ?_ hP hD hS (lv_sub hl [1, 2, 3, 0] rfl)
  · omega
  · omega
  · exact htc
  · rfl
set_option maxHeartbeats 4000000 in
set_option maxRecDepth 100000 in
theorem k_Cu_tell (l : Launch) (g : va_G) (a rB rT : Nat → Nat) (cI cJ cII cJJ : ClassId) (nc : Nat) (nv : Nat) (ng : Nat) (kd : Nat → Int32) (vo : Nat → Nat) (nu : Nat → Nat) (nd : Nat → Nat) (en : Nat → Nat) (br : Nat → Nat → Nat) (bc : Nat → Nat) (un : Nat → Nat) (eu : Nat → Nat) (li : Nat → Nat) (tb : Nat → Nat → Int64) (cc0 : Nat) (cp : Nat → Nat) (cu : Nat → Nat) (cd : Nat → Nat) (tc : Nat) (ts : Nat → Nat) (tf : Nat → Nat) (ox : Bool) (ow : Nat → Nat) (ob : Nat → Nat) (ra : Nat) (rb : Nat) (gc : Nat) (gr : Nat) (gk : Nat → Nat) (gg : Nat → Nat) (gp : Nat → Nat) (gt : Nat → Nat) (sa : Nat) (sb : Nat) (x : Nat) (w : Nat) (hx1 : x ≤ 32) (hw : w < 4096) (htf : ∀ j, tf j < 4096) : ct_i l g vwCl (tyS cI cJ cII cJJ) y_Cu_tell c_Cu_tell 6 (some .int) ({ frames := 3, cells := 0, slots := 0, locals := 73 } : Room) [.ref (a 4), .ref (a 2), .int (nI x), .int (nI w)] (stW a rB rT cI cJ cII cJJ nc nv ng kd vo nu nd en br bc un eu li tb cc0 cp cu cd tc ts tf ox ow ob ra rb gc gr gk gg gp gt sa sb) (stW a rB rT cI cJ cII cJJ nc nv ng kd vo nu nd en br bc un eu li tb cc0 cp cu cd ((tlF (fdF tb x w tf (2 ^ popc w 12)).2 ts (fdF tb x w tf (2 ^ popc w 12)).1 13).1) ((tlF (fdF tb x w tf (2 ^ popc w 12)).2 ts (fdF tb x w tf (2 ^ popc w 12)).1 13).2) ((fdF tb x w tf (2 ^ popc w 12)).2) ox ow ob ra rb gc gr gk gg gp gt sa sb) (nI ((tlF (fdF tb x w tf (2 ^ popc w 12)).2 ts (fdF tb x w tf (2 ^ popc w 12)).1 13).1)) := by
  refine ct_i.intro (by decide) (Nat.le_of_ble_eq_true rfl) ?_
  intro p e s m args below meth c Q A ls hx hb hml hT hown hA hK hN hret hP hD hS hl
  have hown : s.vm.findClass R_Cu = some m.cls := hown
  have hl : lv_has ls 6 [(0, .ref (a 4)), (1, .ref (a 2)), (2, .int (nI x)), (3, .int (nI w))] := hl
  have q1 := fdF_le tb x w tf (2 ^ popc w 12)
  have q2 := fdF_lt tb x w tf hw htf (2 ^ popc w 12)
  refine lv_aload_n hx hb d_Cu_tell_0 rfl (lv_at hl 0 rfl) ?_
  refine lv_aload_n hx hb d_Cu_tell_1 rfl (lv_at hl 1 rfl) ?_
  refine lv_iload_n hx hb d_Cu_tell_2 rfl (lv_at hl 2 rfl) ?_
  refine lv_iload_n hx hb d_Cu_tell_3 rfl (lv_at hl 3 rfl) ?_
  refine my_V_i (q0 := 4) (ci := 4) (C := R_Cu) (As := [.ref (a 2), .int (nI x), .int (nI w)]) (n := 3) (k_Cu_find l g a rB rT cI cJ cII cJJ nc nv ng kd vo nu nd en br bc un eu li tb cc0 cp cu cd tc ts tf ox ow ob ra rb gc gr gk gg gp gt sa sb x w (by omega) (by omega)) hx hb hml hown hT hN tw_369 tw_371 tp_5 tw_5 tw_372 (by decide +kernel) rfl rfl ⟨Nat.le_of_ble_eq_true rfl, Nat.le_of_ble_eq_true rfl⟩ ⟨Nat.zero_le _, Nat.zero_le _⟩ hK hP hD hS hA rfl rfl rfl hl rfl (Nat.le_of_ble_eq_true rfl) d_Cu_tell_4 (fun H locs hP hD hS => ?_)
  refine lv_istore (lv' := [(4, .int (nI ((fdF tb x w tf (2 ^ popc w 12)).1))), (0, .ref (a 4)), (1, .ref (a 2)), (2, .int (nI x)), (3, .int (nI w))]) hx hb d_Cu_tell_7 hl (by decide) rfl (fun ls hl => ?_)
  refine lv_aload_n hx hb d_Cu_tell_9 rfl (lv_at hl 1 rfl) ?_
  refine lv_iconst (v := (nI 0)) hx hb d_Cu_tell_10 (by decide) ?_
  refine va_put (D := g) (ci := 4) (v := .int (nI 0)) (ty := .int) (C := R_Cu) (T := F_Cu) (N := 3) hx hb hT i_Cu t_Cu t_Cu_ok n_Cu hown hK hP hD hS 4 rfl rfl 0 (by decide) (hT _ tw_141) (fun _ h9 => h9) rfl (by decide +kernel) rfl rfl (Nat.le_of_ble_eq_true rfl) d_Cu_tell_11 (fun H locs hP hD hS => ?_)
  have hP : va_P g vwCl (stW a rB rT cI cJ cII cJJ nc nv ng kd vo nu nd en br bc un eu li tb cc0 cp cu cd 0 ts ((fdF tb x w tf (2 ^ popc w 12)).2) ox ow ob ra rb gc gr gk gg gp gt sa sb) H := hP
  have hD : va_D A (stW a rB rT cI cJ cII cJJ nc nv ng kd vo nu nd en br bc un eu li tb cc0 cp cu cd 0 ts ((fdF tb x w tf (2 ^ popc w 12)).2) ox ow ob ra rb gc gr gk gg gp gt sa sb) := hD
  refine lv_iconst (v := (nI 0)) hx hb d_Cu_tell_14 (by decide) ?_
  refine lv_istore (lv' := [(5, .int (nI 0)), (4, .int (nI ((fdF tb x w tf (2 ^ popc w 12)).1))), (0, .ref (a 4)), (1, .ref (a 2)), (2, .int (nI x)), (3, .int (nI w))]) hx hb d_Cu_tell_15 hl (by decide) rfl (fun ls hl => ?_)
  have lp_17 : ∀ (k : Nat) (z : Nat) (u : Nat) (q : Nat → Nat) (H : Heap) (locs : List Loc) (ls : Array Slot), (13 < z + k) → (z ≤ 13) → (u ≤ 924) → ((u, q) = (tlF (fdF tb x w tf (2 ^ popc w 12)).2 ts (fdF tb x w tf (2 ^ popc w 12)).1 z)) → va_P g vwCl (stW a rB rT cI cJ cII cJJ nc nv ng kd vo nu nd en br bc un eu li tb cc0 cp cu cd u q ((fdF tb x w tf (2 ^ popc w 12)).2) ox ow ob ra rb gc gr gk gg gp gt sa sb) H → va_D A (stW a rB rT cI cJ cII cJJ nc nv ng kd vo nu nd en br bc un eu li tb cc0 cp cu cd u q ((fdF tb x w tf (2 ^ popc w 12)).2) ox ow ob ra rb gc gr gk gg gp gt sa sb) → va_S A s.heap H locs → lv_has ls 6 [(0, .ref (a 4)), (1, .ref (a 2)), (2, .int (nI x)), (3, .int (nI w)), (4, .int (nI ((fdF tb x w tf (2 ^ popc w 12)).1))), (5, .int (nI z))] → W p l e ({ frames := 3, cells := 0, slots := 0, locals := 73 } : Room) s m args below meth c H locs 0 0 Q (F0 m 17 ls []) := by
    intro k
    induction k with
    | zero =>
      intro z u q H locs ls hk hz hu hf hP hD hS hl
      exfalso
      omega
    | succ k ih_17 =>
      intro z u q H locs ls hk hz hu hf hP hD hS hl
      refine lv_iload hx hb d_Cu_tell_17 (lv_at hl 5 rfl) ?_
      refine lv_bipush (v := (nI 12)) hx hb d_Cu_tell_19 (by decide) ?_
      refine my_icmp_gt (tgt := 38) (a := z) (b := 12) hx hb d_Cu_tell_21 (by decide) (by omega) (by omega) (fun c_21 => ?_) (fun c_21 => ?_)
      · -- 21: taken
        have e0 : z = 13 := by omega
        subst e0
        have e1 : (tlF (fdF tb x w tf (2 ^ popc w 12)).2 ts (fdF tb x w tf (2 ^ popc w 12)).1 13).1 = u := by rw [← hf]
        have e2 : (tlF (fdF tb x w tf (2 ^ popc w 12)).2 ts (fdF tb x w tf (2 ^ popc w 12)).1 13).2 = q := by rw [← hf]
        rw [← e1, ← e2] at hP hD
        refine lv_aload_n hx hb d_Cu_tell_38 rfl (lv_at hl 0 rfl) ?_
        refine va_get (D := g) (ci := 4) (v := .int (nI ((tlF (fdF tb x w tf (2 ^ popc w 12)).2 ts (fdF tb x w tf (2 ^ popc w 12)).1 13).1))) (C := R_Cu) (T := F_Cu) (N := 3) hx hb hT i_Cu hown hK hP 4 rfl rfl 0 (by decide) (hT _ tw_141) (fun _ h9 => h9) rfl d_Cu_tell_39 ?_
        refine hret _ _ _ _ _ hP hD hS d_Cu_tell_42 ?_
        rfl
      · -- 21: not taken
        refine lv_aload_n hx hb d_Cu_tell_24 rfl (lv_at hl 0 rfl) ?_
        refine lv_iload hx hb d_Cu_tell_25 (lv_at hl 5 rfl) ?_
        refine lv_iload hx hb d_Cu_tell_27 (lv_at hl 4 rfl) ?_
        refine my_V_v (q0 := 4) (ci := 4) (C := R_Cu) (As := [.int (nI z), .int (nI ((fdF tb x w tf (2 ^ popc w 12)).1))]) (n := 2) (k_Cu_takeOfSize l g a rB rT cI cJ cII cJJ nc nv ng kd vo nu nd en br bc un eu li tb cc0 cp cu cd u q ((fdF tb x w tf (2 ^ popc w 12)).2) ox ow ob ra rb gc gr gk gg gp gt sa sb z ((fdF tb x w tf (2 ^ popc w 12)).1) (by omega) (by omega) (by omega) q2) hx hb hml hown hT hN tw_382 tw_384 tp_6 tw_5 tw_385 (by decide +kernel) rfl rfl ⟨Nat.le_of_ble_eq_true rfl, Nat.le_of_ble_eq_true rfl⟩ ⟨Nat.zero_le _, Nat.zero_le _⟩ hK hP hD hS hA rfl rfl rfl hl rfl (Nat.le_of_ble_eq_true rfl) d_Cu_tell_29 (fun H locs hP hD hS => ?_)
        refine lv_iinc (v := (nI (z + 1))) (lv' := [(5, .int (nI (z + 1))), (0, .ref (a 4)), (1, .ref (a 2)), (2, .int (nI x)), (3, .int (nI w)), (4, .int (nI ((fdF tb x w tf (2 ^ popc w 12)).1)))]) hx hb d_Cu_tell_32 hl (k := 5) rfl (nI_1 z) (by decide) rfl (fun ls hl => ?_)
        refine lv_goto (tgt := 17) hx hb d_Cu_tell_35 (by decide) ?_
        refine ih_17 _ _ _ _ _ _ ?_ ?_ ?_ ?_ hP hD hS (lv_sub hl [1, 2, 3, 4, 5, 0] rfl)
        · omega
        · omega
        · exact tkF_le _ _ _ hu _
        · rw [hf]; rfl
  refine lp_17 (14) _ _ _ _ _ _ ?_ ?_ ?_ ?_ hP hD hS (lv_sub hl [2, 3, 4, 5, 1, 0] rfl)
  · omega
  · omega
  · omega
  · rfl
set_option maxHeartbeats 4000000 in
set_option maxRecDepth 100000 in
theorem k_Cu_eventIndex (l : Launch) (g : va_G) (a rB rT : Nat → Nat) (cI cJ cII cJJ : ClassId) (nc : Nat) (nv : Nat) (ng : Nat) (kd : Nat → Int32) (vo : Nat → Nat) (nu : Nat → Nat) (nd : Nat → Nat) (en : Nat → Nat) (br : Nat → Nat → Nat) (bc : Nat → Nat) (un : Nat → Nat) (eu : Nat → Nat) (li : Nat → Nat) (tb : Nat → Nat → Int64) (cc0 : Nat) (cp : Nat → Nat) (cu : Nat → Nat) (cd : Nat → Nat) (tc : Nat) (ts : Nat → Nat) (tf : Nat → Nat) (ox : Bool) (ow : Nat → Nat) (ob : Nat → Nat) (ra : Nat) (rb : Nat) (gc : Nat) (gr : Nat) (gk : Nat → Nat) (gg : Nat → Nat) (gp : Nat → Nat) (gt : Nat → Nat) (sa : Nat) (sb : Nat) (i : Int32) (k : Int32) (htc : tc ≤ 924) (hts1 : ∀ j, ts j < 4096) : ct_i l g vwCl (tyS cI cJ cII cJJ) y_Cu_eventIndex c_Cu_eventIndex 5 (some .int) ({ frames := 1, cells := 0, slots := 0, locals := 20 } : Room) [.ref (a 4), .int i, .int k] (stW a rB rT cI cJ cII cJJ nc nv ng kd vo nu nd en br bc un eu li tb cc0 cp cu cd tc ts tf ox ow ob ra rb gc gr gk gg gp gt sa sb) (stW a rB rT cI cJ cII cJJ nc nv ng kd vo nu nd en br bc un eu li tb cc0 cp cu cd tc ts tf ox ow ob ra rb gc gr gk gg gp gt sa sb) (eiF tc ts i k) := by
  refine ct_i.intro (by decide) (Nat.le_of_ble_eq_true rfl) ?_
  intro p e s m args below meth c Q A ls hx hb hml hT hown hA hK hN hret hP hD hS hl
  have hown : s.vm.findClass R_Cu = some m.cls := hown
  have hl : lv_has ls 5 [(0, .ref (a 4)), (1, .int i), (2, .int k)] := hl
  refine lv_iload_n hx hb d_Cu_eventIndex_0 rfl (lv_at hl 1 rfl) ?_
  refine lv_if_lt (tgt := 16) hx hb d_Cu_eventIndex_1 (by decide) (fun c_1 => ?_) (fun c_1 => ?_)
  · -- 1: taken
    refine lv_iconst (v := (-1)) hx hb d_Cu_eventIndex_16 (by decide) ?_
    refine hret _ _ _ _ _ hP hD hS d_Cu_eventIndex_17 ?_
    rw [eiF, if_pos (by first | exact Or.inl c_1 | exact Or.inr (Or.inl c_9) | exact Or.inr (Or.inr (by rw [Int32.lt_iff_toInt_lt]; rw [Int32.le_iff_toInt_le] at c_13; omega)))]
  · -- 1: not taken
    refine lv_iload_n hx hb d_Cu_eventIndex_4 rfl (lv_at hl 1 rfl) ?_
    refine lv_aload_n hx hb d_Cu_eventIndex_5 rfl (lv_at hl 0 rfl) ?_
    refine va_get (D := g) (ci := 4) (v := .int (nI tc)) (C := R_Cu) (T := F_Cu) (N := 3) hx hb hT i_Cu hown hK hP 4 rfl rfl 0 (by decide) (hT _ tw_141) (fun _ h9 => h9) rfl d_Cu_eventIndex_6 ?_
    refine lv_icmp_ge (tgt := 16) hx hb d_Cu_eventIndex_9 (by decide) (fun c_9 => ?_) (fun c_9 => ?_)
    · -- 9: taken
      refine lv_iconst (v := (-1)) hx hb d_Cu_eventIndex_16 (by decide) ?_
      refine hret _ _ _ _ _ hP hD hS d_Cu_eventIndex_17 ?_
      rw [eiF, if_pos (by first | exact Or.inl c_1 | exact Or.inr (Or.inl c_9) | exact Or.inr (Or.inr (by rw [Int32.lt_iff_toInt_lt]; rw [Int32.le_iff_toInt_le] at c_13; omega)))]
    · -- 9: not taken
      refine lv_iload_n hx hb d_Cu_eventIndex_12 rfl (lv_at hl 2 rfl) ?_
      refine lv_if_ge (tgt := 18) hx hb d_Cu_eventIndex_13 (by decide) (fun c_13 => ?_) (fun c_13 => ?_)
      · -- 13: taken
        have c_13 : ¬ k < 0 := (my_i0 k).1.mp c_13
        obtain ⟨i1, hi1, rfl⟩ := i32nn c_1 c_9 (by omega)
        obtain ⟨k1, hk1, rfl⟩ := nI_of c_13
        have hT1 := hts1 i1
        have hE : eiF tc ts (nI i1) (nI k1) = eiL (ts i1) 12 0 k1 := by rw [eiF, if_neg (by intro hh; rcases hh with hh | hh | hh; exact c_1 hh; exact c_9 hh; exact c_13 hh), nI_clamp (by omega), nI_clamp hk1]
        refine lv_iload_n hx hb d_Cu_eventIndex_18 rfl (lv_at hl 2 rfl) ?_
        refine lv_istore_n (lv' := [(3, .int (nI k1)), (0, .ref (a 4)), (1, .int (nI i1)), (2, .int (nI k1))]) hx hb d_Cu_eventIndex_19 rfl hl (by decide) rfl (fun ls hl => ?_)
        refine lv_iconst (v := (nI 0)) hx hb d_Cu_eventIndex_20 (by decide) ?_
        refine lv_istore (lv' := [(4, .int (nI 0)), (3, .int (nI k1)), (0, .ref (a 4)), (1, .int (nI i1)), (2, .int (nI k1))]) hx hb d_Cu_eventIndex_21 hl (by decide) rfl (fun ls hl => ?_)
        have lp_23 : ∀ (kk : Nat) (j : Nat) (f : Nat) (lf : Nat) (H : Heap) (locs : List Loc) (ls : Array Slot), (12 < j + kk) → (j + f = 12) → (lf < 2 ^ 31) → (eiL (ts i1) f j lf = eiL (ts i1) 12 0 k1) → va_P g vwCl (stW a rB rT cI cJ cII cJJ nc nv ng kd vo nu nd en br bc un eu li tb cc0 cp cu cd tc ts tf ox ow ob ra rb gc gr gk gg gp gt sa sb) H → va_D A (stW a rB rT cI cJ cII cJJ nc nv ng kd vo nu nd en br bc un eu li tb cc0 cp cu cd tc ts tf ox ow ob ra rb gc gr gk gg gp gt sa sb) → va_S A s.heap H locs → lv_has ls 5 [(0, .ref (a 4)), (1, .int (nI i1)), (2, .int (nI k1)), (3, .int (nI lf)), (4, .int (nI j))] → W p l e ({ frames := 1, cells := 0, slots := 0, locals := 20 } : Room) s m args below meth c H locs 0 0 Q (F0 m 23 ls []) := by
          intro kk
          induction kk with
          | zero =>
            intro j f lf H locs ls hk2 hj hlf hf hP hD hS hl
            exfalso
            omega
          | succ kk ih_23 =>
            intro j f lf H locs ls hk2 hj hlf hf hP hD hS hl
            refine lv_iload hx hb d_Cu_eventIndex_23 (lv_at hl 4 rfl) ?_
            refine lv_bipush (v := (nI 12)) hx hb d_Cu_eventIndex_25 (by decide) ?_
            refine my_icmp_ge (tgt := 61) (a := j) (b := 12) hx hb d_Cu_eventIndex_27 (by decide) (by omega) (by omega) (fun c_27 => ?_) (fun c_27 => ?_)
            · -- 27: taken
              have f0 : f = 0 := by omega
              subst f0
              refine lv_iconst (v := (-1)) hx hb d_Cu_eventIndex_61 (by decide) ?_
              refine hret _ _ _ _ _ hP hD hS d_Cu_eventIndex_62 ?_
              rw [hE, ← hf]; rfl
            · -- 27: not taken
              obtain ⟨f, rfl⟩ : ∃ q, f = q + 1 := ⟨f - 1, by omega⟩
              refine lv_aload_n hx hb d_Cu_eventIndex_30 rfl (lv_at hl 0 rfl) ?_
              refine va_get (D := g) (ci := 4) (v := .ref (a 23)) (C := R_Cu) (T := F_Cu) (N := 3) hx hb hT i_Cu hown hK hP 4 rfl rfl 1 (by decide) (hT _ tw_142) (fun _ h9 => h9) rfl d_Cu_eventIndex_31 ?_
              refine lv_iload_n hx hb d_Cu_eventIndex_34 rfl (lv_at hl 1 rfl) ?_
              refine my_iald (v := (nI (ts i1))) (i := i1) hx hb hK hP 23 0 rfl rfl (by omega) (by decide) rfl d_Cu_eventIndex_35 ?_
              refine lv_iload hx hb d_Cu_eventIndex_36 (lv_at hl 4 rfl) ?_
              refine my_S_i (As := [.int (nI j)]) (n := 1) (k_No_eventBit l g vwCl (tyS cI cJ cII cJJ) (stW a rB rT cI cJ cII cJJ nc nv ng kd vo nu nd en br bc un eu li tb cc0 cp cu cd tc ts tf ox ow ob ra rb gc gr gk gg gp gt sa sb) j (by omega)) hx hb hml hown hT hN tw_395 tw_258 tw_2 tw_259 (by decide +kernel) rfl rfl ⟨Nat.le_of_ble_eq_true rfl, Nat.le_of_ble_eq_true rfl⟩ ⟨Nat.zero_le _, Nat.zero_le _⟩ hK hP hD hS hA rfl hl rfl (Nat.le_of_ble_eq_true rfl) d_Cu_eventIndex_38 (fun H locs hP hD hS => ?_)
              refine lv_iand hx hb d_Cu_eventIndex_41 ?_
              refine my_ei (nx_and (ts i1) (2 ^ (11 - j))) ?_
              have q5 : ts i1 &&& 2 ^ (11 - j) < 4096 := Nat.lt_of_le_of_lt Nat.and_le_left hT1
              refine my_if_eq (tgt := 55) (a := (ts i1) &&& (2 ^ (11 - j))) hx hb d_Cu_eventIndex_42 (by decide) (by omega) (fun c_42 => ?_) (fun c_42 => ?_)
              · -- 42: taken
                refine lv_iinc (v := (nI (j + 1))) (lv' := [(4, .int (nI (j + 1))), (0, .ref (a 4)), (1, .int (nI i1)), (2, .int (nI k1)), (3, .int (nI lf))]) hx hb d_Cu_eventIndex_55 hl (k := 4) rfl (nI_1 j) (by decide) rfl (fun ls hl => ?_)
                refine lv_goto (tgt := 23) hx hb d_Cu_eventIndex_58 (by decide) ?_
                refine ih_23 _ f _ _ _ _ ?_ ?_ ?_ ?_ hP hD hS (lv_sub hl [1, 2, 3, 4, 0] rfl)
                · omega
                · exact (show j + 1 + f = 12 by omega)
                · omega
                · rw [← hf]; simp [eiL, tbF c_42]
              · -- 42: not taken
                refine lv_iload_n hx hb d_Cu_eventIndex_45 rfl (lv_at hl 3 rfl) ?_
                refine my_if_ne (tgt := 52) (a := lf) hx hb d_Cu_eventIndex_46 (by decide) (by omega) (fun c_46 => ?_) (fun c_46 => ?_)
                · -- 46: taken
                  refine lv_iinc (v := (nI (lf - 1))) (lv' := [(3, .int (nI (lf - 1))), (0, .ref (a 4)), (1, .int (nI i1)), (2, .int (nI k1)), (4, .int (nI j))]) hx hb d_Cu_eventIndex_52 hl (k := 3) rfl (sb_m1 (by omega)) (by decide) rfl (fun ls hl => ?_)
                  refine lv_iinc (v := (nI (j + 1))) (lv' := [(4, .int (nI (j + 1))), (3, .int (nI (lf - 1))), (0, .ref (a 4)), (1, .int (nI i1)), (2, .int (nI k1))]) hx hb d_Cu_eventIndex_55 hl (k := 4) rfl (nI_1 j) (by decide) rfl (fun ls hl => ?_)
                  refine lv_goto (tgt := 23) hx hb d_Cu_eventIndex_58 (by decide) ?_
                  refine ih_23 _ f _ _ _ _ ?_ ?_ ?_ ?_ hP hD hS (lv_sub hl [2, 3, 4, 1, 0] rfl)
                  · omega
                  · exact (show j + 1 + f = 12 by omega)
                  · omega
                  · rw [← hf]; simp [eiL, tbT (show ¬ ts i1 &&& 2 ^ (11 - j) = 0 by omega), show lf ≠ 0 by omega]
                · -- 46: not taken
                  refine lv_iload hx hb d_Cu_eventIndex_49 (lv_at hl 4 rfl) ?_
                  refine hret _ _ _ _ _ hP hD hS d_Cu_eventIndex_51 ?_
                  rw [hE, ← hf]; simp [eiL, tbT (show ¬ ts i1 &&& 2 ^ (11 - j) = 0 by omega), show lf = 0 by omega]
        refine lp_23 (13) 0 12 _ _ _ _ ?_ ?_ ?_ ?_ hP hD hS (lv_sub hl [2, 3, 4, 1, 0] rfl)
        · omega
        · rfl
        · exact hk1
        · rfl
      · -- 13: not taken
        refine lv_iconst (v := (-1)) hx hb d_Cu_eventIndex_16 (by decide) ?_
        refine hret _ _ _ _ _ hP hD hS d_Cu_eventIndex_17 ?_
        rw [eiF, if_pos (by first | exact Or.inl c_1 | exact Or.inr (Or.inl c_9) | exact Or.inr (Or.inr (by rw [Int32.lt_iff_toInt_lt]; rw [Int32.le_iff_toInt_le] at c_13; omega)))]
