def isW (v lo hi : Int32) : Bool := decide (¬ v < lo) && decide (¬ hi < v)
def isD (d : Int64) : Bool := decide (¬ d < lN 1) && decide (¬ lN 10 < d)
def isK (k n : Int32) : Bool := if k = nI 2 then isW n (nI 1) (nI 10) else (decide (k = 0) || decide (k = nI 1)) && decide (n = 0)
theorem and4095 {w : Nat} (h : w < 4096) : w &&& 4095 = w := by
  rw [show (4095 : Nat) = 2 ^ 12 - 1 from rfl, Nat.and_two_pow_sub_one_eq_mod, Nat.mod_eq_of_lt h]
theorem nxS {s w : Nat} (hw : w < 2 ^ 32) : nI s - nI w = nI (s + 2 ^ 32 - w) := by
  apply Int32.toBitVec_inj.1
  show BitVec.ofNat 32 s - BitVec.ofNat 32 w = BitVec.ofNat 32 (s + 2 ^ 32 - w)
  rw [BitVec.ofNat_sub_ofNat, Nat.mod_eq_of_lt hw]
  congr 1
  omega
def wD (n : Nat) (d e : Int64) : Int64 := if n &&& 1 = 0 then d ||| e else d &&& e
def alF (tb : Nat → Nat → Int64) (br : Nat → Nat → Nat) (x w : Nat) : Nat → Int64
  | 0 => -1
  | i + 1 => alF tb br x w i &&& tb (br x i) w
def anF (tb : Nat → Nat → Int64) (br : Nat → Nat → Nat) (x w : Nat) : Nat → Int64
  | 0 => lN 0
  | i + 1 => anF tb br x w i ||| tb (br x i) w
/-- the votes so far, by digits -/
def vS (tb : Nat → Nat → Int64) (br : Nat → Nat → Nat) (x w : Nat) : Nat → Int64 × Int64 × Int64 × Int64
  | 0 => (lN 0, lN 0, lN 0, lN 0)
  | i + 1 =>
    ((vS tb br x w i).1 ^^^ tb (br x i) w,
     (vS tb br x w i).2.1 ^^^ ((vS tb br x w i).1 &&& tb (br x i) w),
     (vS tb br x w i).2.2.1 ^^^ ((vS tb br x w i).2.1 &&& ((vS tb br x w i).1 &&& tb (br x i) w)),
     (vS tb br x w i).2.2.2 ^^^ ((vS tb br x w i).2.2.1 &&& ((vS tb br x w i).2.1 &&& ((vS tb br x w i).1 &&& tb (br x i) w))))
def voF (n : Nat) (s : Int64 × Int64 × Int64 × Int64) : Int64 := wD (n / 2 ^ 3) s.2.2.2 (wD (n / 2 ^ 2) s.2.2.1 (wD (n / 2 ^ 1) s.2.1 (wD n s.1 (-1))))
def gwF (tb : Nat → Nat → Int64) (br : Nat → Nat → Nat) (kd : Nat → Int32) (vo bc : Nat → Nat) (x w : Nat) : Int64 :=
  if kd x = 0 then alF tb br x w (bc x) else if kd x = 1 then anF tb br x w (bc x) else voF (vo x) (vS tb br x w (bc x))
def fgF (tb : Nat → Nat → Int64) (br : Nat → Nat → Nat) (kd : Nat → Int32) (vo bc : Nat → Nat) (x r : Nat) : Nat → (Nat → Nat → Int64)
  | 0 => tb
  | i + 1 => if i &&& r = i then va_up (fgF tb br kd vo bc x r i) x (va_up (fgF tb br kd vo bc x r i x) i (gwF (fgF tb br kd vo bc x r i) br kd vo bc x i)) else fgF tb br kd vo bc x r i
def fsF (tb : Nat → Nat → Int64) (br : Nat → Nat → Nat) (kd : Nat → Int32) (vo bc : Nat → Nat) (li : Nat → Nat) (r : Nat) : Nat → (Nat → Nat → Int64)
  | 0 => tb
  | i + 1 => fgF (fsF tb br kd vo bc li r i) br kd vo bc (li i) r 64
theorem luN_in (cnd : Nat → Bool) (s : Nat × (Nat → Nat)) {n : Nat} (h : ∀ i, i < s.1 → 1 ≤ s.2 i ∧ s.2 i ≤ n) : ∀ j, j ≤ n → ∀ i, i < (luN cnd s j).1 → 1 ≤ (luN cnd s j).2 i ∧ (luN cnd s j).2 i ≤ n
  | 0, _ => h
  | j + 1, hj => by
    have ih := luN_in cnd s h j (by omega)
    by_cases c : cnd (j + 1) = true ∧ (luN cnd s j).1 < 20
    · rw [luN_t c.1 c.2]
      intro i hi
      show 1 ≤ va_up _ _ _ i ∧ va_up _ _ _ i ≤ n
      unfold va_up
      split
      · omega
      · exact ih i (by have hi2 : i < (luN cnd s j).1 + 1 := hi; omega)
    · rw [luN_f c]; exact ih
theorem luS_in (cnd : Nat → Nat → Bool) (nc : Nat) (li : Nat → Nat) : ∀ z i, i < (luS cnd nc (0, li) z).1 → 1 ≤ (luS cnd nc (0, li) z).2 i ∧ (luS cnd nc (0, li) z).2 i ≤ nc
  | 0, i, h => absurd h (Nat.not_lt_zero i)
  | z + 1, i, h => luN_in (cnd z) _ (luS_in cnd nc li z) nc (Nat.le_refl _) i h
theorem luS_le (cnd : Nat → Nat → Bool) (nc : Nat) (li : Nat → Nat) : ∀ z, (luS cnd nc (0, li) z).1 ≤ 20
  | 0 => Nat.zero_le _
  | z + 1 => luN_le (cnd z) _ (luS_le cnd nc li z) nc
def tbit (w : Int64) (j : Nat) : Bool := w.toBitVec.getLsbD j
theorem ts_bit {w : Int64} {s : UInt64} {j : Nat} (hj : j < 64) (hs : s.toNat = j) : ((w.toUInt64 >>> s).toInt64 &&& 1) = 0 ↔ w.toBitVec.getLsbD j = false := by
  have e : ((w.toUInt64 >>> s).toInt64 &&& 1).toBitVec = (w.toBitVec >>> j) &&& 1#64 := by
    show (w.toUInt64 >>> s).toBitVec &&& 1#64 = _
    rw [UInt64.toBitVec_shiftRight]
    show (w.toBitVec >>> (s.toBitVec % 64).toNat) &&& 1#64 = _
    have : (s.toBitVec % 64).toNat = j := by
      show s.toNat % 64 = j
      rw [hs, Nat.mod_eq_of_lt hj]
    rw [this]
  rw [← Int64.toBitVec_inj, e]
  show (w.toBitVec >>> j) &&& 1#64 = 0#64 ↔ _
  constructor
  · intro h
    have := congrArg (fun b => b.getLsbD 0) h
    simpa using this
  · intro h
    apply BitVec.eq_of_getLsbD_eq
    intro i hi
    by_cases q : i = 0
    · subst q; simp [h]
    · simp [q]
theorem tbit0 {w : Int64} {k : Nat} (hk : k < 64) : ((w.toUInt64 >>> ((nI k).toInt64.toUInt64 &&& Int64.toUInt64 63)).toInt64 &&& lN 1) = lN 0 ↔ tbit w k = false := by
  rw [wb_cu k hk]
  exact ts_bit hk (by show (BitVec.ofNat 64 k).toNat = k; rw [BitVec.toNat_ofNat, Nat.mod_eq_of_lt (by omega)])
def isT (tb : Nat → Nat → Int64) (x s : Nat) : Bool := tbit (tb x (s / 2 ^ 6 &&& 63)) (s &&& 63)
def ctF (tb : Nat → Nat → Int64) (x w : Nat) : Nat → Nat
  | 0 => 0
  | i + 1 => ctF tb x w i + (if isT tb x (pd 12 w i) = true then 1 else 0)
theorem ctF_le (tb : Nat → Nat → Int64) (x w i : Nat) : ctF tb x w i ≤ i := by
  induction i with
  | zero => exact Nat.le_refl _
  | succ i ih => show ctF tb x w i + _ ≤ i + 1; split <;> omega
def imF (tb : Nat → Nat → Int64) (x s : Nat) : Nat → Bool
  | 0 => true
  | i + 1 => imF tb x s i && !(s.testBit i && isT tb x (s ^^^ 2 ^ i))
def isM (tb : Nat → Nat → Int64) (x s : Nat) : Bool := isT tb x s && imF tb x s 12
theorem imF_f {tb : Nat → Nat → Int64} {x s i : Nat} (h : imF tb x s (i + 1) = false) : ∀ n, i < n → imF tb x s n = false
  | 0, q => by omega
  | n + 1, q => by
    rcases Nat.lt_or_ge i n with r | r
    · show (imF tb x s n && _) = false
      rw [imF_f h n r]; rfl
    · rw [show n = i by omega]; exact h
theorem tbit1 {w : Int64} {k : Nat} (hk : k < 64) (h : ¬ ((w.toUInt64 >>> ((nI k).toInt64.toUInt64 &&& Int64.toUInt64 63)).toInt64 &&& lN 1) = lN 0) : tbit w k = true := by
  cases e : tbit w k
  · exact absurd ((tbit0 hk).mpr e) h
  · rfl
theorem pw12c {i : Nat} (h : i ≤ 12) : 2 ^ i ≤ 4096 := Nat.pow_le_pow_right (n := 2) (by decide) h
theorem pw12a {i : Nat} (hi : i ≤ 12) (h : 4096 ≤ 2 ^ i) : i = 12 := by
  rcases Nat.lt_or_ge i 12 with q | q
  · have := Nat.pow_lt_pow_right (a := 2) (by decide) q
    omega
  · omega
theorem pw12b {i : Nat} (h : 2 ^ i < 4096) : i < 12 := by
  rcases Nat.lt_or_ge i 12 with q | q
  · exact q
  · have := Nat.pow_le_pow_right (n := 2) (by decide) q
    omega
theorem pop12 (w : Nat) : 2 ^ popc w 12 ≤ 4096 := Nat.pow_le_pow_right (n := 2) (by decide) (popc_le w 12)
theorem pd_lt {w k : Nat} (h : w < 4096) : pd 12 w k < 4096 := by
  rw [← pd_sub 12 w k h]
  exact Nat.lt_of_le_of_lt Nat.and_le_right h
set_option maxHeartbeats 4000000 in
set_option maxRecDepth 100000 in
theorem k_ST_isWithin (l : Launch) (g : va_G) (cl : List vw_C) (tys : List (ClassId × FieldType)) (ww : va_W) (v : Int32) (lo : Int32) (hi : Int32)  : ct_i l g cl tys y_ST_isWithin c_ST_isWithin 3 (some .boolean) ({ frames := 0, cells := 0, slots := 0, locals := 0 } : Room) [.int v, .int lo, .int hi] ww ww (b2 (isW v lo hi)) := by
  refine ct_i.introZ (by decide) (Nat.le_of_ble_eq_true rfl) ?_
  intro p e s m args below meth c Q A ls hx hb hml hT hown hA hK hN hret hP hD hS hl
  have hown : s.vm.findClass R_ST = some m.cls := hown
  have hl : lv_has ls 3 [(0, .int v), (1, .int lo), (2, .int hi)] := hl
  refine lv_iload_n hx hb d_ST_isWithin_0 rfl (lv_at hl 0 rfl) ?_
  refine lv_iload_n hx hb d_ST_isWithin_1 rfl (lv_at hl 1 rfl) ?_
  refine lv_icmp_lt (tgt := 14) hx hb d_ST_isWithin_2 (by decide) (fun c_2 => ?_) (fun c_2 => ?_)
  · -- 2: taken
    refine lv_iconst (v := (nI 0)) hx hb d_ST_isWithin_14 (by decide) ?_
    refine hret _ _ _ _ _ hP hD hS d_ST_isWithin_15 ?_
    exact b2F (by first | (simp [isW, c_2]; done) | (simp [isW, c_2]; omega))
  · -- 2: not taken
    refine lv_iload_n hx hb d_ST_isWithin_5 rfl (lv_at hl 0 rfl) ?_
    refine lv_iload_n hx hb d_ST_isWithin_6 rfl (lv_at hl 2 rfl) ?_
    refine lv_icmp_gt (tgt := 14) hx hb d_ST_isWithin_7 (by decide) (fun c_7 => ?_) (fun c_7 => ?_)
    · -- 7: taken
      refine lv_iconst (v := (nI 0)) hx hb d_ST_isWithin_14 (by decide) ?_
      refine hret _ _ _ _ _ hP hD hS d_ST_isWithin_15 ?_
      exact b2F (by first | (simp [isW, c_2, c_7]; done) | (simp [isW, c_2, c_7]; omega))
    · -- 7: not taken
      refine lv_iconst (v := (nI 1)) hx hb d_ST_isWithin_10 (by decide) ?_
      refine lv_goto (tgt := 15) hx hb d_ST_isWithin_11 (by decide) ?_
      refine hret _ _ _ _ _ hP hD hS d_ST_isWithin_15 ?_
      exact b2T (by first | (simp [isW, c_2, c_7]; done) | (simp [isW, c_2, c_7]; omega))
set_option maxHeartbeats 4000000 in
set_option maxRecDepth 100000 in
theorem k_ST_isDown (l : Launch) (g : va_G) (cl : List vw_C) (tys : List (ClassId × FieldType)) (ww : va_W) (d : Int64)  : ct_i l g cl tys y_ST_isDown c_ST_isDown 2 (some .boolean) ({ frames := 0, cells := 0, slots := 0, locals := 0 } : Room) [.long d] ww ww (b2 (isD d)) := by
  refine ct_i.introZ (by decide) (Nat.le_of_ble_eq_true rfl) ?_
  intro p e s m args below meth c Q A ls hx hb hml hT hown hA hK hN hret hP hD hS hl
  have hown : s.vm.findClass R_ST = some m.cls := hown
  have hl : lv_has ls 2 [(0, .long d)] := hl
  refine lv_lload_n hx hb d_ST_isDown_0 rfl (lv_at hl 0 rfl) ?_
  refine lv_lconst (v := (lN 1)) hx hb d_ST_isDown_1 (by decide) ?_
  refine my_lcmpR_lt (tgt := 18) hx hb d_ST_isDown_2 d_ST_isDown_3 (by decide) (fun c_2 => ?_) (fun c_2 => ?_)
  · -- 2: taken
    refine lv_iconst (v := (nI 0)) hx hb d_ST_isDown_18 (by decide) ?_
    refine hret _ _ _ _ _ hP hD hS d_ST_isDown_19 ?_
    exact b2F (by first | (simp [isD, c_2]; done) | (simp [isD, c_2]; omega))
  · -- 2: not taken
    refine lv_lload_n hx hb d_ST_isDown_6 rfl (lv_at hl 0 rfl) ?_
    refine lv_ldc2 (v := (lN 10)) hx hb hown (hT _ tw_252) d_ST_isDown_7 ?_
    refine my_lcmpR_gt (tgt := 18) hx hb d_ST_isDown_10 d_ST_isDown_11 (by decide) (fun c_10 => ?_) (fun c_10 => ?_)
    · -- 10: taken
      refine lv_iconst (v := (nI 0)) hx hb d_ST_isDown_18 (by decide) ?_
      refine hret _ _ _ _ _ hP hD hS d_ST_isDown_19 ?_
      exact b2F (by first | (simp [isD, c_2, c_10]; done) | (simp [isD, c_2, c_10]; omega))
    · -- 10: not taken
      refine lv_iconst (v := (nI 1)) hx hb d_ST_isDown_14 (by decide) ?_
      refine lv_goto (tgt := 19) hx hb d_ST_isDown_15 (by decide) ?_
      refine hret _ _ _ _ _ hP hD hS d_ST_isDown_19 ?_
      exact b2T (by first | (simp [isD, c_2, c_10]; done) | (simp [isD, c_2, c_10]; omega))
set_option maxHeartbeats 4000000 in
set_option maxRecDepth 100000 in
theorem k_ST_isKind (l : Launch) (g : va_G) (cl : List vw_C) (tys : List (ClassId × FieldType)) (ww : va_W) (k : Int32) (n : Int32)  : ct_i l g cl tys y_ST_isKind c_ST_isKind 2 (some .boolean) ({ frames := 1, cells := 0, slots := 0, locals := 22 } : Room) [.int k, .int n] ww ww (b2 (isK k n)) := by
  refine ct_i.introZ (by decide) (Nat.le_of_ble_eq_true rfl) ?_
  intro p e s m args below meth c Q A ls hx hb hml hT hown hA hK hN hret hP hD hS hl
  have hown : s.vm.findClass R_ST = some m.cls := hown
  have hl : lv_has ls 2 [(0, .int k), (1, .int n)] := hl
  refine lv_iload_n hx hb d_ST_isKind_0 rfl (lv_at hl 0 rfl) ?_
  refine lv_iconst (v := (nI 2)) hx hb d_ST_isKind_1 (by decide) ?_
  refine lv_icmp_ne (tgt := 13) hx hb d_ST_isKind_2 (by decide) (fun c_2 => ?_) (fun c_2 => ?_)
  · -- 2: taken
    refine lv_iload_n hx hb d_ST_isKind_13 rfl (lv_at hl 0 rfl) ?_
    refine lv_if_eq (tgt := 22) hx hb d_ST_isKind_14 (by decide) (fun c_14 => ?_) (fun c_14 => ?_)
    · -- 14: taken
      refine lv_iload_n hx hb d_ST_isKind_22 rfl (lv_at hl 1 rfl) ?_
      refine lv_if_ne (tgt := 30) hx hb d_ST_isKind_23 (by decide) (fun c_23 => ?_) (fun c_23 => ?_)
      · -- 23: taken
        refine lv_iconst (v := (nI 0)) hx hb d_ST_isKind_30 (by decide) ?_
        refine hret _ _ _ _ _ hP hD hS d_ST_isKind_31 ?_
        exact b2F (by rw [isK, if_neg c_2, decide_eq_true c_14, decide_eq_false c_23]; rfl)
      · -- 23: not taken
        refine lv_iconst (v := (nI 1)) hx hb d_ST_isKind_26 (by decide) ?_
        refine lv_goto (tgt := 31) hx hb d_ST_isKind_27 (by decide) ?_
        refine hret _ _ _ _ _ hP hD hS d_ST_isKind_31 ?_
        exact b2T (by rw [isK, if_neg c_2, decide_eq_true c_14, decide_eq_true c_23]; rfl)
    · -- 14: not taken
      refine lv_iload_n hx hb d_ST_isKind_17 rfl (lv_at hl 0 rfl) ?_
      refine lv_iconst (v := (nI 1)) hx hb d_ST_isKind_18 (by decide) ?_
      refine lv_icmp_ne (tgt := 30) hx hb d_ST_isKind_19 (by decide) (fun c_19 => ?_) (fun c_19 => ?_)
      · -- 19: taken
        refine lv_iconst (v := (nI 0)) hx hb d_ST_isKind_30 (by decide) ?_
        refine hret _ _ _ _ _ hP hD hS d_ST_isKind_31 ?_
        exact b2F (by rw [isK, if_neg c_2, decide_eq_false c_14, decide_eq_false c_19]; rfl)
      · -- 19: not taken
        refine lv_iload_n hx hb d_ST_isKind_22 rfl (lv_at hl 1 rfl) ?_
        refine lv_if_ne (tgt := 30) hx hb d_ST_isKind_23 (by decide) (fun c_23 => ?_) (fun c_23 => ?_)
        · -- 23: taken
          refine lv_iconst (v := (nI 0)) hx hb d_ST_isKind_30 (by decide) ?_
          refine hret _ _ _ _ _ hP hD hS d_ST_isKind_31 ?_
          exact b2F (by rw [isK, if_neg c_2, decide_eq_false c_14, decide_eq_true c_19, decide_eq_false c_23]; rfl)
        · -- 23: not taken
          refine lv_iconst (v := (nI 1)) hx hb d_ST_isKind_26 (by decide) ?_
          refine lv_goto (tgt := 31) hx hb d_ST_isKind_27 (by decide) ?_
          refine hret _ _ _ _ _ hP hD hS d_ST_isKind_31 ?_
          exact b2T (by rw [isK, if_neg c_2, decide_eq_false c_14, decide_eq_true c_19, decide_eq_true c_23]; rfl)
  · -- 2: not taken
    refine lv_iload_n hx hb d_ST_isKind_5 rfl (lv_at hl 1 rfl) ?_
    refine lv_iconst (v := (nI 1)) hx hb d_ST_isKind_6 (by decide) ?_
    refine lv_bipush (v := (nI 10)) hx hb d_ST_isKind_7 (by decide) ?_
    refine my_S_i (As := [.int n, .int (nI 1), .int (nI 10)]) (n := 3) (k_ST_isWithin l g cl tys ww n (nI 1) (nI 10) ) hx hb hml hown hT hN tw_277 tw_278 tw_1 tw_279 (by decide +kernel) rfl rfl ⟨Nat.le_of_ble_eq_true rfl, Nat.le_of_ble_eq_true rfl⟩ ⟨Nat.zero_le _, Nat.zero_le _⟩ hK hP hD hS hA rfl hl rfl (Nat.le_of_ble_eq_true rfl) d_ST_isKind_9 (fun H locs hP hD hS => ?_)
    refine hret _ _ _ _ _ hP hD hS d_ST_isKind_12 ?_
    exact congrArg b2 (by rw [isK, if_pos c_2])
set_option maxHeartbeats 4000000 in
set_option maxRecDepth 100000 in
theorem k_ST_countOfSets (l : Launch) (g : va_G) (cl : List vw_C) (tys : List (ClassId × FieldType)) (ww : va_W) (w : Nat) (hw : w < 4096) : ct_i l g cl tys y_ST_countOfSets c_ST_countOfSets 1 (some .int) ({ frames := 1, cells := 0, slots := 0, locals := 20 } : Room) [.int (nI w)] ww ww (nI (2 ^ popc w 12)) := by
  refine ct_i.intro (by decide) (Nat.le_of_ble_eq_true rfl) ?_
  intro p e s m args below meth c Q A ls hx hb hml hT hown hA hK hN hret hP hD hS hl
  have hown : s.vm.findClass R_ST = some m.cls := hown
  have hl : lv_has ls 1 [(0, .int (nI w))] := hl
  have q1 := and4095 hw
  have q2 := popc_le (w &&& 4095) 12
  refine lv_iconst (v := (nI 1)) hx hb d_ST_countOfSets_0 (by decide) ?_
  refine lv_iload_n hx hb d_ST_countOfSets_1 rfl (lv_at hl 0 rfl) ?_
  refine lv_sipush (v := (nI 4095)) hx hb d_ST_countOfSets_2 (by decide) ?_
  refine lv_iand hx hb d_ST_countOfSets_5 ?_
  refine my_ei (nx_and w 4095) ?_
  refine my_S_i (As := [.int (nI (w &&& 4095))]) (n := 1) (k_Ji_bitCount l g cl tys ww (w &&& 4095) (by omega)) hx hb hml hown hT hN tw_317 tw_318 tw_10 tw_319 (by decide +kernel) rfl rfl ⟨Nat.le_of_ble_eq_true rfl, Nat.le_of_ble_eq_true rfl⟩ ⟨Nat.zero_le _, Nat.zero_le _⟩ hK hP hD hS hA rfl hl rfl (Nat.le_of_ble_eq_true rfl) d_ST_countOfSets_6 (fun H locs hP hD hS => ?_)
  refine lv_ishl hx hb d_ST_countOfSets_9 ?_
  refine my_ei (nx_shl1 (popc (w &&& 4095) 12) (by omega)) ?_
  refine hret _ _ _ _ _ hP hD hS d_ST_countOfSets_10 ?_
  rw [q1]
set_option maxHeartbeats 4000000 in
set_option maxRecDepth 100000 in
theorem k_ST_nextSet (l : Launch) (g : va_G) (cl : List vw_C) (tys : List (ClassId × FieldType)) (ww : va_W) (s1 : Nat) (w : Nat) (hw : w < 4096) : ct_i l g cl tys y_ST_nextSet c_ST_nextSet 2 (some .int) ({ frames := 0, cells := 0, slots := 0, locals := 0 } : Room) [.int (nI s1), .int (nI w)] ww ww (nI ((s1 + 2 ^ 32 - w) &&& w)) := by
  refine ct_i.intro (by decide) (Nat.le_of_ble_eq_true rfl) ?_
  intro p e s m args below meth c Q A ls hx hb hml hT hown hA hK hN hret hP hD hS hl
  have hown : s.vm.findClass R_ST = some m.cls := hown
  have hl : lv_has ls 2 [(0, .int (nI s1)), (1, .int (nI w))] := hl
  refine lv_iload_n hx hb d_ST_nextSet_0 rfl (lv_at hl 0 rfl) ?_
  refine lv_iload_n hx hb d_ST_nextSet_1 rfl (lv_at hl 1 rfl) ?_
  refine lv_isub hx hb d_ST_nextSet_2 ?_
  refine my_ei (nxS (by omega)) ?_
  refine lv_iload_n hx hb d_ST_nextSet_3 rfl (lv_at hl 1 rfl) ?_
  refine lv_iand hx hb d_ST_nextSet_4 ?_
  refine my_ei (nx_and (s1 + 2 ^ 32 - w) w) ?_
  refine hret _ _ _ _ _ hP hD hS d_ST_nextSet_5 ?_
  rfl
set_option maxHeartbeats 4000000 in
set_option maxRecDepth 100000 in
theorem k_Tr_withDigit (l : Launch) (g : va_G) (cl : List vw_C) (tys : List (ClassId × FieldType)) (ww : va_W) (n : Nat) (d : Int64) (e1 : Int64)  : ct_l l g cl tys y_Tr_withDigit c_Tr_withDigit 5 (some .long) ({ frames := 0, cells := 0, slots := 0, locals := 0 } : Room) [.int (nI n), .long d, .long e1] ww ww (wD n d e1) := by
  refine ct_l.intro (by decide) (Nat.le_of_ble_eq_true rfl) ?_
  intro p e s m args below meth c Q A ls hx hb hml hT hown hA hK hN hret hP hD hS hl
  have hown : s.vm.findClass R_Tr = some m.cls := hown
  have hl : lv_has ls 5 [(0, .int (nI n)), (1, .long d), (3, .long e1)] := hl
  refine lv_iload_n hx hb d_Tr_withDigit_0 rfl (lv_at hl 0 rfl) ?_
  refine lv_iconst (v := (nI 1)) hx hb d_Tr_withDigit_1 (by decide) ?_
  refine lv_iand hx hb d_Tr_withDigit_2 ?_
  refine my_ei (nx_and n 1) ?_
  have q1 : n &&& 1 < 2 := Nat.lt_of_le_of_lt Nat.and_le_right (by decide)
  refine my_if_eq (tgt := 12) (a := n &&& 1) hx hb d_Tr_withDigit_3 (by decide) (by omega) (fun c_3 => ?_) (fun c_3 => ?_)
  · -- 3: taken
    refine lv_lload_n hx hb d_Tr_withDigit_12 rfl (lv_at hl 1 rfl) ?_
    refine lv_lload_n hx hb d_Tr_withDigit_13 rfl (lv_at hl 2 rfl) ?_
    refine lv_lor hx hb d_Tr_withDigit_14 ?_
    refine hret _ _ _ _ _ hP hD hS d_Tr_withDigit_15 ?_
    first | (simp [wD, c_3]; done) | (rw [wD, if_neg (by omega)])
  · -- 3: not taken
    refine lv_lload_n hx hb d_Tr_withDigit_6 rfl (lv_at hl 1 rfl) ?_
    refine lv_lload_n hx hb d_Tr_withDigit_7 rfl (lv_at hl 2 rfl) ?_
    refine lv_land hx hb d_Tr_withDigit_8 ?_
    refine lv_goto (tgt := 15) hx hb d_Tr_withDigit_9 (by decide) ?_
    refine hret _ _ _ _ _ hP hD hS d_Tr_withDigit_15 ?_
    first | (simp [wD, c_3]; done) | (rw [wD, if_neg (by omega)])
set_option maxHeartbeats 4000000 in
set_option maxRecDepth 100000 in
theorem k_Tr_allOf (l : Launch) (g : va_G) (a rB rT : Nat → Nat) (cI cJ cII cJJ : ClassId) (nc : Nat) (nv : Nat) (ng : Nat) (kd : Nat → Int32) (vo : Nat → Nat) (nu : Nat → Nat) (nd : Nat → Nat) (en : Nat → Nat) (br : Nat → Nat → Nat) (bc : Nat → Nat) (un : Nat → Nat) (eu : Nat → Nat) (li : Nat → Nat) (tb : Nat → Nat → Int64) (cc0 : Nat) (cp : Nat → Nat) (cu : Nat → Nat) (cd : Nat → Nat) (tc : Nat) (ts : Nat → Nat) (tf : Nat → Nat) (ox : Bool) (ow : Nat → Nat) (ob : Nat → Nat) (ra : Nat) (rb : Nat) (gc : Nat) (gr : Nat) (gk : Nat → Nat) (gg : Nat → Nat) (gp : Nat → Nat) (gt : Nat → Nat) (sa : Nat) (sb : Nat) (x : Nat) (w : Nat) (hx1 : x ≤ 32) (hw : w < 64) (hbc : ∀ j, bc j ≤ 10) (hbr : ∀ j i, br j i ≤ 32) : ct_l l g vwCl (tyS cI cJ cII cJJ) y_Tr_allOf c_Tr_allOf 6 (some .long) ({ frames := 0, cells := 0, slots := 0, locals := 0 } : Room) [.ref (a 2), .int (nI x), .int (nI w)] (stW a rB rT cI cJ cII cJJ nc nv ng kd vo nu nd en br bc un eu li tb cc0 cp cu cd tc ts tf ox ow ob ra rb gc gr gk gg gp gt sa sb) (stW a rB rT cI cJ cII cJJ nc nv ng kd vo nu nd en br bc un eu li tb cc0 cp cu cd tc ts tf ox ow ob ra rb gc gr gk gg gp gt sa sb) (alF tb br x w (bc x)) := by
  refine ct_l.intro (by decide) (Nat.le_of_ble_eq_true rfl) ?_
  intro p e s m args below meth c Q A ls hx hb hml hT hown hA hK hN hret hP hD hS hl
  have hown : s.vm.findClass R_Tr = some m.cls := hown
  have hl : lv_has ls 6 [(0, .ref (a 2)), (1, .int (nI x)), (2, .int (nI w))] := hl
  have q1 := hbc x
  refine lv_ldc2 (v := (-1)) hx hb hown (hT _ tw_269) d_Tr_allOf_0 ?_
  refine lv_lstore_n (lv' := [(3, .long (-1)), (0, .ref (a 2)), (1, .int (nI x)), (2, .int (nI w))]) hx hb d_Tr_allOf_3 rfl hl (by decide) rfl (fun ls hl => ?_)
  refine lv_iconst (v := (nI 0)) hx hb d_Tr_allOf_4 (by decide) ?_
  refine lv_istore (lv' := [(5, .int (nI 0)), (3, .long (-1)), (0, .ref (a 2)), (1, .int (nI x)), (2, .int (nI w))]) hx hb d_Tr_allOf_5 hl (by decide) rfl (fun ls hl => ?_)
  have lp_7 : ∀ (k : Nat) (i : Nat) (v : Int64) (H : Heap) (locs : List Loc) (ls : Array Slot), (bc x < i + k) → (i ≤ bc x) → (v = alF tb br x w i) → va_P g vwCl (stW a rB rT cI cJ cII cJJ nc nv ng kd vo nu nd en br bc un eu li tb cc0 cp cu cd tc ts tf ox ow ob ra rb gc gr gk gg gp gt sa sb) H → va_D A (stW a rB rT cI cJ cII cJJ nc nv ng kd vo nu nd en br bc un eu li tb cc0 cp cu cd tc ts tf ox ow ob ra rb gc gr gk gg gp gt sa sb) → va_S A s.heap H locs → lv_has ls 6 [(0, .ref (a 2)), (1, .int (nI x)), (2, .int (nI w)), (3, .long v), (5, .int (nI i))] → W p l e ({ frames := 0, cells := 0, slots := 0, locals := 0 } : Room) s m args below meth c H locs 0 0 Q (F0 m 7 ls []) := by
    intro k
    induction k with
    | zero =>
      intro i v H locs ls hk hi hf hP hD hS hl
      exfalso
      omega
    | succ k ih_7 =>
      intro i v H locs ls hk hi hf hP hD hS hl
      refine lv_iload hx hb d_Tr_allOf_7 (lv_at hl 4 rfl) ?_
      refine lv_aload_n hx hb d_Tr_allOf_9 rfl (lv_at hl 0 rfl) ?_
      refine va_get (D := g) (ci := 2) (v := .ref (a 1)) (C := R_Tr) (T := F_Tr) (N := 2) hx hb hT i_Tr hown hK hP 2 rfl rfl 0 (by decide) (hT _ tw_104) (fun _ h9 => h9) rfl d_Tr_allOf_10 ?_
      refine va_getN (D := g) (ci := 1) (v := .ref (a 15)) (C := R_No) (T := F_No) (N := 13) hx hb hT i_No hown hK hP 1 rfl rfl 9 (by decide) (va_Nw.use rfl (hN _ tw_57)) (fun _ h9 => h9) rfl d_Tr_allOf_13 ?_
      refine lv_iload_n hx hb d_Tr_allOf_16 rfl (lv_at hl 1 rfl) ?_
      refine my_iald (v := (nI (bc x))) (i := x) hx hb hK hP 15 0 rfl rfl (by omega) (by decide) rfl d_Tr_allOf_17 ?_
      refine my_icmp_ge (tgt := 49) (a := i) (b := bc x) hx hb d_Tr_allOf_18 (by decide) (by omega) (by omega) (fun c_18 => ?_) (fun c_18 => ?_)
      · -- 18: taken
        refine lv_lload_n hx hb d_Tr_allOf_49 rfl (lv_at hl 3 rfl) ?_
        refine hret _ _ _ _ _ hP hD hS d_Tr_allOf_50 ?_
        rw [hf, show i = bc x by omega]
      · -- 18: not taken
        have q2 := hbr x i
        refine lv_lload_n hx hb d_Tr_allOf_21 rfl (lv_at hl 3 rfl) ?_
        refine lv_aload_n hx hb d_Tr_allOf_22 rfl (lv_at hl 0 rfl) ?_
        refine va_get (D := g) (ci := 2) (v := .ref (a 19)) (C := R_Tr) (T := F_Tr) (N := 2) hx hb hT i_Tr hown hK hP 2 rfl rfl 1 (by decide) (hT _ tw_105) (fun _ h9 => h9) rfl d_Tr_allOf_23 ?_
        refine lv_aload_n hx hb d_Tr_allOf_26 rfl (lv_at hl 0 rfl) ?_
        refine va_get (D := g) (ci := 2) (v := .ref (a 1)) (C := R_Tr) (T := F_Tr) (N := 2) hx hb hT i_Tr hown hK hP 2 rfl rfl 0 (by decide) (hT _ tw_104) (fun _ h9 => h9) rfl d_Tr_allOf_27 ?_
        refine va_getN (D := g) (ci := 1) (v := .ref (a 14)) (C := R_No) (T := F_No) (N := 13) hx hb hT i_No hown hK hP 1 rfl rfl 8 (by decide) (va_Nw.use rfl (hN _ tw_53)) (fun _ h9 => h9) rfl d_Tr_allOf_30 ?_
        refine lv_iload_n hx hb d_Tr_allOf_33 rfl (lv_at hl 1 rfl) ?_
        refine my_aald (r := rB) (i := x) hx hb hK hP 14 2 rfl rfl (by omega) (by decide) d_Tr_allOf_34 ?_
        refine lv_iload hx hb d_Tr_allOf_35 (lv_at hl 4 rfl) ?_
        refine my_iald (v := (nI (br x i))) (i := i) hx hb hK hP (31 + x) 0 (stB_at (by omega)) rfl (by omega) (by decide) rfl d_Tr_allOf_37 ?_
        refine my_aald (r := rT) (i := br x i) hx hb hK hP 19 3 rfl rfl (by omega) (by decide) d_Tr_allOf_38 ?_
        refine lv_iload_n hx hb d_Tr_allOf_39 rfl (lv_at hl 2 rfl) ?_
        refine my_lald (v := (tb (br x i) w)) (i := w) hx hb hK hP (64 + (br x i)) 1 (stT_at (by omega)) rfl (by omega) (by decide) rfl d_Tr_allOf_40 ?_
        refine lv_land hx hb d_Tr_allOf_41 ?_
        refine lv_lstore_n (lv' := [(3, .long (v &&& (tb (br x i) w))), (0, .ref (a 2)), (1, .int (nI x)), (2, .int (nI w)), (5, .int (nI i))]) hx hb d_Tr_allOf_42 rfl hl (by decide) rfl (fun ls hl => ?_)
        refine lv_iinc (v := (nI (i + 1))) (lv' := [(5, .int (nI (i + 1))), (3, .long (v &&& (tb (br x i) w))), (0, .ref (a 2)), (1, .int (nI x)), (2, .int (nI w))]) hx hb d_Tr_allOf_43 hl (k := 4) rfl (nI_1 i) (by decide) rfl (fun ls hl => ?_)
        refine lv_goto (tgt := 7) hx hb d_Tr_allOf_46 (by decide) ?_
        refine ih_7 (i + 1) _ _ _ _ ?_ ?_ ?_ hP hD hS (lv_sub hl [2, 3, 4, 1, 0] rfl)
        · omega
        · omega
        · rw [hf]; rfl
  refine lp_7 (bc x + 1) 0 _ _ _ _ ?_ ?_ ?_ hP hD hS (lv_sub hl [2, 3, 4, 1, 0] rfl)
  · omega
  · omega
  · rfl
set_option maxHeartbeats 4000000 in
set_option maxRecDepth 100000 in
theorem k_Tr_anyOf (l : Launch) (g : va_G) (a rB rT : Nat → Nat) (cI cJ cII cJJ : ClassId) (nc : Nat) (nv : Nat) (ng : Nat) (kd : Nat → Int32) (vo : Nat → Nat) (nu : Nat → Nat) (nd : Nat → Nat) (en : Nat → Nat) (br : Nat → Nat → Nat) (bc : Nat → Nat) (un : Nat → Nat) (eu : Nat → Nat) (li : Nat → Nat) (tb : Nat → Nat → Int64) (cc0 : Nat) (cp : Nat → Nat) (cu : Nat → Nat) (cd : Nat → Nat) (tc : Nat) (ts : Nat → Nat) (tf : Nat → Nat) (ox : Bool) (ow : Nat → Nat) (ob : Nat → Nat) (ra : Nat) (rb : Nat) (gc : Nat) (gr : Nat) (gk : Nat → Nat) (gg : Nat → Nat) (gp : Nat → Nat) (gt : Nat → Nat) (sa : Nat) (sb : Nat) (x : Nat) (w : Nat) (hx1 : x ≤ 32) (hw : w < 64) (hbc : ∀ j, bc j ≤ 10) (hbr : ∀ j i, br j i ≤ 32) : ct_l l g vwCl (tyS cI cJ cII cJJ) y_Tr_anyOf c_Tr_anyOf 6 (some .long) ({ frames := 0, cells := 0, slots := 0, locals := 0 } : Room) [.ref (a 2), .int (nI x), .int (nI w)] (stW a rB rT cI cJ cII cJJ nc nv ng kd vo nu nd en br bc un eu li tb cc0 cp cu cd tc ts tf ox ow ob ra rb gc gr gk gg gp gt sa sb) (stW a rB rT cI cJ cII cJJ nc nv ng kd vo nu nd en br bc un eu li tb cc0 cp cu cd tc ts tf ox ow ob ra rb gc gr gk gg gp gt sa sb) (anF tb br x w (bc x)) := by
  refine ct_l.intro (by decide) (Nat.le_of_ble_eq_true rfl) ?_
  intro p e s m args below meth c Q A ls hx hb hml hT hown hA hK hN hret hP hD hS hl
  have hown : s.vm.findClass R_Tr = some m.cls := hown
  have hl : lv_has ls 6 [(0, .ref (a 2)), (1, .int (nI x)), (2, .int (nI w))] := hl
  have q1 := hbc x
  refine lv_lconst (v := (lN 0)) hx hb d_Tr_anyOf_0 (by decide) ?_
  refine lv_lstore_n (lv' := [(3, .long (lN 0)), (0, .ref (a 2)), (1, .int (nI x)), (2, .int (nI w))]) hx hb d_Tr_anyOf_1 rfl hl (by decide) rfl (fun ls hl => ?_)
  refine lv_iconst (v := (nI 0)) hx hb d_Tr_anyOf_2 (by decide) ?_
  refine lv_istore (lv' := [(5, .int (nI 0)), (3, .long (lN 0)), (0, .ref (a 2)), (1, .int (nI x)), (2, .int (nI w))]) hx hb d_Tr_anyOf_3 hl (by decide) rfl (fun ls hl => ?_)
  have lp_5 : ∀ (k : Nat) (i : Nat) (v : Int64) (H : Heap) (locs : List Loc) (ls : Array Slot), (bc x < i + k) → (i ≤ bc x) → (v = anF tb br x w i) → va_P g vwCl (stW a rB rT cI cJ cII cJJ nc nv ng kd vo nu nd en br bc un eu li tb cc0 cp cu cd tc ts tf ox ow ob ra rb gc gr gk gg gp gt sa sb) H → va_D A (stW a rB rT cI cJ cII cJJ nc nv ng kd vo nu nd en br bc un eu li tb cc0 cp cu cd tc ts tf ox ow ob ra rb gc gr gk gg gp gt sa sb) → va_S A s.heap H locs → lv_has ls 6 [(0, .ref (a 2)), (1, .int (nI x)), (2, .int (nI w)), (3, .long v), (5, .int (nI i))] → W p l e ({ frames := 0, cells := 0, slots := 0, locals := 0 } : Room) s m args below meth c H locs 0 0 Q (F0 m 5 ls []) := by
    intro k
    induction k with
    | zero =>
      intro i v H locs ls hk hi hf hP hD hS hl
      exfalso
      omega
    | succ k ih_5 =>
      intro i v H locs ls hk hi hf hP hD hS hl
      refine lv_iload hx hb d_Tr_anyOf_5 (lv_at hl 4 rfl) ?_
      refine lv_aload_n hx hb d_Tr_anyOf_7 rfl (lv_at hl 0 rfl) ?_
      refine va_get (D := g) (ci := 2) (v := .ref (a 1)) (C := R_Tr) (T := F_Tr) (N := 2) hx hb hT i_Tr hown hK hP 2 rfl rfl 0 (by decide) (hT _ tw_104) (fun _ h9 => h9) rfl d_Tr_anyOf_8 ?_
      refine va_getN (D := g) (ci := 1) (v := .ref (a 15)) (C := R_No) (T := F_No) (N := 13) hx hb hT i_No hown hK hP 1 rfl rfl 9 (by decide) (va_Nw.use rfl (hN _ tw_57)) (fun _ h9 => h9) rfl d_Tr_anyOf_11 ?_
      refine lv_iload_n hx hb d_Tr_anyOf_14 rfl (lv_at hl 1 rfl) ?_
      refine my_iald (v := (nI (bc x))) (i := x) hx hb hK hP 15 0 rfl rfl (by omega) (by decide) rfl d_Tr_anyOf_15 ?_
      refine my_icmp_ge (tgt := 47) (a := i) (b := bc x) hx hb d_Tr_anyOf_16 (by decide) (by omega) (by omega) (fun c_16 => ?_) (fun c_16 => ?_)
      · -- 16: taken
        refine lv_lload_n hx hb d_Tr_anyOf_47 rfl (lv_at hl 3 rfl) ?_
        refine hret _ _ _ _ _ hP hD hS d_Tr_anyOf_48 ?_
        rw [hf, show i = bc x by omega]
      · -- 16: not taken
        have q2 := hbr x i
        refine lv_lload_n hx hb d_Tr_anyOf_19 rfl (lv_at hl 3 rfl) ?_
        refine lv_aload_n hx hb d_Tr_anyOf_20 rfl (lv_at hl 0 rfl) ?_
        refine va_get (D := g) (ci := 2) (v := .ref (a 19)) (C := R_Tr) (T := F_Tr) (N := 2) hx hb hT i_Tr hown hK hP 2 rfl rfl 1 (by decide) (hT _ tw_105) (fun _ h9 => h9) rfl d_Tr_anyOf_21 ?_
        refine lv_aload_n hx hb d_Tr_anyOf_24 rfl (lv_at hl 0 rfl) ?_
        refine va_get (D := g) (ci := 2) (v := .ref (a 1)) (C := R_Tr) (T := F_Tr) (N := 2) hx hb hT i_Tr hown hK hP 2 rfl rfl 0 (by decide) (hT _ tw_104) (fun _ h9 => h9) rfl d_Tr_anyOf_25 ?_
        refine va_getN (D := g) (ci := 1) (v := .ref (a 14)) (C := R_No) (T := F_No) (N := 13) hx hb hT i_No hown hK hP 1 rfl rfl 8 (by decide) (va_Nw.use rfl (hN _ tw_53)) (fun _ h9 => h9) rfl d_Tr_anyOf_28 ?_
        refine lv_iload_n hx hb d_Tr_anyOf_31 rfl (lv_at hl 1 rfl) ?_
        refine my_aald (r := rB) (i := x) hx hb hK hP 14 2 rfl rfl (by omega) (by decide) d_Tr_anyOf_32 ?_
        refine lv_iload hx hb d_Tr_anyOf_33 (lv_at hl 4 rfl) ?_
        refine my_iald (v := (nI (br x i))) (i := i) hx hb hK hP (31 + x) 0 (stB_at (by omega)) rfl (by omega) (by decide) rfl d_Tr_anyOf_35 ?_
        refine my_aald (r := rT) (i := br x i) hx hb hK hP 19 3 rfl rfl (by omega) (by decide) d_Tr_anyOf_36 ?_
        refine lv_iload_n hx hb d_Tr_anyOf_37 rfl (lv_at hl 2 rfl) ?_
        refine my_lald (v := (tb (br x i) w)) (i := w) hx hb hK hP (64 + (br x i)) 1 (stT_at (by omega)) rfl (by omega) (by decide) rfl d_Tr_anyOf_38 ?_
        refine lv_lor hx hb d_Tr_anyOf_39 ?_
        refine lv_lstore_n (lv' := [(3, .long (v ||| (tb (br x i) w))), (0, .ref (a 2)), (1, .int (nI x)), (2, .int (nI w)), (5, .int (nI i))]) hx hb d_Tr_anyOf_40 rfl hl (by decide) rfl (fun ls hl => ?_)
        refine lv_iinc (v := (nI (i + 1))) (lv' := [(5, .int (nI (i + 1))), (3, .long (v ||| (tb (br x i) w))), (0, .ref (a 2)), (1, .int (nI x)), (2, .int (nI w))]) hx hb d_Tr_anyOf_41 hl (k := 4) rfl (nI_1 i) (by decide) rfl (fun ls hl => ?_)
        refine lv_goto (tgt := 5) hx hb d_Tr_anyOf_44 (by decide) ?_
        refine ih_5 (i + 1) _ _ _ _ ?_ ?_ ?_ hP hD hS (lv_sub hl [2, 3, 4, 1, 0] rfl)
        · omega
        · omega
        · rw [hf]; rfl
  refine lp_5 (bc x + 1) 0 _ _ _ _ ?_ ?_ ?_ hP hD hS (lv_sub hl [2, 3, 4, 1, 0] rfl)
  · omega
  · omega
  · rfl
set_option maxHeartbeats 4000000 in
set_option maxRecDepth 100000 in
theorem k_Tr_votesOf (l : Launch) (g : va_G) (a rB rT : Nat → Nat) (cI cJ cII cJJ : ClassId) (nc : Nat) (nv : Nat) (ng : Nat) (kd : Nat → Int32) (vo : Nat → Nat) (nu : Nat → Nat) (nd : Nat → Nat) (en : Nat → Nat) (br : Nat → Nat → Nat) (bc : Nat → Nat) (un : Nat → Nat) (eu : Nat → Nat) (li : Nat → Nat) (tb : Nat → Nat → Int64) (cc0 : Nat) (cp : Nat → Nat) (cu : Nat → Nat) (cd : Nat → Nat) (tc : Nat) (ts : Nat → Nat) (tf : Nat → Nat) (ox : Bool) (ow : Nat → Nat) (ob : Nat → Nat) (ra : Nat) (rb : Nat) (gc : Nat) (gr : Nat) (gk : Nat → Nat) (gg : Nat → Nat) (gp : Nat → Nat) (gt : Nat → Nat) (sa : Nat) (sb : Nat) (x : Nat) (w : Nat) (hx1 : x ≤ 32) (hw : w < 64) (hbc : ∀ j, bc j ≤ 10) (hbr : ∀ j i, br j i ≤ 32) (hvo : ∀ j, vo j ≤ 10) : ct_l l g vwCl (tyS cI cJ cII cJJ) y_Tr_votesOf c_Tr_votesOf 20 (some .long) ({ frames := 1, cells := 0, slots := 0, locals := 24 } : Room) [.ref (a 2), .int (nI x), .int (nI w)] (stW a rB rT cI cJ cII cJJ nc nv ng kd vo nu nd en br bc un eu li tb cc0 cp cu cd tc ts tf ox ow ob ra rb gc gr gk gg gp gt sa sb) (stW a rB rT cI cJ cII cJJ nc nv ng kd vo nu nd en br bc un eu li tb cc0 cp cu cd tc ts tf ox ow ob ra rb gc gr gk gg gp gt sa sb) (voF (vo x) (vS tb br x w (bc x))) := by
  refine ct_l.intro (by decide) (Nat.le_of_ble_eq_true rfl) ?_
  intro p e s m args below meth c Q A ls hx hb hml hT hown hA hK hN hret hP hD hS hl
  have hown : s.vm.findClass R_Tr = some m.cls := hown
  have hl : lv_has ls 20 [(0, .ref (a 2)), (1, .int (nI x)), (2, .int (nI w))] := hl
  have q1 := hbc x
  have q3 := hvo x
  refine lv_lconst (v := (lN 0)) hx hb d_Tr_votesOf_0 (by decide) ?_
  refine lv_lstore_n (lv' := [(3, .long (lN 0)), (0, .ref (a 2)), (1, .int (nI x)), (2, .int (nI w))]) hx hb d_Tr_votesOf_1 rfl hl (by decide) rfl (fun ls hl => ?_)
  refine lv_lconst (v := (lN 0)) hx hb d_Tr_votesOf_2 (by decide) ?_
  refine lv_lstore (lv' := [(5, .long (lN 0)), (3, .long (lN 0)), (0, .ref (a 2)), (1, .int (nI x)), (2, .int (nI w))]) hx hb d_Tr_votesOf_3 hl (by decide) rfl (fun ls hl => ?_)
  refine lv_lconst (v := (lN 0)) hx hb d_Tr_votesOf_5 (by decide) ?_
  refine lv_lstore (lv' := [(7, .long (lN 0)), (5, .long (lN 0)), (3, .long (lN 0)), (0, .ref (a 2)), (1, .int (nI x)), (2, .int (nI w))]) hx hb d_Tr_votesOf_6 hl (by decide) rfl (fun ls hl => ?_)
  refine lv_lconst (v := (lN 0)) hx hb d_Tr_votesOf_8 (by decide) ?_
  refine lv_lstore (lv' := [(9, .long (lN 0)), (7, .long (lN 0)), (5, .long (lN 0)), (3, .long (lN 0)), (0, .ref (a 2)), (1, .int (nI x)), (2, .int (nI w))]) hx hb d_Tr_votesOf_9 hl (by decide) rfl (fun ls hl => ?_)
  refine lv_iconst (v := (nI 0)) hx hb d_Tr_votesOf_11 (by decide) ?_
  refine lv_istore (lv' := [(11, .int (nI 0)), (9, .long (lN 0)), (7, .long (lN 0)), (5, .long (lN 0)), (3, .long (lN 0)), (0, .ref (a 2)), (1, .int (nI x)), (2, .int (nI w))]) hx hb d_Tr_votesOf_12 hl (by decide) rfl (fun ls hl => ?_)
  have lp_14 : ∀ (k : Nat) (i : Nat) (o : Int64) (t : Int64) (f : Int64) (e8 : Int64) (H : Heap) (locs : List Loc) (ls : Array Slot), (bc x < i + k) → (i ≤ bc x) → ((o, t, f, e8) = vS tb br x w i) → va_P g vwCl (stW a rB rT cI cJ cII cJJ nc nv ng kd vo nu nd en br bc un eu li tb cc0 cp cu cd tc ts tf ox ow ob ra rb gc gr gk gg gp gt sa sb) H → va_D A (stW a rB rT cI cJ cII cJJ nc nv ng kd vo nu nd en br bc un eu li tb cc0 cp cu cd tc ts tf ox ow ob ra rb gc gr gk gg gp gt sa sb) → va_S A s.heap H locs → lv_has ls 20 [(0, .ref (a 2)), (1, .int (nI x)), (2, .int (nI w)), (3, .long o), (5, .long t), (7, .long f), (9, .long e8), (11, .int (nI i))] → W p l e ({ frames := 1, cells := 0, slots := 0, locals := 24 } : Room) s m args below meth c H locs 0 0 Q (F0 m 14 ls []) := by
    intro k
    induction k with
    | zero =>
      intro i o t f e8 H locs ls hk hi hf hP hD hS hl
      exfalso
      omega
    | succ k ih_14 =>
      intro i o t f e8 H locs ls hk hi hf hP hD hS hl
      refine lv_iload hx hb d_Tr_votesOf_14 (lv_at hl 7 rfl) ?_
      refine lv_aload_n hx hb d_Tr_votesOf_16 rfl (lv_at hl 0 rfl) ?_
      refine va_get (D := g) (ci := 2) (v := .ref (a 1)) (C := R_Tr) (T := F_Tr) (N := 2) hx hb hT i_Tr hown hK hP 2 rfl rfl 0 (by decide) (hT _ tw_104) (fun _ h9 => h9) rfl d_Tr_votesOf_17 ?_
      refine va_getN (D := g) (ci := 1) (v := .ref (a 15)) (C := R_No) (T := F_No) (N := 13) hx hb hT i_No hown hK hP 1 rfl rfl 9 (by decide) (va_Nw.use rfl (hN _ tw_57)) (fun _ h9 => h9) rfl d_Tr_votesOf_20 ?_
      refine lv_iload_n hx hb d_Tr_votesOf_23 rfl (lv_at hl 1 rfl) ?_
      refine my_iald (v := (nI (bc x))) (i := x) hx hb hK hP 15 0 rfl rfl (by omega) (by decide) rfl d_Tr_votesOf_24 ?_
      refine my_icmp_ge (tgt := 101) (a := i) (b := bc x) hx hb d_Tr_votesOf_25 (by decide) (by omega) (by omega) (fun c_25 => ?_) (fun c_25 => ?_)
      · -- 25: taken
        refine lv_aload_n hx hb d_Tr_votesOf_101 rfl (lv_at hl 0 rfl) ?_
        refine va_get (D := g) (ci := 2) (v := .ref (a 1)) (C := R_Tr) (T := F_Tr) (N := 2) hx hb hT i_Tr hown hK hP 2 rfl rfl 0 (by decide) (hT _ tw_104) (fun _ h9 => h9) rfl d_Tr_votesOf_102 ?_
        refine va_getN (D := g) (ci := 1) (v := .ref (a 10)) (C := R_No) (T := F_No) (N := 13) hx hb hT i_No hown hK hP 1 rfl rfl 4 (by decide) (va_Nw.use rfl (hN _ tw_44)) (fun _ h9 => h9) rfl d_Tr_votesOf_105 ?_
        refine lv_iload_n hx hb d_Tr_votesOf_108 rfl (lv_at hl 1 rfl) ?_
        refine my_iald (v := (nI (vo x))) (i := x) hx hb hK hP 10 0 rfl rfl (by omega) (by decide) rfl d_Tr_votesOf_109 ?_
        refine lv_istore (lv' := [(11, .int (nI (vo x))), (0, .ref (a 2)), (1, .int (nI x)), (2, .int (nI w)), (3, .long o), (5, .long t), (7, .long f), (9, .long e8)]) hx hb d_Tr_votesOf_110 hl (by decide) rfl (fun ls hl => ?_)
        refine lv_iload hx hb d_Tr_votesOf_112 (lv_at hl 0 rfl) ?_
        refine lv_lload_n hx hb d_Tr_votesOf_114 rfl (lv_at hl 4 rfl) ?_
        refine lv_ldc2 (v := (-1)) hx hb hown (hT _ tw_269) d_Tr_votesOf_115 ?_
        refine my_S_l (As := [.int (nI (vo x)), .long o, .long (-1)]) (n := 3) (k_Tr_withDigit l g vwCl (tyS cI cJ cII cJJ) (stW a rB rT cI cJ cII cJJ nc nv ng kd vo nu nd en br bc un eu li tb cc0 cp cu cd tc ts tf ox ow ob ra rb gc gr gk gg gp gt sa sb) (vo x) o (-1) ) hx hb hml hown hT hN tw_362 tw_363 tw_3 tw_364 (by decide +kernel) rfl rfl ⟨Nat.le_of_ble_eq_true rfl, Nat.le_of_ble_eq_true rfl⟩ ⟨Nat.zero_le _, Nat.zero_le _⟩ hK hP hD hS hA rfl hl rfl (Nat.le_of_ble_eq_true rfl) d_Tr_votesOf_118 (fun H locs hP hD hS => ?_)
        refine lv_lstore (lv' := [(12, .long (wD (vo x) o (-1))), (11, .int (nI (vo x))), (0, .ref (a 2)), (1, .int (nI x)), (2, .int (nI w)), (3, .long o), (5, .long t), (7, .long f), (9, .long e8)]) hx hb d_Tr_votesOf_121 hl (by decide) rfl (fun ls hl => ?_)
        refine lv_iload hx hb d_Tr_votesOf_123 (lv_at hl 1 rfl) ?_
        refine lv_iconst (v := (nI 1)) hx hb d_Tr_votesOf_125 (by decide) ?_
        refine lv_ishr hx hb d_Tr_votesOf_126 ?_
        refine my_ei (pk_shrN (n := vo x) (by omega) _ 1 (s_l 1 (by omega))) ?_
        refine lv_lload hx hb d_Tr_votesOf_127 (lv_at hl 6 rfl) ?_
        refine lv_lload hx hb d_Tr_votesOf_129 (lv_at hl 0 rfl) ?_
        refine my_S_l (As := [.int (nI ((vo x) / 2 ^ 1)), .long t, .long (wD (vo x) o (-1))]) (n := 3) (k_Tr_withDigit l g vwCl (tyS cI cJ cII cJJ) (stW a rB rT cI cJ cII cJJ nc nv ng kd vo nu nd en br bc un eu li tb cc0 cp cu cd tc ts tf ox ow ob ra rb gc gr gk gg gp gt sa sb) ((vo x) / 2 ^ 1) t (wD (vo x) o (-1)) ) hx hb hml hown hT hN tw_362 tw_363 tw_3 tw_364 (by decide +kernel) rfl rfl ⟨Nat.le_of_ble_eq_true rfl, Nat.le_of_ble_eq_true rfl⟩ ⟨Nat.zero_le _, Nat.zero_le _⟩ hK hP hD hS hA rfl hl rfl (Nat.le_of_ble_eq_true rfl) d_Tr_votesOf_131 (fun H locs hP hD hS => ?_)
        refine lv_lstore (lv' := [(12, .long (wD ((vo x) / 2 ^ 1) t (wD (vo x) o (-1)))), (11, .int (nI (vo x))), (0, .ref (a 2)), (1, .int (nI x)), (2, .int (nI w)), (3, .long o), (5, .long t), (7, .long f), (9, .long e8)]) hx hb d_Tr_votesOf_134 hl (by decide) rfl (fun ls hl => ?_)
        refine lv_iload hx hb d_Tr_votesOf_136 (lv_at hl 1 rfl) ?_
        refine lv_iconst (v := (nI 2)) hx hb d_Tr_votesOf_138 (by decide) ?_
        refine lv_ishr hx hb d_Tr_votesOf_139 ?_
        refine my_ei (pk_shrN (n := vo x) (by omega) _ 2 (s_l 2 (by omega))) ?_
        refine lv_lload hx hb d_Tr_votesOf_140 (lv_at hl 7 rfl) ?_
        refine lv_lload hx hb d_Tr_votesOf_142 (lv_at hl 0 rfl) ?_
        refine my_S_l (As := [.int (nI ((vo x) / 2 ^ 2)), .long f, .long (wD ((vo x) / 2 ^ 1) t (wD (vo x) o (-1)))]) (n := 3) (k_Tr_withDigit l g vwCl (tyS cI cJ cII cJJ) (stW a rB rT cI cJ cII cJJ nc nv ng kd vo nu nd en br bc un eu li tb cc0 cp cu cd tc ts tf ox ow ob ra rb gc gr gk gg gp gt sa sb) ((vo x) / 2 ^ 2) f (wD ((vo x) / 2 ^ 1) t (wD (vo x) o (-1))) ) hx hb hml hown hT hN tw_362 tw_363 tw_3 tw_364 (by decide +kernel) rfl rfl ⟨Nat.le_of_ble_eq_true rfl, Nat.le_of_ble_eq_true rfl⟩ ⟨Nat.zero_le _, Nat.zero_le _⟩ hK hP hD hS hA rfl hl rfl (Nat.le_of_ble_eq_true rfl) d_Tr_votesOf_144 (fun H locs hP hD hS => ?_)
        refine lv_lstore (lv' := [(12, .long (wD ((vo x) / 2 ^ 2) f (wD ((vo x) / 2 ^ 1) t (wD (vo x) o (-1))))), (11, .int (nI (vo x))), (0, .ref (a 2)), (1, .int (nI x)), (2, .int (nI w)), (3, .long o), (5, .long t), (7, .long f), (9, .long e8)]) hx hb d_Tr_votesOf_147 hl (by decide) rfl (fun ls hl => ?_)
        refine lv_iload hx hb d_Tr_votesOf_149 (lv_at hl 1 rfl) ?_
        refine lv_iconst (v := (nI 3)) hx hb d_Tr_votesOf_151 (by decide) ?_
        refine lv_ishr hx hb d_Tr_votesOf_152 ?_
        refine my_ei (pk_shrN (n := vo x) (by omega) _ 3 (s_l 3 (by omega))) ?_
        refine lv_lload hx hb d_Tr_votesOf_153 (lv_at hl 8 rfl) ?_
        refine lv_lload hx hb d_Tr_votesOf_155 (lv_at hl 0 rfl) ?_
        refine my_S_l (As := [.int (nI ((vo x) / 2 ^ 3)), .long e8, .long (wD ((vo x) / 2 ^ 2) f (wD ((vo x) / 2 ^ 1) t (wD (vo x) o (-1))))]) (n := 3) (k_Tr_withDigit l g vwCl (tyS cI cJ cII cJJ) (stW a rB rT cI cJ cII cJJ nc nv ng kd vo nu nd en br bc un eu li tb cc0 cp cu cd tc ts tf ox ow ob ra rb gc gr gk gg gp gt sa sb) ((vo x) / 2 ^ 3) e8 (wD ((vo x) / 2 ^ 2) f (wD ((vo x) / 2 ^ 1) t (wD (vo x) o (-1)))) ) hx hb hml hown hT hN tw_362 tw_363 tw_3 tw_364 (by decide +kernel) rfl rfl ⟨Nat.le_of_ble_eq_true rfl, Nat.le_of_ble_eq_true rfl⟩ ⟨Nat.zero_le _, Nat.zero_le _⟩ hK hP hD hS hA rfl hl rfl (Nat.le_of_ble_eq_true rfl) d_Tr_votesOf_157 (fun H locs hP hD hS => ?_)
        refine hret _ _ _ _ _ hP hD hS d_Tr_votesOf_160 ?_
        rw [show bc x = i by omega, ← hf]; rfl
      · -- 25: not taken
        have q2 := hbr x i
        refine lv_aload_n hx hb d_Tr_votesOf_28 rfl (lv_at hl 0 rfl) ?_
        refine va_get (D := g) (ci := 2) (v := .ref (a 19)) (C := R_Tr) (T := F_Tr) (N := 2) hx hb hT i_Tr hown hK hP 2 rfl rfl 1 (by decide) (hT _ tw_105) (fun _ h9 => h9) rfl d_Tr_votesOf_29 ?_
        refine lv_aload_n hx hb d_Tr_votesOf_32 rfl (lv_at hl 0 rfl) ?_
        refine va_get (D := g) (ci := 2) (v := .ref (a 1)) (C := R_Tr) (T := F_Tr) (N := 2) hx hb hT i_Tr hown hK hP 2 rfl rfl 0 (by decide) (hT _ tw_104) (fun _ h9 => h9) rfl d_Tr_votesOf_33 ?_
        refine va_getN (D := g) (ci := 1) (v := .ref (a 14)) (C := R_No) (T := F_No) (N := 13) hx hb hT i_No hown hK hP 1 rfl rfl 8 (by decide) (va_Nw.use rfl (hN _ tw_53)) (fun _ h9 => h9) rfl d_Tr_votesOf_36 ?_
        refine lv_iload_n hx hb d_Tr_votesOf_39 rfl (lv_at hl 1 rfl) ?_
        refine my_aald (r := rB) (i := x) hx hb hK hP 14 2 rfl rfl (by omega) (by decide) d_Tr_votesOf_40 ?_
        refine lv_iload hx hb d_Tr_votesOf_41 (lv_at hl 7 rfl) ?_
        refine my_iald (v := (nI (br x i))) (i := i) hx hb hK hP (31 + x) 0 (stB_at (by omega)) rfl (by omega) (by decide) rfl d_Tr_votesOf_43 ?_
        refine my_aald (r := rT) (i := br x i) hx hb hK hP 19 3 rfl rfl (by omega) (by decide) d_Tr_votesOf_44 ?_
        refine lv_iload_n hx hb d_Tr_votesOf_45 rfl (lv_at hl 2 rfl) ?_
        refine my_lald (v := (tb (br x i) w)) (i := w) hx hb hK hP (64 + (br x i)) 1 (stT_at (by omega)) rfl (by omega) (by decide) rfl d_Tr_votesOf_46 ?_
        refine lv_lstore (lv' := [(12, .long (tb (br x i) w)), (0, .ref (a 2)), (1, .int (nI x)), (2, .int (nI w)), (3, .long o), (5, .long t), (7, .long f), (9, .long e8), (11, .int (nI i))]) hx hb d_Tr_votesOf_47 hl (by decide) rfl (fun ls hl => ?_)
        refine lv_lload_n hx hb d_Tr_votesOf_49 rfl (lv_at hl 4 rfl) ?_
        refine lv_lload hx hb d_Tr_votesOf_50 (lv_at hl 0 rfl) ?_
        refine lv_land hx hb d_Tr_votesOf_52 ?_
        refine lv_lstore (lv' := [(14, .long (o &&& (tb (br x i) w))), (12, .long (tb (br x i) w)), (0, .ref (a 2)), (1, .int (nI x)), (2, .int (nI w)), (3, .long o), (5, .long t), (7, .long f), (9, .long e8), (11, .int (nI i))]) hx hb d_Tr_votesOf_53 hl (by decide) rfl (fun ls hl => ?_)
        refine lv_lload hx hb d_Tr_votesOf_55 (lv_at hl 6 rfl) ?_
        refine lv_lload hx hb d_Tr_votesOf_57 (lv_at hl 0 rfl) ?_
        refine lv_land hx hb d_Tr_votesOf_59 ?_
        refine lv_lstore (lv' := [(16, .long (t &&& (o &&& (tb (br x i) w)))), (14, .long (o &&& (tb (br x i) w))), (12, .long (tb (br x i) w)), (0, .ref (a 2)), (1, .int (nI x)), (2, .int (nI w)), (3, .long o), (5, .long t), (7, .long f), (9, .long e8), (11, .int (nI i))]) hx hb d_Tr_votesOf_60 hl (by decide) rfl (fun ls hl => ?_)
        refine lv_lload hx hb d_Tr_votesOf_62 (lv_at hl 8 rfl) ?_
        refine lv_lload hx hb d_Tr_votesOf_64 (lv_at hl 0 rfl) ?_
        refine lv_land hx hb d_Tr_votesOf_66 ?_
        refine lv_lstore (lv' := [(18, .long (f &&& (t &&& (o &&& (tb (br x i) w))))), (16, .long (t &&& (o &&& (tb (br x i) w)))), (14, .long (o &&& (tb (br x i) w))), (12, .long (tb (br x i) w)), (0, .ref (a 2)), (1, .int (nI x)), (2, .int (nI w)), (3, .long o), (5, .long t), (7, .long f), (9, .long e8), (11, .int (nI i))]) hx hb d_Tr_votesOf_67 hl (by decide) rfl (fun ls hl => ?_)
        refine lv_lload_n hx hb d_Tr_votesOf_69 rfl (lv_at hl 7 rfl) ?_
        refine lv_lload hx hb d_Tr_votesOf_70 (lv_at hl 3 rfl) ?_
        refine lv_lxor hx hb d_Tr_votesOf_72 ?_
        refine lv_lstore_n (lv' := [(3, .long (o ^^^ (tb (br x i) w))), (18, .long (f &&& (t &&& (o &&& (tb (br x i) w))))), (16, .long (t &&& (o &&& (tb (br x i) w)))), (14, .long (o &&& (tb (br x i) w))), (12, .long (tb (br x i) w)), (0, .ref (a 2)), (1, .int (nI x)), (2, .int (nI w)), (5, .long t), (7, .long f), (9, .long e8), (11, .int (nI i))]) hx hb d_Tr_votesOf_73 rfl hl (by decide) rfl (fun ls hl => ?_)
        refine lv_lload hx hb d_Tr_votesOf_74 (lv_at hl 8 rfl) ?_
        refine lv_lload hx hb d_Tr_votesOf_76 (lv_at hl 3 rfl) ?_
        refine lv_lxor hx hb d_Tr_votesOf_78 ?_
        refine lv_lstore (lv' := [(5, .long (t ^^^ (o &&& (tb (br x i) w)))), (3, .long (o ^^^ (tb (br x i) w))), (18, .long (f &&& (t &&& (o &&& (tb (br x i) w))))), (16, .long (t &&& (o &&& (tb (br x i) w)))), (14, .long (o &&& (tb (br x i) w))), (12, .long (tb (br x i) w)), (0, .ref (a 2)), (1, .int (nI x)), (2, .int (nI w)), (7, .long f), (9, .long e8), (11, .int (nI i))]) hx hb d_Tr_votesOf_79 hl (by decide) rfl (fun ls hl => ?_)
        refine lv_lload hx hb d_Tr_votesOf_81 (lv_at hl 9 rfl) ?_
        refine lv_lload hx hb d_Tr_votesOf_83 (lv_at hl 3 rfl) ?_
        refine lv_lxor hx hb d_Tr_votesOf_85 ?_
        refine lv_lstore (lv' := [(7, .long (f ^^^ (t &&& (o &&& (tb (br x i) w))))), (5, .long (t ^^^ (o &&& (tb (br x i) w)))), (3, .long (o ^^^ (tb (br x i) w))), (18, .long (f &&& (t &&& (o &&& (tb (br x i) w))))), (16, .long (t &&& (o &&& (tb (br x i) w)))), (14, .long (o &&& (tb (br x i) w))), (12, .long (tb (br x i) w)), (0, .ref (a 2)), (1, .int (nI x)), (2, .int (nI w)), (9, .long e8), (11, .int (nI i))]) hx hb d_Tr_votesOf_86 hl (by decide) rfl (fun ls hl => ?_)
        refine lv_lload hx hb d_Tr_votesOf_88 (lv_at hl 10 rfl) ?_
        refine lv_lload hx hb d_Tr_votesOf_90 (lv_at hl 3 rfl) ?_
        refine lv_lxor hx hb d_Tr_votesOf_92 ?_
        refine lv_lstore (lv' := [(9, .long (e8 ^^^ (f &&& (t &&& (o &&& (tb (br x i) w)))))), (7, .long (f ^^^ (t &&& (o &&& (tb (br x i) w))))), (5, .long (t ^^^ (o &&& (tb (br x i) w)))), (3, .long (o ^^^ (tb (br x i) w))), (18, .long (f &&& (t &&& (o &&& (tb (br x i) w))))), (16, .long (t &&& (o &&& (tb (br x i) w)))), (14, .long (o &&& (tb (br x i) w))), (12, .long (tb (br x i) w)), (0, .ref (a 2)), (1, .int (nI x)), (2, .int (nI w)), (11, .int (nI i))]) hx hb d_Tr_votesOf_93 hl (by decide) rfl (fun ls hl => ?_)
        refine lv_iinc (v := (nI (i + 1))) (lv' := [(11, .int (nI (i + 1))), (9, .long (e8 ^^^ (f &&& (t &&& (o &&& (tb (br x i) w)))))), (7, .long (f ^^^ (t &&& (o &&& (tb (br x i) w))))), (5, .long (t ^^^ (o &&& (tb (br x i) w)))), (3, .long (o ^^^ (tb (br x i) w))), (18, .long (f &&& (t &&& (o &&& (tb (br x i) w))))), (16, .long (t &&& (o &&& (tb (br x i) w)))), (14, .long (o &&& (tb (br x i) w))), (12, .long (tb (br x i) w)), (0, .ref (a 2)), (1, .int (nI x)), (2, .int (nI w))]) hx hb d_Tr_votesOf_95 hl (k := 11) rfl (nI_1 i) (by decide) rfl (fun ls hl => ?_)
        refine lv_goto (tgt := 14) hx hb d_Tr_votesOf_98 (by decide) ?_
        refine ih_14 (i + 1) _ _ _ _ _ _ _ ?_ ?_ ?_ hP hD hS (lv_sub hl [9, 10, 11, 4, 3, 2, 1, 0] rfl)
        · omega
        · omega
        · simp only [vS, ← hf]
  refine lp_14 (bc x + 1) 0 _ _ _ _ _ _ _ ?_ ?_ ?_ hP hD hS (lv_sub hl [5, 6, 7, 4, 3, 2, 1, 0] rfl)
  · omega
  · omega
  · rfl
set_option maxHeartbeats 4000000 in
set_option maxRecDepth 100000 in
theorem k_Tr_gateWord (l : Launch) (g : va_G) (a rB rT : Nat → Nat) (cI cJ cII cJJ : ClassId) (nc : Nat) (nv : Nat) (ng : Nat) (kd : Nat → Int32) (vo : Nat → Nat) (nu : Nat → Nat) (nd : Nat → Nat) (en : Nat → Nat) (br : Nat → Nat → Nat) (bc : Nat → Nat) (un : Nat → Nat) (eu : Nat → Nat) (li : Nat → Nat) (tb : Nat → Nat → Int64) (cc0 : Nat) (cp : Nat → Nat) (cu : Nat → Nat) (cd : Nat → Nat) (tc : Nat) (ts : Nat → Nat) (tf : Nat → Nat) (ox : Bool) (ow : Nat → Nat) (ob : Nat → Nat) (ra : Nat) (rb : Nat) (gc : Nat) (gr : Nat) (gk : Nat → Nat) (gg : Nat → Nat) (gp : Nat → Nat) (gt : Nat → Nat) (sa : Nat) (sb : Nat) (x : Nat) (w : Nat) (hx1 : x ≤ 32) (hw : w < 64) (hbc : ∀ j, bc j ≤ 10) (hbr : ∀ j i, br j i ≤ 32) (hvo : ∀ j, vo j ≤ 10) : ct_l l g vwCl (tyS cI cJ cII cJJ) y_Tr_gateWord c_Tr_gateWord 3 (some .long) ({ frames := 2, cells := 0, slots := 0, locals := 63 } : Room) [.ref (a 2), .int (nI x), .int (nI w)] (stW a rB rT cI cJ cII cJJ nc nv ng kd vo nu nd en br bc un eu li tb cc0 cp cu cd tc ts tf ox ow ob ra rb gc gr gk gg gp gt sa sb) (stW a rB rT cI cJ cII cJJ nc nv ng kd vo nu nd en br bc un eu li tb cc0 cp cu cd tc ts tf ox ow ob ra rb gc gr gk gg gp gt sa sb) (gwF tb br kd vo bc x w) := by
  refine ct_l.intro (by decide) (Nat.le_of_ble_eq_true rfl) ?_
  intro p e s m args below meth c Q A ls hx hb hml hT hown hA hK hN hret hP hD hS hl
  have hown : s.vm.findClass R_Tr = some m.cls := hown
  have hl : lv_has ls 3 [(0, .ref (a 2)), (1, .int (nI x)), (2, .int (nI w))] := hl
  refine lv_aload_n hx hb d_Tr_gateWord_0 rfl (lv_at hl 0 rfl) ?_
  refine va_get (D := g) (ci := 2) (v := .ref (a 1)) (C := R_Tr) (T := F_Tr) (N := 2) hx hb hT i_Tr hown hK hP 2 rfl rfl 0 (by decide) (hT _ tw_104) (fun _ h9 => h9) rfl d_Tr_gateWord_1 ?_
  refine va_getN (D := g) (ci := 1) (v := .ref (a 9)) (C := R_No) (T := F_No) (N := 13) hx hb hT i_No hown hK hP 1 rfl rfl 3 (by decide) (va_Nw.use rfl (hN _ tw_40)) (fun _ h9 => h9) rfl d_Tr_gateWord_4 ?_
  refine lv_iload_n hx hb d_Tr_gateWord_7 rfl (lv_at hl 1 rfl) ?_
  refine my_iald (v := (kd x)) (i := x) hx hb hK hP 9 0 rfl rfl (by omega) (by decide) rfl d_Tr_gateWord_8 ?_
  by_cases h0 : kd x = 0
  · refine lv_lookup (off := 27) (tgt := 36) hx hb d_Tr_gateWord_9 (by decide) (by rw [h0]; decide) (by decide) ?_
    refine lv_aload_n hx hb d_Tr_gateWord_36 rfl (lv_at hl 0 rfl) ?_
    refine lv_iload_n hx hb d_Tr_gateWord_37 rfl (lv_at hl 1 rfl) ?_
    refine lv_iload_n hx hb d_Tr_gateWord_38 rfl (lv_at hl 2 rfl) ?_
    refine my_V_l (q0 := 2) (ci := 2) (C := R_Tr) (As := [.int (nI x), .int (nI w)]) (n := 2) (k_Tr_allOf l g a rB rT cI cJ cII cJJ nc nv ng kd vo nu nd en br bc un eu li tb cc0 cp cu cd tc ts tf ox ow ob ra rb gc gr gk gg gp gt sa sb x w hx1 hw hbc hbr) hx hb hml hown hT hN tw_350 tw_352 tp_2 tw_3 tw_353 (by decide +kernel) rfl rfl ⟨Nat.le_of_ble_eq_true rfl, Nat.le_of_ble_eq_true rfl⟩ ⟨Nat.zero_le _, Nat.zero_le _⟩ hK hP hD hS hA rfl rfl rfl hl rfl (Nat.le_of_ble_eq_true rfl) d_Tr_gateWord_39 (fun H locs hP hD hS => ?_)
    refine hret _ _ _ _ _ hP hD hS d_Tr_gateWord_42 ?_
    simp [gwF, h0]
  by_cases h1 : kd x = 1
  · refine lv_lookup (off := 34) (tgt := 43) hx hb d_Tr_gateWord_9 (by decide) (by rw [h1]; decide) (by decide) ?_
    refine lv_aload_n hx hb d_Tr_gateWord_43 rfl (lv_at hl 0 rfl) ?_
    refine lv_iload_n hx hb d_Tr_gateWord_44 rfl (lv_at hl 1 rfl) ?_
    refine lv_iload_n hx hb d_Tr_gateWord_45 rfl (lv_at hl 2 rfl) ?_
    refine my_V_l (q0 := 2) (ci := 2) (C := R_Tr) (As := [.int (nI x), .int (nI w)]) (n := 2) (k_Tr_anyOf l g a rB rT cI cJ cII cJJ nc nv ng kd vo nu nd en br bc un eu li tb cc0 cp cu cd tc ts tf ox ow ob ra rb gc gr gk gg gp gt sa sb x w hx1 hw hbc hbr) hx hb hml hown hT hN tw_354 tw_356 tp_3 tw_3 tw_357 (by decide +kernel) rfl rfl ⟨Nat.le_of_ble_eq_true rfl, Nat.le_of_ble_eq_true rfl⟩ ⟨Nat.zero_le _, Nat.zero_le _⟩ hK hP hD hS hA rfl rfl rfl hl rfl (Nat.le_of_ble_eq_true rfl) d_Tr_gateWord_46 (fun H locs hP hD hS => ?_)
    refine hret _ _ _ _ _ hP hD hS d_Tr_gateWord_49 ?_
    simp [gwF, h1]
  have z0 : ¬ (kd x).toInt = 0 := fun q => h0 (Int32.toInt_inj.mp (by rw [q]; rfl))
  have z1 : ¬ (kd x).toInt = 1 := fun q => h1 (Int32.toInt_inj.mp (by rw [q]; rfl))
  refine lv_lookup (off := 41) (tgt := 50) hx hb d_Tr_gateWord_9 (by decide) (by simp [Op.lookupswitch.offset, Ne.symm z0, Ne.symm z1]) (by decide) ?_
  refine lv_aload_n hx hb d_Tr_gateWord_50 rfl (lv_at hl 0 rfl) ?_
  refine lv_iload_n hx hb d_Tr_gateWord_51 rfl (lv_at hl 1 rfl) ?_
  refine lv_iload_n hx hb d_Tr_gateWord_52 rfl (lv_at hl 2 rfl) ?_
  refine my_V_l (q0 := 2) (ci := 2) (C := R_Tr) (As := [.int (nI x), .int (nI w)]) (n := 2) (k_Tr_votesOf l g a rB rT cI cJ cII cJJ nc nv ng kd vo nu nd en br bc un eu li tb cc0 cp cu cd tc ts tf ox ow ob ra rb gc gr gk gg gp gt sa sb x w hx1 hw hbc hbr hvo) hx hb hml hown hT hN tw_358 tw_360 tp_4 tw_3 tw_361 (by decide +kernel) rfl rfl ⟨Nat.le_of_ble_eq_true rfl, Nat.le_of_ble_eq_true rfl⟩ ⟨Nat.zero_le _, Nat.zero_le _⟩ hK hP hD hS hA rfl rfl rfl hl rfl (Nat.le_of_ble_eq_true rfl) d_Tr_gateWord_53 (fun H locs hP hD hS => ?_)
  refine hret _ _ _ _ _ hP hD hS d_Tr_gateWord_56 ?_
  simp [gwF, h0, h1]
