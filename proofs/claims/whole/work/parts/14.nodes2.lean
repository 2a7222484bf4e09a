/-- putBelow's loop: (nodesUnder, eventsUnder) after the nodes 1 .. i -/
def pbS (un eu : Nat → Nat) (y x : Nat) : Nat → (Nat → Nat) × (Nat → Nat)
  | 0 => (un, eu)
  | i + 1 => if i + 1 = y ∨ ((pbS un eu y x i).1 (i + 1)).testBit y = true then
      (va_up (pbS un eu y x i).1 (i + 1) ((pbS un eu y x i).1 (i + 1) ||| (un x ||| 2 ^ x)), va_up (pbS un eu y x i).2 (i + 1) ((pbS un eu y x i).2 (i + 1) ||| (pbS un eu y x i).2 x))
    else pbS un eu y x i
theorem up_lt {f : Nat → Nat} {n k v : Nat} (h : ∀ j, f j < n) (hv : v < n) : ∀ j, va_up f k v j < n := fun j => by
  unfold va_up
  split
  · exact hv
  · exact h j
theorem or_lt {a b k : Nat} (ha : a < 2 ^ k) (hb : b < 2 ^ k) : a ||| b < 2 ^ k := Nat.or_lt_two_pow ha hb
theorem pbS_t {un eu : Nat → Nat} {y x i : Nat} (h : i + 1 = y ∨ ((pbS un eu y x i).1 (i + 1)).testBit y = true) : pbS un eu y x (i + 1) = (va_up (pbS un eu y x i).1 (i + 1) ((pbS un eu y x i).1 (i + 1) ||| (un x ||| 2 ^ x)), va_up (pbS un eu y x i).2 (i + 1) ((pbS un eu y x i).2 (i + 1) ||| (pbS un eu y x i).2 x)) := if_pos h
theorem pbS_f {un eu : Nat → Nat} {y x i : Nat} (h : ¬ i + 1 = y) (h2 : ((pbS un eu y x i).1 (i + 1)).testBit y = false) : pbS un eu y x (i + 1) = pbS un eu y x i := if_neg (by simp [h, h2])
/-- lineUp: the nodes 1 .. j of one size -/
def luN (cnd : Nat → Bool) (s : Nat × (Nat → Nat)) : Nat → Nat × (Nat → Nat)
  | 0 => s
  | j + 1 => if cnd (j + 1) = true ∧ (luN cnd s j).1 < 20 then ((luN cnd s j).1 + 1, va_up (luN cnd s j).2 (luN cnd s j).1 (j + 1)) else luN cnd s j
def luS (cnd : Nat → Nat → Bool) (nc : Nat) (s : Nat × (Nat → Nat)) : Nat → Nat × (Nat → Nat)
  | 0 => s
  | z + 1 => luN (cnd z) (luS cnd nc s z) nc
theorem luN_t {cnd : Nat → Bool} {s : Nat × (Nat → Nat)} {j : Nat} (h : cnd (j + 1) = true) (h2 : (luN cnd s j).1 < 20) : luN cnd s (j + 1) = ((luN cnd s j).1 + 1, va_up (luN cnd s j).2 (luN cnd s j).1 (j + 1)) := if_pos ⟨h, h2⟩
theorem luN_f {cnd : Nat → Bool} {s : Nat × (Nat → Nat)} {j : Nat} (h : ¬ (cnd (j + 1) = true ∧ (luN cnd s j).1 < 20)) : luN cnd s (j + 1) = luN cnd s j := if_neg h
def luC (nc : Nat) (kd : Nat → Int32) (un : Nat → Nat) (x : Nat) (z j : Nat) : Bool := (decide (j = x) || (un x).testBit j) && isG nc kd (nI j) && decide (popc (un j) 64 = z)
theorem luN_le (cnd : Nat → Bool) (s : Nat × (Nat → Nat)) (h : s.1 ≤ 20) : ∀ j, (luN cnd s j).1 ≤ 20
  | 0 => h
  | j + 1 => by
    show (if cnd (j + 1) = true ∧ (luN cnd s j).1 < 20 then ((luN cnd s j).1 + 1, va_up (luN cnd s j).2 (luN cnd s j).1 (j + 1)) else luN cnd s j).1 ≤ 20
    have := luN_le cnd s h j
    split
    · rename_i q; show (luN cnd s j).1 + 1 ≤ 20; omega
    · exact this
set_option maxHeartbeats 4000000 in
set_option maxRecDepth 100000 in
theorem k_No_putBelow (l : Launch) (g : va_G) (a rB rT : Nat → Nat) (cI cJ cII cJJ : ClassId) (nc : Nat) (nv : Nat) (ng : Nat) (kd : Nat → Int32) (vo : Nat → Nat) (nu : Nat → Nat) (nd : Nat → Nat) (en : Nat → Nat) (br : Nat → Nat → Nat) (bc : Nat → Nat) (un : Nat → Nat) (eu : Nat → Nat) (li : Nat → Nat) (tb : Nat → Nat → Int64) (cc0 : Nat) (cp : Nat → Nat) (cu : Nat → Nat) (cd : Nat → Nat) (tc : Nat) (ts : Nat → Nat) (tf : Nat → Nat) (ox : Bool) (ow : Nat → Nat) (ob : Nat → Nat) (ra : Nat) (rb : Nat) (gc : Nat) (gr : Nat) (gk : Nat → Nat) (gg : Nat → Nat) (gp : Nat → Nat) (gt : Nat → Nat) (sa : Nat) (sb : Nat) (x : Nat) (y : Nat) (hx1 : x ≤ 32) (hy1 : y ≤ 32) (hnc : nc ≤ 32) (hby : bc y < 10) (hun : ∀ j, un j < 2 ^ 33) (heu : ∀ j, eu j < 2 ^ 12) : ct_v l g vwCl (tyS cI cJ cII cJJ) y_No_putBelow c_No_putBelow 6 none ({ frames := 1, cells := 0, slots := 0, locals := 22 } : Room) [.ref (a 1), .int (nI x), .int (nI y)] (stW a rB rT cI cJ cII cJJ nc nv ng kd vo nu nd en br bc un eu li tb cc0 cp cu cd tc ts tf ox ow ob ra rb gc gr gk gg gp gt sa sb) (stW a rB rT cI cJ cII cJJ nc nv ng kd vo nu nd en (va_up br y (va_up (br y) (bc y) x)) (va_up bc y (bc y + 1)) ((pbS un eu y x nc).1) ((pbS un eu y x nc).2) li tb cc0 cp cu cd tc ts tf ox ow ob ra rb gc gr gk gg gp gt sa sb) := by
  refine ct_v.intro (by decide) (Nat.le_of_ble_eq_true rfl) ?_
  intro p e s m args below meth c Q A ls hx hb hml hT hown hA hK hN hret hP hD hS hl
  have hown : s.vm.findClass R_No = some m.cls := hown
  have hl : lv_has ls 6 [(0, .ref (a 1)), (1, .int (nI x)), (2, .int (nI y))] := hl
  refine lv_aload_n hx hb d_No_putBelow_0 rfl (lv_at hl 0 rfl) ?_
  refine va_get (D := g) (ci := 1) (v := .ref (a 14)) (C := R_No) (T := F_No) (N := 13) hx hb hT i_No hown hK hP 1 rfl rfl 8 (by decide) (hT _ tw_52) (fun _ h9 => h9) rfl d_No_putBelow_1 ?_
  refine lv_iload_n hx hb d_No_putBelow_4 rfl (lv_at hl 2 rfl) ?_
  refine my_aald (r := rB) (i := y) hx hb hK hP 14 2 rfl rfl (by omega) (by decide) d_No_putBelow_5 ?_
  refine lv_aload_n hx hb d_No_putBelow_6 rfl (lv_at hl 0 rfl) ?_
  refine va_get (D := g) (ci := 1) (v := .ref (a 15)) (C := R_No) (T := F_No) (N := 13) hx hb hT i_No hown hK hP 1 rfl rfl 9 (by decide) (hT _ tw_55) (fun _ h9 => h9) rfl d_No_putBelow_7 ?_
  refine lv_iload_n hx hb d_No_putBelow_10 rfl (lv_at hl 2 rfl) ?_
  refine my_iald (v := (nI (bc y))) (i := y) hx hb hK hP 15 0 rfl rfl (by omega) (by decide) rfl d_No_putBelow_11 ?_
  refine lv_iload_n hx hb d_No_putBelow_12 rfl (lv_at hl 1 rfl) ?_
  refine my_iast (i := bc y) hx hb hK hP hD hS (31 + y) 0 (stB_at (by omega)) rfl (by omega) (by decide) (my_upN _ _ _) (stB_set (by omega)) d_No_putBelow_13 (fun H locs hP hD hS => ?_)
  have hP : va_P g vwCl (stW a rB rT cI cJ cII cJJ nc nv ng kd vo nu nd en (va_up br y (va_up (br y) (bc y) x)) bc un eu li tb cc0 cp cu cd tc ts tf ox ow ob ra rb gc gr gk gg gp gt sa sb) H := hP
  have hD : va_D A (stW a rB rT cI cJ cII cJJ nc nv ng kd vo nu nd en (va_up br y (va_up (br y) (bc y) x)) bc un eu li tb cc0 cp cu cd tc ts tf ox ow ob ra rb gc gr gk gg gp gt sa sb) := hD
  refine lv_aload_n hx hb d_No_putBelow_14 rfl (lv_at hl 0 rfl) ?_
  refine va_get (D := g) (ci := 1) (v := .ref (a 15)) (C := R_No) (T := F_No) (N := 13) hx hb hT i_No hown hK hP 1 rfl rfl 9 (by decide) (hT _ tw_55) (fun _ h9 => h9) rfl d_No_putBelow_15 ?_
  refine lv_iload_n hx hb d_No_putBelow_18 rfl (lv_at hl 2 rfl) ?_
  refine lv_dup2_11 hx hb d_No_putBelow_19 rfl rfl ?_
  refine my_iald (v := (nI (bc y))) (i := y) hx hb hK hP 15 0 rfl rfl (by omega) (by decide) rfl d_No_putBelow_20 ?_
  refine lv_iconst (v := (nI 1)) hx hb d_No_putBelow_21 (by decide) ?_
  refine lv_iadd hx hb d_No_putBelow_22 ?_
  refine my_ei (nI_add (bc y) 1) ?_
  refine my_iast (i := y) hx hb hK hP hD hS 15 0 rfl rfl (by omega) (by decide) (my_upN _ _ _) (w' := (stW a rB rT cI cJ cII cJJ nc nv ng kd vo nu nd en (va_up br y (va_up (br y) (bc y) x)) (va_up bc y ((bc y) + 1)) un eu li tb cc0 cp cu cd tc ts tf ox ow ob ra rb gc gr gk gg gp gt sa sb)) rfl d_No_putBelow_23 (fun H locs hP hD hS => ?_)
  refine lv_aload_n hx hb d_No_putBelow_24 rfl (lv_at hl 0 rfl) ?_
  refine va_get (D := g) (ci := 1) (v := .ref (a 16)) (C := R_No) (T := F_No) (N := 13) hx hb hT i_No hown hK hP 1 rfl rfl 10 (by decide) (hT _ tw_59) (fun _ h9 => h9) rfl d_No_putBelow_25 ?_
  refine lv_iload_n hx hb d_No_putBelow_28 rfl (lv_at hl 1 rfl) ?_
  refine my_lald (v := (lN (un x))) (i := x) hx hb hK hP 16 1 rfl rfl (by omega) (by decide) rfl d_No_putBelow_29 ?_
  refine lv_lconst (v := (lN 1)) hx hb d_No_putBelow_30 (by decide) ?_
  refine lv_iload_n hx hb d_No_putBelow_31 rfl (lv_at hl 1 rfl) ?_
  refine lv_lshl (v := lN (2 ^ x)) hx hb d_No_putBelow_32 (lx_shl1 x (by omega)) ?_
  refine lv_lor hx hb d_No_putBelow_33 ?_
  refine my_el (lx_or (un x) (2 ^ x)) ?_
  refine lv_lstore_n (lv' := [(3, .long (lN ((un x) ||| (2 ^ x)))), (0, .ref (a 1)), (1, .int (nI x)), (2, .int (nI y))]) hx hb d_No_putBelow_34 rfl hl (by decide) rfl (fun ls hl => ?_)
  refine lv_iconst (v := (nI 1)) hx hb d_No_putBelow_35 (by decide) ?_
  refine lv_istore (lv' := [(5, .int (nI 1)), (3, .long (lN ((un x) ||| (2 ^ x)))), (0, .ref (a 1)), (1, .int (nI x)), (2, .int (nI y))]) hx hb d_No_putBelow_36 hl (by decide) rfl (fun ls hl => ?_)
  have lp_38 : ∀ (k : Nat) (i : Nat) (u : Nat → Nat) (v : Nat → Nat) (H : Heap) (locs : List Loc) (ls : Array Slot), (nc < i + k) → (i ≤ nc) → (∀ j, u j < 2 ^ 33) → (∀ j, v j < 2 ^ 12) → ((u, v) = pbS un eu y x i) → va_P g vwCl (stW a rB rT cI cJ cII cJJ nc nv ng kd vo nu nd en (va_up br y (va_up (br y) (bc y) x)) (va_up bc y ((bc y) + 1)) u v li tb cc0 cp cu cd tc ts tf ox ow ob ra rb gc gr gk gg gp gt sa sb) H → va_D A (stW a rB rT cI cJ cII cJJ nc nv ng kd vo nu nd en (va_up br y (va_up (br y) (bc y) x)) (va_up bc y ((bc y) + 1)) u v li tb cc0 cp cu cd tc ts tf ox ow ob ra rb gc gr gk gg gp gt sa sb) → va_S A s.heap H locs → lv_has ls 6 [(0, .ref (a 1)), (1, .int (nI x)), (2, .int (nI y)), (3, .long (lN (un x ||| 2 ^ x))), (5, .int (nI (i + 1)))] → W p l e ({ frames := 1, cells := 0, slots := 0, locals := 22 } : Room) s m args below meth c H locs 0 0 Q (F0 m 38 ls []) := by
    intro k
    induction k with
    | zero =>
      intro i u v H locs ls hk hi hu hv hf hP hD hS hl
      exfalso
      omega
    | succ k ih_38 =>
      intro i u v H locs ls hk hi hu hv hf hP hD hS hl
      refine lv_iload hx hb d_No_putBelow_38 (lv_at hl 4 rfl) ?_
      refine lv_aload_n hx hb d_No_putBelow_40 rfl (lv_at hl 0 rfl) ?_
      refine va_get (D := g) (ci := 1) (v := .int (nI nc)) (C := R_No) (T := F_No) (N := 13) hx hb hT i_No hown hK hP 1 rfl rfl 0 (by decide) (hT _ tw_33) (fun _ h9 => h9) rfl d_No_putBelow_41 ?_
      refine my_icmp_gt (tgt := 96) (a := i + 1) (b := nc) hx hb d_No_putBelow_44 (by decide) (by omega) (by omega) (fun c_44 => ?_) (fun c_44 => ?_)
      · -- 44: taken
        have e1 : (pbS un eu y x nc).1 = u := by rw [show nc = i by omega, ← hf]
        have e2 : (pbS un eu y x nc).2 = v := by rw [show nc = i by omega, ← hf]
        rw [← e1, ← e2] at hP hD
        exact hret _ _ _ _ hP hD hS d_No_putBelow_96
      · -- 44: not taken
        refine lv_iload hx hb d_No_putBelow_47 (lv_at hl 4 rfl) ?_
        refine lv_iload_n hx hb d_No_putBelow_49 rfl (lv_at hl 2 rfl) ?_
        refine my_icmp_eq (tgt := 63) (a := i + 1) (b := y) hx hb d_No_putBelow_50 (by decide) (by omega) (by omega) (fun c_50 => ?_) (fun c_50 => ?_)
        · -- 50: taken
          refine lv_aload_n hx hb d_No_putBelow_63 rfl (lv_at hl 0 rfl) ?_
          refine va_get (D := g) (ci := 1) (v := .ref (a 16)) (C := R_No) (T := F_No) (N := 13) hx hb hT i_No hown hK hP 1 rfl rfl 10 (by decide) (hT _ tw_59) (fun _ h9 => h9) rfl d_No_putBelow_64 ?_
          refine lv_iload hx hb d_No_putBelow_67 (lv_at hl 4 rfl) ?_
          refine lv_dup2_11 hx hb d_No_putBelow_69 rfl rfl ?_
          refine my_lald (v := (lN (u (i + 1)))) (i := i + 1) hx hb hK hP 16 1 rfl rfl (by omega) (by decide) rfl d_No_putBelow_70 ?_
          refine lv_lload_n hx hb d_No_putBelow_71 rfl (lv_at hl 3 rfl) ?_
          refine lv_lor hx hb d_No_putBelow_72 ?_
          refine my_el (lx_or (u (i + 1)) (un x ||| 2 ^ x)) ?_
          refine my_last (i := i + 1) hx hb hK hP hD hS 16 1 rfl rfl (by omega) (by decide) (my_upL _ _ _) (w' := (stW a rB rT cI cJ cII cJJ nc nv ng kd vo nu nd en (va_up br y (va_up (br y) (bc y) x)) (va_up bc y ((bc y) + 1)) (va_up u (i + 1) ((u (i + 1)) ||| (un x ||| 2 ^ x))) v li tb cc0 cp cu cd tc ts tf ox ow ob ra rb gc gr gk gg gp gt sa sb)) rfl d_No_putBelow_73 (fun H locs hP hD hS => ?_)
          refine lv_aload_n hx hb d_No_putBelow_74 rfl (lv_at hl 0 rfl) ?_
          refine va_get (D := g) (ci := 1) (v := .ref (a 17)) (C := R_No) (T := F_No) (N := 13) hx hb hT i_No hown hK hP 1 rfl rfl 11 (by decide) (hT _ tw_60) (fun _ h9 => h9) rfl d_No_putBelow_75 ?_
          refine lv_iload hx hb d_No_putBelow_78 (lv_at hl 4 rfl) ?_
          refine lv_dup2_11 hx hb d_No_putBelow_80 rfl rfl ?_
          refine my_iald (v := (nI (v (i + 1)))) (i := i + 1) hx hb hK hP 17 0 rfl rfl (by omega) (by decide) rfl d_No_putBelow_81 ?_
          refine lv_aload_n hx hb d_No_putBelow_82 rfl (lv_at hl 0 rfl) ?_
          refine va_get (D := g) (ci := 1) (v := .ref (a 17)) (C := R_No) (T := F_No) (N := 13) hx hb hT i_No hown hK hP 1 rfl rfl 11 (by decide) (hT _ tw_60) (fun _ h9 => h9) rfl d_No_putBelow_83 ?_
          refine lv_iload_n hx hb d_No_putBelow_86 rfl (lv_at hl 1 rfl) ?_
          refine my_iald (v := (nI (v x))) (i := x) hx hb hK hP 17 0 rfl rfl (by omega) (by decide) rfl d_No_putBelow_87 ?_
          refine lv_ior hx hb d_No_putBelow_88 ?_
          refine my_ei (nx_or (v (i + 1)) (v x)) ?_
          refine my_iast (i := i + 1) hx hb hK hP hD hS 17 0 rfl rfl (by omega) (by decide) (my_upN _ _ _) (w' := (stW a rB rT cI cJ cII cJJ nc nv ng kd vo nu nd en (va_up br y (va_up (br y) (bc y) x)) (va_up bc y ((bc y) + 1)) (va_up u (i + 1) ((u (i + 1)) ||| (un x ||| 2 ^ x))) (va_up v (i + 1) ((v (i + 1)) ||| (v x))) li tb cc0 cp cu cd tc ts tf ox ow ob ra rb gc gr gk gg gp gt sa sb)) rfl d_No_putBelow_89 (fun H locs hP hD hS => ?_)
          refine lv_iinc (v := (nI (i + 1 + 1))) (lv' := [(5, .int (nI (i + 1 + 1))), (0, .ref (a 1)), (1, .int (nI x)), (2, .int (nI y)), (3, .long (lN (un x ||| 2 ^ x)))]) hx hb d_No_putBelow_90 hl (k := 4) rfl (nI_1 (i + 1)) (by decide) rfl (fun ls hl => ?_)
          refine lv_goto (tgt := 38) hx hb d_No_putBelow_93 (by decide) ?_
          refine ih_38 (i + 1) _ _ _ _ _ ?_ ?_ ?_ ?_ ?_ hP hD hS (lv_sub hl [1, 2, 3, 4, 0] rfl)
          · omega
          · omega
          · exact up_lt hu (or_lt (hu _) (or_lt (hun _) (Nat.pow_lt_pow_right (by decide) (by omega))))
          · exact up_lt hv (or_lt (hv _) (hv _))
          · have e1 : (pbS un eu y x i).1 = u := by rw [← hf]
            have e2 : (pbS un eu y x i).2 = v := by rw [← hf]
            rw [pbS_t (by rw [e1]; exact Or.inl c_50), e1, e2]
        · -- 50: not taken
          refine lv_aload_n hx hb d_No_putBelow_53 rfl (lv_at hl 0 rfl) ?_
          refine lv_iload_n hx hb d_No_putBelow_54 rfl (lv_at hl 2 rfl) ?_
          refine lv_iload hx hb d_No_putBelow_55 (lv_at hl 4 rfl) ?_
          refine my_V_i (q0 := 1) (ci := 1) (C := R_No) (As := [.int (nI y), .int (nI (i + 1))]) (n := 2) (k_No_isUnder l g a rB rT cI cJ cII cJJ nc nv ng kd vo nu nd en (va_up br y (va_up (br y) (bc y) x)) (va_up bc y ((bc y) + 1)) u v li tb cc0 cp cu cd tc ts tf ox ow ob ra rb gc gr gk gg gp gt sa sb y (i + 1) (by omega) (by omega) hu) hx hb hml hown hT hN tw_309 tw_302 tw_303 tw_2 tw_304 (by decide +kernel) rfl rfl ⟨Nat.le_of_ble_eq_true rfl, Nat.le_of_ble_eq_true rfl⟩ ⟨Nat.zero_le _, Nat.zero_le _⟩ hK hP hD hS hA rfl rfl rfl hl rfl (Nat.le_of_ble_eq_true rfl) d_No_putBelow_57 (fun H locs hP hD hS => ?_)
          refine my_if_eq_b (tgt := 90) hx hb d_No_putBelow_60 (by decide) (fun c_60 => ?_) (fun c_60 => ?_)
          · -- 60: taken
            refine lv_iinc (v := (nI (i + 1 + 1))) (lv' := [(5, .int (nI (i + 1 + 1))), (0, .ref (a 1)), (1, .int (nI x)), (2, .int (nI y)), (3, .long (lN (un x ||| 2 ^ x)))]) hx hb d_No_putBelow_90 hl (k := 4) rfl (nI_1 (i + 1)) (by decide) rfl (fun ls hl => ?_)
            refine lv_goto (tgt := 38) hx hb d_No_putBelow_93 (by decide) ?_
            refine ih_38 (i + 1) _ _ _ _ _ ?_ ?_ ?_ ?_ ?_ hP hD hS (lv_sub hl [1, 2, 3, 4, 0] rfl)
            · omega
            · omega
            · exact hu
            · exact hv
            · have e1 : (pbS un eu y x i).1 = u := by rw [← hf]
              have e2 : (pbS un eu y x i).2 = v := by rw [← hf]
              rw [pbS_f c_50 (by rw [e1]; exact c_60), hf]
          · -- 60: not taken
            refine lv_aload_n hx hb d_No_putBelow_63 rfl (lv_at hl 0 rfl) ?_
            refine va_get (D := g) (ci := 1) (v := .ref (a 16)) (C := R_No) (T := F_No) (N := 13) hx hb hT i_No hown hK hP 1 rfl rfl 10 (by decide) (hT _ tw_59) (fun _ h9 => h9) rfl d_No_putBelow_64 ?_
            refine lv_iload hx hb d_No_putBelow_67 (lv_at hl 4 rfl) ?_
            refine lv_dup2_11 hx hb d_No_putBelow_69 rfl rfl ?_
            refine my_lald (v := (lN (u (i + 1)))) (i := i + 1) hx hb hK hP 16 1 rfl rfl (by omega) (by decide) rfl d_No_putBelow_70 ?_
            refine lv_lload_n hx hb d_No_putBelow_71 rfl (lv_at hl 3 rfl) ?_
            refine lv_lor hx hb d_No_putBelow_72 ?_
            refine my_el (lx_or (u (i + 1)) (un x ||| 2 ^ x)) ?_
            refine my_last (i := i + 1) hx hb hK hP hD hS 16 1 rfl rfl (by omega) (by decide) (my_upL _ _ _) (w' := (stW a rB rT cI cJ cII cJJ nc nv ng kd vo nu nd en (va_up br y (va_up (br y) (bc y) x)) (va_up bc y ((bc y) + 1)) (va_up u (i + 1) ((u (i + 1)) ||| (un x ||| 2 ^ x))) v li tb cc0 cp cu cd tc ts tf ox ow ob ra rb gc gr gk gg gp gt sa sb)) rfl d_No_putBelow_73 (fun H locs hP hD hS => ?_)
            refine lv_aload_n hx hb d_No_putBelow_74 rfl (lv_at hl 0 rfl) ?_
            refine va_get (D := g) (ci := 1) (v := .ref (a 17)) (C := R_No) (T := F_No) (N := 13) hx hb hT i_No hown hK hP 1 rfl rfl 11 (by decide) (hT _ tw_60) (fun _ h9 => h9) rfl d_No_putBelow_75 ?_
            refine lv_iload hx hb d_No_putBelow_78 (lv_at hl 4 rfl) ?_
            refine lv_dup2_11 hx hb d_No_putBelow_80 rfl rfl ?_
            refine my_iald (v := (nI (v (i + 1)))) (i := i + 1) hx hb hK hP 17 0 rfl rfl (by omega) (by decide) rfl d_No_putBelow_81 ?_
            refine lv_aload_n hx hb d_No_putBelow_82 rfl (lv_at hl 0 rfl) ?_
            refine va_get (D := g) (ci := 1) (v := .ref (a 17)) (C := R_No) (T := F_No) (N := 13) hx hb hT i_No hown hK hP 1 rfl rfl 11 (by decide) (hT _ tw_60) (fun _ h9 => h9) rfl d_No_putBelow_83 ?_
            refine lv_iload_n hx hb d_No_putBelow_86 rfl (lv_at hl 1 rfl) ?_
            refine my_iald (v := (nI (v x))) (i := x) hx hb hK hP 17 0 rfl rfl (by omega) (by decide) rfl d_No_putBelow_87 ?_
            refine lv_ior hx hb d_No_putBelow_88 ?_
            refine my_ei (nx_or (v (i + 1)) (v x)) ?_
            refine my_iast (i := i + 1) hx hb hK hP hD hS 17 0 rfl rfl (by omega) (by decide) (my_upN _ _ _) (w' := (stW a rB rT cI cJ cII cJJ nc nv ng kd vo nu nd en (va_up br y (va_up (br y) (bc y) x)) (va_up bc y ((bc y) + 1)) (va_up u (i + 1) ((u (i + 1)) ||| (un x ||| 2 ^ x))) (va_up v (i + 1) ((v (i + 1)) ||| (v x))) li tb cc0 cp cu cd tc ts tf ox ow ob ra rb gc gr gk gg gp gt sa sb)) rfl d_No_putBelow_89 (fun H locs hP hD hS => ?_)
            refine lv_iinc (v := (nI (i + 1 + 1))) (lv' := [(5, .int (nI (i + 1 + 1))), (0, .ref (a 1)), (1, .int (nI x)), (2, .int (nI y)), (3, .long (lN (un x ||| 2 ^ x)))]) hx hb d_No_putBelow_90 hl (k := 4) rfl (nI_1 (i + 1)) (by decide) rfl (fun ls hl => ?_)
            refine lv_goto (tgt := 38) hx hb d_No_putBelow_93 (by decide) ?_
            refine ih_38 (i + 1) _ _ _ _ _ ?_ ?_ ?_ ?_ ?_ hP hD hS (lv_sub hl [1, 2, 3, 4, 0] rfl)
            · omega
            · omega
            · exact up_lt hu (or_lt (hu _) (or_lt (hun _) (Nat.pow_lt_pow_right (by decide) (by omega))))
            · exact up_lt hv (or_lt (hv _) (hv _))
            · have e1 : (pbS un eu y x i).1 = u := by rw [← hf]
              have e2 : (pbS un eu y x i).2 = v := by rw [← hf]
              rw [pbS_t (by rw [e1]; exact Or.inr c_60), e1, e2]
  refine lp_38 (nc + 1) 0 _ _ _ _ _ ?_ ?_ ?_ ?_ ?_ hP hD hS (lv_sub hl [2, 3, 4, 1, 0] rfl)
  · omega
  · omega
  · exact hun
  · exact heu
  · rfl
set_option maxHeartbeats 4000000 in
set_option maxRecDepth 100000 in
theorem k_No_lineUp (l : Launch) (g : va_G) (a rB rT : Nat → Nat) (cI cJ cII cJJ : ClassId) (nc : Nat) (nv : Nat) (ng : Nat) (kd : Nat → Int32) (vo : Nat → Nat) (nu : Nat → Nat) (nd : Nat → Nat) (en : Nat → Nat) (br : Nat → Nat → Nat) (bc : Nat → Nat) (un : Nat → Nat) (eu : Nat → Nat) (li : Nat → Nat) (tb : Nat → Nat → Int64) (cc0 : Nat) (cp : Nat → Nat) (cu : Nat → Nat) (cd : Nat → Nat) (tc : Nat) (ts : Nat → Nat) (tf : Nat → Nat) (ox : Bool) (ow : Nat → Nat) (ob : Nat → Nat) (ra : Nat) (rb : Nat) (gc : Nat) (gr : Nat) (gk : Nat → Nat) (gg : Nat → Nat) (gp : Nat → Nat) (gt : Nat → Nat) (sa : Nat) (sb : Nat) (x : Nat) (hx1 : x ≤ 32) (hnc : nc ≤ 32) (hun : ∀ j, un j < 2 ^ 33) : ct_i l g vwCl (tyS cI cJ cII cJJ) y_No_lineUp c_No_lineUp 6 (some .int) ({ frames := 2, cells := 0, slots := 0, locals := 42 } : Room) [.ref (a 1), .int (nI x)] (stW a rB rT cI cJ cII cJJ nc nv ng kd vo nu nd en br bc un eu li tb cc0 cp cu cd tc ts tf ox ow ob ra rb gc gr gk gg gp gt sa sb) (stW a rB rT cI cJ cII cJJ nc nv ng kd vo nu nd en br bc un eu ((luS (luC nc kd un x) nc (0, li) 33).2) tb cc0 cp cu cd tc ts tf ox ow ob ra rb gc gr gk gg gp gt sa sb) (nI ((luS (luC nc kd un x) nc (0, li) 33).1)) := by
  refine ct_i.intro (by decide) (Nat.le_of_ble_eq_true rfl) ?_
  intro p e s m args below meth c Q A ls hx hb hml hT hown hA hK hN hret hP hD hS hl
  have hown : s.vm.findClass R_No = some m.cls := hown
  have hl : lv_has ls 6 [(0, .ref (a 1)), (1, .int (nI x))] := hl
  refine lv_iconst (v := (nI 0)) hx hb d_No_lineUp_0 (by decide) ?_
  refine lv_istore_n (lv' := [(2, .int (nI 0)), (0, .ref (a 1)), (1, .int (nI x))]) hx hb d_No_lineUp_1 rfl hl (by decide) rfl (fun ls hl => ?_)
  refine lv_iconst (v := (nI 0)) hx hb d_No_lineUp_2 (by decide) ?_
  refine lv_istore_n (lv' := [(3, .int (nI 0)), (2, .int (nI 0)), (0, .ref (a 1)), (1, .int (nI x))]) hx hb d_No_lineUp_3 rfl hl (by decide) rfl (fun ls hl => ?_)
  have lp_4 : ∀ (k : Nat) (z : Nat) (n : Nat) (q : Nat → Nat) (H : Heap) (locs : List Loc) (ls : Array Slot), (33 < z + k) → (z ≤ 33) → (n ≤ 20) → ((n, q) = luS (luC nc kd un x) nc (0, li) z) → va_P g vwCl (stW a rB rT cI cJ cII cJJ nc nv ng kd vo nu nd en br bc un eu q tb cc0 cp cu cd tc ts tf ox ow ob ra rb gc gr gk gg gp gt sa sb) H → va_D A (stW a rB rT cI cJ cII cJJ nc nv ng kd vo nu nd en br bc un eu q tb cc0 cp cu cd tc ts tf ox ow ob ra rb gc gr gk gg gp gt sa sb) → va_S A s.heap H locs → lv_has ls 6 [(0, .ref (a 1)), (1, .int (nI x)), (2, .int (nI n)), (3, .int (nI z))] → W p l e ({ frames := 2, cells := 0, slots := 0, locals := 42 } : Room) s m args below meth c H locs 0 0 Q (F0 m 4 ls []) := by
    intro k
    induction k with
    | zero =>
      intro z n q H locs ls hk hz hn hf hP hD hS hl
      exfalso
      omega
    | succ k ih_4 =>
      intro z n q H locs ls hk hz hn hf hP hD hS hl
      refine lv_iload_n hx hb d_No_lineUp_4 rfl (lv_at hl 3 rfl) ?_
      refine lv_bipush (v := (nI 32)) hx hb d_No_lineUp_5 (by decide) ?_
      refine my_icmp_gt (tgt := 102) (a := z) (b := 32) hx hb d_No_lineUp_7 (by decide) (by omega) (by omega) (fun c_7 => ?_) (fun c_7 => ?_)
      · -- 7: taken
        have e1 : (luS (luC nc kd un x) nc (0, li) 33).1 = n := by rw [show 33 = z by omega, ← hf]
        have e2 : (luS (luC nc kd un x) nc (0, li) 33).2 = q := by rw [show 33 = z by omega, ← hf]
        rw [← e2] at hP hD
        refine lv_iload_n hx hb d_No_lineUp_102 rfl (lv_at hl 2 rfl) ?_
        refine hret _ _ _ _ _ hP hD hS d_No_lineUp_103 ?_
        rw [e1]
      · -- 7: not taken
        refine lv_iconst (v := (nI 1)) hx hb d_No_lineUp_10 (by decide) ?_
        refine lv_istore (lv' := [(4, .int (nI 1)), (0, .ref (a 1)), (1, .int (nI x)), (2, .int (nI n)), (3, .int (nI z))]) hx hb d_No_lineUp_11 hl (by decide) rfl (fun ls hl => ?_)
        have lp_13 : ∀ (k2 : Nat) (j : Nat) (n2 : Nat) (q2 : Nat → Nat) (H : Heap) (locs : List Loc) (ls : Array Slot), (nc < j + k2) → (j ≤ nc) → (n2 ≤ 20) → ((n2, q2) = luN (luC nc kd un x z) (luS (luC nc kd un x) nc (0, li) z) j) → va_P g vwCl (stW a rB rT cI cJ cII cJJ nc nv ng kd vo nu nd en br bc un eu q2 tb cc0 cp cu cd tc ts tf ox ow ob ra rb gc gr gk gg gp gt sa sb) H → va_D A (stW a rB rT cI cJ cII cJJ nc nv ng kd vo nu nd en br bc un eu q2 tb cc0 cp cu cd tc ts tf ox ow ob ra rb gc gr gk gg gp gt sa sb) → va_S A s.heap H locs → lv_has ls 6 [(0, .ref (a 1)), (1, .int (nI x)), (2, .int (nI n2)), (3, .int (nI z)), (4, .int (nI (j + 1)))] → W p l e ({ frames := 2, cells := 0, slots := 0, locals := 42 } : Room) s m args below meth c H locs 0 0 Q (F0 m 13 ls []) := by
          intro k2
          induction k2 with
          | zero =>
            intro j n2 q2 H locs ls hk2 hj hn2 hf2 hP hD hS hl
            exfalso
            omega
          | succ k2 ih_13 =>
            intro j n2 q2 H locs ls hk2 hj hn2 hf2 hP hD hS hl
            refine lv_iload hx hb d_No_lineUp_13 (lv_at hl 4 rfl) ?_
            refine lv_aload_n hx hb d_No_lineUp_15 rfl (lv_at hl 0 rfl) ?_
            refine va_get (D := g) (ci := 1) (v := .int (nI nc)) (C := R_No) (T := F_No) (N := 13) hx hb hT i_No hown hK hP 1 rfl rfl 0 (by decide) (hT _ tw_33) (fun _ h9 => h9) rfl d_No_lineUp_16 ?_
            refine my_icmp_gt (tgt := 96) (a := j + 1) (b := nc) hx hb d_No_lineUp_19 (by decide) (by omega) (by omega) (fun c_19 => ?_) (fun c_19 => ?_)
            · -- 19: taken
              refine lv_iinc (v := (nI (z + 1))) (lv' := [(3, .int (nI (z + 1))), (0, .ref (a 1)), (1, .int (nI x)), (2, .int (nI n2)), (4, .int (nI (j + 1)))]) hx hb d_No_lineUp_96 hl (k := 3) rfl (nI_1 z) (by decide) rfl (fun ls hl => ?_)
              refine lv_goto (tgt := 4) hx hb d_No_lineUp_99 (by decide) ?_
              refine ih_4 _ _ _ _ _ _ ?_ ?_ ?_ ?_ hP hD hS (lv_sub hl [1, 2, 3, 0] rfl)
              · omega
              · omega
              · exact hn2
              · rw [hf2, show nc = j by omega]; rfl
            · -- 19: not taken
              refine lv_iload hx hb d_No_lineUp_22 (lv_at hl 4 rfl) ?_
              refine lv_iload_n hx hb d_No_lineUp_24 rfl (lv_at hl 1 rfl) ?_
              refine my_icmp_eq (tgt := 38) (a := j + 1) (b := x) hx hb d_No_lineUp_25 (by decide) (by omega) (by omega) (fun c_25 => ?_) (fun c_25 => ?_)
              · -- 25: taken
                refine lv_iconst (v := (nI 1)) hx hb d_No_lineUp_38 (by decide) ?_
                refine lv_goto (tgt := 43) hx hb d_No_lineUp_39 (by decide) ?_
                refine lv_istore (lv' := [(5, .int (nI 1)), (0, .ref (a 1)), (1, .int (nI x)), (2, .int (nI n2)), (3, .int (nI z)), (4, .int (nI (j + 1)))]) hx hb d_No_lineUp_43 hl (by decide) rfl (fun ls hl => ?_)
                refine lv_iload hx hb d_No_lineUp_45 (lv_at hl 0 rfl) ?_
                refine lv_if_eq (tgt := 90) hx hb d_No_lineUp_47 (by decide) (fun q => absurd q (by decide)) (fun _ => ?_)
                refine lv_aload_n hx hb d_No_lineUp_50 rfl (lv_at hl 1 rfl) ?_
                refine lv_iload hx hb d_No_lineUp_51 (lv_at hl 5 rfl) ?_
                refine my_V_i (q0 := 1) (ci := 1) (C := R_No) (As := [.int (nI (j + 1))]) (n := 1) (k_No_isGate l g a rB rT cI cJ cII cJJ nc nv ng kd vo nu nd en br bc un eu q2 tb cc0 cp cu cd tc ts tf ox ow ob ra rb gc gr gk gg gp gt sa sb (nI (j + 1)) hnc) hx hb hml hown hT hN tw_335 tw_289 tw_290 tw_2 tw_291 (by decide +kernel) rfl rfl ⟨Nat.le_of_ble_eq_true rfl, Nat.le_of_ble_eq_true rfl⟩ ⟨Nat.zero_le _, Nat.zero_le _⟩ hK hP hD hS hA rfl rfl rfl hl rfl (Nat.le_of_ble_eq_true rfl) d_No_lineUp_53 (fun H locs hP hD hS => ?_)
                refine my_if_eq_b (tgt := 90) hx hb d_No_lineUp_56 (by decide) (fun c_56 => ?_) (fun c_56 => ?_)
                · -- 56: taken
                  refine lv_iinc (v := (nI (j + 1 + 1))) (lv' := [(4, .int (nI (j + 1 + 1))), (5, .int (nI 1)), (0, .ref (a 1)), (1, .int (nI x)), (2, .int (nI n2)), (3, .int (nI z))]) hx hb d_No_lineUp_90 hl (k := 5) rfl (nI_1 (j + 1)) (by decide) rfl (fun ls hl => ?_)
                  refine lv_goto (tgt := 13) hx hb d_No_lineUp_93 (by decide) ?_
                  refine ih_13 (j + 1) _ _ _ _ _ ?_ ?_ ?_ ?_ hP hD hS (lv_sub hl [2, 3, 4, 5, 0] rfl)
                  · omega
                  · omega
                  · omega
                  · have e1 : (luN (luC nc kd un x z) (luS (luC nc kd un x) nc (0, li) z) j).1 = n2 := by rw [← hf2]
                    have e2 : (luN (luC nc kd un x z) (luS (luC nc kd un x) nc (0, li) z) j).2 = q2 := by rw [← hf2]
                    rw [luN_f (fun hh => by simp [luC, c_56] at hh), hf2]
                · -- 56: not taken
                  refine lv_aload_n hx hb d_No_lineUp_59 rfl (lv_at hl 1 rfl) ?_
                  refine va_get (D := g) (ci := 1) (v := .ref (a 16)) (C := R_No) (T := F_No) (N := 13) hx hb hT i_No hown hK hP 1 rfl rfl 10 (by decide) (hT _ tw_59) (fun _ h9 => h9) rfl d_No_lineUp_60 ?_
                  refine lv_iload hx hb d_No_lineUp_63 (lv_at hl 5 rfl) ?_
                  refine my_lald (v := (lN (un (j + 1)))) (i := j + 1) hx hb hK hP 16 1 rfl rfl (by omega) (by decide) rfl d_No_lineUp_65 ?_
                  refine my_S_i (As := [.long (lN (un (j + 1)))]) (n := 1) (k_Jl_bitCount l g vwCl (tyS cI cJ cII cJJ) (stW a rB rT cI cJ cII cJJ nc nv ng kd vo nu nd en br bc un eu q2 tb cc0 cp cu cd tc ts tf ox ow ob ra rb gc gr gk gg gp gt sa sb) (un (j + 1)) (Nat.lt_trans (hun _) (by decide))) hx hb hml hown hT hN tw_336 tw_337 tw_11 tw_338 (by decide +kernel) rfl rfl ⟨Nat.le_of_ble_eq_true rfl, Nat.le_of_ble_eq_true rfl⟩ ⟨Nat.zero_le _, Nat.zero_le _⟩ hK hP hD hS hA rfl hl rfl (Nat.le_of_ble_eq_true rfl) d_No_lineUp_66 (fun H locs hP hD hS => ?_)
                  refine lv_iload_n hx hb d_No_lineUp_69 rfl (lv_at hl 4 rfl) ?_
                  have qz := popc_le (un (j + 1)) 64
                  refine my_icmp_ne (tgt := 90) (a := popc (un (j + 1)) 64) (b := z) hx hb d_No_lineUp_70 (by decide) (by omega) (by omega) (fun c_70 => ?_) (fun c_70 => ?_)
                  · -- 70: taken
                    refine lv_iinc (v := (nI (j + 1 + 1))) (lv' := [(4, .int (nI (j + 1 + 1))), (5, .int (nI 1)), (0, .ref (a 1)), (1, .int (nI x)), (2, .int (nI n2)), (3, .int (nI z))]) hx hb d_No_lineUp_90 hl (k := 5) rfl (nI_1 (j + 1)) (by decide) rfl (fun ls hl => ?_)
                    refine lv_goto (tgt := 13) hx hb d_No_lineUp_93 (by decide) ?_
                    refine ih_13 (j + 1) _ _ _ _ _ ?_ ?_ ?_ ?_ hP hD hS (lv_sub hl [2, 3, 4, 5, 0] rfl)
                    · omega
                    · omega
                    · omega
                    · have e1 : (luN (luC nc kd un x z) (luS (luC nc kd un x) nc (0, li) z) j).1 = n2 := by rw [← hf2]
                      have e2 : (luN (luC nc kd un x z) (luS (luC nc kd un x) nc (0, li) z) j).2 = q2 := by rw [← hf2]
                      rw [luN_f (fun hh => by simp [luC, c_70] at hh), hf2]
                  · -- 70: not taken
                    refine lv_iload_n hx hb d_No_lineUp_73 rfl (lv_at hl 3 rfl) ?_
                    refine lv_bipush (v := (nI 20)) hx hb d_No_lineUp_74 (by decide) ?_
                    refine my_icmp_ge (tgt := 90) (a := n2) (b := 20) hx hb d_No_lineUp_76 (by decide) (by omega) (by omega) (fun c_76 => ?_) (fun c_76 => ?_)
                    · -- 76: taken
                      refine lv_iinc (v := (nI (j + 1 + 1))) (lv' := [(4, .int (nI (j + 1 + 1))), (5, .int (nI 1)), (0, .ref (a 1)), (1, .int (nI x)), (2, .int (nI n2)), (3, .int (nI z))]) hx hb d_No_lineUp_90 hl (k := 5) rfl (nI_1 (j + 1)) (by decide) rfl (fun ls hl => ?_)
                      refine lv_goto (tgt := 13) hx hb d_No_lineUp_93 (by decide) ?_
                      refine ih_13 (j + 1) _ _ _ _ _ ?_ ?_ ?_ ?_ hP hD hS (lv_sub hl [2, 3, 4, 5, 0] rfl)
                      · omega
                      · omega
                      · omega
                      · have e1 : (luN (luC nc kd un x z) (luS (luC nc kd un x) nc (0, li) z) j).1 = n2 := by rw [← hf2]
                        have e2 : (luN (luC nc kd un x z) (luS (luC nc kd un x) nc (0, li) z) j).2 = q2 := by rw [← hf2]
                        rw [luN_f (fun hh => by omega), hf2]
                    · -- 76: not taken
                      refine lv_aload_n hx hb d_No_lineUp_79 rfl (lv_at hl 1 rfl) ?_
                      refine va_get (D := g) (ci := 1) (v := .ref (a 18)) (C := R_No) (T := F_No) (N := 13) hx hb hT i_No hown hK hP 1 rfl rfl 12 (by decide) (hT _ tw_64) (fun _ h9 => h9) rfl d_No_lineUp_80 ?_
                      refine lv_iload_n hx hb d_No_lineUp_83 rfl (lv_at hl 3 rfl) ?_
                      refine lv_iload hx hb d_No_lineUp_84 (lv_at hl 5 rfl) ?_
                      refine my_iast (i := n2) hx hb hK hP hD hS 18 0 rfl rfl (by omega) (by decide) (my_upN _ _ _) (w' := (stW a rB rT cI cJ cII cJJ nc nv ng kd vo nu nd en br bc un eu (va_up q2 n2 (j + 1)) tb cc0 cp cu cd tc ts tf ox ow ob ra rb gc gr gk gg gp gt sa sb)) rfl d_No_lineUp_86 (fun H locs hP hD hS => ?_)
                      refine lv_iinc (v := (nI (n2 + 1))) (lv' := [(2, .int (nI (n2 + 1))), (5, .int (nI 1)), (0, .ref (a 1)), (1, .int (nI x)), (3, .int (nI z)), (4, .int (nI (j + 1)))]) hx hb d_No_lineUp_87 hl (k := 3) rfl (nI_1 n2) (by decide) rfl (fun ls hl => ?_)
                      refine lv_iinc (v := (nI (j + 1 + 1))) (lv' := [(4, .int (nI (j + 1 + 1))), (2, .int (nI (n2 + 1))), (5, .int (nI 1)), (0, .ref (a 1)), (1, .int (nI x)), (3, .int (nI z))]) hx hb d_No_lineUp_90 hl (k := 5) rfl (nI_1 (j + 1)) (by decide) rfl (fun ls hl => ?_)
                      refine lv_goto (tgt := 13) hx hb d_No_lineUp_93 (by decide) ?_
                      refine ih_13 (j + 1) _ _ _ _ _ ?_ ?_ ?_ ?_ hP hD hS (lv_sub hl [3, 4, 1, 5, 0] rfl)
                      · omega
                      · omega
                      · omega
                      · have e1 : (luN (luC nc kd un x z) (luS (luC nc kd un x) nc (0, li) z) j).1 = n2 := by rw [← hf2]
                        have e2 : (luN (luC nc kd un x z) (luS (luC nc kd un x) nc (0, li) z) j).2 = q2 := by rw [← hf2]
                        rw [luN_t (by show ((decide _ || _) && _ && _) = true; rw [c_56, decide_eq_true c_70]; simp [c_25]) (by omega), e1, e2]
              · -- 25: not taken
                refine lv_aload_n hx hb d_No_lineUp_28 rfl (lv_at hl 0 rfl) ?_
                refine lv_iload hx hb d_No_lineUp_29 (lv_at hl 4 rfl) ?_
                refine lv_iload_n hx hb d_No_lineUp_31 rfl (lv_at hl 1 rfl) ?_
                refine my_V_i (q0 := 1) (ci := 1) (C := R_No) (As := [.int (nI (j + 1)), .int (nI x)]) (n := 2) (k_No_isUnder l g a rB rT cI cJ cII cJJ nc nv ng kd vo nu nd en br bc un eu q2 tb cc0 cp cu cd tc ts tf ox ow ob ra rb gc gr gk gg gp gt sa sb (j + 1) x (by omega) (by omega) hun) hx hb hml hown hT hN tw_309 tw_302 tw_303 tw_2 tw_304 (by decide +kernel) rfl rfl ⟨Nat.le_of_ble_eq_true rfl, Nat.le_of_ble_eq_true rfl⟩ ⟨Nat.zero_le _, Nat.zero_le _⟩ hK hP hD hS hA rfl rfl rfl hl rfl (Nat.le_of_ble_eq_true rfl) d_No_lineUp_32 (fun H locs hP hD hS => ?_)
                refine my_if_eq_b (tgt := 42) hx hb d_No_lineUp_35 (by decide) (fun c_35 => ?_) (fun c_35 => ?_)
                · -- 35: taken
                  refine lv_iconst (v := (nI 0)) hx hb d_No_lineUp_42 (by decide) ?_
                  refine lv_istore (lv' := [(5, .int (nI 0)), (0, .ref (a 1)), (1, .int (nI x)), (2, .int (nI n2)), (3, .int (nI z)), (4, .int (nI (j + 1)))]) hx hb d_No_lineUp_43 hl (by decide) rfl (fun ls hl => ?_)
                  refine lv_iload hx hb d_No_lineUp_45 (lv_at hl 0 rfl) ?_
                  refine lv_if_eq (tgt := 90) hx hb d_No_lineUp_47 (by decide) (fun _ => ?_) (fun q => absurd (by decide) q)
                  refine lv_iinc (v := (nI (j + 1 + 1))) (lv' := [(4, .int (nI (j + 1 + 1))), (5, .int (nI 0)), (0, .ref (a 1)), (1, .int (nI x)), (2, .int (nI n2)), (3, .int (nI z))]) hx hb d_No_lineUp_90 hl (k := 5) rfl (nI_1 (j + 1)) (by decide) rfl (fun ls hl => ?_)
                  refine lv_goto (tgt := 13) hx hb d_No_lineUp_93 (by decide) ?_
                  refine ih_13 (j + 1) _ _ _ _ _ ?_ ?_ ?_ ?_ hP hD hS (lv_sub hl [2, 3, 4, 5, 0] rfl)
                  · omega
                  · omega
                  · omega
                  · have e1 : (luN (luC nc kd un x z) (luS (luC nc kd un x) nc (0, li) z) j).1 = n2 := by rw [← hf2]
                    have e2 : (luN (luC nc kd un x z) (luS (luC nc kd un x) nc (0, li) z) j).2 = q2 := by rw [← hf2]
                    rw [luN_f (fun hh => by simp [luC, c_25, c_35] at hh), hf2]
                · -- 35: not taken
                  refine lv_iconst (v := (nI 1)) hx hb d_No_lineUp_38 (by decide) ?_
                  refine lv_goto (tgt := 43) hx hb d_No_lineUp_39 (by decide) ?_
                  refine lv_istore (lv' := [(5, .int (nI 1)), (0, .ref (a 1)), (1, .int (nI x)), (2, .int (nI n2)), (3, .int (nI z)), (4, .int (nI (j + 1)))]) hx hb d_No_lineUp_43 hl (by decide) rfl (fun ls hl => ?_)
                  refine lv_iload hx hb d_No_lineUp_45 (lv_at hl 0 rfl) ?_
                  refine lv_if_eq (tgt := 90) hx hb d_No_lineUp_47 (by decide) (fun q => absurd q (by decide)) (fun _ => ?_)
                  refine lv_aload_n hx hb d_No_lineUp_50 rfl (lv_at hl 1 rfl) ?_
                  refine lv_iload hx hb d_No_lineUp_51 (lv_at hl 5 rfl) ?_
                  refine my_V_i (q0 := 1) (ci := 1) (C := R_No) (As := [.int (nI (j + 1))]) (n := 1) (k_No_isGate l g a rB rT cI cJ cII cJJ nc nv ng kd vo nu nd en br bc un eu q2 tb cc0 cp cu cd tc ts tf ox ow ob ra rb gc gr gk gg gp gt sa sb (nI (j + 1)) hnc) hx hb hml hown hT hN tw_335 tw_289 tw_290 tw_2 tw_291 (by decide +kernel) rfl rfl ⟨Nat.le_of_ble_eq_true rfl, Nat.le_of_ble_eq_true rfl⟩ ⟨Nat.zero_le _, Nat.zero_le _⟩ hK hP hD hS hA rfl rfl rfl hl rfl (Nat.le_of_ble_eq_true rfl) d_No_lineUp_53 (fun H locs hP hD hS => ?_)
                  refine my_if_eq_b (tgt := 90) hx hb d_No_lineUp_56 (by decide) (fun c_56 => ?_) (fun c_56 => ?_)
                  · -- 56: taken
                    refine lv_iinc (v := (nI (j + 1 + 1))) (lv' := [(4, .int (nI (j + 1 + 1))), (5, .int (nI 1)), (0, .ref (a 1)), (1, .int (nI x)), (2, .int (nI n2)), (3, .int (nI z))]) hx hb d_No_lineUp_90 hl (k := 5) rfl (nI_1 (j + 1)) (by decide) rfl (fun ls hl => ?_)
                    refine lv_goto (tgt := 13) hx hb d_No_lineUp_93 (by decide) ?_
                    refine ih_13 (j + 1) _ _ _ _ _ ?_ ?_ ?_ ?_ hP hD hS (lv_sub hl [2, 3, 4, 5, 0] rfl)
                    · omega
                    · omega
                    · omega
                    · have e1 : (luN (luC nc kd un x z) (luS (luC nc kd un x) nc (0, li) z) j).1 = n2 := by rw [← hf2]
                      have e2 : (luN (luC nc kd un x z) (luS (luC nc kd un x) nc (0, li) z) j).2 = q2 := by rw [← hf2]
                      rw [luN_f (fun hh => by simp [luC, c_56] at hh), hf2]
                  · -- 56: not taken
                    refine lv_aload_n hx hb d_No_lineUp_59 rfl (lv_at hl 1 rfl) ?_
                    refine va_get (D := g) (ci := 1) (v := .ref (a 16)) (C := R_No) (T := F_No) (N := 13) hx hb hT i_No hown hK hP 1 rfl rfl 10 (by decide) (hT _ tw_59) (fun _ h9 => h9) rfl d_No_lineUp_60 ?_
                    refine lv_iload hx hb d_No_lineUp_63 (lv_at hl 5 rfl) ?_
                    refine my_lald (v := (lN (un (j + 1)))) (i := j + 1) hx hb hK hP 16 1 rfl rfl (by omega) (by decide) rfl d_No_lineUp_65 ?_
                    refine my_S_i (As := [.long (lN (un (j + 1)))]) (n := 1) (k_Jl_bitCount l g vwCl (tyS cI cJ cII cJJ) (stW a rB rT cI cJ cII cJJ nc nv ng kd vo nu nd en br bc un eu q2 tb cc0 cp cu cd tc ts tf ox ow ob ra rb gc gr gk gg gp gt sa sb) (un (j + 1)) (Nat.lt_trans (hun _) (by decide))) hx hb hml hown hT hN tw_336 tw_337 tw_11 tw_338 (by decide +kernel) rfl rfl ⟨Nat.le_of_ble_eq_true rfl, Nat.le_of_ble_eq_true rfl⟩ ⟨Nat.zero_le _, Nat.zero_le _⟩ hK hP hD hS hA rfl hl rfl (Nat.le_of_ble_eq_true rfl) d_No_lineUp_66 (fun H locs hP hD hS => ?_)
                    refine lv_iload_n hx hb d_No_lineUp_69 rfl (lv_at hl 4 rfl) ?_
                    have qz := popc_le (un (j + 1)) 64
                    refine my_icmp_ne (tgt := 90) (a := popc (un (j + 1)) 64) (b := z) hx hb d_No_lineUp_70 (by decide) (by omega) (by omega) (fun c_70 => ?_) (fun c_70 => ?_)
                    · -- 70: taken
                      refine lv_iinc (v := (nI (j + 1 + 1))) (lv' := [(4, .int (nI (j + 1 + 1))), (5, .int (nI 1)), (0, .ref (a 1)), (1, .int (nI x)), (2, .int (nI n2)), (3, .int (nI z))]) hx hb d_No_lineUp_90 hl (k := 5) rfl (nI_1 (j + 1)) (by decide) rfl (fun ls hl => ?_)
                      refine lv_goto (tgt := 13) hx hb d_No_lineUp_93 (by decide) ?_
                      refine ih_13 (j + 1) _ _ _ _ _ ?_ ?_ ?_ ?_ hP hD hS (lv_sub hl [2, 3, 4, 5, 0] rfl)
                      · omega
                      · omega
                      · omega
                      · have e1 : (luN (luC nc kd un x z) (luS (luC nc kd un x) nc (0, li) z) j).1 = n2 := by rw [← hf2]
                        have e2 : (luN (luC nc kd un x z) (luS (luC nc kd un x) nc (0, li) z) j).2 = q2 := by rw [← hf2]
                        rw [luN_f (fun hh => by simp [luC, c_70] at hh), hf2]
                    · -- 70: not taken
                      refine lv_iload_n hx hb d_No_lineUp_73 rfl (lv_at hl 3 rfl) ?_
                      refine lv_bipush (v := (nI 20)) hx hb d_No_lineUp_74 (by decide) ?_
                      refine my_icmp_ge (tgt := 90) (a := n2) (b := 20) hx hb d_No_lineUp_76 (by decide) (by omega) (by omega) (fun c_76 => ?_) (fun c_76 => ?_)
                      · -- 76: taken
                        refine lv_iinc (v := (nI (j + 1 + 1))) (lv' := [(4, .int (nI (j + 1 + 1))), (5, .int (nI 1)), (0, .ref (a 1)), (1, .int (nI x)), (2, .int (nI n2)), (3, .int (nI z))]) hx hb d_No_lineUp_90 hl (k := 5) rfl (nI_1 (j + 1)) (by decide) rfl (fun ls hl => ?_)
                        refine lv_goto (tgt := 13) hx hb d_No_lineUp_93 (by decide) ?_
                        refine ih_13 (j + 1) _ _ _ _ _ ?_ ?_ ?_ ?_ hP hD hS (lv_sub hl [2, 3, 4, 5, 0] rfl)
                        · omega
                        · omega
                        · omega
                        · have e1 : (luN (luC nc kd un x z) (luS (luC nc kd un x) nc (0, li) z) j).1 = n2 := by rw [← hf2]
                          have e2 : (luN (luC nc kd un x z) (luS (luC nc kd un x) nc (0, li) z) j).2 = q2 := by rw [← hf2]
                          rw [luN_f (fun hh => by omega), hf2]
                      · -- 76: not taken
                        refine lv_aload_n hx hb d_No_lineUp_79 rfl (lv_at hl 1 rfl) ?_
                        refine va_get (D := g) (ci := 1) (v := .ref (a 18)) (C := R_No) (T := F_No) (N := 13) hx hb hT i_No hown hK hP 1 rfl rfl 12 (by decide) (hT _ tw_64) (fun _ h9 => h9) rfl d_No_lineUp_80 ?_
                        refine lv_iload_n hx hb d_No_lineUp_83 rfl (lv_at hl 3 rfl) ?_
                        refine lv_iload hx hb d_No_lineUp_84 (lv_at hl 5 rfl) ?_
                        refine my_iast (i := n2) hx hb hK hP hD hS 18 0 rfl rfl (by omega) (by decide) (my_upN _ _ _) (w' := (stW a rB rT cI cJ cII cJJ nc nv ng kd vo nu nd en br bc un eu (va_up q2 n2 (j + 1)) tb cc0 cp cu cd tc ts tf ox ow ob ra rb gc gr gk gg gp gt sa sb)) rfl d_No_lineUp_86 (fun H locs hP hD hS => ?_)
                        refine lv_iinc (v := (nI (n2 + 1))) (lv' := [(2, .int (nI (n2 + 1))), (5, .int (nI 1)), (0, .ref (a 1)), (1, .int (nI x)), (3, .int (nI z)), (4, .int (nI (j + 1)))]) hx hb d_No_lineUp_87 hl (k := 3) rfl (nI_1 n2) (by decide) rfl (fun ls hl => ?_)
                        refine lv_iinc (v := (nI (j + 1 + 1))) (lv' := [(4, .int (nI (j + 1 + 1))), (2, .int (nI (n2 + 1))), (5, .int (nI 1)), (0, .ref (a 1)), (1, .int (nI x)), (3, .int (nI z))]) hx hb d_No_lineUp_90 hl (k := 5) rfl (nI_1 (j + 1)) (by decide) rfl (fun ls hl => ?_)
                        refine lv_goto (tgt := 13) hx hb d_No_lineUp_93 (by decide) ?_
                        refine ih_13 (j + 1) _ _ _ _ _ ?_ ?_ ?_ ?_ hP hD hS (lv_sub hl [3, 4, 1, 5, 0] rfl)
                        · omega
                        · omega
                        · omega
                        · have e1 : (luN (luC nc kd un x z) (luS (luC nc kd un x) nc (0, li) z) j).1 = n2 := by rw [← hf2]
                          have e2 : (luN (luC nc kd un x z) (luS (luC nc kd un x) nc (0, li) z) j).2 = q2 := by rw [← hf2]
                          rw [luN_t (by show ((decide _ || _) && _ && _) = true; rw [c_56, decide_eq_true c_70]; simp [c_35]) (by omega), e1, e2]
        refine lp_13 (nc + 1) 0 _ _ _ _ _ ?_ ?_ ?_ ?_ hP hD hS (lv_sub hl [1, 2, 3, 4, 0] rfl)
        · omega
        · omega
        · exact hn
        · rw [hf]; rfl
  refine lp_4 (34) _ _ _ _ _ _ ?_ ?_ ?_ ?_ hP hD hS (lv_sub hl [2, 3, 1, 0] rfl)
  · omega
  · omega
  · omega
  · rfl
