def bcI (x : Nat) : Nat :=
  let i1 := x - (x / 2 ^ 1 &&& 1431655765)
  let i2 := (i1 &&& 858993459) + (i1 / 2 ^ 2 &&& 858993459)
  let i3 := (i2 + i2 / 2 ^ 4) &&& 252645135
  let i4 := i3 + i3 / 2 ^ 8
  let i5 := i4 + i4 / 2 ^ 16
  i5 &&& 63
theorem bcI_64 : ∀ a, a < 64 → ∀ b, b < 64 → bcI (64 * a + b) = popc (64 * a + b) 12 := by decide +kernel
theorem bcI_eq (x : Nat) (h : x < 4096) : bcI x = popc x 12 := by
  have := bcI_64 (x / 64) (by omega) (x % 64) (by omega)
  rwa [show 64 * (x / 64) + x % 64 = x by omega] at this
def bcL (x : Nat) : Nat :=
  let i1 := x - (x / 2 ^ 1 &&& 6148914691236517205)
  let i2 := (i1 &&& 3689348814741910323) + (i1 / 2 ^ 2 &&& 3689348814741910323)
  let i3 := (i2 + i2 / 2 ^ 4) &&& 1085102592571150095
  let i4 := i3 + i3 / 2 ^ 8
  let i5 := i4 + i4 / 2 ^ 16
  let i6 := i5 + i5 / 2 ^ 32
  i6 &&& 127
theorem bcL_eq (x : Nat) (h : x < 2 ^ 64) : bcL x = popc x 64 := by
  rw [← bcl_eq x h]
  show _ &&& (2 ^ 7 - 1) = _
  rw [Nat.and_two_pow_sub_one_eq_mod]
  rfl
theorem and_lt {a b n : Nat} (h : b < n) : a &&& b < n := Nat.lt_of_le_of_lt Nat.and_le_right h
def cdF : Nat → Nat → Nat → Nat
  | 0, x, _ => x
  | f + 1, x, y => if y = 0 then x else cdF f y (x % y)
theorem cdF_pos : ∀ f x y, 0 < x ∨ 0 < y → 0 < y ∨ 0 < x → (f = 0 → 0 < x) → 0 < cdF f x y
  | 0, x, y, _, _, h => h rfl
  | f + 1, x, y, h, _, _ => by
    show 0 < (if y = 0 then x else cdF f y (x % y))
    split
    · omega
    · exact cdF_pos f y (x % y) (Or.inl (by omega)) (Or.inr (by omega)) (fun _ => by omega)
theorem cdF_lt {n : Nat} : ∀ f x y, x < n → y < n → cdF f x y < n
  | 0, x, y, h, _ => h
  | f + 1, x, y, h1, h2 => by
    show (if y = 0 then x else cdF f y (x % y)) < n
    split
    · exact h1
    · exact cdF_lt f y (x % y) h2 (Nat.lt_of_le_of_lt (Nat.mod_le _ _) h1)
def iB (br : Nat → Nat → Nat) (y x : Nat) : Nat → Bool
  | 0 => false
  | i + 1 => iB br y x i || decide (br y i = x)
theorem iB_t {br : Nat → Nat → Nat} {y x i : Nat} : ∀ n, i < n → br y i = x → iB br y x n = true
  | 0, h, _ => by omega
  | n + 1, h, h1 => by
    show (iB br y x n || _) = true
    rcases Nat.lt_or_ge i n with q | q
    · rw [iB_t n q h1]; rfl
    · have : i = n := by omega
      subst this
      simp [h1]
set_option maxHeartbeats 4000000 in
set_option maxRecDepth 100000 in
theorem k_Ji_bitCount (l : Launch) (g : va_G) (cl : List vw_C) (tys : List (ClassId × FieldType)) (ww : va_W) (x : Nat) (hxx : x < 4096) : ct_i l g cl tys y_Ji_bitCount c_Ji_bitCount 1 (some .int) ({ frames := 0, cells := 0, slots := 0, locals := 0 } : Room) [.int (nI x)] ww ww (nI (popc x 12)) := by
  refine ct_i.intro (by decide) (Nat.le_of_ble_eq_true rfl) ?_
  intro p e s m args below meth c Q A ls hx hb hml hT hown hA hK hN hret hP hD hS hl
  have hown : s.vm.findClass R_Ji = some m.cls := hown
  have hl : lv_has ls 1 [(0, .int (nI x))] := hl
  refine lv_iload_n hx hb d_Ji_bitCount_0 rfl (lv_at hl 0 rfl) ?_
  refine lv_iload_n hx hb d_Ji_bitCount_1 rfl (lv_at hl 0 rfl) ?_
  refine lv_iconst (v := (nI 1)) hx hb d_Ji_bitCount_2 (by decide) ?_
  refine lv_iushr (v := nI (x / 2 ^ 1)) hx hb d_Ji_bitCount_3 (pk_ushrN (n := x) (by omega) _ 1 (s_u 1 (by omega))) ?_
  refine lv_ldcw (v := (nI 1431655765)) hx hb hown (hT _ tw_320) d_Ji_bitCount_4 ?_
  refine lv_iand hx hb d_Ji_bitCount_7 ?_
  refine my_ei (nx_and (x / 2 ^ 1) 1431655765) ?_
  have q1 : x / 2 ^ 1 &&& 1431655765 ≤ x := Nat.le_trans Nat.and_le_left (by omega)
  refine lv_isub hx hb d_Ji_bitCount_8 ?_
  refine my_ei (pk_sub (a := x) (b := (x / 2 ^ 1) &&& 1431655765) (by omega)) ?_
  generalize e_i1 : x - ((x / 2 ^ 1) &&& 1431655765) = i1
  have q2 : i1 < 4096 := by omega
  refine lv_istore_n (lv' := [(0, .int (nI i1))]) hx hb d_Ji_bitCount_9 rfl hl (by decide) rfl (fun ls hl => ?_)
  refine lv_iload_n hx hb d_Ji_bitCount_10 rfl (lv_at hl 0 rfl) ?_
  refine lv_ldcw (v := (nI 858993459)) hx hb hown (hT _ tw_321) d_Ji_bitCount_11 ?_
  refine lv_iand hx hb d_Ji_bitCount_14 ?_
  refine my_ei (nx_and i1 858993459) ?_
  refine lv_iload_n hx hb d_Ji_bitCount_15 rfl (lv_at hl 0 rfl) ?_
  refine lv_iconst (v := (nI 2)) hx hb d_Ji_bitCount_16 (by decide) ?_
  refine lv_iushr (v := nI (i1 / 2 ^ 2)) hx hb d_Ji_bitCount_17 (pk_ushrN (n := i1) (by omega) _ 2 (s_u 2 (by omega))) ?_
  refine lv_ldcw (v := (nI 858993459)) hx hb hown (hT _ tw_321) d_Ji_bitCount_18 ?_
  refine lv_iand hx hb d_Ji_bitCount_21 ?_
  refine my_ei (nx_and (i1 / 2 ^ 2) 858993459) ?_
  refine lv_iadd hx hb d_Ji_bitCount_22 ?_
  refine my_ei (nI_add (i1 &&& 858993459) ((i1 / 2 ^ 2) &&& 858993459)) ?_
  generalize e_i2 : (i1 &&& 858993459) + ((i1 / 2 ^ 2) &&& 858993459) = i2
  have q3 : i2 < 8192 := by have := @Nat.and_le_left i1 858993459; have := @Nat.and_le_left (i1 / 2 ^ 2) 858993459; omega
  refine lv_istore_n (lv' := [(0, .int (nI i2))]) hx hb d_Ji_bitCount_23 rfl hl (by decide) rfl (fun ls hl => ?_)
  refine lv_iload_n hx hb d_Ji_bitCount_24 rfl (lv_at hl 0 rfl) ?_
  refine lv_iload_n hx hb d_Ji_bitCount_25 rfl (lv_at hl 0 rfl) ?_
  refine lv_iconst (v := (nI 4)) hx hb d_Ji_bitCount_26 (by decide) ?_
  refine lv_iushr (v := nI (i2 / 2 ^ 4)) hx hb d_Ji_bitCount_27 (pk_ushrN (n := i2) (by omega) _ 4 (s_u 4 (by omega))) ?_
  refine lv_iadd hx hb d_Ji_bitCount_28 ?_
  refine my_ei (nI_add i2 (i2 / 2 ^ 4)) ?_
  refine lv_ldcw (v := (nI 252645135)) hx hb hown (hT _ tw_322) d_Ji_bitCount_29 ?_
  refine lv_iand hx hb d_Ji_bitCount_32 ?_
  refine my_ei (nx_and (i2 + (i2 / 2 ^ 4)) 252645135) ?_
  generalize e_i3 : (i2 + (i2 / 2 ^ 4)) &&& 252645135 = i3
  have q4 : i3 < 16384 := by have := @Nat.and_le_left (i2 + i2 / 2 ^ 4) 252645135; omega
  refine lv_istore_n (lv' := [(0, .int (nI i3))]) hx hb d_Ji_bitCount_33 rfl hl (by decide) rfl (fun ls hl => ?_)
  refine lv_iload_n hx hb d_Ji_bitCount_34 rfl (lv_at hl 0 rfl) ?_
  refine lv_iload_n hx hb d_Ji_bitCount_35 rfl (lv_at hl 0 rfl) ?_
  refine lv_bipush (v := (nI 8)) hx hb d_Ji_bitCount_36 (by decide) ?_
  refine lv_iushr (v := nI (i3 / 2 ^ 8)) hx hb d_Ji_bitCount_38 (pk_ushrN (n := i3) (by omega) _ 8 (s_u 8 (by omega))) ?_
  refine lv_iadd hx hb d_Ji_bitCount_39 ?_
  refine my_ei (nI_add i3 (i3 / 2 ^ 8)) ?_
  generalize e_i4 : i3 + (i3 / 2 ^ 8) = i4
  have q5 : i4 < 32768 := by omega
  refine lv_istore_n (lv' := [(0, .int (nI i4))]) hx hb d_Ji_bitCount_40 rfl hl (by decide) rfl (fun ls hl => ?_)
  refine lv_iload_n hx hb d_Ji_bitCount_41 rfl (lv_at hl 0 rfl) ?_
  refine lv_iload_n hx hb d_Ji_bitCount_42 rfl (lv_at hl 0 rfl) ?_
  refine lv_bipush (v := (nI 16)) hx hb d_Ji_bitCount_43 (by decide) ?_
  refine lv_iushr (v := nI (i4 / 2 ^ 16)) hx hb d_Ji_bitCount_45 (pk_ushrN (n := i4) (by omega) _ 16 (s_u 16 (by omega))) ?_
  refine lv_iadd hx hb d_Ji_bitCount_46 ?_
  refine my_ei (nI_add i4 (i4 / 2 ^ 16)) ?_
  generalize e_i5 : i4 + (i4 / 2 ^ 16) = i5
  refine lv_istore_n (lv' := [(0, .int (nI i5))]) hx hb d_Ji_bitCount_47 rfl hl (by decide) rfl (fun ls hl => ?_)
  refine lv_iload_n hx hb d_Ji_bitCount_48 rfl (lv_at hl 0 rfl) ?_
  refine lv_bipush (v := (nI 63)) hx hb d_Ji_bitCount_49 (by decide) ?_
  refine lv_iand hx hb d_Ji_bitCount_51 ?_
  refine my_ei (nx_and i5 63) ?_
  refine hret _ _ _ _ _ hP hD hS d_Ji_bitCount_52 ?_
  subst e_i5 e_i4 e_i3 e_i2 e_i1
  exact congrArg nI (bcI_eq x hxx)
set_option maxHeartbeats 4000000 in
set_option maxRecDepth 100000 in
theorem k_Jl_bitCount (l : Launch) (g : va_G) (cl : List vw_C) (tys : List (ClassId × FieldType)) (ww : va_W) (x : Nat) (hxx : x < 2 ^ 63) : ct_i l g cl tys y_Jl_bitCount c_Jl_bitCount 2 (some .int) ({ frames := 0, cells := 0, slots := 0, locals := 0 } : Room) [.long (lN x)] ww ww (nI (popc x 64)) := by
  refine ct_i.intro (by decide) (Nat.le_of_ble_eq_true rfl) ?_
  intro p e s m args below meth c Q A ls hx hb hml hT hown hA hK hN hret hP hD hS hl
  have hown : s.vm.findClass R_Jl = some m.cls := hown
  have hl : lv_has ls 2 [(0, .long (lN x))] := hl
  refine lv_lload_n hx hb d_Jl_bitCount_0 rfl (lv_at hl 0 rfl) ?_
  refine lv_lload_n hx hb d_Jl_bitCount_1 rfl (lv_at hl 0 rfl) ?_
  refine lv_iconst (v := (nI 1)) hx hb d_Jl_bitCount_2 (by decide) ?_
  refine lv_lushr (v := lN (x / 2 ^ 1)) hx hb d_Jl_bitCount_3 (wb_shr (n := x) (by omega) (by omega)) ?_
  refine lv_ldc2 (v := (lN 6148914691236517205)) hx hb hown (hT _ tw_339) d_Jl_bitCount_4 ?_
  refine lv_land hx hb d_Jl_bitCount_7 ?_
  refine my_el (lx_and (x / 2 ^ 1) 6148914691236517205) ?_
  have q1 : x / 2 ^ 1 &&& 6148914691236517205 ≤ x := Nat.le_trans Nat.and_le_left (by omega)
  refine lv_lsub hx hb d_Jl_bitCount_8 ?_
  refine my_el (lN_sub (a := x) (b := (x / 2 ^ 1) &&& 6148914691236517205) (by omega)) ?_
  generalize e_i1 : x - ((x / 2 ^ 1) &&& 6148914691236517205) = i1
  have q2 : i1 < 2 ^ 63 := by omega
  refine lv_lstore_n (lv' := [(0, .long (lN i1))]) hx hb d_Jl_bitCount_9 rfl hl (by decide) rfl (fun ls hl => ?_)
  refine lv_lload_n hx hb d_Jl_bitCount_10 rfl (lv_at hl 0 rfl) ?_
  refine lv_ldc2 (v := (lN 3689348814741910323)) hx hb hown (hT _ tw_340) d_Jl_bitCount_11 ?_
  refine lv_land hx hb d_Jl_bitCount_14 ?_
  refine my_el (lx_and i1 3689348814741910323) ?_
  refine lv_lload_n hx hb d_Jl_bitCount_15 rfl (lv_at hl 0 rfl) ?_
  refine lv_iconst (v := (nI 2)) hx hb d_Jl_bitCount_16 (by decide) ?_
  refine lv_lushr (v := lN (i1 / 2 ^ 2)) hx hb d_Jl_bitCount_17 (wb_shr (n := i1) (by omega) (by omega)) ?_
  refine lv_ldc2 (v := (lN 3689348814741910323)) hx hb hown (hT _ tw_340) d_Jl_bitCount_18 ?_
  refine lv_land hx hb d_Jl_bitCount_21 ?_
  refine my_el (lx_and (i1 / 2 ^ 2) 3689348814741910323) ?_
  refine lv_ladd hx hb d_Jl_bitCount_22 ?_
  refine my_el (lN_add (i1 &&& 3689348814741910323) ((i1 / 2 ^ 2) &&& 3689348814741910323)) ?_
  generalize e_i2 : (i1 &&& 3689348814741910323) + ((i1 / 2 ^ 2) &&& 3689348814741910323) = i2
  have q3 : i2 < 2 ^ 63 := by have := @Nat.and_le_right i1 3689348814741910323; have := @Nat.and_le_right (i1 / 2 ^ 2) 3689348814741910323; omega
  refine lv_lstore_n (lv' := [(0, .long (lN i2))]) hx hb d_Jl_bitCount_23 rfl hl (by decide) rfl (fun ls hl => ?_)
  refine lv_lload_n hx hb d_Jl_bitCount_24 rfl (lv_at hl 0 rfl) ?_
  refine lv_lload_n hx hb d_Jl_bitCount_25 rfl (lv_at hl 0 rfl) ?_
  refine lv_iconst (v := (nI 4)) hx hb d_Jl_bitCount_26 (by decide) ?_
  refine lv_lushr (v := lN (i2 / 2 ^ 4)) hx hb d_Jl_bitCount_27 (wb_shr (n := i2) (by omega) (by omega)) ?_
  refine lv_ladd hx hb d_Jl_bitCount_28 ?_
  refine my_el (lN_add i2 (i2 / 2 ^ 4)) ?_
  refine lv_ldc2 (v := (lN 1085102592571150095)) hx hb hown (hT _ tw_341) d_Jl_bitCount_29 ?_
  refine lv_land hx hb d_Jl_bitCount_32 ?_
  refine my_el (lx_and (i2 + (i2 / 2 ^ 4)) 1085102592571150095) ?_
  generalize e_i3 : (i2 + (i2 / 2 ^ 4)) &&& 1085102592571150095 = i3
  have q4 : i3 < 2 ^ 60 + 1 := by have := @Nat.and_le_right (i2 + i2 / 2 ^ 4) 1085102592571150095; omega
  refine lv_lstore_n (lv' := [(0, .long (lN i3))]) hx hb d_Jl_bitCount_33 rfl hl (by decide) rfl (fun ls hl => ?_)
  refine lv_lload_n hx hb d_Jl_bitCount_34 rfl (lv_at hl 0 rfl) ?_
  refine lv_lload_n hx hb d_Jl_bitCount_35 rfl (lv_at hl 0 rfl) ?_
  refine lv_bipush (v := (nI 8)) hx hb d_Jl_bitCount_36 (by decide) ?_
  refine lv_lushr (v := lN (i3 / 2 ^ 8)) hx hb d_Jl_bitCount_38 (wb_shr (n := i3) (by omega) (by omega)) ?_
  refine lv_ladd hx hb d_Jl_bitCount_39 ?_
  refine my_el (lN_add i3 (i3 / 2 ^ 8)) ?_
  generalize e_i4 : i3 + (i3 / 2 ^ 8) = i4
  have q5 : i4 < 2 ^ 62 := by omega
  refine lv_lstore_n (lv' := [(0, .long (lN i4))]) hx hb d_Jl_bitCount_40 rfl hl (by decide) rfl (fun ls hl => ?_)
  refine lv_lload_n hx hb d_Jl_bitCount_41 rfl (lv_at hl 0 rfl) ?_
  refine lv_lload_n hx hb d_Jl_bitCount_42 rfl (lv_at hl 0 rfl) ?_
  refine lv_bipush (v := (nI 16)) hx hb d_Jl_bitCount_43 (by decide) ?_
  refine lv_lushr (v := lN (i4 / 2 ^ 16)) hx hb d_Jl_bitCount_45 (wb_shr (n := i4) (by omega) (by omega)) ?_
  refine lv_ladd hx hb d_Jl_bitCount_46 ?_
  refine my_el (lN_add i4 (i4 / 2 ^ 16)) ?_
  generalize e_i5 : i4 + (i4 / 2 ^ 16) = i5
  have q6 : i5 < 2 ^ 63 := by omega
  refine lv_lstore_n (lv' := [(0, .long (lN i5))]) hx hb d_Jl_bitCount_47 rfl hl (by decide) rfl (fun ls hl => ?_)
  refine lv_lload_n hx hb d_Jl_bitCount_48 rfl (lv_at hl 0 rfl) ?_
  refine lv_lload_n hx hb d_Jl_bitCount_49 rfl (lv_at hl 0 rfl) ?_
  refine lv_bipush (v := (nI 32)) hx hb d_Jl_bitCount_50 (by decide) ?_
  refine lv_lushr (v := lN (i5 / 2 ^ 32)) hx hb d_Jl_bitCount_52 (wb_shr (n := i5) (by omega) (by omega)) ?_
  refine lv_ladd hx hb d_Jl_bitCount_53 ?_
  refine my_el (lN_add i5 (i5 / 2 ^ 32)) ?_
  generalize e_i6 : i5 + (i5 / 2 ^ 32) = i6
  refine lv_lstore_n (lv' := [(0, .long (lN i6))]) hx hb d_Jl_bitCount_54 rfl hl (by decide) rfl (fun ls hl => ?_)
  refine lv_lload_n hx hb d_Jl_bitCount_55 rfl (lv_at hl 0 rfl) ?_
  refine lv_l2i (v := nI i6) hx hb d_Jl_bitCount_56 (lN_i _) ?_
  refine lv_bipush (v := (nI 127)) hx hb d_Jl_bitCount_57 (by decide) ?_
  refine lv_iand hx hb d_Jl_bitCount_59 ?_
  refine my_ei (nx_and i6 127) ?_
  refine hret _ _ _ _ _ hP hD hS d_Jl_bitCount_60 ?_
  subst e_i6 e_i5 e_i4 e_i3 e_i2 e_i1
  exact congrArg nI (bcL_eq x (by omega))
set_option maxHeartbeats 4000000 in
set_option maxRecDepth 100000 in
theorem k_Fr_commonDivisor (l : Launch) (g : va_G) (cl : List vw_C) (tys : List (ClassId × FieldType)) (ww : va_W) (x : Nat) (y : Nat) (hxx : x < 2 ^ 62) (hyy : y < 2 ^ 62) : ct_l l g cl tys y_Fr_commonDivisor c_Fr_commonDivisor 11 (some .long) ({ frames := 0, cells := 0, slots := 0, locals := 0 } : Room) [.long (lN x), .long (lN y)] ww ww (lN (cdF 100 x y)) := by
  refine ct_l.intro (by decide) (Nat.le_of_ble_eq_true rfl) ?_
  intro p e s m args below meth c Q A ls hx hb hml hT hown hA hK hN hret hP hD hS hl
  have hown : s.vm.findClass R_Fr = some m.cls := hown
  have hl : lv_has ls 11 [(0, .long (lN x)), (2, .long (lN y))] := hl
  refine lv_lload_n hx hb d_Fr_commonDivisor_0 rfl (lv_at hl 0 rfl) ?_
  refine lv_lstore (lv' := [(4, .long (lN x)), (0, .long (lN x)), (2, .long (lN y))]) hx hb d_Fr_commonDivisor_1 hl (by decide) rfl (fun ls hl => ?_)
  refine lv_lload_n hx hb d_Fr_commonDivisor_3 rfl (lv_at hl 2 rfl) ?_
  refine lv_lstore (lv' := [(6, .long (lN y)), (4, .long (lN x)), (0, .long (lN x)), (2, .long (lN y))]) hx hb d_Fr_commonDivisor_4 hl (by decide) rfl (fun ls hl => ?_)
  refine lv_iconst (v := (nI 0)) hx hb d_Fr_commonDivisor_6 (by decide) ?_
  refine lv_istore (lv' := [(8, .int (nI 0)), (6, .long (lN y)), (4, .long (lN x)), (0, .long (lN x)), (2, .long (lN y))]) hx hb d_Fr_commonDivisor_7 hl (by decide) rfl (fun ls hl => ?_)
  have lp_9 : ∀ (k : Nat) (i : Nat) (f : Nat) (u : Nat) (v : Nat) (H : Heap) (locs : List Loc) (ls : Array Slot), (100 < i + k) → (i + f = 100) → (u < 2 ^ 62) → (v < 2 ^ 62) → (cdF f u v = cdF 100 x y) → va_P g cl ww H → va_D A ww → va_S A s.heap H locs → lv_has ls 11 [(0, .long (lN x)), (2, .long (lN y)), (4, .long (lN u)), (6, .long (lN v)), (8, .int (nI i))] → W p l e ({ frames := 0, cells := 0, slots := 0, locals := 0 } : Room) s m args below meth c H locs 0 0 Q (F0 m 9 ls []) := by
    intro k
    induction k with
    | zero =>
      intro i f u v H locs ls hk hi hu hv hf hP hD hS hl
      exfalso
      omega
    | succ k ih_9 =>
      intro i f u v H locs ls hk hi hu hv hf hP hD hS hl
      refine lv_iload hx hb d_Fr_commonDivisor_9 (lv_at hl 4 rfl) ?_
      refine lv_bipush (v := (nI 100)) hx hb d_Fr_commonDivisor_11 (by decide) ?_
      refine my_icmp_ge (tgt := 44) (a := i) (b := 100) hx hb d_Fr_commonDivisor_13 (by decide) (by omega) (by omega) (fun c_13 => ?_) (fun c_13 => ?_)
      · -- 13: taken
        have f0 : f = 0 := by omega
        subst f0
        refine lv_lload hx hb d_Fr_commonDivisor_44 (lv_at hl 2 rfl) ?_
        refine hret _ _ _ _ _ hP hD hS d_Fr_commonDivisor_46 ?_
        exact congrArg lN (by rw [← hf]; rfl)
      · -- 13: not taken
        obtain ⟨f, rfl⟩ : ∃ q, f = q + 1 := ⟨f - 1, by omega⟩
        refine lv_lload hx hb d_Fr_commonDivisor_16 (lv_at hl 3 rfl) ?_
        refine lv_lconst (v := (lN 0)) hx hb d_Fr_commonDivisor_18 (by decide) ?_
        refine my_lcmp_eq (tgt := 44) (a := v) (b := 0) hx hb d_Fr_commonDivisor_19 d_Fr_commonDivisor_20 (by decide) (by omega) (by omega) (fun c_19 => ?_) (fun c_19 => ?_)
        · -- 19: taken
          refine lv_lload hx hb d_Fr_commonDivisor_44 (lv_at hl 2 rfl) ?_
          refine hret _ _ _ _ _ hP hD hS d_Fr_commonDivisor_46 ?_
          exact congrArg lN (by rw [← hf]; simp [cdF, c_19])
        · -- 19: not taken
          refine lv_lload hx hb d_Fr_commonDivisor_23 (lv_at hl 2 rfl) ?_
          refine lv_lload hx hb d_Fr_commonDivisor_25 (lv_at hl 3 rfl) ?_
          refine my_lrem (a := u) (b := v) hx hb d_Fr_commonDivisor_27 (by omega) (by omega) (by omega) ?_
          refine lv_lstore (lv' := [(9, .long (lN (u % v))), (0, .long (lN x)), (2, .long (lN y)), (4, .long (lN u)), (6, .long (lN v)), (8, .int (nI i))]) hx hb d_Fr_commonDivisor_28 hl (by decide) rfl (fun ls hl => ?_)
          refine lv_lload hx hb d_Fr_commonDivisor_30 (lv_at hl 4 rfl) ?_
          refine lv_lstore (lv' := [(4, .long (lN v)), (9, .long (lN (u % v))), (0, .long (lN x)), (2, .long (lN y)), (6, .long (lN v)), (8, .int (nI i))]) hx hb d_Fr_commonDivisor_32 hl (by decide) rfl (fun ls hl => ?_)
          refine lv_lload hx hb d_Fr_commonDivisor_34 (lv_at hl 1 rfl) ?_
          refine lv_lstore (lv' := [(6, .long (lN (u % v))), (4, .long (lN v)), (9, .long (lN (u % v))), (0, .long (lN x)), (2, .long (lN y)), (8, .int (nI i))]) hx hb d_Fr_commonDivisor_36 hl (by decide) rfl (fun ls hl => ?_)
          refine lv_iinc (v := (nI (i + 1))) (lv' := [(8, .int (nI (i + 1))), (6, .long (lN (u % v))), (4, .long (lN v)), (9, .long (lN (u % v))), (0, .long (lN x)), (2, .long (lN y))]) hx hb d_Fr_commonDivisor_38 hl (k := 5) rfl (nI_1 i) (by decide) rfl (fun ls hl => ?_)
          refine lv_goto (tgt := 9) hx hb d_Fr_commonDivisor_41 (by decide) ?_
          refine ih_9 _ f _ _ _ _ _ ?_ ?_ ?_ ?_ ?_ hP hD hS (lv_sub hl [4, 5, 2, 1, 0] rfl)
          · omega
          · exact (show i + 1 + f = 100 by omega)
          · omega
          · exact (Nat.lt_of_le_of_lt (Nat.mod_le _ _) hu)
          · rw [← hf]; simp [cdF, c_19]
  refine lp_9 (101) 0 100 _ _ _ _ _ ?_ ?_ ?_ ?_ ?_ hP hD hS (lv_sub hl [3, 4, 2, 1, 0] rfl)
  · omega
  · rfl
  · omega
  · omega
  · rfl
set_option maxHeartbeats 4000000 in
set_option maxRecDepth 100000 in
theorem k_Fr_set7 (l : Launch) (g : va_G) (a rB rT : Nat → Nat) (cI cJ cII cJJ : ClassId) (nc : Nat) (nv : Nat) (ng : Nat) (kd : Nat → Int32) (vo : Nat → Nat) (nu : Nat → Nat) (nd : Nat → Nat) (en : Nat → Nat) (br : Nat → Nat → Nat) (bc : Nat → Nat) (un : Nat → Nat) (eu : Nat → Nat) (li : Nat → Nat) (tb : Nat → Nat → Int64) (cc0 : Nat) (cp : Nat → Nat) (cu : Nat → Nat) (cd : Nat → Nat) (tc : Nat) (ts : Nat → Nat) (tf : Nat → Nat) (ox : Bool) (ow : Nat → Nat) (ob : Nat → Nat) (ra : Nat) (rb : Nat) (gc : Nat) (gr : Nat) (gk : Nat → Nat) (gg : Nat → Nat) (gp : Nat → Nat) (gt : Nat → Nat) (sa : Nat) (sb : Nat) (x : Nat) (y : Nat) (hxx : x < 2 ^ 62) (hyy : y < 2 ^ 62) (hy0 : 0 < y) : ct_v l g vwCl (tyS cI cJ cII cJJ) y_Fr_set c_Fr_set 7 none ({ frames := 1, cells := 0, slots := 0, locals := 30 } : Room) [.ref (a 7), .long (lN x), .long (lN y)] (stW a rB rT cI cJ cII cJJ nc nv ng kd vo nu nd en br bc un eu li tb cc0 cp cu cd tc ts tf ox ow ob ra rb gc gr gk gg gp gt sa sb) (stW a rB rT cI cJ cII cJJ nc nv ng kd vo nu nd en br bc un eu li tb cc0 cp cu cd tc ts tf ox ow ob ra rb gc gr gk gg gp gt (x / cdF 100 x y) (y / cdF 100 x y)) := by
  refine ct_v.intro (by decide) (Nat.le_of_ble_eq_true rfl) ?_
  intro p e s m args below meth c Q A ls hx hb hml hT hown hA hK hN hret hP hD hS hl
  have hown : s.vm.findClass R_Fr = some m.cls := hown
  have hl : lv_has ls 7 [(0, .ref (a 7)), (1, .long (lN x)), (3, .long (lN y))] := hl
  have q1 : 0 < cdF 100 x y := cdF_pos 100 x y (Or.inr hy0) (Or.inl hy0) (fun h => by omega)
  have q2 : cdF 100 x y < 2 ^ 62 := cdF_lt 100 x y hxx hyy
  refine lv_lload_n hx hb d_Fr_set_0 rfl (lv_at hl 1 rfl) ?_
  refine lv_lload_n hx hb d_Fr_set_1 rfl (lv_at hl 2 rfl) ?_
  refine my_S_l (As := [.long (lN x), .long (lN y)]) (n := 2) (k_Fr_commonDivisor l g vwCl (tyS cI cJ cII cJJ) (stW a rB rT cI cJ cII cJJ nc nv ng kd vo nu nd en br bc un eu li tb cc0 cp cu cd tc ts tf ox ow ob ra rb gc gr gk gg gp gt sa sb) x y (by omega) (by omega)) hx hb hml hown hT hN tw_437 tw_438 tw_7 tw_439 (by decide +kernel) rfl rfl ⟨Nat.le_of_ble_eq_true rfl, Nat.le_of_ble_eq_true rfl⟩ ⟨Nat.zero_le _, Nat.zero_le _⟩ hK hP hD hS hA rfl hl rfl (Nat.le_of_ble_eq_true rfl) d_Fr_set_2 (fun H locs hP hD hS => ?_)
  refine lv_lstore (lv' := [(5, .long (lN (cdF 100 x y))), (0, .ref (a 7)), (1, .long (lN x)), (3, .long (lN y))]) hx hb d_Fr_set_5 hl (by decide) rfl (fun ls hl => ?_)
  refine lv_lload hx hb d_Fr_set_7 (lv_at hl 0 rfl) ?_
  refine lv_lconst (v := (lN 0)) hx hb d_Fr_set_9 (by decide) ?_
  refine my_lcmp_le (tgt := 30) (a := cdF 100 x y) (b := 0) hx hb d_Fr_set_10 d_Fr_set_11 (by decide) (by omega) (by omega) (fun c_10 => ?_) (fun c_10 => ?_)
  · -- 10: taken
    exact absurd c_10 (by omega)
  · -- 10: not taken
    refine lv_aload_n hx hb d_Fr_set_14 rfl (lv_at hl 1 rfl) ?_
    refine lv_lload_n hx hb d_Fr_set_15 rfl (lv_at hl 2 rfl) ?_
    refine lv_lload hx hb d_Fr_set_16 (lv_at hl 0 rfl) ?_
    refine my_ldiv (a := x) (b := cdF 100 x y) hx hb d_Fr_set_18 (by omega) (by omega) (by omega) ?_
    refine va_put (D := g) (ci := 7) (v := .long (lN (x / (cdF 100 x y)))) (ty := .long) (C := R_Fr) (T := F_Fr) (N := 2) hx hb hT i_Fr t_Fr t_Fr_ok n_Fr hown hK hP hD hS 7 rfl rfl 0 (by decide) (hT _ tw_163) (fun _ h9 => h9) rfl (by decide +kernel) rfl rfl (Nat.le_of_ble_eq_true rfl) d_Fr_set_19 (fun H locs hP hD hS => ?_)
    have hP : va_P g vwCl (stW a rB rT cI cJ cII cJJ nc nv ng kd vo nu nd en br bc un eu li tb cc0 cp cu cd tc ts tf ox ow ob ra rb gc gr gk gg gp gt (x / (cdF 100 x y)) sb) H := hP
    have hD : va_D A (stW a rB rT cI cJ cII cJJ nc nv ng kd vo nu nd en br bc un eu li tb cc0 cp cu cd tc ts tf ox ow ob ra rb gc gr gk gg gp gt (x / (cdF 100 x y)) sb) := hD
    refine lv_aload_n hx hb d_Fr_set_22 rfl (lv_at hl 1 rfl) ?_
    refine lv_lload_n hx hb d_Fr_set_23 rfl (lv_at hl 3 rfl) ?_
    refine lv_lload hx hb d_Fr_set_24 (lv_at hl 0 rfl) ?_
    refine my_ldiv (a := y) (b := cdF 100 x y) hx hb d_Fr_set_26 (by omega) (by omega) (by omega) ?_
    refine va_put (D := g) (ci := 7) (v := .long (lN (y / (cdF 100 x y)))) (ty := .long) (C := R_Fr) (T := F_Fr) (N := 2) hx hb hT i_Fr t_Fr t_Fr_ok n_Fr hown hK hP hD hS 7 rfl rfl 1 (by decide) (hT _ tw_164) (fun _ h9 => h9) rfl (by decide +kernel) rfl rfl (Nat.le_of_ble_eq_true rfl) d_Fr_set_27 (fun H locs hP hD hS => ?_)
    have hP : va_P g vwCl (stW a rB rT cI cJ cII cJJ nc nv ng kd vo nu nd en br bc un eu li tb cc0 cp cu cd tc ts tf ox ow ob ra rb gc gr gk gg gp gt (x / (cdF 100 x y)) (y / (cdF 100 x y))) H := hP
    have hD : va_D A (stW a rB rT cI cJ cII cJJ nc nv ng kd vo nu nd en br bc un eu li tb cc0 cp cu cd tc ts tf ox ow ob ra rb gc gr gk gg gp gt (x / (cdF 100 x y)) (y / (cdF 100 x y))) := hD
    exact hret _ _ _ _ hP hD hS d_Fr_set_30
set_option maxHeartbeats 4000000 in
set_option maxRecDepth 100000 in
theorem k_Fr_side7 (l : Launch) (g : va_G) (a rB rT : Nat → Nat) (cI cJ cII cJJ : ClassId) (nc : Nat) (nv : Nat) (ng : Nat) (kd : Nat → Int32) (vo : Nat → Nat) (nu : Nat → Nat) (nd : Nat → Nat) (en : Nat → Nat) (br : Nat → Nat → Nat) (bc : Nat → Nat) (un : Nat → Nat) (eu : Nat → Nat) (li : Nat → Nat) (tb : Nat → Nat → Int64) (cc0 : Nat) (cp : Nat → Nat) (cu : Nat → Nat) (cd : Nat → Nat) (tc : Nat) (ts : Nat → Nat) (tf : Nat → Nat) (ox : Bool) (ow : Nat → Nat) (ob : Nat → Nat) (ra : Nat) (rb : Nat) (gc : Nat) (gr : Nat) (gk : Nat → Nat) (gg : Nat → Nat) (gp : Nat → Nat) (gt : Nat → Nat) (sa : Nat) (sb : Nat) (z : Int32)  : ct_l l g vwCl (tyS cI cJ cII cJJ) y_Fr_side c_Fr_side 2 (some .long) ({ frames := 0, cells := 0, slots := 0, locals := 0 } : Room) [.ref (a 7), .int z] (stW a rB rT cI cJ cII cJJ nc nv ng kd vo nu nd en br bc un eu li tb cc0 cp cu cd tc ts tf ox ow ob ra rb gc gr gk gg gp gt sa sb) (stW a rB rT cI cJ cII cJJ nc nv ng kd vo nu nd en br bc un eu li tb cc0 cp cu cd tc ts tf ox ow ob ra rb gc gr gk gg gp gt sa sb) (lN (if z = 0 then sa else sb)) := by
  refine ct_l.intro (by decide) (Nat.le_of_ble_eq_true rfl) ?_
  intro p e s m args below meth c Q A ls hx hb hml hT hown hA hK hN hret hP hD hS hl
  have hown : s.vm.findClass R_Fr = some m.cls := hown
  have hl : lv_has ls 2 [(0, .ref (a 7)), (1, .int z)] := hl
  refine lv_iload_n hx hb d_Fr_side_0 rfl (lv_at hl 1 rfl) ?_
  refine lv_if_ne (tgt := 11) hx hb d_Fr_side_1 (by decide) (fun c_1 => ?_) (fun c_1 => ?_)
  · -- 1: taken
    refine lv_aload_n hx hb d_Fr_side_11 rfl (lv_at hl 0 rfl) ?_
    refine va_get (D := g) (ci := 7) (v := .long (lN sb)) (C := R_Fr) (T := F_Fr) (N := 2) hx hb hT i_Fr hown hK hP 7 rfl rfl 1 (by decide) (hT _ tw_164) (fun _ h9 => h9) rfl d_Fr_side_12 ?_
    refine hret _ _ _ _ _ hP hD hS d_Fr_side_15 ?_
    simp [c_1]
  · -- 1: not taken
    refine lv_aload_n hx hb d_Fr_side_4 rfl (lv_at hl 0 rfl) ?_
    refine va_get (D := g) (ci := 7) (v := .long (lN sa)) (C := R_Fr) (T := F_Fr) (N := 2) hx hb hT i_Fr hown hK hP 7 rfl rfl 0 (by decide) (hT _ tw_163) (fun _ h9 => h9) rfl d_Fr_side_5 ?_
    refine lv_goto (tgt := 15) hx hb d_Fr_side_8 (by decide) ?_
    refine hret _ _ _ _ _ hP hD hS d_Fr_side_15 ?_
    simp [c_1]
set_option maxHeartbeats 4000000 in
set_option maxRecDepth 100000 in
theorem k_Fr_set8 (l : Launch) (g : va_G) (a rB rT : Nat → Nat) (cI cJ cII cJJ : ClassId) (nc : Nat) (nv : Nat) (ng : Nat) (kd : Nat → Int32) (vo : Nat → Nat) (nu : Nat → Nat) (nd : Nat → Nat) (en : Nat → Nat) (br : Nat → Nat → Nat) (bc : Nat → Nat) (un : Nat → Nat) (eu : Nat → Nat) (li : Nat → Nat) (tb : Nat → Nat → Int64) (cc0 : Nat) (cp : Nat → Nat) (cu : Nat → Nat) (cd : Nat → Nat) (tc : Nat) (ts : Nat → Nat) (tf : Nat → Nat) (ox : Bool) (ow : Nat → Nat) (ob : Nat → Nat) (ra : Nat) (rb : Nat) (gc : Nat) (gr : Nat) (gk : Nat → Nat) (gg : Nat → Nat) (gp : Nat → Nat) (gt : Nat → Nat) (sa : Nat) (sb : Nat) (x : Nat) (y : Nat) (hxx : x < 2 ^ 62) (hyy : y < 2 ^ 62) (hy0 : 0 < y) : ct_v l g vwCl (tyS cI cJ cII cJJ) y_Fr_set c_Fr_set 7 none ({ frames := 1, cells := 0, slots := 0, locals := 30 } : Room) [.ref (a 8), .long (lN x), .long (lN y)] (stW a rB rT cI cJ cII cJJ nc nv ng kd vo nu nd en br bc un eu li tb cc0 cp cu cd tc ts tf ox ow ob ra rb gc gr gk gg gp gt sa sb) (stW a rB rT cI cJ cII cJJ nc nv ng kd vo nu nd en br bc un eu li tb cc0 cp cu cd tc ts tf ox ow ob (x / cdF 100 x y) (y / cdF 100 x y) gc gr gk gg gp gt sa sb) := by
  refine ct_v.intro (by decide) (Nat.le_of_ble_eq_true rfl) ?_
  intro p e s m args below meth c Q A ls hx hb hml hT hown hA hK hN hret hP hD hS hl
  have hown : s.vm.findClass R_Fr = some m.cls := hown
  have hl : lv_has ls 7 [(0, .ref (a 8)), (1, .long (lN x)), (3, .long (lN y))] := hl
  have q1 : 0 < cdF 100 x y := cdF_pos 100 x y (Or.inr hy0) (Or.inl hy0) (fun h => by omega)
  have q2 : cdF 100 x y < 2 ^ 62 := cdF_lt 100 x y hxx hyy
  refine lv_lload_n hx hb d_Fr_set_0 rfl (lv_at hl 1 rfl) ?_
  refine lv_lload_n hx hb d_Fr_set_1 rfl (lv_at hl 2 rfl) ?_
  refine my_S_l (As := [.long (lN x), .long (lN y)]) (n := 2) (k_Fr_commonDivisor l g vwCl (tyS cI cJ cII cJJ) (stW a rB rT cI cJ cII cJJ nc nv ng kd vo nu nd en br bc un eu li tb cc0 cp cu cd tc ts tf ox ow ob ra rb gc gr gk gg gp gt sa sb) x y (by omega) (by omega)) hx hb hml hown hT hN tw_437 tw_438 tw_7 tw_439 (by decide +kernel) rfl rfl ⟨Nat.le_of_ble_eq_true rfl, Nat.le_of_ble_eq_true rfl⟩ ⟨Nat.zero_le _, Nat.zero_le _⟩ hK hP hD hS hA rfl hl rfl (Nat.le_of_ble_eq_true rfl) d_Fr_set_2 (fun H locs hP hD hS => ?_)
  refine lv_lstore (lv' := [(5, .long (lN (cdF 100 x y))), (0, .ref (a 8)), (1, .long (lN x)), (3, .long (lN y))]) hx hb d_Fr_set_5 hl (by decide) rfl (fun ls hl => ?_)
  refine lv_lload hx hb d_Fr_set_7 (lv_at hl 0 rfl) ?_
  refine lv_lconst (v := (lN 0)) hx hb d_Fr_set_9 (by decide) ?_
  refine my_lcmp_le (tgt := 30) (a := cdF 100 x y) (b := 0) hx hb d_Fr_set_10 d_Fr_set_11 (by decide) (by omega) (by omega) (fun c_10 => ?_) (fun c_10 => ?_)
  · -- 10: taken
    exact absurd c_10 (by omega)
  · -- 10: not taken
    refine lv_aload_n hx hb d_Fr_set_14 rfl (lv_at hl 1 rfl) ?_
    refine lv_lload_n hx hb d_Fr_set_15 rfl (lv_at hl 2 rfl) ?_
    refine lv_lload hx hb d_Fr_set_16 (lv_at hl 0 rfl) ?_
    refine my_ldiv (a := x) (b := cdF 100 x y) hx hb d_Fr_set_18 (by omega) (by omega) (by omega) ?_
    refine va_put (D := g) (ci := 7) (v := .long (lN (x / (cdF 100 x y)))) (ty := .long) (C := R_Fr) (T := F_Fr) (N := 2) hx hb hT i_Fr t_Fr t_Fr_ok n_Fr hown hK hP hD hS 8 rfl rfl 0 (by decide) (hT _ tw_163) (fun _ h9 => h9) rfl (by decide +kernel) rfl rfl (Nat.le_of_ble_eq_true rfl) d_Fr_set_19 (fun H locs hP hD hS => ?_)
    have hP : va_P g vwCl (stW a rB rT cI cJ cII cJJ nc nv ng kd vo nu nd en br bc un eu li tb cc0 cp cu cd tc ts tf ox ow ob (x / (cdF 100 x y)) rb gc gr gk gg gp gt sa sb) H := hP
    have hD : va_D A (stW a rB rT cI cJ cII cJJ nc nv ng kd vo nu nd en br bc un eu li tb cc0 cp cu cd tc ts tf ox ow ob (x / (cdF 100 x y)) rb gc gr gk gg gp gt sa sb) := hD
    refine lv_aload_n hx hb d_Fr_set_22 rfl (lv_at hl 1 rfl) ?_
    refine lv_lload_n hx hb d_Fr_set_23 rfl (lv_at hl 3 rfl) ?_
    refine lv_lload hx hb d_Fr_set_24 (lv_at hl 0 rfl) ?_
    refine my_ldiv (a := y) (b := cdF 100 x y) hx hb d_Fr_set_26 (by omega) (by omega) (by omega) ?_
    refine va_put (D := g) (ci := 7) (v := .long (lN (y / (cdF 100 x y)))) (ty := .long) (C := R_Fr) (T := F_Fr) (N := 2) hx hb hT i_Fr t_Fr t_Fr_ok n_Fr hown hK hP hD hS 8 rfl rfl 1 (by decide) (hT _ tw_164) (fun _ h9 => h9) rfl (by decide +kernel) rfl rfl (Nat.le_of_ble_eq_true rfl) d_Fr_set_27 (fun H locs hP hD hS => ?_)
    have hP : va_P g vwCl (stW a rB rT cI cJ cII cJJ nc nv ng kd vo nu nd en br bc un eu li tb cc0 cp cu cd tc ts tf ox ow ob (x / (cdF 100 x y)) (y / (cdF 100 x y)) gc gr gk gg gp gt sa sb) H := hP
    have hD : va_D A (stW a rB rT cI cJ cII cJJ nc nv ng kd vo nu nd en br bc un eu li tb cc0 cp cu cd tc ts tf ox ow ob (x / (cdF 100 x y)) (y / (cdF 100 x y)) gc gr gk gg gp gt sa sb) := hD
    exact hret _ _ _ _ hP hD hS d_Fr_set_30
set_option maxHeartbeats 4000000 in
set_option maxRecDepth 100000 in
theorem k_Fr_side8 (l : Launch) (g : va_G) (a rB rT : Nat → Nat) (cI cJ cII cJJ : ClassId) (nc : Nat) (nv : Nat) (ng : Nat) (kd : Nat → Int32) (vo : Nat → Nat) (nu : Nat → Nat) (nd : Nat → Nat) (en : Nat → Nat) (br : Nat → Nat → Nat) (bc : Nat → Nat) (un : Nat → Nat) (eu : Nat → Nat) (li : Nat → Nat) (tb : Nat → Nat → Int64) (cc0 : Nat) (cp : Nat → Nat) (cu : Nat → Nat) (cd : Nat → Nat) (tc : Nat) (ts : Nat → Nat) (tf : Nat → Nat) (ox : Bool) (ow : Nat → Nat) (ob : Nat → Nat) (ra : Nat) (rb : Nat) (gc : Nat) (gr : Nat) (gk : Nat → Nat) (gg : Nat → Nat) (gp : Nat → Nat) (gt : Nat → Nat) (sa : Nat) (sb : Nat) (z : Int32)  : ct_l l g vwCl (tyS cI cJ cII cJJ) y_Fr_side c_Fr_side 2 (some .long) ({ frames := 0, cells := 0, slots := 0, locals := 0 } : Room) [.ref (a 8), .int z] (stW a rB rT cI cJ cII cJJ nc nv ng kd vo nu nd en br bc un eu li tb cc0 cp cu cd tc ts tf ox ow ob ra rb gc gr gk gg gp gt sa sb) (stW a rB rT cI cJ cII cJJ nc nv ng kd vo nu nd en br bc un eu li tb cc0 cp cu cd tc ts tf ox ow ob ra rb gc gr gk gg gp gt sa sb) (lN (if z = 0 then ra else rb)) := by
  refine ct_l.intro (by decide) (Nat.le_of_ble_eq_true rfl) ?_
  intro p e s m args below meth c Q A ls hx hb hml hT hown hA hK hN hret hP hD hS hl
  have hown : s.vm.findClass R_Fr = some m.cls := hown
  have hl : lv_has ls 2 [(0, .ref (a 8)), (1, .int z)] := hl
  refine lv_iload_n hx hb d_Fr_side_0 rfl (lv_at hl 1 rfl) ?_
  refine lv_if_ne (tgt := 11) hx hb d_Fr_side_1 (by decide) (fun c_1 => ?_) (fun c_1 => ?_)
  · -- 1: taken
    refine lv_aload_n hx hb d_Fr_side_11 rfl (lv_at hl 0 rfl) ?_
    refine va_get (D := g) (ci := 7) (v := .long (lN rb)) (C := R_Fr) (T := F_Fr) (N := 2) hx hb hT i_Fr hown hK hP 8 rfl rfl 1 (by decide) (hT _ tw_164) (fun _ h9 => h9) rfl d_Fr_side_12 ?_
    refine hret _ _ _ _ _ hP hD hS d_Fr_side_15 ?_
    simp [c_1]
  · -- 1: not taken
    refine lv_aload_n hx hb d_Fr_side_4 rfl (lv_at hl 0 rfl) ?_
    refine va_get (D := g) (ci := 7) (v := .long (lN ra)) (C := R_Fr) (T := F_Fr) (N := 2) hx hb hT i_Fr hown hK hP 8 rfl rfl 0 (by decide) (hT _ tw_163) (fun _ h9 => h9) rfl d_Fr_side_5 ?_
    refine lv_goto (tgt := 15) hx hb d_Fr_side_8 (by decide) ?_
    refine hret _ _ _ _ _ hP hD hS d_Fr_side_15 ?_
    simp [c_1]
