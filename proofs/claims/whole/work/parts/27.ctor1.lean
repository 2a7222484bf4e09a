set_option maxHeartbeats 4000000 in
set_option maxRecDepth 100000 in
theorem k_Ca_init (l : Launch) (g : va_G) (cI cJ cII cJJ : ClassId) (h0 : Nat) : cn_v l g vwCl (tyS cI cJ cII cJJ) y_Ca_init c_Ca_init 1 ({ frames := 1, cells := 3, slots := 12, locals := 12 } : Room) [.ref h0] [(h0, .inr (3, [.int 0, .null, .null, .null]))] ((Nat → Nat) × (Nat → Nat)) (fun u => [(h0, .inr (3, [.int (nI 0), .ref (u.1 20), .ref (u.1 21), .ref (u.1 22)])), ((u.1 20), .inl (cI, 4, .inl (fun _ => nI 0))), ((u.1 21), .inl (cJ, 4, .inr (.inl (fun _ => lN 0)))), ((u.1 22), .inl (cJ, 4, .inr (.inl (fun _ => lN 0))))]) 3 12 := by
  refine cn_v.intro (by decide) (Nat.le_of_ble_eq_true rfl) ?_
  intro p e s m args below meth c Q A ls hx hb hml hT hown hin hA hK hN hO hret hP hD hS hl
  have hown : s.vm.findClass R_Ca = some m.cls := hown
  have hin : meth.name = "<init>" := hin
  have hl : lv_has ls 1 [(0, .ref h0)] := hl
  refine lv_aload_n hx hb d_Ca_init_0 rfl (lv_at hl 0 rfl) ?_
  refine W.objInit hx hb hown (hT _ tw_116) (hT _ tw_23) (hT _ tw_24) rfl (by rw [hml]; exact hl.1) rfl d_Ca_init_1 (Nat.le_of_ble_eq_true rfl) (Nat.le_of_ble_eq_true rfl) ?_
  refine W.eq (g2 := F0 m 4 ls []) rfl ?_
  refine lv_aload_n hx hb d_Ca_init_4 rfl (lv_at hl 0 rfl) ?_
  refine lv_iconst (v := nI 0) hx hb d_Ca_init_5 (by decide) ?_
  refine va_put (D := g) (ci := 3) (v := .int (nI 0)) (ty := .int) (C := R_Ca) (T := F_Ca) (N := 4) hx hb hT i_Ca t_Ca t_Ca_ok n_Ca hown hK hP hD hS 0 rfl rfl 0 (by decide) (hT _ tw_117) (fun _ h9 => h9) rfl (by decide +kernel) rfl rfl (Nat.le_of_ble_eq_true rfl) d_Ca_init_6 (fun H locs hP hD hS => ?_)
  have hP : va_P g vwCl [(h0, .inr (3, [.int (nI 0), .null, .null, .null]))] H := hP
  have hD : va_D A [(h0, .inr (3, [.int (nI 0), .null, .null, .null]))] := hD
  refine lv_aload_n hx hb d_Ca_init_9 rfl (lv_at hl 0 rfl) ?_
  refine lv_iconst (v := nI 4) hx hb d_Ca_init_10 (by decide) ?_
  refine my_newa (atype := .int) (N' := 4) (ty := .int) (a0 := (4, .inl (fun _ => nI 0))) hx hb (hT _ tw_94) rfl hK 0 rfl (fun _ h => h) hP hD hS hA (fun _ => rfl) (by decide) (by decide) (Nat.le_of_ble_eq_true rfl) (Nat.le_of_ble_eq_true rfl) d_Ca_init_11 (fun q11 H hP hD hS => ?_)
  have hP : va_P g vwCl [(h0, .inr (3, [.int (nI 0), .null, .null, .null])), (q11, .inl (cI, 4, .inl (fun _ => nI 0)))] H := hP
  have hD : va_D A [(h0, .inr (3, [.int (nI 0), .null, .null, .null])), (q11, .inl (cI, 4, .inl (fun _ => nI 0)))] := hD
  refine va_putF (D := g) (ci := 3) (v := .ref q11) (ty := (.array .int)) (C := R_Ca) (T := F_Ca) (N := 4) hx hb hT i_Ca t_Ca t_Ca_ok n_Ca hown hK hP hD hS 0 rfl rfl 1 (by decide) (hT _ tw_120) (fun _ h9 => h9) rfl hin rfl (by decide +kernel) rfl rfl (Nat.le_of_ble_eq_true rfl) d_Ca_init_13 (fun H locs hP hD hS => ?_)
  have hP : va_P g vwCl [(h0, .inr (3, [.int (nI 0), .ref q11, .null, .null])), (q11, .inl (cI, 4, .inl (fun _ => nI 0)))] H := hP
  have hD : va_D A [(h0, .inr (3, [.int (nI 0), .ref q11, .null, .null])), (q11, .inl (cI, 4, .inl (fun _ => nI 0)))] := hD
  refine lv_aload_n hx hb d_Ca_init_16 rfl (lv_at hl 0 rfl) ?_
  refine lv_iconst (v := nI 4) hx hb d_Ca_init_17 (by decide) ?_
  refine my_newa (atype := .long) (N' := 4) (ty := .long) (a0 := (4, .inr (.inl (fun _ => lN 0)))) hx hb (hT _ tw_95) rfl hK 1 rfl (fun _ h => h) hP hD hS hA (fun _ => rfl) (by decide) (by decide) (Nat.le_of_ble_eq_true rfl) (Nat.le_of_ble_eq_true rfl) d_Ca_init_18 (fun q18 H hP hD hS => ?_)
  have hP : va_P g vwCl [(h0, .inr (3, [.int (nI 0), .ref q11, .null, .null])), (q11, .inl (cI, 4, .inl (fun _ => nI 0))), (q18, .inl (cJ, 4, .inr (.inl (fun _ => lN 0))))] H := hP
  have hD : va_D A [(h0, .inr (3, [.int (nI 0), .ref q11, .null, .null])), (q11, .inl (cI, 4, .inl (fun _ => nI 0))), (q18, .inl (cJ, 4, .inr (.inl (fun _ => lN 0))))] := hD
  refine va_putF (D := g) (ci := 3) (v := .ref q18) (ty := (.array .long)) (C := R_Ca) (T := F_Ca) (N := 4) hx hb hT i_Ca t_Ca t_Ca_ok n_Ca hown hK hP hD hS 0 rfl rfl 2 (by decide) (hT _ tw_122) (fun _ h9 => h9) rfl hin rfl (by decide +kernel) rfl rfl (Nat.le_of_ble_eq_true rfl) d_Ca_init_20 (fun H locs hP hD hS => ?_)
  have hP : va_P g vwCl [(h0, .inr (3, [.int (nI 0), .ref q11, .ref q18, .null])), (q11, .inl (cI, 4, .inl (fun _ => nI 0))), (q18, .inl (cJ, 4, .inr (.inl (fun _ => lN 0))))] H := hP
  have hD : va_D A [(h0, .inr (3, [.int (nI 0), .ref q11, .ref q18, .null])), (q11, .inl (cI, 4, .inl (fun _ => nI 0))), (q18, .inl (cJ, 4, .inr (.inl (fun _ => lN 0))))] := hD
  refine lv_aload_n hx hb d_Ca_init_23 rfl (lv_at hl 0 rfl) ?_
  refine lv_iconst (v := nI 4) hx hb d_Ca_init_24 (by decide) ?_
  refine my_newa (atype := .long) (N' := 4) (ty := .long) (a0 := (4, .inr (.inl (fun _ => lN 0)))) hx hb (hT _ tw_95) rfl hK 1 rfl (fun _ h => h) hP hD hS hA (fun _ => rfl) (by decide) (by decide) (Nat.le_of_ble_eq_true rfl) (Nat.le_of_ble_eq_true rfl) d_Ca_init_25 (fun q25 H hP hD hS => ?_)
  have hP : va_P g vwCl [(h0, .inr (3, [.int (nI 0), .ref q11, .ref q18, .null])), (q11, .inl (cI, 4, .inl (fun _ => nI 0))), (q18, .inl (cJ, 4, .inr (.inl (fun _ => lN 0)))), (q25, .inl (cJ, 4, .inr (.inl (fun _ => lN 0))))] H := hP
  have hD : va_D A [(h0, .inr (3, [.int (nI 0), .ref q11, .ref q18, .null])), (q11, .inl (cI, 4, .inl (fun _ => nI 0))), (q18, .inl (cJ, 4, .inr (.inl (fun _ => lN 0)))), (q25, .inl (cJ, 4, .inr (.inl (fun _ => lN 0))))] := hD
  refine va_putF (D := g) (ci := 3) (v := .ref q25) (ty := (.array .long)) (C := R_Ca) (T := F_Ca) (N := 4) hx hb hT i_Ca t_Ca t_Ca_ok n_Ca hown hK hP hD hS 0 rfl rfl 3 (by decide) (hT _ tw_124) (fun _ h9 => h9) rfl hin rfl (by decide +kernel) rfl rfl (Nat.le_of_ble_eq_true rfl) d_Ca_init_27 (fun H locs hP hD hS => ?_)
  have hP : va_P g vwCl [(h0, .inr (3, [.int (nI 0), .ref q11, .ref q18, .ref q25])), (q11, .inl (cI, 4, .inl (fun _ => nI 0))), (q18, .inl (cJ, 4, .inr (.inl (fun _ => lN 0)))), (q25, .inl (cJ, 4, .inr (.inl (fun _ => lN 0))))] H := hP
  have hD : va_D A [(h0, .inr (3, [.int (nI 0), .ref q11, .ref q18, .ref q25])), (q11, .inl (cI, 4, .inl (fun _ => nI 0))), (q18, .inl (cJ, 4, .inr (.inl (fun _ => lN 0)))), (q25, .inl (cJ, 4, .inr (.inl (fun _ => lN 0))))] := hD
  exact hret _ _ _ _ (fun k => if k = 20 then q11 else if k = 21 then q18 else if k = 22 then q25 else 0, (fun _ => 0)) hP hD hS d_Ca_init_30
set_option maxHeartbeats 4000000 in
set_option maxRecDepth 100000 in
theorem k_Cu_init (l : Launch) (g : va_G) (cI cJ cII cJJ : ClassId) (h0 : Nat) : cn_v l g vwCl (tyS cI cJ cII cJJ) y_Cu_init c_Cu_init 1 ({ frames := 1, cells := 2, slots := 1848, locals := 12 } : Room) [.ref h0] [(h0, .inr (4, [.int 0, .null, .null]))] ((Nat → Nat) × (Nat → Nat)) (fun u => [(h0, .inr (4, [.int (nI 0), .ref (u.1 23), .ref (u.1 24)])), ((u.1 23), .inl (cI, 924, .inl (fun _ => nI 0))), ((u.1 24), .inl (cI, 924, .inl (fun _ => nI 0)))]) 2 1848 := by
  refine cn_v.intro (by decide) (Nat.le_of_ble_eq_true rfl) ?_
  intro p e s m args below meth c Q A ls hx hb hml hT hown hin hA hK hN hO hret hP hD hS hl
  have hown : s.vm.findClass R_Cu = some m.cls := hown
  have hin : meth.name = "<init>" := hin
  have hl : lv_has ls 1 [(0, .ref h0)] := hl
  refine lv_aload_n hx hb d_Cu_init_0 rfl (lv_at hl 0 rfl) ?_
  refine W.objInit hx hb hown (hT _ tw_140) (hT _ tw_23) (hT _ tw_24) rfl (by rw [hml]; exact hl.1) rfl d_Cu_init_1 (Nat.le_of_ble_eq_true rfl) (Nat.le_of_ble_eq_true rfl) ?_
  refine W.eq (g2 := F0 m 4 ls []) rfl ?_
  refine lv_aload_n hx hb d_Cu_init_4 rfl (lv_at hl 0 rfl) ?_
  refine lv_iconst (v := nI 0) hx hb d_Cu_init_5 (by decide) ?_
  refine va_put (D := g) (ci := 4) (v := .int (nI 0)) (ty := .int) (C := R_Cu) (T := F_Cu) (N := 3) hx hb hT i_Cu t_Cu t_Cu_ok n_Cu hown hK hP hD hS 0 rfl rfl 0 (by decide) (hT _ tw_141) (fun _ h9 => h9) rfl (by decide +kernel) rfl rfl (Nat.le_of_ble_eq_true rfl) d_Cu_init_6 (fun H locs hP hD hS => ?_)
  have hP : va_P g vwCl [(h0, .inr (4, [.int (nI 0), .null, .null]))] H := hP
  have hD : va_D A [(h0, .inr (4, [.int (nI 0), .null, .null]))] := hD
  refine lv_aload_n hx hb d_Cu_init_9 rfl (lv_at hl 0 rfl) ?_
  refine lv_sipush (v := nI 924) hx hb d_Cu_init_10 (by decide) ?_
  refine my_newa (atype := .int) (N' := 924) (ty := .int) (a0 := (924, .inl (fun _ => nI 0))) hx hb (hT _ tw_94) rfl hK 0 rfl (fun _ h => h) hP hD hS hA (fun _ => rfl) (by decide) (by decide) (Nat.le_of_ble_eq_true rfl) (Nat.le_of_ble_eq_true rfl) d_Cu_init_13 (fun q13 H hP hD hS => ?_)
  have hP : va_P g vwCl [(h0, .inr (4, [.int (nI 0), .null, .null])), (q13, .inl (cI, 924, .inl (fun _ => nI 0)))] H := hP
  have hD : va_D A [(h0, .inr (4, [.int (nI 0), .null, .null])), (q13, .inl (cI, 924, .inl (fun _ => nI 0)))] := hD
  refine va_putF (D := g) (ci := 4) (v := .ref q13) (ty := (.array .int)) (C := R_Cu) (T := F_Cu) (N := 3) hx hb hT i_Cu t_Cu t_Cu_ok n_Cu hown hK hP hD hS 0 rfl rfl 1 (by decide) (hT _ tw_142) (fun _ h9 => h9) rfl hin rfl (by decide +kernel) rfl rfl (Nat.le_of_ble_eq_true rfl) d_Cu_init_15 (fun H locs hP hD hS => ?_)
  have hP : va_P g vwCl [(h0, .inr (4, [.int (nI 0), .ref q13, .null])), (q13, .inl (cI, 924, .inl (fun _ => nI 0)))] H := hP
  have hD : va_D A [(h0, .inr (4, [.int (nI 0), .ref q13, .null])), (q13, .inl (cI, 924, .inl (fun _ => nI 0)))] := hD
  refine lv_aload_n hx hb d_Cu_init_18 rfl (lv_at hl 0 rfl) ?_
  refine lv_sipush (v := nI 924) hx hb d_Cu_init_19 (by decide) ?_
  refine my_newa (atype := .int) (N' := 924) (ty := .int) (a0 := (924, .inl (fun _ => nI 0))) hx hb (hT _ tw_94) rfl hK 0 rfl (fun _ h => h) hP hD hS hA (fun _ => rfl) (by decide) (by decide) (Nat.le_of_ble_eq_true rfl) (Nat.le_of_ble_eq_true rfl) d_Cu_init_22 (fun q22 H hP hD hS => ?_)
  have hP : va_P g vwCl [(h0, .inr (4, [.int (nI 0), .ref q13, .null])), (q13, .inl (cI, 924, .inl (fun _ => nI 0))), (q22, .inl (cI, 924, .inl (fun _ => nI 0)))] H := hP
  have hD : va_D A [(h0, .inr (4, [.int (nI 0), .ref q13, .null])), (q13, .inl (cI, 924, .inl (fun _ => nI 0))), (q22, .inl (cI, 924, .inl (fun _ => nI 0)))] := hD
  refine va_putF (D := g) (ci := 4) (v := .ref q22) (ty := (.array .int)) (C := R_Cu) (T := F_Cu) (N := 3) hx hb hT i_Cu t_Cu t_Cu_ok n_Cu hown hK hP hD hS 0 rfl rfl 2 (by decide) (hT _ tw_143) (fun _ h9 => h9) rfl hin rfl (by decide +kernel) rfl rfl (Nat.le_of_ble_eq_true rfl) d_Cu_init_24 (fun H locs hP hD hS => ?_)
  have hP : va_P g vwCl [(h0, .inr (4, [.int (nI 0), .ref q13, .ref q22])), (q13, .inl (cI, 924, .inl (fun _ => nI 0))), (q22, .inl (cI, 924, .inl (fun _ => nI 0)))] H := hP
  have hD : va_D A [(h0, .inr (4, [.int (nI 0), .ref q13, .ref q22])), (q13, .inl (cI, 924, .inl (fun _ => nI 0))), (q22, .inl (cI, 924, .inl (fun _ => nI 0)))] := hD
  exact hret _ _ _ _ (fun k => if k = 23 then q13 else if k = 24 then q22 else 0, (fun _ => 0)) hP hD hS d_Cu_init_27
set_option maxHeartbeats 4000000 in
set_option maxRecDepth 100000 in
theorem k_Go_init (l : Launch) (g : va_G) (cI cJ cII cJJ : ClassId) (h0 : Nat) : cn_v l g vwCl (tyS cI cJ cII cJJ) y_Go_init c_Go_init 1 ({ frames := 1, cells := 4, slots := 331, locals := 12 } : Room) [.ref h0] [(h0, .inr (6, [.int 0, .int 0, .null, .null, .null, .null]))] ((Nat → Nat) × (Nat → Nat)) (fun u => [(h0, .inr (6, [.int (nI 0), .int (nI 0), .ref (u.1 27), .ref (u.1 28), .ref (u.1 29), .ref (u.1 30)])), ((u.1 27), .inl (cI, 31, .inl (fun _ => nI 0))), ((u.1 28), .inl (cI, 100, .inl (fun _ => nI 0))), ((u.1 29), .inl (cI, 100, .inl (fun _ => nI 0))), ((u.1 30), .inl (cI, 100, .inl (fun _ => nI 0)))]) 4 331 := by
  refine cn_v.intro (by decide) (Nat.le_of_ble_eq_true rfl) ?_
  intro p e s m args below meth c Q A ls hx hb hml hT hown hin hA hK hN hO hret hP hD hS hl
  have hown : s.vm.findClass R_Go = some m.cls := hown
  have hin : meth.name = "<init>" := hin
  have hl : lv_has ls 1 [(0, .ref h0)] := hl
  refine lv_aload_n hx hb d_Go_init_0 rfl (lv_at hl 0 rfl) ?_
  refine W.objInit hx hb hown (hT _ tw_199) (hT _ tw_23) (hT _ tw_24) rfl (by rw [hml]; exact hl.1) rfl d_Go_init_1 (Nat.le_of_ble_eq_true rfl) (Nat.le_of_ble_eq_true rfl) ?_
  refine W.eq (g2 := F0 m 4 ls []) rfl ?_
  refine lv_aload_n hx hb d_Go_init_4 rfl (lv_at hl 0 rfl) ?_
  refine lv_iconst (v := nI 0) hx hb d_Go_init_5 (by decide) ?_
  refine va_put (D := g) (ci := 6) (v := .int (nI 0)) (ty := .int) (C := R_Go) (T := F_Go) (N := 6) hx hb hT i_Go t_Go t_Go_ok n_Go hown hK hP hD hS 0 rfl rfl 0 (by decide) (hT _ tw_200) (fun _ h9 => h9) rfl (by decide +kernel) rfl rfl (Nat.le_of_ble_eq_true rfl) d_Go_init_6 (fun H locs hP hD hS => ?_)
  have hP : va_P g vwCl [(h0, .inr (6, [.int (nI 0), .int 0, .null, .null, .null, .null]))] H := hP
  have hD : va_D A [(h0, .inr (6, [.int (nI 0), .int 0, .null, .null, .null, .null]))] := hD
  refine lv_aload_n hx hb d_Go_init_9 rfl (lv_at hl 0 rfl) ?_
  refine lv_iconst (v := nI 0) hx hb d_Go_init_10 (by decide) ?_
  refine va_put (D := g) (ci := 6) (v := .int (nI 0)) (ty := .int) (C := R_Go) (T := F_Go) (N := 6) hx hb hT i_Go t_Go t_Go_ok n_Go hown hK hP hD hS 0 rfl rfl 1 (by decide) (hT _ tw_202) (fun _ h9 => h9) rfl (by decide +kernel) rfl rfl (Nat.le_of_ble_eq_true rfl) d_Go_init_11 (fun H locs hP hD hS => ?_)
  have hP : va_P g vwCl [(h0, .inr (6, [.int (nI 0), .int (nI 0), .null, .null, .null, .null]))] H := hP
  have hD : va_D A [(h0, .inr (6, [.int (nI 0), .int (nI 0), .null, .null, .null, .null]))] := hD
  refine lv_aload_n hx hb d_Go_init_14 rfl (lv_at hl 0 rfl) ?_
  refine lv_bipush (v := nI 31) hx hb d_Go_init_15 (by decide) ?_
  refine my_newa (atype := .int) (N' := 31) (ty := .int) (a0 := (31, .inl (fun _ => nI 0))) hx hb (hT _ tw_94) rfl hK 0 rfl (fun _ h => h) hP hD hS hA (fun _ => rfl) (by decide) (by decide) (Nat.le_of_ble_eq_true rfl) (Nat.le_of_ble_eq_true rfl) d_Go_init_17 (fun q17 H hP hD hS => ?_)
  have hP : va_P g vwCl [(h0, .inr (6, [.int (nI 0), .int (nI 0), .null, .null, .null, .null])), (q17, .inl (cI, 31, .inl (fun _ => nI 0)))] H := hP
  have hD : va_D A [(h0, .inr (6, [.int (nI 0), .int (nI 0), .null, .null, .null, .null])), (q17, .inl (cI, 31, .inl (fun _ => nI 0)))] := hD
  refine va_putF (D := g) (ci := 6) (v := .ref q17) (ty := (.array .int)) (C := R_Go) (T := F_Go) (N := 6) hx hb hT i_Go t_Go t_Go_ok n_Go hown hK hP hD hS 0 rfl rfl 2 (by decide) (hT _ tw_204) (fun _ h9 => h9) rfl hin rfl (by decide +kernel) rfl rfl (Nat.le_of_ble_eq_true rfl) d_Go_init_19 (fun H locs hP hD hS => ?_)
  have hP : va_P g vwCl [(h0, .inr (6, [.int (nI 0), .int (nI 0), .ref q17, .null, .null, .null])), (q17, .inl (cI, 31, .inl (fun _ => nI 0)))] H := hP
  have hD : va_D A [(h0, .inr (6, [.int (nI 0), .int (nI 0), .ref q17, .null, .null, .null])), (q17, .inl (cI, 31, .inl (fun _ => nI 0)))] := hD
  refine lv_aload_n hx hb d_Go_init_22 rfl (lv_at hl 0 rfl) ?_
  refine lv_bipush (v := nI 100) hx hb d_Go_init_23 (by decide) ?_
  refine my_newa (atype := .int) (N' := 100) (ty := .int) (a0 := (100, .inl (fun _ => nI 0))) hx hb (hT _ tw_94) rfl hK 0 rfl (fun _ h => h) hP hD hS hA (fun _ => rfl) (by decide) (by decide) (Nat.le_of_ble_eq_true rfl) (Nat.le_of_ble_eq_true rfl) d_Go_init_25 (fun q25 H hP hD hS => ?_)
  have hP : va_P g vwCl [(h0, .inr (6, [.int (nI 0), .int (nI 0), .ref q17, .null, .null, .null])), (q17, .inl (cI, 31, .inl (fun _ => nI 0))), (q25, .inl (cI, 100, .inl (fun _ => nI 0)))] H := hP
  have hD : va_D A [(h0, .inr (6, [.int (nI 0), .int (nI 0), .ref q17, .null, .null, .null])), (q17, .inl (cI, 31, .inl (fun _ => nI 0))), (q25, .inl (cI, 100, .inl (fun _ => nI 0)))] := hD
  refine va_putF (D := g) (ci := 6) (v := .ref q25) (ty := (.array .int)) (C := R_Go) (T := F_Go) (N := 6) hx hb hT i_Go t_Go t_Go_ok n_Go hown hK hP hD hS 0 rfl rfl 3 (by decide) (hT _ tw_205) (fun _ h9 => h9) rfl hin rfl (by decide +kernel) rfl rfl (Nat.le_of_ble_eq_true rfl) d_Go_init_27 (fun H locs hP hD hS => ?_)
  have hP : va_P g vwCl [(h0, .inr (6, [.int (nI 0), .int (nI 0), .ref q17, .ref q25, .null, .null])), (q17, .inl (cI, 31, .inl (fun _ => nI 0))), (q25, .inl (cI, 100, .inl (fun _ => nI 0)))] H := hP
  have hD : va_D A [(h0, .inr (6, [.int (nI 0), .int (nI 0), .ref q17, .ref q25, .null, .null])), (q17, .inl (cI, 31, .inl (fun _ => nI 0))), (q25, .inl (cI, 100, .inl (fun _ => nI 0)))] := hD
  refine lv_aload_n hx hb d_Go_init_30 rfl (lv_at hl 0 rfl) ?_
  refine lv_bipush (v := nI 100) hx hb d_Go_init_31 (by decide) ?_
  refine my_newa (atype := .int) (N' := 100) (ty := .int) (a0 := (100, .inl (fun _ => nI 0))) hx hb (hT _ tw_94) rfl hK 0 rfl (fun _ h => h) hP hD hS hA (fun _ => rfl) (by decide) (by decide) (Nat.le_of_ble_eq_true rfl) (Nat.le_of_ble_eq_true rfl) d_Go_init_33 (fun q33 H hP hD hS => ?_)
  have hP : va_P g vwCl [(h0, .inr (6, [.int (nI 0), .int (nI 0), .ref q17, .ref q25, .null, .null])), (q17, .inl (cI, 31, .inl (fun _ => nI 0))), (q25, .inl (cI, 100, .inl (fun _ => nI 0))), (q33, .inl (cI, 100, .inl (fun _ => nI 0)))] H := hP
  have hD : va_D A [(h0, .inr (6, [.int (nI 0), .int (nI 0), .ref q17, .ref q25, .null, .null])), (q17, .inl (cI, 31, .inl (fun _ => nI 0))), (q25, .inl (cI, 100, .inl (fun _ => nI 0))), (q33, .inl (cI, 100, .inl (fun _ => nI 0)))] := hD
  refine va_putF (D := g) (ci := 6) (v := .ref q33) (ty := (.array .int)) (C := R_Go) (T := F_Go) (N := 6) hx hb hT i_Go t_Go t_Go_ok n_Go hown hK hP hD hS 0 rfl rfl 4 (by decide) (hT _ tw_206) (fun _ h9 => h9) rfl hin rfl (by decide +kernel) rfl rfl (Nat.le_of_ble_eq_true rfl) d_Go_init_35 (fun H locs hP hD hS => ?_)
  have hP : va_P g vwCl [(h0, .inr (6, [.int (nI 0), .int (nI 0), .ref q17, .ref q25, .ref q33, .null])), (q17, .inl (cI, 31, .inl (fun _ => nI 0))), (q25, .inl (cI, 100, .inl (fun _ => nI 0))), (q33, .inl (cI, 100, .inl (fun _ => nI 0)))] H := hP
  have hD : va_D A [(h0, .inr (6, [.int (nI 0), .int (nI 0), .ref q17, .ref q25, .ref q33, .null])), (q17, .inl (cI, 31, .inl (fun _ => nI 0))), (q25, .inl (cI, 100, .inl (fun _ => nI 0))), (q33, .inl (cI, 100, .inl (fun _ => nI 0)))] := hD
  refine lv_aload_n hx hb d_Go_init_38 rfl (lv_at hl 0 rfl) ?_
  refine lv_bipush (v := nI 100) hx hb d_Go_init_39 (by decide) ?_
  refine my_newa (atype := .int) (N' := 100) (ty := .int) (a0 := (100, .inl (fun _ => nI 0))) hx hb (hT _ tw_94) rfl hK 0 rfl (fun _ h => h) hP hD hS hA (fun _ => rfl) (by decide) (by decide) (Nat.le_of_ble_eq_true rfl) (Nat.le_of_ble_eq_true rfl) d_Go_init_41 (fun q41 H hP hD hS => ?_)
  have hP : va_P g vwCl [(h0, .inr (6, [.int (nI 0), .int (nI 0), .ref q17, .ref q25, .ref q33, .null])), (q17, .inl (cI, 31, .inl (fun _ => nI 0))), (q25, .inl (cI, 100, .inl (fun _ => nI 0))), (q33, .inl (cI, 100, .inl (fun _ => nI 0))), (q41, .inl (cI, 100, .inl (fun _ => nI 0)))] H := hP
  have hD : va_D A [(h0, .inr (6, [.int (nI 0), .int (nI 0), .ref q17, .ref q25, .ref q33, .null])), (q17, .inl (cI, 31, .inl (fun _ => nI 0))), (q25, .inl (cI, 100, .inl (fun _ => nI 0))), (q33, .inl (cI, 100, .inl (fun _ => nI 0))), (q41, .inl (cI, 100, .inl (fun _ => nI 0)))] := hD
  refine va_putF (D := g) (ci := 6) (v := .ref q41) (ty := (.array .int)) (C := R_Go) (T := F_Go) (N := 6) hx hb hT i_Go t_Go t_Go_ok n_Go hown hK hP hD hS 0 rfl rfl 5 (by decide) (hT _ tw_207) (fun _ h9 => h9) rfl hin rfl (by decide +kernel) rfl rfl (Nat.le_of_ble_eq_true rfl) d_Go_init_43 (fun H locs hP hD hS => ?_)
  have hP : va_P g vwCl [(h0, .inr (6, [.int (nI 0), .int (nI 0), .ref q17, .ref q25, .ref q33, .ref q41])), (q17, .inl (cI, 31, .inl (fun _ => nI 0))), (q25, .inl (cI, 100, .inl (fun _ => nI 0))), (q33, .inl (cI, 100, .inl (fun _ => nI 0))), (q41, .inl (cI, 100, .inl (fun _ => nI 0)))] H := hP
  have hD : va_D A [(h0, .inr (6, [.int (nI 0), .int (nI 0), .ref q17, .ref q25, .ref q33, .ref q41])), (q17, .inl (cI, 31, .inl (fun _ => nI 0))), (q25, .inl (cI, 100, .inl (fun _ => nI 0))), (q33, .inl (cI, 100, .inl (fun _ => nI 0))), (q41, .inl (cI, 100, .inl (fun _ => nI 0)))] := hD
  exact hret _ _ _ _ (fun k => if k = 27 then q17 else if k = 28 then q25 else if k = 29 then q33 else if k = 30 then q41 else 0, (fun _ => 0)) hP hD hS d_Go_init_46
set_option maxHeartbeats 4000000 in
set_option maxRecDepth 100000 in
theorem k_Fr_init (l : Launch) (g : va_G) (cI cJ cII cJJ : ClassId) (h0 : Nat) : cn_v l g vwCl (tyS cI cJ cII cJJ) y_Fr_init c_Fr_init 1 ({ frames := 1, cells := 0, slots := 0, locals := 12 } : Room) [.ref h0] [(h0, .inr (7, [.long 0, .long 0]))] ((Nat → Nat) × (Nat → Nat)) (fun u => [(h0, .inr (7, [.long (lN 0), .long (lN 1)]))]) 0 0 := by
  refine cn_v.intro (by decide) (Nat.le_of_ble_eq_true rfl) ?_
  intro p e s m args below meth c Q A ls hx hb hml hT hown hin hA hK hN hO hret hP hD hS hl
  have hown : s.vm.findClass R_Fr = some m.cls := hown
  have hin : meth.name = "<init>" := hin
  have hl : lv_has ls 1 [(0, .ref h0)] := hl
  refine lv_aload_n hx hb d_Fr_init_0 rfl (lv_at hl 0 rfl) ?_
  refine W.objInit hx hb hown (hT _ tw_162) (hT _ tw_23) (hT _ tw_24) rfl (by rw [hml]; exact hl.1) rfl d_Fr_init_1 (Nat.le_of_ble_eq_true rfl) (Nat.le_of_ble_eq_true rfl) ?_
  refine W.eq (g2 := F0 m 4 ls []) rfl ?_
  refine lv_aload_n hx hb d_Fr_init_4 rfl (lv_at hl 0 rfl) ?_
  refine lv_lconst (v := lN 0) hx hb d_Fr_init_5 (by decide) ?_
  refine va_put (D := g) (ci := 7) (v := .long (lN 0)) (ty := .long) (C := R_Fr) (T := F_Fr) (N := 2) hx hb hT i_Fr t_Fr t_Fr_ok n_Fr hown hK hP hD hS 0 rfl rfl 0 (by decide) (hT _ tw_163) (fun _ h9 => h9) rfl (by decide +kernel) rfl rfl (Nat.le_of_ble_eq_true rfl) d_Fr_init_6 (fun H locs hP hD hS => ?_)
  have hP : va_P g vwCl [(h0, .inr (7, [.long (lN 0), .long 0]))] H := hP
  have hD : va_D A [(h0, .inr (7, [.long (lN 0), .long 0]))] := hD
  refine lv_aload_n hx hb d_Fr_init_9 rfl (lv_at hl 0 rfl) ?_
  refine lv_lconst (v := lN 1) hx hb d_Fr_init_10 (by decide) ?_
  refine va_put (D := g) (ci := 7) (v := .long (lN 1)) (ty := .long) (C := R_Fr) (T := F_Fr) (N := 2) hx hb hT i_Fr t_Fr t_Fr_ok n_Fr hown hK hP hD hS 0 rfl rfl 1 (by decide) (hT _ tw_164) (fun _ h9 => h9) rfl (by decide +kernel) rfl rfl (Nat.le_of_ble_eq_true rfl) d_Fr_init_11 (fun H locs hP hD hS => ?_)
  have hP : va_P g vwCl [(h0, .inr (7, [.long (lN 0), .long (lN 1)]))] H := hP
  have hD : va_D A [(h0, .inr (7, [.long (lN 0), .long (lN 1)]))] := hD
  exact hret _ _ _ _ (fun k =>  0, (fun _ => 0)) hP hD hS d_Fr_init_14
