set_option maxHeartbeats 4000000 in
set_option maxRecDepth 100000 in
theorem k_Od_init (l : Launch) (g : va_G) (cI cJ cII cJJ : ClassId) (h0 : Nat) (n0 : Nat) (n1 : Nat) (n2 : Nat) : cn_v l g vwCl (tyS cI cJ cII cJJ) y_Od_init c_Od_init 4 ({ frames := 2, cells := 3, slots := 4131, locals := 32 } : Room) [.ref h0, .ref n0, .ref n1, .ref n2] [(h0, .inr (5, [.null, .null, .null, .null, .int 0, .null, .null]))] ((Nat → Nat) × (Nat → Nat)) (fun u => [(h0, .inr (5, [.ref n0, .ref n1, .ref n2, .ref (u.1 8), .int (nI 0), .ref (u.1 25), .ref (u.1 26)])), ((u.1 8), .inr (7, [.long (lN 0), .long (lN 1)])), ((u.1 25), .inl (cJ, 4096, .inr (.inl (fun _ => lN 0)))), ((u.1 26), .inl (cJ, 33, .inr (.inl (fun _ => lN 0))))]) 3 4131 := by
  refine cn_v.intro (by decide) (Nat.le_of_ble_eq_true rfl) ?_
  intro p e s m args below meth c Q A ls hx hb hml hT hown hin hA hK hN hO hret hP hD hS hl
  have hown : s.vm.findClass R_Od = some m.cls := hown
  have hin : meth.name = "<init>" := hin
  have hl : lv_has ls 4 [(0, .ref h0), (1, .ref n0), (2, .ref n1), (3, .ref n2)] := hl
  refine lv_aload_n hx hb d_Od_init_0 rfl (lv_at hl 0 rfl) ?_
  refine W.objInit hx hb hown (hT _ tw_156) (hT _ tw_23) (hT _ tw_24) rfl (by rw [hml]; exact hl.1) rfl d_Od_init_1 (Nat.le_of_ble_eq_true rfl) (Nat.le_of_ble_eq_true rfl) ?_
  refine W.eq (g2 := F0 m 4 ls []) rfl ?_
  refine lv_aload_n hx hb d_Od_init_4 rfl (lv_at hl 0 rfl) ?_
  refine va_new (ci := 7) (fs := [.long 0, .long 0]) (C := R_Fr) (T := F_Fr) (N := 2) hx hb hT i_Fr t_Fr t_Fr_ok hown (hT _ tw_157) (hT _ tw_158) (hT _ tw_7) hK hP hD hS hA rfl (fun j hj => by rcases (show j = 0 ∨ j = 1 by omega) with rfl | rfl <;> rfl) (Nat.le_of_ble_eq_true rfl) (Nat.le_of_ble_eq_true rfl) d_Od_init_5 (fun q5 H hP hD hS => ?_)
  refine lv_dup hx hb d_Od_init_8 rfl ?_
  refine my_IN (As := []) (n := 0) (k_Fr_init l g cI cJ cII cJJ q5) hx hb hml hown hT hN hO tw_159 tw_160 tw_7 tw_161 rfl (by decide +kernel) rfl rfl ⟨Nat.le_of_ble_eq_true rfl, Nat.le_of_ble_eq_true rfl⟩ ⟨Nat.le_of_ble_eq_true rfl, Nat.le_of_ble_eq_true rfl⟩ hK hP hD hS hA rfl hl rfl (Nat.le_of_ble_eq_true rfl) d_Od_init_9 (fun u9 H locs hP hD hS => ?_)
  have hP : va_P g vwCl [(h0, .inr (5, [.null, .null, .null, .null, .int 0, .null, .null])), (q5, .inr (7, [.long (lN 0), .long (lN 1)]))] H := hP
  have hD : va_D A [(h0, .inr (5, [.null, .null, .null, .null, .int 0, .null, .null])), (q5, .inr (7, [.long (lN 0), .long (lN 1)]))] := hD
  refine va_putF (D := g) (ci := 5) (v := .ref q5) (ty := (.object "SafetyTrees$Fraction")) (C := R_Od) (T := F_Od) (N := 7) hx hb hT i_Od t_Od t_Od_ok n_Od hown hK hP hD hS 0 rfl rfl 3 (by decide) (hT _ tw_173) (fun _ h9 => h9) rfl hin rfl (by decide +kernel) rfl rfl (Nat.le_of_ble_eq_true rfl) d_Od_init_12 (fun H locs hP hD hS => ?_)
  have hP : va_P g vwCl [(h0, .inr (5, [.null, .null, .null, .ref q5, .int 0, .null, .null])), (q5, .inr (7, [.long (lN 0), .long (lN 1)]))] H := hP
  have hD : va_D A [(h0, .inr (5, [.null, .null, .null, .ref q5, .int 0, .null, .null])), (q5, .inr (7, [.long (lN 0), .long (lN 1)]))] := hD
  refine lv_aload_n hx hb d_Od_init_15 rfl (lv_at hl 0 rfl) ?_
  refine lv_iconst (v := nI 0) hx hb d_Od_init_16 (by decide) ?_
  refine va_put (D := g) (ci := 5) (v := .int (nI 0)) (ty := .boolean) (C := R_Od) (T := F_Od) (N := 7) hx hb hT i_Od t_Od t_Od_ok n_Od hown hK hP hD hS 0 rfl rfl 4 (by decide) (hT _ tw_175) (fun _ h9 => h9) rfl (by decide +kernel) rfl rfl (Nat.le_of_ble_eq_true rfl) d_Od_init_17 (fun H locs hP hD hS => ?_)
  have hP : va_P g vwCl [(h0, .inr (5, [.null, .null, .null, .ref q5, .int (nI 0), .null, .null])), (q5, .inr (7, [.long (lN 0), .long (lN 1)]))] H := hP
  have hD : va_D A [(h0, .inr (5, [.null, .null, .null, .ref q5, .int (nI 0), .null, .null])), (q5, .inr (7, [.long (lN 0), .long (lN 1)]))] := hD
  refine lv_aload_n hx hb d_Od_init_20 rfl (lv_at hl 0 rfl) ?_
  refine lv_sipush (v := nI 4096) hx hb d_Od_init_21 (by decide) ?_
  refine my_newa (atype := .long) (N' := 4096) (ty := .long) (a0 := (4096, .inr (.inl (fun _ => lN 0)))) hx hb (hT _ tw_95) rfl hK 1 rfl (fun _ h => h) hP hD hS hA (fun _ => rfl) (by decide) (by decide) (Nat.le_of_ble_eq_true rfl) (Nat.le_of_ble_eq_true rfl) d_Od_init_24 (fun q24 H hP hD hS => ?_)
  have hP : va_P g vwCl [(h0, .inr (5, [.null, .null, .null, .ref q5, .int (nI 0), .null, .null])), (q5, .inr (7, [.long (lN 0), .long (lN 1)])), (q24, .inl (cJ, 4096, .inr (.inl (fun _ => lN 0))))] H := hP
  have hD : va_D A [(h0, .inr (5, [.null, .null, .null, .ref q5, .int (nI 0), .null, .null])), (q5, .inr (7, [.long (lN 0), .long (lN 1)])), (q24, .inl (cJ, 4096, .inr (.inl (fun _ => lN 0))))] := hD
  refine va_putF (D := g) (ci := 5) (v := .ref q24) (ty := (.array .long)) (C := R_Od) (T := F_Od) (N := 7) hx hb hT i_Od t_Od t_Od_ok n_Od hown hK hP hD hS 0 rfl rfl 5 (by decide) (hT _ tw_177) (fun _ h9 => h9) rfl hin rfl (by decide +kernel) rfl rfl (Nat.le_of_ble_eq_true rfl) d_Od_init_26 (fun H locs hP hD hS => ?_)
  have hP : va_P g vwCl [(h0, .inr (5, [.null, .null, .null, .ref q5, .int (nI 0), .ref q24, .null])), (q5, .inr (7, [.long (lN 0), .long (lN 1)])), (q24, .inl (cJ, 4096, .inr (.inl (fun _ => lN 0))))] H := hP
  have hD : va_D A [(h0, .inr (5, [.null, .null, .null, .ref q5, .int (nI 0), .ref q24, .null])), (q5, .inr (7, [.long (lN 0), .long (lN 1)])), (q24, .inl (cJ, 4096, .inr (.inl (fun _ => lN 0))))] := hD
  refine lv_aload_n hx hb d_Od_init_29 rfl (lv_at hl 0 rfl) ?_
  refine lv_bipush (v := nI 33) hx hb d_Od_init_30 (by decide) ?_
  refine my_newa (atype := .long) (N' := 33) (ty := .long) (a0 := (33, .inr (.inl (fun _ => lN 0)))) hx hb (hT _ tw_95) rfl hK 1 rfl (fun _ h => h) hP hD hS hA (fun _ => rfl) (by decide) (by decide) (Nat.le_of_ble_eq_true rfl) (Nat.le_of_ble_eq_true rfl) d_Od_init_32 (fun q32 H hP hD hS => ?_)
  have hP : va_P g vwCl [(h0, .inr (5, [.null, .null, .null, .ref q5, .int (nI 0), .ref q24, .null])), (q5, .inr (7, [.long (lN 0), .long (lN 1)])), (q24, .inl (cJ, 4096, .inr (.inl (fun _ => lN 0)))), (q32, .inl (cJ, 33, .inr (.inl (fun _ => lN 0))))] H := hP
  have hD : va_D A [(h0, .inr (5, [.null, .null, .null, .ref q5, .int (nI 0), .ref q24, .null])), (q5, .inr (7, [.long (lN 0), .long (lN 1)])), (q24, .inl (cJ, 4096, .inr (.inl (fun _ => lN 0)))), (q32, .inl (cJ, 33, .inr (.inl (fun _ => lN 0))))] := hD
  refine va_putF (D := g) (ci := 5) (v := .ref q32) (ty := (.array .long)) (C := R_Od) (T := F_Od) (N := 7) hx hb hT i_Od t_Od t_Od_ok n_Od hown hK hP hD hS 0 rfl rfl 6 (by decide) (hT _ tw_178) (fun _ h9 => h9) rfl hin rfl (by decide +kernel) rfl rfl (Nat.le_of_ble_eq_true rfl) d_Od_init_34 (fun H locs hP hD hS => ?_)
  have hP : va_P g vwCl [(h0, .inr (5, [.null, .null, .null, .ref q5, .int (nI 0), .ref q24, .ref q32])), (q5, .inr (7, [.long (lN 0), .long (lN 1)])), (q24, .inl (cJ, 4096, .inr (.inl (fun _ => lN 0)))), (q32, .inl (cJ, 33, .inr (.inl (fun _ => lN 0))))] H := hP
  have hD : va_D A [(h0, .inr (5, [.null, .null, .null, .ref q5, .int (nI 0), .ref q24, .ref q32])), (q5, .inr (7, [.long (lN 0), .long (lN 1)])), (q24, .inl (cJ, 4096, .inr (.inl (fun _ => lN 0)))), (q32, .inl (cJ, 33, .inr (.inl (fun _ => lN 0))))] := hD
  refine lv_aload_n hx hb d_Od_init_37 rfl (lv_at hl 0 rfl) ?_
  refine lv_aload_n hx hb d_Od_init_38 rfl (lv_at hl 1 rfl) ?_
  refine va_putF (D := g) (ci := 5) (v := .ref n0) (ty := (.object "SafetyTrees$Nodes")) (C := R_Od) (T := F_Od) (N := 7) hx hb hT i_Od t_Od t_Od_ok n_Od hown hK hP hD hS 0 rfl rfl 0 (by decide) (hT _ tw_170) (fun _ h9 => h9) rfl hin rfl (by decide +kernel) rfl rfl (Nat.le_of_ble_eq_true rfl) d_Od_init_39 (fun H locs hP hD hS => ?_)
  have hP : va_P g vwCl [(h0, .inr (5, [.ref n0, .null, .null, .ref q5, .int (nI 0), .ref q24, .ref q32])), (q5, .inr (7, [.long (lN 0), .long (lN 1)])), (q24, .inl (cJ, 4096, .inr (.inl (fun _ => lN 0)))), (q32, .inl (cJ, 33, .inr (.inl (fun _ => lN 0))))] H := hP
  have hD : va_D A [(h0, .inr (5, [.ref n0, .null, .null, .ref q5, .int (nI 0), .ref q24, .ref q32])), (q5, .inr (7, [.long (lN 0), .long (lN 1)])), (q24, .inl (cJ, 4096, .inr (.inl (fun _ => lN 0)))), (q32, .inl (cJ, 33, .inr (.inl (fun _ => lN 0))))] := hD
  refine lv_aload_n hx hb d_Od_init_42 rfl (lv_at hl 0 rfl) ?_
  refine lv_aload_n hx hb d_Od_init_43 rfl (lv_at hl 2 rfl) ?_
  refine va_putF (D := g) (ci := 5) (v := .ref n1) (ty := (.object "SafetyTrees$Truth")) (C := R_Od) (T := F_Od) (N := 7) hx hb hT i_Od t_Od t_Od_ok n_Od hown hK hP hD hS 0 rfl rfl 1 (by decide) (hT _ tw_171) (fun _ h9 => h9) rfl hin rfl (by decide +kernel) rfl rfl (Nat.le_of_ble_eq_true rfl) d_Od_init_44 (fun H locs hP hD hS => ?_)
  have hP : va_P g vwCl [(h0, .inr (5, [.ref n0, .ref n1, .null, .ref q5, .int (nI 0), .ref q24, .ref q32])), (q5, .inr (7, [.long (lN 0), .long (lN 1)])), (q24, .inl (cJ, 4096, .inr (.inl (fun _ => lN 0)))), (q32, .inl (cJ, 33, .inr (.inl (fun _ => lN 0))))] H := hP
  have hD : va_D A [(h0, .inr (5, [.ref n0, .ref n1, .null, .ref q5, .int (nI 0), .ref q24, .ref q32])), (q5, .inr (7, [.long (lN 0), .long (lN 1)])), (q24, .inl (cJ, 4096, .inr (.inl (fun _ => lN 0)))), (q32, .inl (cJ, 33, .inr (.inl (fun _ => lN 0))))] := hD
  refine lv_aload_n hx hb d_Od_init_47 rfl (lv_at hl 0 rfl) ?_
  refine lv_aload_n hx hb d_Od_init_48 rfl (lv_at hl 3 rfl) ?_
  refine va_putF (D := g) (ci := 5) (v := .ref n2) (ty := (.object "SafetyTrees$Causes")) (C := R_Od) (T := F_Od) (N := 7) hx hb hT i_Od t_Od t_Od_ok n_Od hown hK hP hD hS 0 rfl rfl 2 (by decide) (hT _ tw_172) (fun _ h9 => h9) rfl hin rfl (by decide +kernel) rfl rfl (Nat.le_of_ble_eq_true rfl) d_Od_init_49 (fun H locs hP hD hS => ?_)
  have hP : va_P g vwCl [(h0, .inr (5, [.ref n0, .ref n1, .ref n2, .ref q5, .int (nI 0), .ref q24, .ref q32])), (q5, .inr (7, [.long (lN 0), .long (lN 1)])), (q24, .inl (cJ, 4096, .inr (.inl (fun _ => lN 0)))), (q32, .inl (cJ, 33, .inr (.inl (fun _ => lN 0))))] H := hP
  have hD : va_D A [(h0, .inr (5, [.ref n0, .ref n1, .ref n2, .ref q5, .int (nI 0), .ref q24, .ref q32])), (q5, .inr (7, [.long (lN 0), .long (lN 1)])), (q24, .inl (cJ, 4096, .inr (.inl (fun _ => lN 0)))), (q32, .inl (cJ, 33, .inr (.inl (fun _ => lN 0))))] := hD
  exact hret _ _ _ _ (fun k => if k = 8 then q5 else if k = 25 then q24 else if k = 26 then q32 else 0, (fun _ => 0)) hP hD hS d_Od_init_52
