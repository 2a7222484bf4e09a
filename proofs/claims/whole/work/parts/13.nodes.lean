set_option maxHeartbeats 4000000 in
set_option maxRecDepth 100000 in
theorem k_No_eventBit (l : Launch) (g : va_G) (cl : List vw_C) (tys : List (ClassId × FieldType)) (ww : va_W) (i : Nat) (hi : i ≤ 11) : ct_i l g cl tys y_No_eventBit c_No_eventBit 1 (some .int) ({ frames := 0, cells := 0, slots := 0, locals := 0 } : Room) [.int (nI i)] ww ww (nI (2 ^ (11 - i))) := by
  refine ct_i.intro (by decide) (Nat.le_of_ble_eq_true rfl) ?_
  intro p e s m args below meth c Q A ls hx hb hml hT hown hA hK hN hret hP hD hS hl
  have hown : s.vm.findClass R_No = some m.cls := hown
  have hl : lv_has ls 1 [(0, .int (nI i))] := hl
  refine lv_iconst (v := (nI 1)) hx hb d_No_eventBit_0 (by decide) ?_
  refine lv_bipush (v := (nI 11)) hx hb d_No_eventBit_1 (by decide) ?_
  refine lv_iload_n hx hb d_No_eventBit_3 rfl (lv_at hl 0 rfl) ?_
  refine lv_isub hx hb d_No_eventBit_4 ?_
  refine my_ei (pk_sub (a := 11) (b := i) (by omega)) ?_
  refine lv_ishl hx hb d_No_eventBit_5 ?_
  refine my_ei (nx_shl1 (11 - i) (by omega)) ?_
  refine hret _ _ _ _ _ hP hD hS d_No_eventBit_6 ?_
  rfl
set_option maxHeartbeats 4000000 in
set_option maxRecDepth 100000 in
theorem k_No_addEvent (l : Launch) (g : va_G) (a rB rT : Nat → Nat) (cI cJ cII cJJ : ClassId) (nc : Nat) (nv : Nat) (ng : Nat) (kd : Nat → Int32) (vo : Nat → Nat) (nu : Nat → Nat) (nd : Nat → Nat) (en : Nat → Nat) (br : Nat → Nat → Nat) (bc : Nat → Nat) (un : Nat → Nat) (eu : Nat → Nat) (li : Nat → Nat) (tb : Nat → Nat → Int64) (cc0 : Nat) (cp : Nat → Nat) (cu : Nat → Nat) (cd : Nat → Nat) (tc : Nat) (ts : Nat → Nat) (tf : Nat → Nat) (ox : Bool) (ow : Nat → Nat) (ob : Nat → Nat) (ra : Nat) (rb : Nat) (gc : Nat) (gr : Nat) (gk : Nat → Nat) (gg : Nat → Nat) (gp : Nat → Nat) (gt : Nat → Nat) (sa : Nat) (sb : Nat) (x : Nat) (y : Nat) (hc : nc < 32) (hv : nv < 12) : ct_i l g vwCl (tyS cI cJ cII cJJ) y_No_addEvent c_No_addEvent 5 (some .int) ({ frames := 1, cells := 0, slots := 0, locals := 20 } : Room) [.ref (a 1), .long (lN x), .long (lN y)] (stW a rB rT cI cJ cII cJJ nc nv ng kd vo nu nd en br bc un eu li tb cc0 cp cu cd tc ts tf ox ow ob ra rb gc gr gk gg gp gt sa sb) (stW a rB rT cI cJ cII cJJ (nc + 1) (nv + 1) ng (va_up kd (nc + 1) (-1)) vo (va_up nu (nc + 1) x) (va_up nd (nc + 1) y) (va_up en nv (nc + 1)) br bc un (va_up eu (nc + 1) (2 ^ (11 - nv))) li tb cc0 cp cu cd tc ts tf ox ow ob ra rb gc gr gk gg gp gt sa sb) (nI (nc + 1)) := by
  refine ct_i.intro (by decide) (Nat.le_of_ble_eq_true rfl) ?_
  intro p e s m args below meth c Q A ls hx hb hml hT hown hA hK hN hret hP hD hS hl
  have hown : s.vm.findClass R_No = some m.cls := hown
  have hl : lv_has ls 5 [(0, .ref (a 1)), (1, .long (lN x)), (3, .long (lN y))] := hl
  refine lv_aload_n hx hb d_No_addEvent_0 rfl (lv_at hl 0 rfl) ?_
  refine lv_dup hx hb d_No_addEvent_1 rfl ?_
  refine va_get (D := g) (ci := 1) (v := .int (nI nc)) (C := R_No) (T := F_No) (N := 13) hx hb hT i_No hown hK hP 1 rfl rfl 0 (by decide) (hT _ tw_33) (fun _ h9 => h9) rfl d_No_addEvent_2 ?_
  refine lv_iconst (v := (nI 1)) hx hb d_No_addEvent_5 (by decide) ?_
  refine lv_iadd hx hb d_No_addEvent_6 ?_
  refine my_ei (nI_add nc 1) ?_
  refine va_put (D := g) (ci := 1) (v := .int (nI (nc + 1))) (ty := .int) (C := R_No) (T := F_No) (N := 13) hx hb hT i_No t_No t_No_ok n_No hown hK hP hD hS 1 rfl rfl 0 (by decide) (hT _ tw_33) (fun _ h9 => h9) rfl (by decide +kernel) rfl rfl (Nat.le_of_ble_eq_true rfl) d_No_addEvent_7 (fun H locs hP hD hS => ?_)
  have hP : va_P g vwCl (stW a rB rT cI cJ cII cJJ (nc + 1) nv ng kd vo nu nd en br bc un eu li tb cc0 cp cu cd tc ts tf ox ow ob ra rb gc gr gk gg gp gt sa sb) H := hP
  have hD : va_D A (stW a rB rT cI cJ cII cJJ (nc + 1) nv ng kd vo nu nd en br bc un eu li tb cc0 cp cu cd tc ts tf ox ow ob ra rb gc gr gk gg gp gt sa sb) := hD
  refine lv_aload_n hx hb d_No_addEvent_10 rfl (lv_at hl 0 rfl) ?_
  refine va_get (D := g) (ci := 1) (v := .ref (a 9)) (C := R_No) (T := F_No) (N := 13) hx hb hT i_No hown hK hP 1 rfl rfl 3 (by decide) (hT _ tw_39) (fun _ h9 => h9) rfl d_No_addEvent_11 ?_
  refine lv_aload_n hx hb d_No_addEvent_14 rfl (lv_at hl 0 rfl) ?_
  refine va_get (D := g) (ci := 1) (v := .int (nI (nc + 1))) (C := R_No) (T := F_No) (N := 13) hx hb hT i_No hown hK hP 1 rfl rfl 0 (by decide) (hT _ tw_33) (fun _ h9 => h9) rfl d_No_addEvent_15 ?_
  refine lv_iconst (v := (-1)) hx hb d_No_addEvent_18 (by decide) ?_
  refine my_iast (i := nc + 1) hx hb hK hP hD hS 9 0 rfl rfl (by omega) (by decide) (my_upI _ _ _) (w' := (stW a rB rT cI cJ cII cJJ (nc + 1) nv ng (va_up kd (nc + 1) (-1)) vo nu nd en br bc un eu li tb cc0 cp cu cd tc ts tf ox ow ob ra rb gc gr gk gg gp gt sa sb)) rfl d_No_addEvent_19 (fun H locs hP hD hS => ?_)
  refine lv_aload_n hx hb d_No_addEvent_20 rfl (lv_at hl 0 rfl) ?_
  refine va_get (D := g) (ci := 1) (v := .ref (a 11)) (C := R_No) (T := F_No) (N := 13) hx hb hT i_No hown hK hP 1 rfl rfl 5 (by decide) (hT _ tw_45) (fun _ h9 => h9) rfl d_No_addEvent_21 ?_
  refine lv_aload_n hx hb d_No_addEvent_24 rfl (lv_at hl 0 rfl) ?_
  refine va_get (D := g) (ci := 1) (v := .int (nI (nc + 1))) (C := R_No) (T := F_No) (N := 13) hx hb hT i_No hown hK hP 1 rfl rfl 0 (by decide) (hT _ tw_33) (fun _ h9 => h9) rfl d_No_addEvent_25 ?_
  refine lv_lload_n hx hb d_No_addEvent_28 rfl (lv_at hl 1 rfl) ?_
  refine my_last (i := nc + 1) hx hb hK hP hD hS 11 1 rfl rfl (by omega) (by decide) (my_upL _ _ _) (w' := (stW a rB rT cI cJ cII cJJ (nc + 1) nv ng (va_up kd (nc + 1) (-1)) vo (va_up nu (nc + 1) x) nd en br bc un eu li tb cc0 cp cu cd tc ts tf ox ow ob ra rb gc gr gk gg gp gt sa sb)) rfl d_No_addEvent_29 (fun H locs hP hD hS => ?_)
  refine lv_aload_n hx hb d_No_addEvent_30 rfl (lv_at hl 0 rfl) ?_
  refine va_get (D := g) (ci := 1) (v := .ref (a 12)) (C := R_No) (T := F_No) (N := 13) hx hb hT i_No hown hK hP 1 rfl rfl 6 (by decide) (hT _ tw_47) (fun _ h9 => h9) rfl d_No_addEvent_31 ?_
  refine lv_aload_n hx hb d_No_addEvent_34 rfl (lv_at hl 0 rfl) ?_
  refine va_get (D := g) (ci := 1) (v := .int (nI (nc + 1))) (C := R_No) (T := F_No) (N := 13) hx hb hT i_No hown hK hP 1 rfl rfl 0 (by decide) (hT _ tw_33) (fun _ h9 => h9) rfl d_No_addEvent_35 ?_
  refine lv_lload_n hx hb d_No_addEvent_38 rfl (lv_at hl 2 rfl) ?_
  refine my_last (i := nc + 1) hx hb hK hP hD hS 12 1 rfl rfl (by omega) (by decide) (my_upL _ _ _) (w' := (stW a rB rT cI cJ cII cJJ (nc + 1) nv ng (va_up kd (nc + 1) (-1)) vo (va_up nu (nc + 1) x) (va_up nd (nc + 1) y) en br bc un eu li tb cc0 cp cu cd tc ts tf ox ow ob ra rb gc gr gk gg gp gt sa sb)) rfl d_No_addEvent_39 (fun H locs hP hD hS => ?_)
  refine lv_aload_n hx hb d_No_addEvent_40 rfl (lv_at hl 0 rfl) ?_
  refine va_get (D := g) (ci := 1) (v := .ref (a 13)) (C := R_No) (T := F_No) (N := 13) hx hb hT i_No hown hK hP 1 rfl rfl 7 (by decide) (hT _ tw_49) (fun _ h9 => h9) rfl d_No_addEvent_41 ?_
  refine lv_aload_n hx hb d_No_addEvent_44 rfl (lv_at hl 0 rfl) ?_
  refine va_get (D := g) (ci := 1) (v := .int (nI nv)) (C := R_No) (T := F_No) (N := 13) hx hb hT i_No hown hK hP 1 rfl rfl 1 (by decide) (hT _ tw_34) (fun _ h9 => h9) rfl d_No_addEvent_45 ?_
  refine lv_aload_n hx hb d_No_addEvent_48 rfl (lv_at hl 0 rfl) ?_
  refine va_get (D := g) (ci := 1) (v := .int (nI (nc + 1))) (C := R_No) (T := F_No) (N := 13) hx hb hT i_No hown hK hP 1 rfl rfl 0 (by decide) (hT _ tw_33) (fun _ h9 => h9) rfl d_No_addEvent_49 ?_
  refine my_iast (i := nv) hx hb hK hP hD hS 13 0 rfl rfl (by omega) (by decide) (my_upN _ _ _) (w' := (stW a rB rT cI cJ cII cJJ (nc + 1) nv ng (va_up kd (nc + 1) (-1)) vo (va_up nu (nc + 1) x) (va_up nd (nc + 1) y) (va_up en nv (nc + 1)) br bc un eu li tb cc0 cp cu cd tc ts tf ox ow ob ra rb gc gr gk gg gp gt sa sb)) rfl d_No_addEvent_52 (fun H locs hP hD hS => ?_)
  refine lv_aload_n hx hb d_No_addEvent_53 rfl (lv_at hl 0 rfl) ?_
  refine va_get (D := g) (ci := 1) (v := .ref (a 17)) (C := R_No) (T := F_No) (N := 13) hx hb hT i_No hown hK hP 1 rfl rfl 11 (by decide) (hT _ tw_60) (fun _ h9 => h9) rfl d_No_addEvent_54 ?_
  refine lv_aload_n hx hb d_No_addEvent_57 rfl (lv_at hl 0 rfl) ?_
  refine va_get (D := g) (ci := 1) (v := .int (nI (nc + 1))) (C := R_No) (T := F_No) (N := 13) hx hb hT i_No hown hK hP 1 rfl rfl 0 (by decide) (hT _ tw_33) (fun _ h9 => h9) rfl d_No_addEvent_58 ?_
  refine lv_aload_n hx hb d_No_addEvent_61 rfl (lv_at hl 0 rfl) ?_
  refine va_get (D := g) (ci := 1) (v := .int (nI nv)) (C := R_No) (T := F_No) (N := 13) hx hb hT i_No hown hK hP 1 rfl rfl 1 (by decide) (hT _ tw_34) (fun _ h9 => h9) rfl d_No_addEvent_62 ?_
  refine my_S_i (As := [.int (nI nv)]) (n := 1) (k_No_eventBit l g vwCl (tyS cI cJ cII cJJ) (stW a rB rT cI cJ cII cJJ (nc + 1) nv ng (va_up kd (nc + 1) (-1)) vo (va_up nu (nc + 1) x) (va_up nd (nc + 1) y) (va_up en nv (nc + 1)) br bc un eu li tb cc0 cp cu cd tc ts tf ox ow ob ra rb gc gr gk gg gp gt sa sb) nv (by omega)) hx hb hml hown hT hN tw_257 tw_258 tw_2 tw_259 (by decide +kernel) rfl rfl ⟨Nat.le_of_ble_eq_true rfl, Nat.le_of_ble_eq_true rfl⟩ ⟨Nat.zero_le _, Nat.zero_le _⟩ hK hP hD hS hA rfl hl rfl (Nat.le_of_ble_eq_true rfl) d_No_addEvent_65 (fun H locs hP hD hS => ?_)
  refine my_iast (i := nc + 1) hx hb hK hP hD hS 17 0 rfl rfl (by omega) (by decide) (my_upN _ _ _) (w' := (stW a rB rT cI cJ cII cJJ (nc + 1) nv ng (va_up kd (nc + 1) (-1)) vo (va_up nu (nc + 1) x) (va_up nd (nc + 1) y) (va_up en nv (nc + 1)) br bc un (va_up eu (nc + 1) (2 ^ (11 - nv))) li tb cc0 cp cu cd tc ts tf ox ow ob ra rb gc gr gk gg gp gt sa sb)) rfl d_No_addEvent_68 (fun H locs hP hD hS => ?_)
  refine lv_aload_n hx hb d_No_addEvent_69 rfl (lv_at hl 0 rfl) ?_
  refine lv_dup hx hb d_No_addEvent_70 rfl ?_
  refine va_get (D := g) (ci := 1) (v := .int (nI nv)) (C := R_No) (T := F_No) (N := 13) hx hb hT i_No hown hK hP 1 rfl rfl 1 (by decide) (hT _ tw_34) (fun _ h9 => h9) rfl d_No_addEvent_71 ?_
  refine lv_iconst (v := (nI 1)) hx hb d_No_addEvent_74 (by decide) ?_
  refine lv_iadd hx hb d_No_addEvent_75 ?_
  refine my_ei (nI_add nv 1) ?_
  refine va_put (D := g) (ci := 1) (v := .int (nI (nv + 1))) (ty := .int) (C := R_No) (T := F_No) (N := 13) hx hb hT i_No t_No t_No_ok n_No hown hK hP hD hS 1 rfl rfl 1 (by decide) (hT _ tw_34) (fun _ h9 => h9) rfl (by decide +kernel) rfl rfl (Nat.le_of_ble_eq_true rfl) d_No_addEvent_76 (fun H locs hP hD hS => ?_)
  have hP : va_P g vwCl (stW a rB rT cI cJ cII cJJ (nc + 1) (nv + 1) ng (va_up kd (nc + 1) (-1)) vo (va_up nu (nc + 1) x) (va_up nd (nc + 1) y) (va_up en nv (nc + 1)) br bc un (va_up eu (nc + 1) (2 ^ (11 - nv))) li tb cc0 cp cu cd tc ts tf ox ow ob ra rb gc gr gk gg gp gt sa sb) H := hP
  have hD : va_D A (stW a rB rT cI cJ cII cJJ (nc + 1) (nv + 1) ng (va_up kd (nc + 1) (-1)) vo (va_up nu (nc + 1) x) (va_up nd (nc + 1) y) (va_up en nv (nc + 1)) br bc un (va_up eu (nc + 1) (2 ^ (11 - nv))) li tb cc0 cp cu cd tc ts tf ox ow ob ra rb gc gr gk gg gp gt sa sb) := hD
  refine lv_aload_n hx hb d_No_addEvent_79 rfl (lv_at hl 0 rfl) ?_
  refine va_get (D := g) (ci := 1) (v := .int (nI (nc + 1))) (C := R_No) (T := F_No) (N := 13) hx hb hT i_No hown hK hP 1 rfl rfl 0 (by decide) (hT _ tw_33) (fun _ h9 => h9) rfl d_No_addEvent_80 ?_
  refine hret _ _ _ _ _ hP hD hS d_No_addEvent_83 ?_
  rfl
set_option maxHeartbeats 4000000 in
set_option maxRecDepth 100000 in
theorem k_No_addGate (l : Launch) (g : va_G) (a rB rT : Nat → Nat) (cI cJ cII cJJ : ClassId) (nc : Nat) (nv : Nat) (ng : Nat) (kd : Nat → Int32) (vo : Nat → Nat) (nu : Nat → Nat) (nd : Nat → Nat) (en : Nat → Nat) (br : Nat → Nat → Nat) (bc : Nat → Nat) (un : Nat → Nat) (eu : Nat → Nat) (li : Nat → Nat) (tb : Nat → Nat → Int64) (cc0 : Nat) (cp : Nat → Nat) (cu : Nat → Nat) (cd : Nat → Nat) (tc : Nat) (ts : Nat → Nat) (tf : Nat → Nat) (ox : Bool) (ow : Nat → Nat) (ob : Nat → Nat) (ra : Nat) (rb : Nat) (gc : Nat) (gr : Nat) (gk : Nat → Nat) (gg : Nat → Nat) (gp : Nat → Nat) (gt : Nat → Nat) (sa : Nat) (sb : Nat) (x : Int32) (y : Nat) (hc : nc < 32) : ct_i l g vwCl (tyS cI cJ cII cJJ) y_No_addGate c_No_addGate 3 (some .int) ({ frames := 0, cells := 0, slots := 0, locals := 0 } : Room) [.ref (a 1), .int x, .int (nI y)] (stW a rB rT cI cJ cII cJJ nc nv ng kd vo nu nd en br bc un eu li tb cc0 cp cu cd tc ts tf ox ow ob ra rb gc gr gk gg gp gt sa sb) (stW a rB rT cI cJ cII cJJ (nc + 1) nv (ng + 1) (va_up kd (nc + 1) x) (va_up vo (nc + 1) y) nu nd en br bc un eu li tb cc0 cp cu cd tc ts tf ox ow ob ra rb gc gr gk gg gp gt sa sb) (nI (nc + 1)) := by
  refine ct_i.intro (by decide) (Nat.le_of_ble_eq_true rfl) ?_
  intro p e s m args below meth c Q A ls hx hb hml hT hown hA hK hN hret hP hD hS hl
  have hown : s.vm.findClass R_No = some m.cls := hown
  have hl : lv_has ls 3 [(0, .ref (a 1)), (1, .int x), (2, .int (nI y))] := hl
  refine lv_aload_n hx hb d_No_addGate_0 rfl (lv_at hl 0 rfl) ?_
  refine lv_dup hx hb d_No_addGate_1 rfl ?_
  refine va_get (D := g) (ci := 1) (v := .int (nI nc)) (C := R_No) (T := F_No) (N := 13) hx hb hT i_No hown hK hP 1 rfl rfl 0 (by decide) (hT _ tw_33) (fun _ h9 => h9) rfl d_No_addGate_2 ?_
  refine lv_iconst (v := (nI 1)) hx hb d_No_addGate_5 (by decide) ?_
  refine lv_iadd hx hb d_No_addGate_6 ?_
  refine my_ei (nI_add nc 1) ?_
  refine va_put (D := g) (ci := 1) (v := .int (nI (nc + 1))) (ty := .int) (C := R_No) (T := F_No) (N := 13) hx hb hT i_No t_No t_No_ok n_No hown hK hP hD hS 1 rfl rfl 0 (by decide) (hT _ tw_33) (fun _ h9 => h9) rfl (by decide +kernel) rfl rfl (Nat.le_of_ble_eq_true rfl) d_No_addGate_7 (fun H locs hP hD hS => ?_)
  have hP : va_P g vwCl (stW a rB rT cI cJ cII cJJ (nc + 1) nv ng kd vo nu nd en br bc un eu li tb cc0 cp cu cd tc ts tf ox ow ob ra rb gc gr gk gg gp gt sa sb) H := hP
  have hD : va_D A (stW a rB rT cI cJ cII cJJ (nc + 1) nv ng kd vo nu nd en br bc un eu li tb cc0 cp cu cd tc ts tf ox ow ob ra rb gc gr gk gg gp gt sa sb) := hD
  refine lv_aload_n hx hb d_No_addGate_10 rfl (lv_at hl 0 rfl) ?_
  refine va_get (D := g) (ci := 1) (v := .ref (a 9)) (C := R_No) (T := F_No) (N := 13) hx hb hT i_No hown hK hP 1 rfl rfl 3 (by decide) (hT _ tw_39) (fun _ h9 => h9) rfl d_No_addGate_11 ?_
  refine lv_aload_n hx hb d_No_addGate_14 rfl (lv_at hl 0 rfl) ?_
  refine va_get (D := g) (ci := 1) (v := .int (nI (nc + 1))) (C := R_No) (T := F_No) (N := 13) hx hb hT i_No hown hK hP 1 rfl rfl 0 (by decide) (hT _ tw_33) (fun _ h9 => h9) rfl d_No_addGate_15 ?_
  refine lv_iload_n hx hb d_No_addGate_18 rfl (lv_at hl 1 rfl) ?_
  refine my_iast (i := nc + 1) hx hb hK hP hD hS 9 0 rfl rfl (by omega) (by decide) (my_upI _ _ _) (w' := (stW a rB rT cI cJ cII cJJ (nc + 1) nv ng (va_up kd (nc + 1) x) vo nu nd en br bc un eu li tb cc0 cp cu cd tc ts tf ox ow ob ra rb gc gr gk gg gp gt sa sb)) rfl d_No_addGate_19 (fun H locs hP hD hS => ?_)
  refine lv_aload_n hx hb d_No_addGate_20 rfl (lv_at hl 0 rfl) ?_
  refine va_get (D := g) (ci := 1) (v := .ref (a 10)) (C := R_No) (T := F_No) (N := 13) hx hb hT i_No hown hK hP 1 rfl rfl 4 (by decide) (hT _ tw_42) (fun _ h9 => h9) rfl d_No_addGate_21 ?_
  refine lv_aload_n hx hb d_No_addGate_24 rfl (lv_at hl 0 rfl) ?_
  refine va_get (D := g) (ci := 1) (v := .int (nI (nc + 1))) (C := R_No) (T := F_No) (N := 13) hx hb hT i_No hown hK hP 1 rfl rfl 0 (by decide) (hT _ tw_33) (fun _ h9 => h9) rfl d_No_addGate_25 ?_
  refine lv_iload_n hx hb d_No_addGate_28 rfl (lv_at hl 2 rfl) ?_
  refine my_iast (i := nc + 1) hx hb hK hP hD hS 10 0 rfl rfl (by omega) (by decide) (my_upN _ _ _) (w' := (stW a rB rT cI cJ cII cJJ (nc + 1) nv ng (va_up kd (nc + 1) x) (va_up vo (nc + 1) y) nu nd en br bc un eu li tb cc0 cp cu cd tc ts tf ox ow ob ra rb gc gr gk gg gp gt sa sb)) rfl d_No_addGate_29 (fun H locs hP hD hS => ?_)
  refine lv_aload_n hx hb d_No_addGate_30 rfl (lv_at hl 0 rfl) ?_
  refine lv_dup hx hb d_No_addGate_31 rfl ?_
  refine va_get (D := g) (ci := 1) (v := .int (nI ng)) (C := R_No) (T := F_No) (N := 13) hx hb hT i_No hown hK hP 1 rfl rfl 2 (by decide) (hT _ tw_37) (fun _ h9 => h9) rfl d_No_addGate_32 ?_
  refine lv_iconst (v := (nI 1)) hx hb d_No_addGate_35 (by decide) ?_
  refine lv_iadd hx hb d_No_addGate_36 ?_
  refine my_ei (nI_add ng 1) ?_
  refine va_put (D := g) (ci := 1) (v := .int (nI (ng + 1))) (ty := .int) (C := R_No) (T := F_No) (N := 13) hx hb hT i_No t_No t_No_ok n_No hown hK hP hD hS 1 rfl rfl 2 (by decide) (hT _ tw_37) (fun _ h9 => h9) rfl (by decide +kernel) rfl rfl (Nat.le_of_ble_eq_true rfl) d_No_addGate_37 (fun H locs hP hD hS => ?_)
  have hP : va_P g vwCl (stW a rB rT cI cJ cII cJJ (nc + 1) nv (ng + 1) (va_up kd (nc + 1) x) (va_up vo (nc + 1) y) nu nd en br bc un eu li tb cc0 cp cu cd tc ts tf ox ow ob ra rb gc gr gk gg gp gt sa sb) H := hP
  have hD : va_D A (stW a rB rT cI cJ cII cJJ (nc + 1) nv (ng + 1) (va_up kd (nc + 1) x) (va_up vo (nc + 1) y) nu nd en br bc un eu li tb cc0 cp cu cd tc ts tf ox ow ob ra rb gc gr gk gg gp gt sa sb) := hD
  refine lv_aload_n hx hb d_No_addGate_40 rfl (lv_at hl 0 rfl) ?_
  refine va_get (D := g) (ci := 1) (v := .int (nI (nc + 1))) (C := R_No) (T := F_No) (N := 13) hx hb hT i_No hown hK hP 1 rfl rfl 0 (by decide) (hT _ tw_33) (fun _ h9 => h9) rfl d_No_addGate_41 ?_
  refine hret _ _ _ _ _ hP hD hS d_No_addGate_44 ?_
  rfl
set_option maxHeartbeats 4000000 in
set_option maxRecDepth 100000 in
theorem k_No_isBelow (l : Launch) (g : va_G) (a rB rT : Nat → Nat) (cI cJ cII cJJ : ClassId) (nc : Nat) (nv : Nat) (ng : Nat) (kd : Nat → Int32) (vo : Nat → Nat) (nu : Nat → Nat) (nd : Nat → Nat) (en : Nat → Nat) (br : Nat → Nat → Nat) (bc : Nat → Nat) (un : Nat → Nat) (eu : Nat → Nat) (li : Nat → Nat) (tb : Nat → Nat → Int64) (cc0 : Nat) (cp : Nat → Nat) (cu : Nat → Nat) (cd : Nat → Nat) (tc : Nat) (ts : Nat → Nat) (tf : Nat → Nat) (ox : Bool) (ow : Nat → Nat) (ob : Nat → Nat) (ra : Nat) (rb : Nat) (gc : Nat) (gr : Nat) (gk : Nat → Nat) (gg : Nat → Nat) (gp : Nat → Nat) (gt : Nat → Nat) (sa : Nat) (sb : Nat) (x : Nat) (y : Nat) (hx1 : x ≤ 32) (hy1 : y ≤ 32) (hbc : ∀ j, bc j ≤ 10) (hbr : ∀ j i, br j i ≤ 32) : ct_i l g vwCl (tyS cI cJ cII cJJ) y_No_isBelow c_No_isBelow 4 (some .boolean) ({ frames := 0, cells := 0, slots := 0, locals := 0 } : Room) [.ref (a 1), .int (nI x), .int (nI y)] (stW a rB rT cI cJ cII cJJ nc nv ng kd vo nu nd en br bc un eu li tb cc0 cp cu cd tc ts tf ox ow ob ra rb gc gr gk gg gp gt sa sb) (stW a rB rT cI cJ cII cJJ nc nv ng kd vo nu nd en br bc un eu li tb cc0 cp cu cd tc ts tf ox ow ob ra rb gc gr gk gg gp gt sa sb) (b2 (iB br y x (bc y))) := by
  refine ct_i.introZ (by decide) (Nat.le_of_ble_eq_true rfl) ?_
  intro p e s m args below meth c Q A ls hx hb hml hT hown hA hK hN hret hP hD hS hl
  have hown : s.vm.findClass R_No = some m.cls := hown
  have hl : lv_has ls 4 [(0, .ref (a 1)), (1, .int (nI x)), (2, .int (nI y))] := hl
  have q1 := hbc y
  refine lv_iconst (v := (nI 0)) hx hb d_No_isBelow_0 (by decide) ?_
  refine lv_istore_n (lv' := [(3, .int (nI 0)), (0, .ref (a 1)), (1, .int (nI x)), (2, .int (nI y))]) hx hb d_No_isBelow_1 rfl hl (by decide) rfl (fun ls hl => ?_)
  have lp_2 : ∀ (k : Nat) (i : Nat) (H : Heap) (locs : List Loc) (ls : Array Slot), (bc y < i + k) → (i ≤ bc y) → (iB br y x i = false) → va_P g vwCl (stW a rB rT cI cJ cII cJJ nc nv ng kd vo nu nd en br bc un eu li tb cc0 cp cu cd tc ts tf ox ow ob ra rb gc gr gk gg gp gt sa sb) H → va_D A (stW a rB rT cI cJ cII cJJ nc nv ng kd vo nu nd en br bc un eu li tb cc0 cp cu cd tc ts tf ox ow ob ra rb gc gr gk gg gp gt sa sb) → va_S A s.heap H locs → lv_has ls 4 [(0, .ref (a 1)), (1, .int (nI x)), (2, .int (nI y)), (3, .int (nI i))] → W p l e ({ frames := 0, cells := 0, slots := 0, locals := 0 } : Room) s m args below meth c H locs 0 0 Q (F0 m 2 ls []) := by
    intro k
    induction k with
    | zero =>
      intro i H locs ls hk hi hf hP hD hS hl
      exfalso
      omega
    | succ k ih_2 =>
      intro i H locs ls hk hi hf hP hD hS hl
      refine lv_iload_n hx hb d_No_isBelow_2 rfl (lv_at hl 3 rfl) ?_
      refine lv_aload_n hx hb d_No_isBelow_3 rfl (lv_at hl 0 rfl) ?_
      refine va_get (D := g) (ci := 1) (v := .ref (a 15)) (C := R_No) (T := F_No) (N := 13) hx hb hT i_No hown hK hP 1 rfl rfl 9 (by decide) (hT _ tw_55) (fun _ h9 => h9) rfl d_No_isBelow_4 ?_
      refine lv_iload_n hx hb d_No_isBelow_7 rfl (lv_at hl 2 rfl) ?_
      refine my_iald (v := (nI (bc y))) (i := y) hx hb hK hP 15 0 rfl rfl (by omega) (by decide) rfl d_No_isBelow_8 ?_
      refine my_icmp_ge (tgt := 32) (a := i) (b := bc y) hx hb d_No_isBelow_9 (by decide) (by omega) (by omega) (fun c_9 => ?_) (fun c_9 => ?_)
      · -- 9: taken
        refine lv_iconst (v := (nI 0)) hx hb d_No_isBelow_32 (by decide) ?_
        refine hret _ _ _ _ _ hP hD hS d_No_isBelow_33 ?_
        exact b2F (by rw [← hf, show i = bc y by omega])
      · -- 9: not taken
        refine lv_aload_n hx hb d_No_isBelow_12 rfl (lv_at hl 0 rfl) ?_
        refine va_get (D := g) (ci := 1) (v := .ref (a 14)) (C := R_No) (T := F_No) (N := 13) hx hb hT i_No hown hK hP 1 rfl rfl 8 (by decide) (hT _ tw_52) (fun _ h9 => h9) rfl d_No_isBelow_13 ?_
        refine lv_iload_n hx hb d_No_isBelow_16 rfl (lv_at hl 2 rfl) ?_
        refine my_aald (r := rB) (i := y) hx hb hK hP 14 2 rfl rfl (by omega) (by decide) d_No_isBelow_17 ?_
        refine lv_iload_n hx hb d_No_isBelow_18 rfl (lv_at hl 3 rfl) ?_
        have q2 := hbr y i
        refine my_iald (v := (nI (br y i))) (i := i) hx hb hK hP (31 + y) 0 (stB_at (by omega)) rfl (by omega) (by decide) rfl d_No_isBelow_19 ?_
        refine lv_iload_n hx hb d_No_isBelow_20 rfl (lv_at hl 1 rfl) ?_
        refine my_icmp_ne (tgt := 26) (a := br y i) (b := x) hx hb d_No_isBelow_21 (by decide) (by omega) (by omega) (fun c_21 => ?_) (fun c_21 => ?_)
        · -- 21: taken
          refine lv_iinc (v := (nI (i + 1))) (lv' := [(3, .int (nI (i + 1))), (0, .ref (a 1)), (1, .int (nI x)), (2, .int (nI y))]) hx hb d_No_isBelow_26 hl (k := 3) rfl (nI_1 i) (by decide) rfl (fun ls hl => ?_)
          refine lv_goto (tgt := 2) hx hb d_No_isBelow_29 (by decide) ?_
          refine ih_2 _ _ _ _ ?_ ?_ ?_ hP hD hS (lv_sub hl [1, 2, 3, 0] rfl)
          · omega
          · omega
          · simp [iB, hf, c_21]
        · -- 21: not taken
          refine lv_iconst (v := (nI 1)) hx hb d_No_isBelow_24 (by decide) ?_
          refine hret _ _ _ _ _ hP hD hS d_No_isBelow_25 ?_
          exact b2T (iB_t (bc y) (by omega) c_21)
  refine lp_2 (bc y + 1) _ _ _ _ ?_ ?_ ?_ hP hD hS (lv_sub hl [1, 2, 3, 0] rfl)
  · omega
  · omega
  · rfl
set_option maxHeartbeats 4000000 in
set_option maxRecDepth 100000 in
theorem k_No_isUnder (l : Launch) (g : va_G) (a rB rT : Nat → Nat) (cI cJ cII cJJ : ClassId) (nc : Nat) (nv : Nat) (ng : Nat) (kd : Nat → Int32) (vo : Nat → Nat) (nu : Nat → Nat) (nd : Nat → Nat) (en : Nat → Nat) (br : Nat → Nat → Nat) (bc : Nat → Nat) (un : Nat → Nat) (eu : Nat → Nat) (li : Nat → Nat) (tb : Nat → Nat → Int64) (cc0 : Nat) (cp : Nat → Nat) (cu : Nat → Nat) (cd : Nat → Nat) (tc : Nat) (ts : Nat → Nat) (tf : Nat → Nat) (ox : Bool) (ow : Nat → Nat) (ob : Nat → Nat) (ra : Nat) (rb : Nat) (gc : Nat) (gr : Nat) (gk : Nat → Nat) (gg : Nat → Nat) (gp : Nat → Nat) (gt : Nat → Nat) (sa : Nat) (sb : Nat) (x : Nat) (y : Nat) (hx1 : x ≤ 32) (hy1 : y ≤ 32) (hun : ∀ j, un j < 2 ^ 33) : ct_i l g vwCl (tyS cI cJ cII cJJ) y_No_isUnder c_No_isUnder 3 (some .boolean) ({ frames := 0, cells := 0, slots := 0, locals := 0 } : Room) [.ref (a 1), .int (nI x), .int (nI y)] (stW a rB rT cI cJ cII cJJ nc nv ng kd vo nu nd en br bc un eu li tb cc0 cp cu cd tc ts tf ox ow ob ra rb gc gr gk gg gp gt sa sb) (stW a rB rT cI cJ cII cJJ nc nv ng kd vo nu nd en br bc un eu li tb cc0 cp cu cd tc ts tf ox ow ob ra rb gc gr gk gg gp gt sa sb) (b2 ((un y).testBit x)) := by
  refine ct_i.introZ (by decide) (Nat.le_of_ble_eq_true rfl) ?_
  intro p e s m args below meth c Q A ls hx hb hml hT hown hA hK hN hret hP hD hS hl
  have hown : s.vm.findClass R_No = some m.cls := hown
  have hl : lv_has ls 3 [(0, .ref (a 1)), (1, .int (nI x)), (2, .int (nI y))] := hl
  refine lv_aload_n hx hb d_No_isUnder_0 rfl (lv_at hl 0 rfl) ?_
  refine va_get (D := g) (ci := 1) (v := .ref (a 16)) (C := R_No) (T := F_No) (N := 13) hx hb hT i_No hown hK hP 1 rfl rfl 10 (by decide) (hT _ tw_59) (fun _ h9 => h9) rfl d_No_isUnder_1 ?_
  refine lv_iload_n hx hb d_No_isUnder_4 rfl (lv_at hl 2 rfl) ?_
  refine my_lald (v := (lN (un y))) (i := y) hx hb hK hP 16 1 rfl rfl (by omega) (by decide) rfl d_No_isUnder_5 ?_
  refine lv_lconst (v := (lN 1)) hx hb d_No_isUnder_6 (by decide) ?_
  refine lv_iload_n hx hb d_No_isUnder_7 rfl (lv_at hl 1 rfl) ?_
  refine lv_lshl (v := lN (2 ^ x)) hx hb d_No_isUnder_8 (lx_shl1 x (by omega)) ?_
  refine lv_land hx hb d_No_isUnder_9 ?_
  refine my_el (lx_and (un y) (2 ^ x)) ?_
  refine lv_lconst (v := (lN 0)) hx hb d_No_isUnder_10 (by decide) ?_
  have q1 : un y &&& 2 ^ x < 2 ^ 33 := Nat.lt_of_le_of_lt Nat.and_le_left (hun y)
  refine my_lcmp_eq (tgt := 19) (a := (un y) &&& (2 ^ x)) (b := 0) hx hb d_No_isUnder_11 d_No_isUnder_12 (by decide) (by omega) (by omega) (fun c_11 => ?_) (fun c_11 => ?_)
  · -- 11: taken
    refine lv_iconst (v := (nI 0)) hx hb d_No_isUnder_19 (by decide) ?_
    refine hret _ _ _ _ _ hP hD hS d_No_isUnder_20 ?_
    exact b2F (tbF c_11)
  · -- 11: not taken
    refine lv_iconst (v := (nI 1)) hx hb d_No_isUnder_15 (by decide) ?_
    refine lv_goto (tgt := 20) hx hb d_No_isUnder_16 (by decide) ?_
    refine hret _ _ _ _ _ hP hD hS d_No_isUnder_20 ?_
    exact b2T (tbT c_11)
