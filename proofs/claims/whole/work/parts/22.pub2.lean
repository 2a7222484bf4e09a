set_option maxHeartbeats 4000000 in
set_option maxRecDepth 100000 in
theorem k_ST_below (l : Launch) (g : va_G) (a rB rT : Nat → Nat) (cI cJ cII cJJ : ClassId) (nc : Nat) (nv : Nat) (ng : Nat) (kd : Nat → Int32) (vo : Nat → Nat) (nu : Nat → Nat) (nd : Nat → Nat) (en : Nat → Nat) (br : Nat → Nat → Nat) (bc : Nat → Nat) (un : Nat → Nat) (eu : Nat → Nat) (li : Nat → Nat) (tb : Nat → Nat → Int64) (cc0 : Nat) (cp : Nat → Nat) (cu : Nat → Nat) (cd : Nat → Nat) (tc : Nat) (ts : Nat → Nat) (tf : Nat → Nat) (ox : Bool) (ow : Nat → Nat) (ob : Nat → Nat) (ra : Nat) (rb : Nat) (gc : Nat) (gr : Nat) (gk : Nat → Nat) (gg : Nat → Nat) (gp : Nat → Nat) (gt : Nat → Nat) (sa : Nat) (sb : Nat) (x : Int32) (y : Int32) (hnc : nc ≤ 32) (hbc : ∀ j, bc j ≤ 10) (hbr : ∀ j i, br j i ≤ 32) (hun : ∀ j, un j < 2 ^ 33) (heu : ∀ j, eu j < 2 ^ 12) : ct_i l g vwCl (tyS cI cJ cII cJJ) y_ST_below c_ST_below 3 (some .int) ({ frames := 2, cells := 0, slots := 0, locals := 47 } : Room) [.ref (a 0), .int x, .int y] (stW a rB rT cI cJ cII cJJ nc nv ng kd vo nu nd en br bc un eu li tb cc0 cp cu cd tc ts tf ox ow ob ra rb gc gr gk gg gp gt sa sb) (if isG nc kd x = true ∧ isN nc y = true ∧ iB br x.toNatClampNeg y.toNatClampNeg (bc x.toNatClampNeg) = false ∧ bc x.toNatClampNeg < 10 ∧ ¬ y.toNatClampNeg = x.toNatClampNeg ∧ (un y.toNatClampNeg).testBit x.toNatClampNeg = false then (stW a rB rT cI cJ cII cJJ nc nv ng kd vo nu nd en (va_up br x.toNatClampNeg (va_up (br x.toNatClampNeg) (bc x.toNatClampNeg) y.toNatClampNeg)) (va_up bc x.toNatClampNeg (bc x.toNatClampNeg + 1)) ((pbS un eu x.toNatClampNeg y.toNatClampNeg nc).1) ((pbS un eu x.toNatClampNeg y.toNatClampNeg nc).2) li tb cc0 cp cu cd tc ts tf ox ow ob ra rb gc gr gk gg gp gt sa sb) else (stW a rB rT cI cJ cII cJJ nc nv ng kd vo nu nd en br bc un eu li tb cc0 cp cu cd tc ts tf ox ow ob ra rb gc gr gk gg gp gt sa sb)) (beR nc kd br bc un x y) := by
  refine ct_i.intro (by decide) (Nat.le_of_ble_eq_true rfl) ?_
  intro p e s m args below meth c Q A ls hx hb hml hT hown hA hK hN hret hP hD hS hl
  have hown : s.vm.findClass R_ST = some m.cls := hown
  have hl : lv_has ls 3 [(0, .ref (a 0)), (1, .int x), (2, .int y)] := hl
  refine lv_aload_n hx hb d_ST_below_0 rfl (lv_at hl 0 rfl) ?_
  refine va_get (D := g) (ci := 0) (v := .ref (a 1)) (C := R_ST) (T := F_ST) (N := 7) hx hb hT i_ST hown hK hP 0 rfl rfl 0 (by decide) (hT _ tw_223) (fun _ h9 => h9) rfl d_ST_below_1 ?_
  refine lv_iload_n hx hb d_ST_below_4 rfl (lv_at hl 1 rfl) ?_
  refine my_V_i (q0 := 1) (ci := 1) (C := R_No) (As := [.int x]) (n := 1) (k_No_isGate l g a rB rT cI cJ cII cJJ nc nv ng kd vo nu nd en br bc un eu li tb cc0 cp cu cd tc ts tf ox ow ob ra rb gc gr gk gg gp gt sa sb x hnc) hx hb hml hown hT hN tw_288 tw_289 tw_290 tw_2 tw_291 (by decide +kernel) rfl rfl ⟨Nat.le_of_ble_eq_true rfl, Nat.le_of_ble_eq_true rfl⟩ ⟨Nat.zero_le _, Nat.zero_le _⟩ hK hP hD hS hA rfl rfl rfl hl rfl (Nat.le_of_ble_eq_true rfl) d_ST_below_5 (fun H locs hP hD hS => ?_)
  refine my_if_eq_b (tgt := 22) hx hb d_ST_below_8 (by decide) (fun c_8 => ?_) (fun c_8 => ?_)
  · -- 8: taken
    refine lv_iconst (v := (-1)) hx hb d_ST_below_22 (by decide) ?_
    refine hret _ _ _ _ _ (by rw [if_neg (by first | (simp [c_8]; done) | (simp [c_8]; omega) | (simp [c_8]; rfl))]; exact hP) (by rw [if_neg (by first | (simp [c_8]; done) | (simp [c_8]; omega) | (simp [c_8]; rfl))]; exact hD) hS d_ST_below_23 ?_
    rw [beR, if_pos (by first | exact Or.inl c_8 | exact Or.inr c_19)]
  · -- 8: not taken
    obtain ⟨x1, hx11, hx12, rfl⟩ := isG_nat hnc c_8
    have hkc : (nI x1).toNatClampNeg = x1 := nI_clamp (by omega)
    simp only [hkc] at hret
    refine lv_aload_n hx hb d_ST_below_11 rfl (lv_at hl 0 rfl) ?_
    refine va_get (D := g) (ci := 0) (v := .ref (a 1)) (C := R_ST) (T := F_ST) (N := 7) hx hb hT i_ST hown hK hP 0 rfl rfl 0 (by decide) (hT _ tw_223) (fun _ h9 => h9) rfl d_ST_below_12 ?_
    refine lv_iload_n hx hb d_ST_below_15 rfl (lv_at hl 2 rfl) ?_
    refine my_V_i (q0 := 1) (ci := 1) (C := R_No) (As := [.int y]) (n := 1) (k_No_isNode l g a rB rT cI cJ cII cJJ nc nv ng kd vo nu nd en br bc un eu li tb cc0 cp cu cd tc ts tf ox ow ob ra rb gc gr gk gg gp gt sa sb y ) hx hb hml hown hT hN tw_296 tw_293 tw_294 tw_2 tw_295 (by decide +kernel) rfl rfl ⟨Nat.le_of_ble_eq_true rfl, Nat.le_of_ble_eq_true rfl⟩ ⟨Nat.zero_le _, Nat.zero_le _⟩ hK hP hD hS hA rfl rfl rfl hl rfl (Nat.le_of_ble_eq_true rfl) d_ST_below_16 (fun H locs hP hD hS => ?_)
    refine my_if_ne_b (tgt := 24) hx hb d_ST_below_19 (by decide) (fun c_19 => ?_) (fun c_19 => ?_)
    · -- 19: taken
      obtain ⟨y1, hy11, hy12, rfl⟩ := isN_nat hnc c_19
      have hkc2 : (nI y1).toNatClampNeg = y1 := nI_clamp (by omega)
      simp only [hkc2] at hret
      refine lv_aload_n hx hb d_ST_below_24 rfl (lv_at hl 0 rfl) ?_
      refine va_get (D := g) (ci := 0) (v := .ref (a 1)) (C := R_ST) (T := F_ST) (N := 7) hx hb hT i_ST hown hK hP 0 rfl rfl 0 (by decide) (hT _ tw_223) (fun _ h9 => h9) rfl d_ST_below_25 ?_
      refine lv_iload_n hx hb d_ST_below_28 rfl (lv_at hl 2 rfl) ?_
      refine lv_iload_n hx hb d_ST_below_29 rfl (lv_at hl 1 rfl) ?_
      refine my_V_i (q0 := 1) (ci := 1) (C := R_No) (As := [.int (nI y1), .int (nI x1)]) (n := 2) (k_No_isBelow l g a rB rT cI cJ cII cJJ nc nv ng kd vo nu nd en br bc un eu li tb cc0 cp cu cd tc ts tf ox ow ob ra rb gc gr gk gg gp gt sa sb y1 x1 (by omega) (by omega) hbc hbr) hx hb hml hown hT hN tw_297 tw_298 tw_299 tw_2 tw_300 (by decide +kernel) rfl rfl ⟨Nat.le_of_ble_eq_true rfl, Nat.le_of_ble_eq_true rfl⟩ ⟨Nat.zero_le _, Nat.zero_le _⟩ hK hP hD hS hA rfl rfl rfl hl rfl (Nat.le_of_ble_eq_true rfl) d_ST_below_30 (fun H locs hP hD hS => ?_)
      refine my_if_eq_b (tgt := 39) hx hb d_ST_below_33 (by decide) (fun c_33 => ?_) (fun c_33 => ?_)
      · -- 33: taken
        refine lv_aload_n hx hb d_ST_below_39 rfl (lv_at hl 0 rfl) ?_
        refine va_get (D := g) (ci := 0) (v := .ref (a 1)) (C := R_ST) (T := F_ST) (N := 7) hx hb hT i_ST hown hK hP 0 rfl rfl 0 (by decide) (hT _ tw_223) (fun _ h9 => h9) rfl d_ST_below_40 ?_
        refine va_getN (D := g) (ci := 1) (v := .ref (a 15)) (C := R_No) (T := F_No) (N := 13) hx hb hT i_No hown hK hP 1 rfl rfl 9 (by decide) (va_Nw.use rfl (hN _ tw_56)) (fun _ h9 => h9) rfl d_ST_below_43 ?_
        refine lv_iload_n hx hb d_ST_below_46 rfl (lv_at hl 1 rfl) ?_
        refine my_iald (v := (nI (bc x1))) (i := x1) hx hb hK hP 15 0 rfl rfl (by omega) (by decide) rfl d_ST_below_47 ?_
        refine lv_bipush (v := (nI 10)) hx hb d_ST_below_48 (by decide) ?_
        have q1 := hbc x1
        refine my_icmp_lt (tgt := 56) (a := bc x1) (b := 10) hx hb d_ST_below_50 (by decide) (by omega) (by omega) (fun c_50 => ?_) (fun c_50 => ?_)
        · -- 50: taken
          refine lv_iload_n hx hb d_ST_below_56 rfl (lv_at hl 2 rfl) ?_
          refine lv_iload_n hx hb d_ST_below_57 rfl (lv_at hl 1 rfl) ?_
          refine my_icmp_eq (tgt := 73) (a := y1) (b := x1) hx hb d_ST_below_58 (by decide) (by omega) (by omega) (fun c_58 => ?_) (fun c_58 => ?_)
          · -- 58: taken
            refine lv_iconst (v := (nI 0)) hx hb d_ST_below_73 (by decide) ?_
            refine hret _ _ _ _ _ (by rw [if_neg (by first | (simp [c_8, c_19, c_33, c_50, c_58]; done) | (simp [c_8, c_19, c_33, c_50, c_58]; omega) | (simp [c_8, c_19, c_33, c_50, c_58]; rfl))]; exact hP) (by rw [if_neg (by first | (simp [c_8, c_19, c_33, c_50, c_58]; done) | (simp [c_8, c_19, c_33, c_50, c_58]; omega) | (simp [c_8, c_19, c_33, c_50, c_58]; rfl))]; exact hD) hS d_ST_below_74 ?_
            rw [beR, if_neg (by simp [c_8, c_19]), hkc, hkc2, if_neg (by simp [c_33]), if_neg (by omega), if_pos (by first | exact Or.inl c_58 | exact Or.inr c_70)]; rfl
          · -- 58: not taken
            refine lv_aload_n hx hb d_ST_below_61 rfl (lv_at hl 0 rfl) ?_
            refine va_get (D := g) (ci := 0) (v := .ref (a 1)) (C := R_ST) (T := F_ST) (N := 7) hx hb hT i_ST hown hK hP 0 rfl rfl 0 (by decide) (hT _ tw_223) (fun _ h9 => h9) rfl d_ST_below_62 ?_
            refine lv_iload_n hx hb d_ST_below_65 rfl (lv_at hl 1 rfl) ?_
            refine lv_iload_n hx hb d_ST_below_66 rfl (lv_at hl 2 rfl) ?_
            refine my_V_i (q0 := 1) (ci := 1) (C := R_No) (As := [.int (nI x1), .int (nI y1)]) (n := 2) (k_No_isUnder l g a rB rT cI cJ cII cJJ nc nv ng kd vo nu nd en br bc un eu li tb cc0 cp cu cd tc ts tf ox ow ob ra rb gc gr gk gg gp gt sa sb x1 y1 (by omega) (by omega) hun) hx hb hml hown hT hN tw_301 tw_302 tw_303 tw_2 tw_304 (by decide +kernel) rfl rfl ⟨Nat.le_of_ble_eq_true rfl, Nat.le_of_ble_eq_true rfl⟩ ⟨Nat.zero_le _, Nat.zero_le _⟩ hK hP hD hS hA rfl rfl rfl hl rfl (Nat.le_of_ble_eq_true rfl) d_ST_below_67 (fun H locs hP hD hS => ?_)
            refine my_if_eq_b (tgt := 75) hx hb d_ST_below_70 (by decide) (fun c_70 => ?_) (fun c_70 => ?_)
            · -- 70: taken
              refine lv_aload_n hx hb d_ST_below_75 rfl (lv_at hl 0 rfl) ?_
              refine va_get (D := g) (ci := 0) (v := .ref (a 1)) (C := R_ST) (T := F_ST) (N := 7) hx hb hT i_ST hown hK hP 0 rfl rfl 0 (by decide) (hT _ tw_223) (fun _ h9 => h9) rfl d_ST_below_76 ?_
              refine lv_iload_n hx hb d_ST_below_79 rfl (lv_at hl 2 rfl) ?_
              refine lv_iload_n hx hb d_ST_below_80 rfl (lv_at hl 1 rfl) ?_
              refine my_V_v (q0 := 1) (ci := 1) (C := R_No) (As := [.int (nI y1), .int (nI x1)]) (n := 2) (k_No_putBelow l g a rB rT cI cJ cII cJJ nc nv ng kd vo nu nd en br bc un eu li tb cc0 cp cu cd tc ts tf ox ow ob ra rb gc gr gk gg gp gt sa sb y1 x1 (by omega) (by omega) hnc c_50 hun heu) hx hb hml hown hT hN tw_305 tw_306 tw_307 tw_2 tw_308 (by decide +kernel) rfl rfl ⟨Nat.le_of_ble_eq_true rfl, Nat.le_of_ble_eq_true rfl⟩ ⟨Nat.zero_le _, Nat.zero_le _⟩ hK hP hD hS hA rfl rfl rfl hl rfl (Nat.le_of_ble_eq_true rfl) d_ST_below_81 (fun H locs hP hD hS => ?_)
              refine lv_iconst (v := (nI 1)) hx hb d_ST_below_84 (by decide) ?_
              refine hret _ _ _ _ _ (by rw [if_pos (by first | (simp [c_8, c_19, c_33, c_50, c_58, c_70]; done) | (simp [c_8, c_19, c_33, c_50, c_58, c_70]; omega) | (simp [c_8, c_19, c_33, c_50, c_58, c_70]; rfl))]; exact hP) (by rw [if_pos (by first | (simp [c_8, c_19, c_33, c_50, c_58, c_70]; done) | (simp [c_8, c_19, c_33, c_50, c_58, c_70]; omega) | (simp [c_8, c_19, c_33, c_50, c_58, c_70]; rfl))]; exact hD) hS d_ST_below_85 ?_
              rw [beR, if_neg (by simp [c_8, c_19]), hkc, hkc2, if_neg (by simp [c_33]), if_neg (by omega), if_neg (by intro hh; rcases hh with hh | hh; exact c_58 hh; rw [c_70] at hh; exact absurd hh (by decide))]; rfl
            · -- 70: not taken
              refine lv_iconst (v := (nI 0)) hx hb d_ST_below_73 (by decide) ?_
              refine hret _ _ _ _ _ (by rw [if_neg (by first | (simp [c_8, c_19, c_33, c_50, c_58, c_70]; done) | (simp [c_8, c_19, c_33, c_50, c_58, c_70]; omega) | (simp [c_8, c_19, c_33, c_50, c_58, c_70]; rfl))]; exact hP) (by rw [if_neg (by first | (simp [c_8, c_19, c_33, c_50, c_58, c_70]; done) | (simp [c_8, c_19, c_33, c_50, c_58, c_70]; omega) | (simp [c_8, c_19, c_33, c_50, c_58, c_70]; rfl))]; exact hD) hS d_ST_below_74 ?_
              rw [beR, if_neg (by simp [c_8, c_19]), hkc, hkc2, if_neg (by simp [c_33]), if_neg (by omega), if_pos (by first | exact Or.inl c_58 | exact Or.inr c_70)]; rfl
        · -- 50: not taken
          refine lv_bipush (v := (-4)) hx hb d_ST_below_53 (by decide) ?_
          refine hret _ _ _ _ _ (by rw [if_neg (by first | (simp [c_8, c_19, c_33, c_50]; done) | (simp [c_8, c_19, c_33, c_50]; omega) | (simp [c_8, c_19, c_33, c_50]; rfl))]; exact hP) (by rw [if_neg (by first | (simp [c_8, c_19, c_33, c_50]; done) | (simp [c_8, c_19, c_33, c_50]; omega) | (simp [c_8, c_19, c_33, c_50]; rfl))]; exact hD) hS d_ST_below_55 ?_
          rw [beR, if_neg (by simp [c_8, c_19]), hkc, hkc2, if_neg (by simp [c_33]), if_pos (by omega)]
      · -- 33: not taken
        refine lv_bipush (v := (-3)) hx hb d_ST_below_36 (by decide) ?_
        refine hret _ _ _ _ _ (by rw [if_neg (by first | (simp [c_8, c_19, c_33]; done) | (simp [c_8, c_19, c_33]; omega) | (simp [c_8, c_19, c_33]; rfl))]; exact hP) (by rw [if_neg (by first | (simp [c_8, c_19, c_33]; done) | (simp [c_8, c_19, c_33]; omega) | (simp [c_8, c_19, c_33]; rfl))]; exact hD) hS d_ST_below_38 ?_
        rw [beR, if_neg (by simp [c_8, c_19]), hkc, hkc2, if_pos c_33]
    · -- 19: not taken
      refine lv_iconst (v := (-1)) hx hb d_ST_below_22 (by decide) ?_
      refine hret _ _ _ _ _ (by rw [if_neg (by first | (simp [c_8, c_19]; done) | (simp [c_8, c_19]; omega) | (simp [c_8, c_19]; rfl))]; exact hP) (by rw [if_neg (by first | (simp [c_8, c_19]; done) | (simp [c_8, c_19]; omega) | (simp [c_8, c_19]; rfl))]; exact hD) hS d_ST_below_23 ?_
      rw [beR, if_pos (by first | exact Or.inl c_8 | exact Or.inr c_19)]
set_option maxHeartbeats 4000000 in
set_option maxRecDepth 100000 in
theorem k_ST_plain (l : Launch) (g : va_G) (a rB rT : Nat → Nat) (cI cJ cII cJJ : ClassId) (nc : Nat) (nv : Nat) (ng : Nat) (kd : Nat → Int32) (vo : Nat → Nat) (nu : Nat → Nat) (nd : Nat → Nat) (en : Nat → Nat) (br : Nat → Nat → Nat) (bc : Nat → Nat) (un : Nat → Nat) (eu : Nat → Nat) (li : Nat → Nat) (tb : Nat → Nat → Int64) (cc0 : Nat) (cp : Nat → Nat) (cu : Nat → Nat) (cd : Nat → Nat) (tc : Nat) (ts : Nat → Nat) (tf : Nat → Nat) (ox : Bool) (ow : Nat → Nat) (ob : Nat → Nat) (ra : Nat) (rb : Nat) (gc : Nat) (gr : Nat) (gk : Nat → Nat) (gg : Nat → Nat) (gp : Nat → Nat) (gt : Nat → Nat) (sa : Nat) (sb : Nat) (x : Int32) (hnc : nc ≤ 32) (hun : ∀ j, un j < 2 ^ 33) (heu : ∀ j, eu j < 2 ^ 12) (hbc : ∀ j, bc j ≤ 10) (hbr : ∀ j i, br j i ≤ 32) (hvo : ∀ j, vo j ≤ 10) : ct_i l g vwCl (tyS cI cJ cII cJJ) y_ST_plain c_ST_plain 2 (some .int) ({ frames := 5, cells := 0, slots := 0, locals := 132 } : Room) [.ref (a 0), .int x] (stW a rB rT cI cJ cII cJJ nc nv ng kd vo nu nd en br bc un eu li tb cc0 cp cu cd tc ts tf ox ow ob ra rb gc gr gk gg gp gt sa sb) (if isG nc kd x = true then (stW a rB rT cI cJ cII cJJ nc nv ng kd vo nu nd en br bc un eu ((luS (luC nc kd un x.toNatClampNeg) nc (0, li) 33).2) (fsF tb br kd vo bc (luS (luC nc kd un x.toNatClampNeg) nc (0, li) 33).2 (eu x.toNatClampNeg / 2 ^ 6) (luS (luC nc kd un x.toNatClampNeg) nc (0, li) 33).1) cc0 cp cu cd tc ts tf ox ow ob ra rb gc gr gk gg gp gt sa sb) else (stW a rB rT cI cJ cII cJJ nc nv ng kd vo nu nd en br bc un eu li tb cc0 cp cu cd tc ts tf ox ow ob ra rb gc gr gk gg gp gt sa sb)) (if isG nc kd x = false then -2 else nI (ctF (fsF tb br kd vo bc (luS (luC nc kd un x.toNatClampNeg) nc (0, li) 33).2 (eu x.toNatClampNeg / 2 ^ 6) (luS (luC nc kd un x.toNatClampNeg) nc (0, li) 33).1) x.toNatClampNeg (eu x.toNatClampNeg) (2 ^ popc (eu x.toNatClampNeg) 12))) := by
  refine ct_i.intro (by decide) (Nat.le_of_ble_eq_true rfl) ?_
  intro p e s m args below meth c Q A ls hx hb hml hT hown hA hK hN hret hP hD hS hl
  have hown : s.vm.findClass R_ST = some m.cls := hown
  have hl : lv_has ls 2 [(0, .ref (a 0)), (1, .int x)] := hl
  refine lv_aload_n hx hb d_ST_plain_0 rfl (lv_at hl 0 rfl) ?_
  refine va_get (D := g) (ci := 0) (v := .ref (a 1)) (C := R_ST) (T := F_ST) (N := 7) hx hb hT i_ST hown hK hP 0 rfl rfl 0 (by decide) (hT _ tw_223) (fun _ h9 => h9) rfl d_ST_plain_1 ?_
  refine lv_iload_n hx hb d_ST_plain_4 rfl (lv_at hl 1 rfl) ?_
  refine my_V_i (q0 := 1) (ci := 1) (C := R_No) (As := [.int x]) (n := 1) (k_No_isGate l g a rB rT cI cJ cII cJJ nc nv ng kd vo nu nd en br bc un eu li tb cc0 cp cu cd tc ts tf ox ow ob ra rb gc gr gk gg gp gt sa sb x hnc) hx hb hml hown hT hN tw_288 tw_289 tw_290 tw_2 tw_291 (by decide +kernel) rfl rfl ⟨Nat.le_of_ble_eq_true rfl, Nat.le_of_ble_eq_true rfl⟩ ⟨Nat.zero_le _, Nat.zero_le _⟩ hK hP hD hS hA rfl rfl rfl hl rfl (Nat.le_of_ble_eq_true rfl) d_ST_plain_5 (fun H locs hP hD hS => ?_)
  refine my_if_ne_b (tgt := 14) hx hb d_ST_plain_8 (by decide) (fun c_8 => ?_) (fun c_8 => ?_)
  · -- 8: taken
    obtain ⟨x1, hx11, hx12, rfl⟩ := isG_nat hnc c_8
    have hkc : (nI x1).toNatClampNeg = x1 := nI_clamp (by omega)
    simp only [hkc] at hret
    refine lv_aload_n hx hb d_ST_plain_14 rfl (lv_at hl 0 rfl) ?_
    refine va_get (D := g) (ci := 0) (v := .ref (a 2)) (C := R_ST) (T := F_ST) (N := 7) hx hb hT i_ST hown hK hP 0 rfl rfl 1 (by decide) (hT _ tw_224) (fun _ h9 => h9) rfl d_ST_plain_15 ?_
    refine lv_iload_n hx hb d_ST_plain_18 rfl (lv_at hl 1 rfl) ?_
    refine my_V_v (q0 := 2) (ci := 2) (C := R_Tr) (As := [.int (nI x1)]) (n := 1) (k_Tr_fillGates l g a rB rT cI cJ cII cJJ nc nv ng kd vo nu nd en br bc un eu li tb cc0 cp cu cd tc ts tf ox ow ob ra rb gc gr gk gg gp gt sa sb x1 (by omega) hnc hun heu hbc hbr hvo) hx hb hml hown hT hN tw_327 tw_328 tw_329 tw_3 tw_330 (by decide +kernel) rfl rfl ⟨Nat.le_of_ble_eq_true rfl, Nat.le_of_ble_eq_true rfl⟩ ⟨Nat.zero_le _, Nat.zero_le _⟩ hK hP hD hS hA rfl rfl rfl hl rfl (Nat.le_of_ble_eq_true rfl) d_ST_plain_19 (fun H locs hP hD hS => ?_)
    refine lv_aload_n hx hb d_ST_plain_22 rfl (lv_at hl 0 rfl) ?_
    refine va_get (D := g) (ci := 0) (v := .ref (a 2)) (C := R_ST) (T := F_ST) (N := 7) hx hb hT i_ST hown hK hP 0 rfl rfl 1 (by decide) (hT _ tw_224) (fun _ h9 => h9) rfl d_ST_plain_23 ?_
    refine lv_iload_n hx hb d_ST_plain_26 rfl (lv_at hl 1 rfl) ?_
    refine lv_aload_n hx hb d_ST_plain_27 rfl (lv_at hl 0 rfl) ?_
    refine va_get (D := g) (ci := 0) (v := .ref (a 1)) (C := R_ST) (T := F_ST) (N := 7) hx hb hT i_ST hown hK hP 0 rfl rfl 0 (by decide) (hT _ tw_223) (fun _ h9 => h9) rfl d_ST_plain_28 ?_
    refine va_getN (D := g) (ci := 1) (v := .ref (a 17)) (C := R_No) (T := F_No) (N := 13) hx hb hT i_No hown hK hP 1 rfl rfl 11 (by decide) (va_Nw.use rfl (hN _ tw_63)) (fun _ h9 => h9) rfl d_ST_plain_31 ?_
    refine lv_iload_n hx hb d_ST_plain_34 rfl (lv_at hl 1 rfl) ?_
    refine my_iald (v := (nI (eu x1))) (i := x1) hx hb hK hP 17 0 rfl rfl (by omega) (by decide) rfl d_ST_plain_35 ?_
    refine my_V_i (q0 := 2) (ci := 2) (C := R_Tr) (As := [.int (nI x1), .int (nI (eu x1))]) (n := 2) (k_Tr_countTrue l g a rB rT cI cJ cII cJJ nc nv ng kd vo nu nd en br bc un eu ((luS (luC nc kd un x1) nc (0, li) 33).2) (fsF tb br kd vo bc (luS (luC nc kd un x1) nc (0, li) 33).2 (eu x1 / 2 ^ 6) (luS (luC nc kd un x1) nc (0, li) 33).1) cc0 cp cu cd tc ts tf ox ow ob ra rb gc gr gk gg gp gt sa sb x1 (eu x1) (by omega) (heu x1)) hx hb hml hown hT hN tw_532 tw_533 tw_534 tw_3 tw_535 (by decide +kernel) rfl rfl ⟨Nat.le_of_ble_eq_true rfl, Nat.le_of_ble_eq_true rfl⟩ ⟨Nat.zero_le _, Nat.zero_le _⟩ hK hP hD hS hA rfl rfl rfl hl rfl (Nat.le_of_ble_eq_true rfl) d_ST_plain_36 (fun H locs hP hD hS => ?_)
    refine hret _ _ _ _ _ (by rw [if_pos c_8]; exact hP) (by rw [if_pos c_8]; exact hD) hS d_ST_plain_39 ?_
    rw [if_neg (by simp [c_8])]
  · -- 8: not taken
    refine lv_bipush (v := (-2)) hx hb d_ST_plain_11 (by decide) ?_
    refine hret _ _ _ _ _ (by rw [if_neg (by simp [c_8])]; exact hP) (by rw [if_neg (by simp [c_8])]; exact hD) hS d_ST_plain_13 ?_
    rw [if_pos (by simp [c_8])]
set_option maxHeartbeats 4000000 in
set_option maxRecDepth 100000 in
theorem k_ST_cuts (l : Launch) (g : va_G) (a rB rT : Nat → Nat) (cI cJ cII cJJ : ClassId) (nc : Nat) (nv : Nat) (ng : Nat) (kd : Nat → Int32) (vo : Nat → Nat) (nu : Nat → Nat) (nd : Nat → Nat) (en : Nat → Nat) (br : Nat → Nat → Nat) (bc : Nat → Nat) (un : Nat → Nat) (eu : Nat → Nat) (li : Nat → Nat) (tb : Nat → Nat → Int64) (cc0 : Nat) (cp : Nat → Nat) (cu : Nat → Nat) (cd : Nat → Nat) (tc : Nat) (ts : Nat → Nat) (tf : Nat → Nat) (ox : Bool) (ow : Nat → Nat) (ob : Nat → Nat) (ra : Nat) (rb : Nat) (gc : Nat) (gr : Nat) (gk : Nat → Nat) (gg : Nat → Nat) (gp : Nat → Nat) (gt : Nat → Nat) (sa : Nat) (sb : Nat) (x : Int32) (n : Int64) (hnc : nc ≤ 32) (hun : ∀ j, un j < 2 ^ 33) (heu : ∀ j, eu j < 2 ^ 12) (hbc : ∀ j, bc j ≤ 10) (hbr : ∀ j i, br j i ≤ 32) (hvo : ∀ j, vo j ≤ 10) (htf : ∀ j, tf j < 4096) : ct_i l g vwCl (tyS cI cJ cII cJJ) y_ST_cuts c_ST_cuts 5 (some .int) ({ frames := 5, cells := 0, slots := 0, locals := 132 } : Room) [.ref (a 0), .int x, .long n] (stW a rB rT cI cJ cII cJJ nc nv ng kd vo nu nd en br bc un eu li tb cc0 cp cu cd tc ts tf ox ow ob ra rb gc gr gk gg gp gt sa sb) (if isG nc kd x = true ∧ ¬ n < lN 0 ∧ lN (2 ^ popc (eu x.toNatClampNeg) 12) ≤ n then (stW a rB rT cI cJ cII cJJ nc nv ng kd vo nu nd en br bc un eu ((luS (luC nc kd un x.toNatClampNeg) nc (0, li) 33).2) (fsF tb br kd vo bc (luS (luC nc kd un x.toNatClampNeg) nc (0, li) 33).2 (eu x.toNatClampNeg / 2 ^ 6) (luS (luC nc kd un x.toNatClampNeg) nc (0, li) 33).1) cc0 cp cu cd ((tlF (fdF (fsF tb br kd vo bc (luS (luC nc kd un x.toNatClampNeg) nc (0, li) 33).2 (eu x.toNatClampNeg / 2 ^ 6) (luS (luC nc kd un x.toNatClampNeg) nc (0, li) 33).1) x.toNatClampNeg (eu x.toNatClampNeg) tf (2 ^ popc (eu x.toNatClampNeg) 12)).2 ts (fdF (fsF tb br kd vo bc (luS (luC nc kd un x.toNatClampNeg) nc (0, li) 33).2 (eu x.toNatClampNeg / 2 ^ 6) (luS (luC nc kd un x.toNatClampNeg) nc (0, li) 33).1) x.toNatClampNeg (eu x.toNatClampNeg) tf (2 ^ popc (eu x.toNatClampNeg) 12)).1 13).1) ((tlF (fdF (fsF tb br kd vo bc (luS (luC nc kd un x.toNatClampNeg) nc (0, li) 33).2 (eu x.toNatClampNeg / 2 ^ 6) (luS (luC nc kd un x.toNatClampNeg) nc (0, li) 33).1) x.toNatClampNeg (eu x.toNatClampNeg) tf (2 ^ popc (eu x.toNatClampNeg) 12)).2 ts (fdF (fsF tb br kd vo bc (luS (luC nc kd un x.toNatClampNeg) nc (0, li) 33).2 (eu x.toNatClampNeg / 2 ^ 6) (luS (luC nc kd un x.toNatClampNeg) nc (0, li) 33).1) x.toNatClampNeg (eu x.toNatClampNeg) tf (2 ^ popc (eu x.toNatClampNeg) 12)).1 13).2) ((fdF (fsF tb br kd vo bc (luS (luC nc kd un x.toNatClampNeg) nc (0, li) 33).2 (eu x.toNatClampNeg / 2 ^ 6) (luS (luC nc kd un x.toNatClampNeg) nc (0, li) 33).1) x.toNatClampNeg (eu x.toNatClampNeg) tf (2 ^ popc (eu x.toNatClampNeg) 12)).2) ox ow ob ra rb gc gr gk gg gp gt sa sb) else (if isG nc kd x = true ∧ ¬ n < lN 0 then (stW a rB rT cI cJ cII cJJ nc nv ng kd vo nu nd en br bc un eu li tb cc0 cp cu cd 0 ts tf ox ow ob ra rb gc gr gk gg gp gt sa sb) else (stW a rB rT cI cJ cII cJJ nc nv ng kd vo nu nd en br bc un eu li tb cc0 cp cu cd tc ts tf ox ow ob ra rb gc gr gk gg gp gt sa sb))) (if isG nc kd x = false ∨ n < lN 0 then -2 else if lN (2 ^ popc (eu x.toNatClampNeg) 12) ≤ n then nI (tlF (fdF (fsF tb br kd vo bc (luS (luC nc kd un x.toNatClampNeg) nc (0, li) 33).2 (eu x.toNatClampNeg / 2 ^ 6) (luS (luC nc kd un x.toNatClampNeg) nc (0, li) 33).1) x.toNatClampNeg (eu x.toNatClampNeg) tf (2 ^ popc (eu x.toNatClampNeg) 12)).2 ts (fdF (fsF tb br kd vo bc (luS (luC nc kd un x.toNatClampNeg) nc (0, li) 33).2 (eu x.toNatClampNeg / 2 ^ 6) (luS (luC nc kd un x.toNatClampNeg) nc (0, li) 33).1) x.toNatClampNeg (eu x.toNatClampNeg) tf (2 ^ popc (eu x.toNatClampNeg) 12)).1 13).1 else -1) := by
  refine ct_i.intro (by decide) (Nat.le_of_ble_eq_true rfl) ?_
  intro p e s m args below meth c Q A ls hx hb hml hT hown hA hK hN hret hP hD hS hl
  have hown : s.vm.findClass R_ST = some m.cls := hown
  have hl : lv_has ls 5 [(0, .ref (a 0)), (1, .int x), (2, .long n)] := hl
  refine lv_aload_n hx hb d_ST_cuts_0 rfl (lv_at hl 0 rfl) ?_
  refine va_get (D := g) (ci := 0) (v := .ref (a 1)) (C := R_ST) (T := F_ST) (N := 7) hx hb hT i_ST hown hK hP 0 rfl rfl 0 (by decide) (hT _ tw_223) (fun _ h9 => h9) rfl d_ST_cuts_1 ?_
  refine lv_iload_n hx hb d_ST_cuts_4 rfl (lv_at hl 1 rfl) ?_
  refine my_V_i (q0 := 1) (ci := 1) (C := R_No) (As := [.int x]) (n := 1) (k_No_isGate l g a rB rT cI cJ cII cJJ nc nv ng kd vo nu nd en br bc un eu li tb cc0 cp cu cd tc ts tf ox ow ob ra rb gc gr gk gg gp gt sa sb x hnc) hx hb hml hown hT hN tw_288 tw_289 tw_290 tw_2 tw_291 (by decide +kernel) rfl rfl ⟨Nat.le_of_ble_eq_true rfl, Nat.le_of_ble_eq_true rfl⟩ ⟨Nat.zero_le _, Nat.zero_le _⟩ hK hP hD hS hA rfl rfl rfl hl rfl (Nat.le_of_ble_eq_true rfl) d_ST_cuts_5 (fun H locs hP hD hS => ?_)
  refine my_if_eq_b (tgt := 17) hx hb d_ST_cuts_8 (by decide) (fun c_8 => ?_) (fun c_8 => ?_)
  · -- 8: taken
    refine lv_bipush (v := (-2)) hx hb d_ST_cuts_17 (by decide) ?_
    refine hret _ _ _ _ _ (by rw [if_neg (by simp [c_8]), if_neg (by simp [c_8])]; exact hP) (by rw [if_neg (by simp [c_8]), if_neg (by simp [c_8])]; exact hD) hS d_ST_cuts_19 ?_
    rw [if_pos (by first | exact Or.inl c_8 | exact Or.inr c_13)]
  · -- 8: not taken
    obtain ⟨x1, hx11, hx12, rfl⟩ := isG_nat hnc c_8
    have hkc : (nI x1).toNatClampNeg = x1 := nI_clamp (by omega)
    simp only [hkc] at hret
    refine lv_lload_n hx hb d_ST_cuts_11 rfl (lv_at hl 2 rfl) ?_
    refine lv_lconst (v := (lN 0)) hx hb d_ST_cuts_12 (by decide) ?_
    refine my_lcmpR_ge (tgt := 20) hx hb d_ST_cuts_13 d_ST_cuts_14 (by decide) (fun c_13 => ?_) (fun c_13 => ?_)
    · -- 13: taken
      have c_13 : ¬ n < lN 0 := fun q => by rw [Int64.lt_iff_toInt_lt] at q; rw [Int64.le_iff_toInt_le] at c_13; omega
      have q1 := pop12 (eu x1)
      refine lv_aload_n hx hb d_ST_cuts_20 rfl (lv_at hl 0 rfl) ?_
      refine va_get (D := g) (ci := 0) (v := .ref (a 1)) (C := R_ST) (T := F_ST) (N := 7) hx hb hT i_ST hown hK hP 0 rfl rfl 0 (by decide) (hT _ tw_223) (fun _ h9 => h9) rfl d_ST_cuts_21 ?_
      refine va_getN (D := g) (ci := 1) (v := .ref (a 17)) (C := R_No) (T := F_No) (N := 13) hx hb hT i_No hown hK hP 1 rfl rfl 11 (by decide) (va_Nw.use rfl (hN _ tw_63)) (fun _ h9 => h9) rfl d_ST_cuts_24 ?_
      refine lv_iload_n hx hb d_ST_cuts_27 rfl (lv_at hl 1 rfl) ?_
      refine my_iald (v := (nI (eu x1))) (i := x1) hx hb hK hP 17 0 rfl rfl (by omega) (by decide) rfl d_ST_cuts_28 ?_
      refine lv_istore (lv' := [(4, .int (nI (eu x1))), (0, .ref (a 0)), (1, .int (nI x1)), (2, .long n)]) hx hb d_ST_cuts_29 hl (by decide) rfl (fun ls hl => ?_)
      refine lv_iload hx hb d_ST_cuts_31 (lv_at hl 0 rfl) ?_
      refine my_S_i (As := [.int (nI (eu x1))]) (n := 1) (k_ST_countOfSets l g vwCl (tyS cI cJ cII cJJ) (stW a rB rT cI cJ cII cJJ nc nv ng kd vo nu nd en br bc un eu li tb cc0 cp cu cd tc ts tf ox ow ob ra rb gc gr gk gg gp gt sa sb) (eu x1) (heu x1)) hx hb hml hown hT hN tw_314 tw_315 tw_1 tw_316 (by decide +kernel) rfl rfl ⟨Nat.le_of_ble_eq_true rfl, Nat.le_of_ble_eq_true rfl⟩ ⟨Nat.zero_le _, Nat.zero_le _⟩ hK hP hD hS hA rfl hl rfl (Nat.le_of_ble_eq_true rfl) d_ST_cuts_33 (fun H locs hP hD hS => ?_)
      refine lv_i2l (v := lN (2 ^ popc (eu x1) 12)) hx hb d_ST_cuts_36 (nI_l (by omega)) ?_
      refine lv_lload_n hx hb d_ST_cuts_37 rfl (lv_at hl 3 rfl) ?_
      refine my_lcmpR_le (tgt := 51) hx hb d_ST_cuts_38 d_ST_cuts_39 (by decide) (fun c_38 => ?_) (fun c_38 => ?_)
      · -- 38: taken
        refine lv_aload_n hx hb d_ST_cuts_51 rfl (lv_at hl 1 rfl) ?_
        refine va_get (D := g) (ci := 0) (v := .ref (a 2)) (C := R_ST) (T := F_ST) (N := 7) hx hb hT i_ST hown hK hP 0 rfl rfl 1 (by decide) (hT _ tw_224) (fun _ h9 => h9) rfl d_ST_cuts_52 ?_
        refine lv_iload_n hx hb d_ST_cuts_55 rfl (lv_at hl 2 rfl) ?_
        refine my_V_v (q0 := 2) (ci := 2) (C := R_Tr) (As := [.int (nI x1)]) (n := 1) (k_Tr_fillGates l g a rB rT cI cJ cII cJJ nc nv ng kd vo nu nd en br bc un eu li tb cc0 cp cu cd tc ts tf ox ow ob ra rb gc gr gk gg gp gt sa sb x1 (by omega) hnc hun heu hbc hbr hvo) hx hb hml hown hT hN tw_327 tw_328 tw_329 tw_3 tw_330 (by decide +kernel) rfl rfl ⟨Nat.le_of_ble_eq_true rfl, Nat.le_of_ble_eq_true rfl⟩ ⟨Nat.zero_le _, Nat.zero_le _⟩ hK hP hD hS hA rfl rfl rfl hl rfl (Nat.le_of_ble_eq_true rfl) d_ST_cuts_56 (fun H locs hP hD hS => ?_)
        refine lv_aload_n hx hb d_ST_cuts_59 rfl (lv_at hl 1 rfl) ?_
        refine va_get (D := g) (ci := 0) (v := .ref (a 4)) (C := R_ST) (T := F_ST) (N := 7) hx hb hT i_ST hown hK hP 0 rfl rfl 3 (by decide) (hT _ tw_226) (fun _ h9 => h9) rfl d_ST_cuts_60 ?_
        refine lv_aload_n hx hb d_ST_cuts_63 rfl (lv_at hl 1 rfl) ?_
        refine va_get (D := g) (ci := 0) (v := .ref (a 2)) (C := R_ST) (T := F_ST) (N := 7) hx hb hT i_ST hown hK hP 0 rfl rfl 1 (by decide) (hT _ tw_224) (fun _ h9 => h9) rfl d_ST_cuts_64 ?_
        refine lv_iload_n hx hb d_ST_cuts_67 rfl (lv_at hl 2 rfl) ?_
        refine lv_iload hx hb d_ST_cuts_68 (lv_at hl 0 rfl) ?_
        refine my_V_i (q0 := 4) (ci := 4) (C := R_Cu) (As := [.ref (a 2), .int (nI x1), .int (nI (eu x1))]) (n := 3) (k_Cu_tell l g a rB rT cI cJ cII cJJ nc nv ng kd vo nu nd en br bc un eu ((luS (luC nc kd un x1) nc (0, li) 33).2) (fsF tb br kd vo bc (luS (luC nc kd un x1) nc (0, li) 33).2 (eu x1 / 2 ^ 6) (luS (luC nc kd un x1) nc (0, li) 33).1) cc0 cp cu cd tc ts tf ox ow ob ra rb gc gr gk gg gp gt sa sb x1 (eu x1) (by omega) (heu x1) htf) hx hb hml hown hT hN tw_365 tw_366 tw_367 tw_5 tw_368 (by decide +kernel) rfl rfl ⟨Nat.le_of_ble_eq_true rfl, Nat.le_of_ble_eq_true rfl⟩ ⟨Nat.zero_le _, Nat.zero_le _⟩ hK hP hD hS hA rfl rfl rfl hl rfl (Nat.le_of_ble_eq_true rfl) d_ST_cuts_70 (fun H locs hP hD hS => ?_)
        refine hret _ _ _ _ _ (by rw [if_pos ⟨c_8, c_13, c_38⟩]; exact hP) (by rw [if_pos ⟨c_8, c_13, c_38⟩]; exact hD) hS d_ST_cuts_73 ?_
        rw [if_neg (by simp [c_8, c_13]), if_pos c_38]
      · -- 38: not taken
        refine lv_aload_n hx hb d_ST_cuts_42 rfl (lv_at hl 1 rfl) ?_
        refine va_get (D := g) (ci := 0) (v := .ref (a 4)) (C := R_ST) (T := F_ST) (N := 7) hx hb hT i_ST hown hK hP 0 rfl rfl 3 (by decide) (hT _ tw_226) (fun _ h9 => h9) rfl d_ST_cuts_43 ?_
        refine my_V_v (q0 := 4) (ci := 4) (C := R_Cu) (As := []) (n := 0) (k_Cu_clear l g a rB rT cI cJ cII cJJ nc nv ng kd vo nu nd en br bc un eu li tb cc0 cp cu cd tc ts tf ox ow ob ra rb gc gr gk gg gp gt sa sb  ) hx hb hml hown hT hN tw_323 tw_324 tw_325 tw_5 tw_326 (by decide +kernel) rfl rfl ⟨Nat.le_of_ble_eq_true rfl, Nat.le_of_ble_eq_true rfl⟩ ⟨Nat.zero_le _, Nat.zero_le _⟩ hK hP hD hS hA rfl rfl rfl hl rfl (Nat.le_of_ble_eq_true rfl) d_ST_cuts_46 (fun H locs hP hD hS => ?_)
        refine lv_iconst (v := (-1)) hx hb d_ST_cuts_49 (by decide) ?_
        refine hret _ _ _ _ _ (by rw [if_neg (by intro hh; exact c_38 hh.2.2), if_pos ⟨c_8, c_13⟩]; exact hP) (by rw [if_neg (by intro hh; exact c_38 hh.2.2), if_pos ⟨c_8, c_13⟩]; exact hD) hS d_ST_cuts_50 ?_
        rw [if_neg (by simp [c_8, c_13]), if_neg c_38]
    · -- 13: not taken
      have c_13 : n < lN 0 := by rw [Int64.lt_iff_toInt_lt]; rw [Int64.le_iff_toInt_le] at c_13; omega
      refine lv_bipush (v := (-2)) hx hb d_ST_cuts_17 (by decide) ?_
      refine hret _ _ _ _ _ (by rw [if_neg (by simp [c_8, c_13]), if_neg (by simp [c_8, c_13])]; exact hP) (by rw [if_neg (by simp [c_8, c_13]), if_neg (by simp [c_8, c_13])]; exact hD) hS d_ST_cuts_19 ?_
      rw [if_pos (by first | exact Or.inl c_8 | exact Or.inr c_13)]
set_option maxHeartbeats 4000000 in
set_option maxRecDepth 100000 in
theorem k_ST_cut (l : Launch) (g : va_G) (a rB rT : Nat → Nat) (cI cJ cII cJJ : ClassId) (nc : Nat) (nv : Nat) (ng : Nat) (kd : Nat → Int32) (vo : Nat → Nat) (nu : Nat → Nat) (nd : Nat → Nat) (en : Nat → Nat) (br : Nat → Nat → Nat) (bc : Nat → Nat) (un : Nat → Nat) (eu : Nat → Nat) (li : Nat → Nat) (tb : Nat → Nat → Int64) (cc0 : Nat) (cp : Nat → Nat) (cu : Nat → Nat) (cd : Nat → Nat) (tc : Nat) (ts : Nat → Nat) (tf : Nat → Nat) (ox : Bool) (ow : Nat → Nat) (ob : Nat → Nat) (ra : Nat) (rb : Nat) (gc : Nat) (gr : Nat) (gk : Nat → Nat) (gg : Nat → Nat) (gp : Nat → Nat) (gt : Nat → Nat) (sa : Nat) (sb : Nat) (x : Int32) (y : Int32) (htc : tc ≤ 924) (hts1 : ∀ j, ts j < 4096) : ct_i l g vwCl (tyS cI cJ cII cJJ) y_ST_cut c_ST_cut 4 (some .int) ({ frames := 2, cells := 0, slots := 0, locals := 44 } : Room) [.ref (a 0), .int x, .int y] (stW a rB rT cI cJ cII cJJ nc nv ng kd vo nu nd en br bc un eu li tb cc0 cp cu cd tc ts tf ox ow ob ra rb gc gr gk gg gp gt sa sb) (stW a rB rT cI cJ cII cJJ nc nv ng kd vo nu nd en br bc un eu li tb cc0 cp cu cd tc ts tf ox ow ob ra rb gc gr gk gg gp gt sa sb) (ctR en (eiF tc ts x y)) := by
  refine ct_i.intro (by decide) (Nat.le_of_ble_eq_true rfl) ?_
  intro p e s m args below meth c Q A ls hx hb hml hT hown hA hK hN hret hP hD hS hl
  have hown : s.vm.findClass R_ST = some m.cls := hown
  have hl : lv_has ls 4 [(0, .ref (a 0)), (1, .int x), (2, .int y)] := hl
  refine lv_aload_n hx hb d_ST_cut_0 rfl (lv_at hl 0 rfl) ?_
  refine va_get (D := g) (ci := 0) (v := .ref (a 4)) (C := R_ST) (T := F_ST) (N := 7) hx hb hT i_ST hown hK hP 0 rfl rfl 3 (by decide) (hT _ tw_226) (fun _ h9 => h9) rfl d_ST_cut_1 ?_
  refine lv_iload_n hx hb d_ST_cut_4 rfl (lv_at hl 1 rfl) ?_
  refine lv_iload_n hx hb d_ST_cut_5 rfl (lv_at hl 2 rfl) ?_
  refine my_V_i (q0 := 4) (ci := 4) (C := R_Cu) (As := [.int x, .int y]) (n := 2) (k_Cu_eventIndex l g a rB rT cI cJ cII cJJ nc nv ng kd vo nu nd en br bc un eu li tb cc0 cp cu cd tc ts tf ox ow ob ra rb gc gr gk gg gp gt sa sb x y htc hts1) hx hb hml hown hT hN tw_391 tw_392 tw_393 tw_5 tw_394 (by decide +kernel) rfl rfl ⟨Nat.le_of_ble_eq_true rfl, Nat.le_of_ble_eq_true rfl⟩ ⟨Nat.zero_le _, Nat.zero_le _⟩ hK hP hD hS hA rfl rfl rfl hl rfl (Nat.le_of_ble_eq_true rfl) d_ST_cut_6 (fun H locs hP hD hS => ?_)
  refine lv_istore_n (lv' := [(3, .int (eiF tc ts x y)), (0, .ref (a 0)), (1, .int x), (2, .int y)]) hx hb d_ST_cut_9 rfl hl (by decide) rfl (fun ls hl => ?_)
  refine lv_iload_n hx hb d_ST_cut_10 rfl (lv_at hl 0 rfl) ?_
  refine lv_if_lt (tgt := 20) hx hb d_ST_cut_11 (by decide) (fun c_11 => ?_) (fun c_11 => ?_)
  · -- 11: taken
    refine lv_iconst (v := (nI 0)) hx hb d_ST_cut_20 (by decide) ?_
    refine lv_goto (tgt := 33) hx hb d_ST_cut_21 (by decide) ?_
    refine hret _ _ _ _ _ hP hD hS d_ST_cut_33 ?_
    rw [ctR, if_pos (by first | exact Or.inl c_11 | exact Or.inr c_17)]; rfl
  · -- 11: not taken
    refine lv_iload_n hx hb d_ST_cut_14 rfl (lv_at hl 0 rfl) ?_
    refine lv_bipush (v := (nI 12)) hx hb d_ST_cut_15 (by decide) ?_
    refine lv_icmp_lt (tgt := 24) hx hb d_ST_cut_17 (by decide) (fun c_17 => ?_) (fun c_17 => ?_)
    · -- 17: taken
      have c_17 : ¬ nI 12 ≤ eiF tc ts x y := fun q => by rw [Int32.lt_iff_toInt_lt] at c_17; rw [Int32.le_iff_toInt_le] at q; omega
      obtain ⟨e1, he1, heq⟩ := i32nn c_11 c_17 (by decide)
      rw [heq] at hl hret c_11 c_17
      have hkc : (nI e1).toNatClampNeg = e1 := nI_clamp (by omega)
      refine lv_aload_n hx hb d_ST_cut_24 rfl (lv_at hl 1 rfl) ?_
      refine va_get (D := g) (ci := 0) (v := .ref (a 1)) (C := R_ST) (T := F_ST) (N := 7) hx hb hT i_ST hown hK hP 0 rfl rfl 0 (by decide) (hT _ tw_223) (fun _ h9 => h9) rfl d_ST_cut_25 ?_
      refine va_getN (D := g) (ci := 1) (v := .ref (a 13)) (C := R_No) (T := F_No) (N := 13) hx hb hT i_No hown hK hP 1 rfl rfl 7 (by decide) (va_Nw.use rfl (hN _ tw_51)) (fun _ h9 => h9) rfl d_ST_cut_28 ?_
      refine lv_iload_n hx hb d_ST_cut_31 rfl (lv_at hl 0 rfl) ?_
      refine my_iald (v := (nI (en e1))) (i := e1) hx hb hK hP 13 0 rfl rfl (by omega) (by decide) rfl d_ST_cut_32 ?_
      refine hret _ _ _ _ _ hP hD hS d_ST_cut_33 ?_
      rw [ctR, if_neg (by intro hh; rcases hh with hh | hh; exact c_11 hh; exact c_17 hh), hkc]
    · -- 17: not taken
      have c_17 : nI 12 ≤ eiF tc ts x y := by rw [Int32.lt_iff_toInt_lt] at c_17; rw [Int32.le_iff_toInt_le]; omega
      refine lv_iconst (v := (nI 0)) hx hb d_ST_cut_20 (by decide) ?_
      refine lv_goto (tgt := 33) hx hb d_ST_cut_21 (by decide) ?_
      refine hret _ _ _ _ _ hP hD hS d_ST_cut_33 ?_
      rw [ctR, if_pos (by first | exact Or.inl c_11 | exact Or.inr c_17)]; rfl
set_option maxHeartbeats 4000000 in
set_option maxRecDepth 100000 in
theorem k_ST_common (l : Launch) (g : va_G) (a rB rT : Nat → Nat) (cI cJ cII cJJ : ClassId) (nc : Nat) (nv : Nat) (ng : Nat) (kd : Nat → Int32) (vo : Nat → Nat) (nu : Nat → Nat) (nd : Nat → Nat) (en : Nat → Nat) (br : Nat → Nat → Nat) (bc : Nat → Nat) (un : Nat → Nat) (eu : Nat → Nat) (li : Nat → Nat) (tb : Nat → Nat → Int64) (cc0 : Nat) (cp : Nat → Nat) (cu : Nat → Nat) (cd : Nat → Nat) (tc : Nat) (ts : Nat → Nat) (tf : Nat → Nat) (ox : Bool) (ow : Nat → Nat) (ob : Nat → Nat) (ra : Nat) (rb : Nat) (gc : Nat) (gr : Nat) (gk : Nat → Nat) (gg : Nat → Nat) (gp : Nat → Nat) (gt : Nat → Nat) (sa : Nat) (sb : Nat) (x : Int32) (y : Int32) (u : Int64) (d : Int64) (hnc : nc ≤ 32) (hcc : cc0 ≤ 4) (heu : ∀ j, eu j < 2 ^ 12) : ct_i l g vwCl (tyS cI cJ cII cJJ) y_ST_common c_ST_common 7 (some .int) ({ frames := 2, cells := 0, slots := 0, locals := 42 } : Room) [.ref (a 0), .int x, .int y, .long u, .long d] (stW a rB rT cI cJ cII cJJ nc nv ng kd vo nu nd en br bc un eu li tb cc0 cp cu cd tc ts tf ox ow ob ra rb gc gr gk gg gp gt sa sb) (if isE nc kd x = true ∧ isE nc kd y = true ∧ ¬ x = y ∧ isD d = true ∧ ¬ u < lN 0 ∧ u ≤ d ∧ cc0 < 4 then (stW a rB rT cI cJ cII cJJ nc nv ng kd vo nu nd en br bc un eu li tb (cc0 + 1) (va_up cp cc0 (eu x.toNatClampNeg ||| eu y.toNatClampNeg)) (va_up cu cc0 (lnat u)) (va_up cd cc0 (lnat d)) tc ts tf ox ow ob ra rb gc gr gk gg gp gt sa sb) else (stW a rB rT cI cJ cII cJJ nc nv ng kd vo nu nd en br bc un eu li tb cc0 cp cu cd tc ts tf ox ow ob ra rb gc gr gk gg gp gt sa sb)) (coR nc kd cc0 x y u d) := by
  refine ct_i.intro (by decide) (Nat.le_of_ble_eq_true rfl) ?_
  intro p e s m args below meth c Q A ls hx hb hml hT hown hA hK hN hret hP hD hS hl
  have hown : s.vm.findClass R_ST = some m.cls := hown
  have hl : lv_has ls 7 [(0, .ref (a 0)), (1, .int x), (2, .int y), (3, .long u), (5, .long d)] := hl
  refine lv_aload_n hx hb d_ST_common_0 rfl (lv_at hl 0 rfl) ?_
  refine va_get (D := g) (ci := 0) (v := .ref (a 1)) (C := R_ST) (T := F_ST) (N := 7) hx hb hT i_ST hown hK hP 0 rfl rfl 0 (by decide) (hT _ tw_223) (fun _ h9 => h9) rfl d_ST_common_1 ?_
  refine lv_iload_n hx hb d_ST_common_4 rfl (lv_at hl 1 rfl) ?_
  refine my_V_i (q0 := 1) (ci := 1) (C := R_No) (As := [.int x]) (n := 1) (k_No_isEvent l g a rB rT cI cJ cII cJJ nc nv ng kd vo nu nd en br bc un eu li tb cc0 cp cu cd tc ts tf ox ow ob ra rb gc gr gk gg gp gt sa sb x hnc) hx hb hml hown hT hN tw_472 tw_473 tw_474 tw_2 tw_475 (by decide +kernel) rfl rfl ⟨Nat.le_of_ble_eq_true rfl, Nat.le_of_ble_eq_true rfl⟩ ⟨Nat.zero_le _, Nat.zero_le _⟩ hK hP hD hS hA rfl rfl rfl hl rfl (Nat.le_of_ble_eq_true rfl) d_ST_common_5 (fun H locs hP hD hS => ?_)
  refine my_if_eq_b (tgt := 22) hx hb d_ST_common_8 (by decide) (fun c_8 => ?_) (fun c_8 => ?_)
  · -- 8: taken
    refine lv_iconst (v := (-1)) hx hb d_ST_common_22 (by decide) ?_
    refine hret _ _ _ _ _ (by rw [if_neg (by intro hh; first | exact absurd (hh.1.symm.trans c_8) (by decide) | exact absurd (hh.2.1.symm.trans c_19) (by decide) | exact hh.2.2.1 c_26 | exact absurd (hh.2.2.2.1.symm.trans c_34) (by decide) | exact hh.2.2.2.2.1 c_39 | exact c_46 hh.2.2.2.2.2.1 | (have := hh.2.2.2.2.2.2; omega))]; exact hP) (by rw [if_neg (by intro hh; first | exact absurd (hh.1.symm.trans c_8) (by decide) | exact absurd (hh.2.1.symm.trans c_19) (by decide) | exact hh.2.2.1 c_26 | exact absurd (hh.2.2.2.1.symm.trans c_34) (by decide) | exact hh.2.2.2.2.1 c_39 | exact c_46 hh.2.2.2.2.2.1 | (have := hh.2.2.2.2.2.2; omega))]; exact hD) hS d_ST_common_23 ?_
    rw [coR, if_pos (by first | exact Or.inl c_8 | exact Or.inr c_19)]
  · -- 8: not taken
    refine lv_aload_n hx hb d_ST_common_11 rfl (lv_at hl 0 rfl) ?_
    refine va_get (D := g) (ci := 0) (v := .ref (a 1)) (C := R_ST) (T := F_ST) (N := 7) hx hb hT i_ST hown hK hP 0 rfl rfl 0 (by decide) (hT _ tw_223) (fun _ h9 => h9) rfl d_ST_common_12 ?_
    refine lv_iload_n hx hb d_ST_common_15 rfl (lv_at hl 2 rfl) ?_
    refine my_V_i (q0 := 1) (ci := 1) (C := R_No) (As := [.int y]) (n := 1) (k_No_isEvent l g a rB rT cI cJ cII cJJ nc nv ng kd vo nu nd en br bc un eu li tb cc0 cp cu cd tc ts tf ox ow ob ra rb gc gr gk gg gp gt sa sb y hnc) hx hb hml hown hT hN tw_472 tw_473 tw_474 tw_2 tw_475 (by decide +kernel) rfl rfl ⟨Nat.le_of_ble_eq_true rfl, Nat.le_of_ble_eq_true rfl⟩ ⟨Nat.zero_le _, Nat.zero_le _⟩ hK hP hD hS hA rfl rfl rfl hl rfl (Nat.le_of_ble_eq_true rfl) d_ST_common_16 (fun H locs hP hD hS => ?_)
    refine my_if_ne_b (tgt := 24) hx hb d_ST_common_19 (by decide) (fun c_19 => ?_) (fun c_19 => ?_)
    · -- 19: taken
      refine lv_iload_n hx hb d_ST_common_24 rfl (lv_at hl 1 rfl) ?_
      refine lv_iload_n hx hb d_ST_common_25 rfl (lv_at hl 2 rfl) ?_
      refine lv_icmp_eq (tgt := 50) hx hb d_ST_common_26 (by decide) (fun c_26 => ?_) (fun c_26 => ?_)
      · -- 26: taken
        refine lv_bipush (v := (-2)) hx hb d_ST_common_50 (by decide) ?_
        refine hret _ _ _ _ _ (by rw [if_neg (by intro hh; first | exact absurd (hh.1.symm.trans c_8) (by decide) | exact absurd (hh.2.1.symm.trans c_19) (by decide) | exact hh.2.2.1 c_26 | exact absurd (hh.2.2.2.1.symm.trans c_34) (by decide) | exact hh.2.2.2.2.1 c_39 | exact c_46 hh.2.2.2.2.2.1 | (have := hh.2.2.2.2.2.2; omega))]; exact hP) (by rw [if_neg (by intro hh; first | exact absurd (hh.1.symm.trans c_8) (by decide) | exact absurd (hh.2.1.symm.trans c_19) (by decide) | exact hh.2.2.1 c_26 | exact absurd (hh.2.2.2.1.symm.trans c_34) (by decide) | exact hh.2.2.2.2.1 c_39 | exact c_46 hh.2.2.2.2.2.1 | (have := hh.2.2.2.2.2.2; omega))]; exact hD) hS d_ST_common_52 ?_
        rw [coR, if_neg (by simp [c_8, c_19]), if_pos (by first | exact Or.inl c_26 | exact Or.inr (Or.inl c_34) | exact Or.inr (Or.inr (Or.inl c_39)) | exact Or.inr (Or.inr (Or.inr c_46)))]
      · -- 26: not taken
        refine lv_lload hx hb d_ST_common_29 (lv_at hl 4 rfl) ?_
        refine my_S_i (As := [.long d]) (n := 1) (k_ST_isDown l g vwCl (tyS cI cJ cII cJJ) (stW a rB rT cI cJ cII cJJ nc nv ng kd vo nu nd en br bc un eu li tb cc0 cp cu cd tc ts tf ox ow ob ra rb gc gr gk gg gp gt sa sb) d ) hx hb hml hown hT hN tw_249 tw_250 tw_1 tw_251 (by decide +kernel) rfl rfl ⟨Nat.le_of_ble_eq_true rfl, Nat.le_of_ble_eq_true rfl⟩ ⟨Nat.zero_le _, Nat.zero_le _⟩ hK hP hD hS hA rfl hl rfl (Nat.le_of_ble_eq_true rfl) d_ST_common_31 (fun H locs hP hD hS => ?_)
        refine my_if_eq_b (tgt := 50) hx hb d_ST_common_34 (by decide) (fun c_34 => ?_) (fun c_34 => ?_)
        · -- 34: taken
          refine lv_bipush (v := (-2)) hx hb d_ST_common_50 (by decide) ?_
          refine hret _ _ _ _ _ (by rw [if_neg (by intro hh; first | exact absurd (hh.1.symm.trans c_8) (by decide) | exact absurd (hh.2.1.symm.trans c_19) (by decide) | exact hh.2.2.1 c_26 | exact absurd (hh.2.2.2.1.symm.trans c_34) (by decide) | exact hh.2.2.2.2.1 c_39 | exact c_46 hh.2.2.2.2.2.1 | (have := hh.2.2.2.2.2.2; omega))]; exact hP) (by rw [if_neg (by intro hh; first | exact absurd (hh.1.symm.trans c_8) (by decide) | exact absurd (hh.2.1.symm.trans c_19) (by decide) | exact hh.2.2.1 c_26 | exact absurd (hh.2.2.2.1.symm.trans c_34) (by decide) | exact hh.2.2.2.2.1 c_39 | exact c_46 hh.2.2.2.2.2.1 | (have := hh.2.2.2.2.2.2; omega))]; exact hD) hS d_ST_common_52 ?_
          rw [coR, if_neg (by simp [c_8, c_19]), if_pos (by first | exact Or.inl c_26 | exact Or.inr (Or.inl c_34) | exact Or.inr (Or.inr (Or.inl c_39)) | exact Or.inr (Or.inr (Or.inr c_46)))]
        · -- 34: not taken
          refine lv_lload_n hx hb d_ST_common_37 rfl (lv_at hl 3 rfl) ?_
          refine lv_lconst (v := (lN 0)) hx hb d_ST_common_38 (by decide) ?_
          refine my_lcmpR_lt (tgt := 50) hx hb d_ST_common_39 d_ST_common_40 (by decide) (fun c_39 => ?_) (fun c_39 => ?_)
          · -- 39: taken
            refine lv_bipush (v := (-2)) hx hb d_ST_common_50 (by decide) ?_
            refine hret _ _ _ _ _ (by rw [if_neg (by intro hh; first | exact absurd (hh.1.symm.trans c_8) (by decide) | exact absurd (hh.2.1.symm.trans c_19) (by decide) | exact hh.2.2.1 c_26 | exact absurd (hh.2.2.2.1.symm.trans c_34) (by decide) | exact hh.2.2.2.2.1 c_39 | exact c_46 hh.2.2.2.2.2.1 | (have := hh.2.2.2.2.2.2; omega))]; exact hP) (by rw [if_neg (by intro hh; first | exact absurd (hh.1.symm.trans c_8) (by decide) | exact absurd (hh.2.1.symm.trans c_19) (by decide) | exact hh.2.2.1 c_26 | exact absurd (hh.2.2.2.1.symm.trans c_34) (by decide) | exact hh.2.2.2.2.1 c_39 | exact c_46 hh.2.2.2.2.2.1 | (have := hh.2.2.2.2.2.2; omega))]; exact hD) hS d_ST_common_52 ?_
            rw [coR, if_neg (by simp [c_8, c_19]), if_pos (by first | exact Or.inl c_26 | exact Or.inr (Or.inl c_34) | exact Or.inr (Or.inr (Or.inl c_39)) | exact Or.inr (Or.inr (Or.inr c_46)))]
          · -- 39: not taken
            refine lv_lload_n hx hb d_ST_common_43 rfl (lv_at hl 3 rfl) ?_
            refine lv_lload hx hb d_ST_common_44 (lv_at hl 4 rfl) ?_
            refine my_lcmpR_le (tgt := 53) hx hb d_ST_common_46 d_ST_common_47 (by decide) (fun c_46 => ?_) (fun c_46 => ?_)
            · -- 46: taken
              refine lv_aload_n hx hb d_ST_common_53 rfl (lv_at hl 0 rfl) ?_
              refine va_get (D := g) (ci := 0) (v := .ref (a 3)) (C := R_ST) (T := F_ST) (N := 7) hx hb hT i_ST hown hK hP 0 rfl rfl 2 (by decide) (hT _ tw_225) (fun _ h9 => h9) rfl d_ST_common_54 ?_
              refine va_getN (D := g) (ci := 3) (v := .int (nI cc0)) (C := R_Ca) (T := F_Ca) (N := 4) hx hb hT i_Ca hown hK hP 3 rfl rfl 0 (by decide) (va_Nw.use rfl (hN _ tw_119)) (fun _ h9 => h9) rfl d_ST_common_57 ?_
              refine lv_iconst (v := (nI 4)) hx hb d_ST_common_60 (by decide) ?_
              refine my_icmp_lt (tgt := 67) (a := cc0) (b := 4) hx hb d_ST_common_61 (by decide) (by omega) (by omega) (fun c_61 => ?_) (fun c_61 => ?_)
              · -- 61: taken
                obtain ⟨x1, hx1, hx2, rfl⟩ := isE_nat hnc c_8
                obtain ⟨y1, hy1, hy2, rfl⟩ := isE_nat hnc c_19
                obtain ⟨d1, hd1, hd2, rfl⟩ := isD_nat c_34
                obtain ⟨u1, hu1, rfl⟩ := u_nat c_39 c_46 (by omega)
                have hkc : (nI x1).toNatClampNeg = x1 := nI_clamp (by omega)
                have hkc2 : (nI y1).toNatClampNeg = y1 := nI_clamp (by omega)
                have hkc3 : lnat (lN d1) = d1 := lnat_lN (by omega)
                have hkc4 : lnat (lN u1) = u1 := lnat_lN (by omega)
                simp only [hkc, hkc2, hkc3, hkc4] at hret
                refine lv_aload_n hx hb d_ST_common_67 rfl (lv_at hl 0 rfl) ?_
                refine va_get (D := g) (ci := 0) (v := .ref (a 3)) (C := R_ST) (T := F_ST) (N := 7) hx hb hT i_ST hown hK hP 0 rfl rfl 2 (by decide) (hT _ tw_225) (fun _ h9 => h9) rfl d_ST_common_68 ?_
                refine lv_aload_n hx hb d_ST_common_71 rfl (lv_at hl 0 rfl) ?_
                refine va_get (D := g) (ci := 0) (v := .ref (a 1)) (C := R_ST) (T := F_ST) (N := 7) hx hb hT i_ST hown hK hP 0 rfl rfl 0 (by decide) (hT _ tw_223) (fun _ h9 => h9) rfl d_ST_common_72 ?_
                refine va_getN (D := g) (ci := 1) (v := .ref (a 17)) (C := R_No) (T := F_No) (N := 13) hx hb hT i_No hown hK hP 1 rfl rfl 11 (by decide) (va_Nw.use rfl (hN _ tw_63)) (fun _ h9 => h9) rfl d_ST_common_75 ?_
                refine lv_iload_n hx hb d_ST_common_78 rfl (lv_at hl 1 rfl) ?_
                refine my_iald (v := (nI (eu x1))) (i := x1) hx hb hK hP 17 0 rfl rfl (by omega) (by decide) rfl d_ST_common_79 ?_
                refine lv_aload_n hx hb d_ST_common_80 rfl (lv_at hl 0 rfl) ?_
                refine va_get (D := g) (ci := 0) (v := .ref (a 1)) (C := R_ST) (T := F_ST) (N := 7) hx hb hT i_ST hown hK hP 0 rfl rfl 0 (by decide) (hT _ tw_223) (fun _ h9 => h9) rfl d_ST_common_81 ?_
                refine va_getN (D := g) (ci := 1) (v := .ref (a 17)) (C := R_No) (T := F_No) (N := 13) hx hb hT i_No hown hK hP 1 rfl rfl 11 (by decide) (va_Nw.use rfl (hN _ tw_63)) (fun _ h9 => h9) rfl d_ST_common_84 ?_
                refine lv_iload_n hx hb d_ST_common_87 rfl (lv_at hl 2 rfl) ?_
                refine my_iald (v := (nI (eu y1))) (i := y1) hx hb hK hP 17 0 rfl rfl (by omega) (by decide) rfl d_ST_common_88 ?_
                refine lv_ior hx hb d_ST_common_89 ?_
                refine my_ei (nx_or (eu x1) (eu y1)) ?_
                refine lv_lload_n hx hb d_ST_common_90 rfl (lv_at hl 3 rfl) ?_
                refine lv_lload hx hb d_ST_common_91 (lv_at hl 4 rfl) ?_
                refine my_V_i (q0 := 3) (ci := 3) (C := R_Ca) (As := [.int (nI ((eu x1) ||| (eu y1))), .long (lN u1), .long (lN d1)]) (n := 3) (k_Ca_add l g a rB rT cI cJ cII cJJ nc nv ng kd vo nu nd en br bc un eu li tb cc0 cp cu cd tc ts tf ox ow ob ra rb gc gr gk gg gp gt sa sb ((eu x1) ||| (eu y1)) u1 d1 (by omega)) hx hb hml hown hT hN tw_476 tw_477 tw_478 tw_4 tw_479 (by decide +kernel) rfl rfl ⟨Nat.le_of_ble_eq_true rfl, Nat.le_of_ble_eq_true rfl⟩ ⟨Nat.zero_le _, Nat.zero_le _⟩ hK hP hD hS hA rfl rfl rfl hl rfl (Nat.le_of_ble_eq_true rfl) d_ST_common_93 (fun H locs hP hD hS => ?_)
                refine hret _ _ _ _ _ (by rw [if_pos ⟨c_8, c_19, c_26, c_34, c_39, c_46, c_61⟩]; exact hP) (by rw [if_pos ⟨c_8, c_19, c_26, c_34, c_39, c_46, c_61⟩]; exact hD) hS d_ST_common_96 ?_
                rw [coR, if_neg (by simp [c_8, c_19]), if_neg (by intro hh; rcases hh with hh | hh | hh | hh; exact c_26 hh; exact absurd (hh.symm.trans c_34) (by decide); exact c_39 hh; exact hh c_46), if_neg (by omega)]
              · -- 61: not taken
                refine lv_bipush (v := (-4)) hx hb d_ST_common_64 (by decide) ?_
                refine hret _ _ _ _ _ (by rw [if_neg (by intro hh; first | exact absurd (hh.1.symm.trans c_8) (by decide) | exact absurd (hh.2.1.symm.trans c_19) (by decide) | exact hh.2.2.1 c_26 | exact absurd (hh.2.2.2.1.symm.trans c_34) (by decide) | exact hh.2.2.2.2.1 c_39 | exact c_46 hh.2.2.2.2.2.1 | (have := hh.2.2.2.2.2.2; omega))]; exact hP) (by rw [if_neg (by intro hh; first | exact absurd (hh.1.symm.trans c_8) (by decide) | exact absurd (hh.2.1.symm.trans c_19) (by decide) | exact hh.2.2.1 c_26 | exact absurd (hh.2.2.2.1.symm.trans c_34) (by decide) | exact hh.2.2.2.2.1 c_39 | exact c_46 hh.2.2.2.2.2.1 | (have := hh.2.2.2.2.2.2; omega))]; exact hD) hS d_ST_common_66 ?_
                rw [coR, if_neg (by simp [c_8, c_19]), if_neg (by intro hh; rcases hh with hh | hh | hh | hh; exact c_26 hh; exact absurd (hh.symm.trans c_34) (by decide); exact c_39 hh; exact hh c_46), if_pos (by omega)]
            · -- 46: not taken
              refine lv_bipush (v := (-2)) hx hb d_ST_common_50 (by decide) ?_
              refine hret _ _ _ _ _ (by rw [if_neg (by intro hh; first | exact absurd (hh.1.symm.trans c_8) (by decide) | exact absurd (hh.2.1.symm.trans c_19) (by decide) | exact hh.2.2.1 c_26 | exact absurd (hh.2.2.2.1.symm.trans c_34) (by decide) | exact hh.2.2.2.2.1 c_39 | exact c_46 hh.2.2.2.2.2.1 | (have := hh.2.2.2.2.2.2; omega))]; exact hP) (by rw [if_neg (by intro hh; first | exact absurd (hh.1.symm.trans c_8) (by decide) | exact absurd (hh.2.1.symm.trans c_19) (by decide) | exact hh.2.2.1 c_26 | exact absurd (hh.2.2.2.1.symm.trans c_34) (by decide) | exact hh.2.2.2.2.1 c_39 | exact c_46 hh.2.2.2.2.2.1 | (have := hh.2.2.2.2.2.2; omega))]; exact hD) hS d_ST_common_52 ?_
              rw [coR, if_neg (by simp [c_8, c_19]), if_pos (by first | exact Or.inl c_26 | exact Or.inr (Or.inl c_34) | exact Or.inr (Or.inr (Or.inl c_39)) | exact Or.inr (Or.inr (Or.inr c_46)))]
    · -- 19: not taken
      refine lv_iconst (v := (-1)) hx hb d_ST_common_22 (by decide) ?_
      refine hret _ _ _ _ _ (by rw [if_neg (by intro hh; first | exact absurd (hh.1.symm.trans c_8) (by decide) | exact absurd (hh.2.1.symm.trans c_19) (by decide) | exact hh.2.2.1 c_26 | exact absurd (hh.2.2.2.1.symm.trans c_34) (by decide) | exact hh.2.2.2.2.1 c_39 | exact c_46 hh.2.2.2.2.2.1 | (have := hh.2.2.2.2.2.2; omega))]; exact hP) (by rw [if_neg (by intro hh; first | exact absurd (hh.1.symm.trans c_8) (by decide) | exact absurd (hh.2.1.symm.trans c_19) (by decide) | exact hh.2.2.1 c_26 | exact absurd (hh.2.2.2.1.symm.trans c_34) (by decide) | exact hh.2.2.2.2.1 c_39 | exact c_46 hh.2.2.2.2.2.1 | (have := hh.2.2.2.2.2.2; omega))]; exact hD) hS d_ST_common_23 ?_
      rw [coR, if_pos (by first | exact Or.inl c_8 | exact Or.inr c_19)]
set_option maxHeartbeats 4000000 in
set_option maxRecDepth 100000 in
theorem k_ST_chance (l : Launch) (g : va_G) (a rB rT : Nat → Nat) (cI cJ cII cJJ : ClassId) (nc : Nat) (nv : Nat) (ng : Nat) (kd : Nat → Int32) (vo : Nat → Nat) (nu : Nat → Nat) (nd : Nat → Nat) (en : Nat → Nat) (br : Nat → Nat → Nat) (bc : Nat → Nat) (un : Nat → Nat) (eu : Nat → Nat) (li : Nat → Nat) (tb : Nat → Nat → Int64) (cc0 : Nat) (cp : Nat → Nat) (cu : Nat → Nat) (cd : Nat → Nat) (tc : Nat) (ts : Nat → Nat) (tf : Nat → Nat) (ox : Bool) (ow : Nat → Nat) (ob : Nat → Nat) (ra : Nat) (rb : Nat) (gc : Nat) (gr : Nat) (gk : Nat → Nat) (gg : Nat → Nat) (gp : Nat → Nat) (gt : Nat → Nat) (sa : Nat) (sb : Nat) (x : Int32) (z : Int32) (hnc : nc ≤ 32) (hun : ∀ j, un j < 2 ^ 33) (heu : ∀ j, eu j < 2 ^ 12) (hbc : ∀ j, bc j ≤ 10) (hbr : ∀ j i, br j i ≤ 32) (hvo : ∀ j, vo j ≤ 10) (hcc : cc0 ≤ 4) (hnv : nv ≤ 12) (hcp : ∀ j, cp j < 4096) (hcud : ∀ j, cu j ≤ cd j) (hen : ∀ j, en j ≤ 32) (hnud : ∀ j, nu j ≤ nd j) (hnd : ∀ j, nd j ≤ 10) (hcd : ∀ j, cd j ≤ 10) (hob : ∀ j, ob j ≤ 2520) (hlim : isG nc kd x = true → popc (eu x.toNatClampNeg) 12 + cT cp (eu x.toNatClampNeg) cc0 ≤ 14 → (evF (eu x.toNatClampNeg) en eu nu nd (ceF (eu x.toNatClampNeg) cp cu cd (wsF (fsF tb br kd vo bc (luS (luC nc kd un x.toNatClampNeg) nc (0, li) 33).2 (eu x.toNatClampNeg / 2 ^ 6) (luS (luC nc kd un x.toNatClampNeg) nc (0, li) 33).1) x.toNatClampNeg (eu x.toNatClampNeg) ow (2 ^ popc (eu x.toNatClampNeg) 12)) cc0) nv).1 0 < 2 ^ 62 ∧ (evF (eu x.toNatClampNeg) en eu nu nd (ceF (eu x.toNatClampNeg) cp cu cd (wsF (fsF tb br kd vo bc (luS (luC nc kd un x.toNatClampNeg) nc (0, li) 33).2 (eu x.toNatClampNeg / 2 ^ 6) (luS (luC nc kd un x.toNatClampNeg) nc (0, li) 33).1) x.toNatClampNeg (eu x.toNatClampNeg) ow (2 ^ popc (eu x.toNatClampNeg) 12)) cc0) nv).2.1 < 2 ^ 62 ∧ 0 < (evF (eu x.toNatClampNeg) en eu nu nd (ceF (eu x.toNatClampNeg) cp cu cd (wsF (fsF tb br kd vo bc (luS (luC nc kd un x.toNatClampNeg) nc (0, li) 33).2 (eu x.toNatClampNeg / 2 ^ 6) (luS (luC nc kd un x.toNatClampNeg) nc (0, li) 33).1) x.toNatClampNeg (eu x.toNatClampNeg) ow (2 ^ popc (eu x.toNatClampNeg) 12)) cc0) nv).2.1) : ct_l l g vwCl (tyS cI cJ cII cJJ) y_ST_chance c_ST_chance 3 (some .long) ({ frames := 7, cells := 0, slots := 0, locals := 182 } : Room) [.ref (a 0), .int x, .int z] (stW a rB rT cI cJ cII cJJ nc nv ng kd vo nu nd en br bc un eu li tb cc0 cp cu cd tc ts tf ox ow ob ra rb gc gr gk gg gp gt sa sb) (if isG nc kd x = true ∧ popc (eu x.toNatClampNeg) 12 + cT cp (eu x.toNatClampNeg) cc0 ≤ 14 then (stW a rB rT cI cJ cII cJJ nc nv ng kd vo nu nd en br bc un eu ((luS (luC nc kd un x.toNatClampNeg) nc (0, li) 33).2) (fsF tb br kd vo bc (luS (luC nc kd un x.toNatClampNeg) nc (0, li) 33).2 (eu x.toNatClampNeg / 2 ^ 6) (luS (luC nc kd un x.toNatClampNeg) nc (0, li) 33).1) cc0 cp cu cd tc ts tf true ((evF (eu x.toNatClampNeg) en eu nu nd (ceF (eu x.toNatClampNeg) cp cu cd (wsF (fsF tb br kd vo bc (luS (luC nc kd un x.toNatClampNeg) nc (0, li) 33).2 (eu x.toNatClampNeg / 2 ^ 6) (luS (luC nc kd un x.toNatClampNeg) nc (0, li) 33).1) x.toNatClampNeg (eu x.toNatClampNeg) ow (2 ^ popc (eu x.toNatClampNeg) 12)) cc0) nv).1) ob ((evF (eu x.toNatClampNeg) en eu nu nd (ceF (eu x.toNatClampNeg) cp cu cd (wsF (fsF tb br kd vo bc (luS (luC nc kd un x.toNatClampNeg) nc (0, li) 33).2 (eu x.toNatClampNeg / 2 ^ 6) (luS (luC nc kd un x.toNatClampNeg) nc (0, li) 33).1) x.toNatClampNeg (eu x.toNatClampNeg) ow (2 ^ popc (eu x.toNatClampNeg) 12)) cc0) nv).1 0 / cdF 100 ((evF (eu x.toNatClampNeg) en eu nu nd (ceF (eu x.toNatClampNeg) cp cu cd (wsF (fsF tb br kd vo bc (luS (luC nc kd un x.toNatClampNeg) nc (0, li) 33).2 (eu x.toNatClampNeg / 2 ^ 6) (luS (luC nc kd un x.toNatClampNeg) nc (0, li) 33).1) x.toNatClampNeg (eu x.toNatClampNeg) ow (2 ^ popc (eu x.toNatClampNeg) 12)) cc0) nv).1 0) (evF (eu x.toNatClampNeg) en eu nu nd (ceF (eu x.toNatClampNeg) cp cu cd (wsF (fsF tb br kd vo bc (luS (luC nc kd un x.toNatClampNeg) nc (0, li) 33).2 (eu x.toNatClampNeg / 2 ^ 6) (luS (luC nc kd un x.toNatClampNeg) nc (0, li) 33).1) x.toNatClampNeg (eu x.toNatClampNeg) ow (2 ^ popc (eu x.toNatClampNeg) 12)) cc0) nv).2.1) ((evF (eu x.toNatClampNeg) en eu nu nd (ceF (eu x.toNatClampNeg) cp cu cd (wsF (fsF tb br kd vo bc (luS (luC nc kd un x.toNatClampNeg) nc (0, li) 33).2 (eu x.toNatClampNeg / 2 ^ 6) (luS (luC nc kd un x.toNatClampNeg) nc (0, li) 33).1) x.toNatClampNeg (eu x.toNatClampNeg) ow (2 ^ popc (eu x.toNatClampNeg) 12)) cc0) nv).2.1 / cdF 100 ((evF (eu x.toNatClampNeg) en eu nu nd (ceF (eu x.toNatClampNeg) cp cu cd (wsF (fsF tb br kd vo bc (luS (luC nc kd un x.toNatClampNeg) nc (0, li) 33).2 (eu x.toNatClampNeg / 2 ^ 6) (luS (luC nc kd un x.toNatClampNeg) nc (0, li) 33).1) x.toNatClampNeg (eu x.toNatClampNeg) ow (2 ^ popc (eu x.toNatClampNeg) 12)) cc0) nv).1 0) (evF (eu x.toNatClampNeg) en eu nu nd (ceF (eu x.toNatClampNeg) cp cu cd (wsF (fsF tb br kd vo bc (luS (luC nc kd un x.toNatClampNeg) nc (0, li) 33).2 (eu x.toNatClampNeg / 2 ^ 6) (luS (luC nc kd un x.toNatClampNeg) nc (0, li) 33).1) x.toNatClampNeg (eu x.toNatClampNeg) ow (2 ^ popc (eu x.toNatClampNeg) 12)) cc0) nv).2.1) gc gr gk gg gp gt sa sb) else (if isG nc kd x = true then (stW a rB rT cI cJ cII cJJ nc nv ng kd vo nu nd en br bc un eu ((luS (luC nc kd un x.toNatClampNeg) nc (0, li) 33).2) tb cc0 cp cu cd tc ts tf false ow (bgF br bc vo kd (luS (luC nc kd un x.toNatClampNeg) nc (0, li) 33).2 (beF (fun z => mnF (ebF nu nd eu cp cu cd z cc0) 2520) en ob nv) (luS (luC nc kd un x.toNatClampNeg) nc (0, li) 33).1) ((bgF br bc vo kd (luS (luC nc kd un x.toNatClampNeg) nc (0, li) 33).2 (beF (fun z => mnF (ebF nu nd eu cp cu cd z cc0) 2520) en ob nv) (luS (luC nc kd un x.toNatClampNeg) nc (0, li) 33).1) x.toNatClampNeg / cdF 100 ((bgF br bc vo kd (luS (luC nc kd un x.toNatClampNeg) nc (0, li) 33).2 (beF (fun z => mnF (ebF nu nd eu cp cu cd z cc0) 2520) en ob nv) (luS (luC nc kd un x.toNatClampNeg) nc (0, li) 33).1) x.toNatClampNeg) 2520) (2520 / cdF 100 ((bgF br bc vo kd (luS (luC nc kd un x.toNatClampNeg) nc (0, li) 33).2 (beF (fun z => mnF (ebF nu nd eu cp cu cd z cc0) 2520) en ob nv) (luS (luC nc kd un x.toNatClampNeg) nc (0, li) 33).1) x.toNatClampNeg) 2520) gc gr gk gg gp gt sa sb) else (stW a rB rT cI cJ cII cJJ nc nv ng kd vo nu nd en br bc un eu li tb cc0 cp cu cd tc ts tf ox ow ob ra rb gc gr gk gg gp gt sa sb))) (if isG nc kd x = false then (-1) else if popc (eu x.toNatClampNeg) 12 + cT cp (eu x.toNatClampNeg) cc0 ≤ 14 then lN (if z = 0 then ((evF (eu x.toNatClampNeg) en eu nu nd (ceF (eu x.toNatClampNeg) cp cu cd (wsF (fsF tb br kd vo bc (luS (luC nc kd un x.toNatClampNeg) nc (0, li) 33).2 (eu x.toNatClampNeg / 2 ^ 6) (luS (luC nc kd un x.toNatClampNeg) nc (0, li) 33).1) x.toNatClampNeg (eu x.toNatClampNeg) ow (2 ^ popc (eu x.toNatClampNeg) 12)) cc0) nv).1 0 / cdF 100 ((evF (eu x.toNatClampNeg) en eu nu nd (ceF (eu x.toNatClampNeg) cp cu cd (wsF (fsF tb br kd vo bc (luS (luC nc kd un x.toNatClampNeg) nc (0, li) 33).2 (eu x.toNatClampNeg / 2 ^ 6) (luS (luC nc kd un x.toNatClampNeg) nc (0, li) 33).1) x.toNatClampNeg (eu x.toNatClampNeg) ow (2 ^ popc (eu x.toNatClampNeg) 12)) cc0) nv).1 0) (evF (eu x.toNatClampNeg) en eu nu nd (ceF (eu x.toNatClampNeg) cp cu cd (wsF (fsF tb br kd vo bc (luS (luC nc kd un x.toNatClampNeg) nc (0, li) 33).2 (eu x.toNatClampNeg / 2 ^ 6) (luS (luC nc kd un x.toNatClampNeg) nc (0, li) 33).1) x.toNatClampNeg (eu x.toNatClampNeg) ow (2 ^ popc (eu x.toNatClampNeg) 12)) cc0) nv).2.1) else ((evF (eu x.toNatClampNeg) en eu nu nd (ceF (eu x.toNatClampNeg) cp cu cd (wsF (fsF tb br kd vo bc (luS (luC nc kd un x.toNatClampNeg) nc (0, li) 33).2 (eu x.toNatClampNeg / 2 ^ 6) (luS (luC nc kd un x.toNatClampNeg) nc (0, li) 33).1) x.toNatClampNeg (eu x.toNatClampNeg) ow (2 ^ popc (eu x.toNatClampNeg) 12)) cc0) nv).2.1 / cdF 100 ((evF (eu x.toNatClampNeg) en eu nu nd (ceF (eu x.toNatClampNeg) cp cu cd (wsF (fsF tb br kd vo bc (luS (luC nc kd un x.toNatClampNeg) nc (0, li) 33).2 (eu x.toNatClampNeg / 2 ^ 6) (luS (luC nc kd un x.toNatClampNeg) nc (0, li) 33).1) x.toNatClampNeg (eu x.toNatClampNeg) ow (2 ^ popc (eu x.toNatClampNeg) 12)) cc0) nv).1 0) (evF (eu x.toNatClampNeg) en eu nu nd (ceF (eu x.toNatClampNeg) cp cu cd (wsF (fsF tb br kd vo bc (luS (luC nc kd un x.toNatClampNeg) nc (0, li) 33).2 (eu x.toNatClampNeg / 2 ^ 6) (luS (luC nc kd un x.toNatClampNeg) nc (0, li) 33).1) x.toNatClampNeg (eu x.toNatClampNeg) ow (2 ^ popc (eu x.toNatClampNeg) 12)) cc0) nv).2.1)) else lN (if z = 0 then ((bgF br bc vo kd (luS (luC nc kd un x.toNatClampNeg) nc (0, li) 33).2 (beF (fun z => mnF (ebF nu nd eu cp cu cd z cc0) 2520) en ob nv) (luS (luC nc kd un x.toNatClampNeg) nc (0, li) 33).1) x.toNatClampNeg / cdF 100 ((bgF br bc vo kd (luS (luC nc kd un x.toNatClampNeg) nc (0, li) 33).2 (beF (fun z => mnF (ebF nu nd eu cp cu cd z cc0) 2520) en ob nv) (luS (luC nc kd un x.toNatClampNeg) nc (0, li) 33).1) x.toNatClampNeg) 2520) else (2520 / cdF 100 ((bgF br bc vo kd (luS (luC nc kd un x.toNatClampNeg) nc (0, li) 33).2 (beF (fun z => mnF (ebF nu nd eu cp cu cd z cc0) 2520) en ob nv) (luS (luC nc kd un x.toNatClampNeg) nc (0, li) 33).1) x.toNatClampNeg) 2520))) := by
  refine ct_l.intro (by decide) (Nat.le_of_ble_eq_true rfl) ?_
  intro p e s m args below meth c Q A ls hx hb hml hT hown hA hK hN hret hP hD hS hl
  have hown : s.vm.findClass R_ST = some m.cls := hown
  have hl : lv_has ls 3 [(0, .ref (a 0)), (1, .int x), (2, .int z)] := hl
  refine lv_aload_n hx hb d_ST_chance_0 rfl (lv_at hl 0 rfl) ?_
  refine va_get (D := g) (ci := 0) (v := .ref (a 1)) (C := R_ST) (T := F_ST) (N := 7) hx hb hT i_ST hown hK hP 0 rfl rfl 0 (by decide) (hT _ tw_223) (fun _ h9 => h9) rfl d_ST_chance_1 ?_
  refine lv_iload_n hx hb d_ST_chance_4 rfl (lv_at hl 1 rfl) ?_
  refine my_V_i (q0 := 1) (ci := 1) (C := R_No) (As := [.int x]) (n := 1) (k_No_isGate l g a rB rT cI cJ cII cJJ nc nv ng kd vo nu nd en br bc un eu li tb cc0 cp cu cd tc ts tf ox ow ob ra rb gc gr gk gg gp gt sa sb x hnc) hx hb hml hown hT hN tw_288 tw_289 tw_290 tw_2 tw_291 (by decide +kernel) rfl rfl ⟨Nat.le_of_ble_eq_true rfl, Nat.le_of_ble_eq_true rfl⟩ ⟨Nat.zero_le _, Nat.zero_le _⟩ hK hP hD hS hA rfl rfl rfl hl rfl (Nat.le_of_ble_eq_true rfl) d_ST_chance_5 (fun H locs hP hD hS => ?_)
  refine my_if_ne_b (tgt := 15) hx hb d_ST_chance_8 (by decide) (fun c_8 => ?_) (fun c_8 => ?_)
  · -- 8: taken
    obtain ⟨x1, hx11, hx12, rfl⟩ := isG_nat hnc c_8
    have hkc : (nI x1).toNatClampNeg = x1 := nI_clamp (by omega)
    simp only [hkc] at hret
    simp only [hkc] at hlim
    refine lv_aload_n hx hb d_ST_chance_15 rfl (lv_at hl 0 rfl) ?_
    refine va_get (D := g) (ci := 0) (v := .ref (a 5)) (C := R_ST) (T := F_ST) (N := 7) hx hb hT i_ST hown hK hP 0 rfl rfl 4 (by decide) (hT _ tw_227) (fun _ h9 => h9) rfl d_ST_chance_16 ?_
    refine lv_iload_n hx hb d_ST_chance_19 rfl (lv_at hl 1 rfl) ?_
    refine my_V_v (q0 := 5) (ci := 5) (C := R_Od) (As := [.int (nI x1)]) (n := 1) (k_Od_work l g a rB rT cI cJ cII cJJ nc nv ng kd vo nu nd en br bc un eu li tb cc0 cp cu cd tc ts tf ox ow ob ra rb gc gr gk gg gp gt sa sb x1 (by omega) hnc hun heu hbc hbr hvo hcc hnv hcp hcud hen hnud hnd hcd hob (hlim c_8)) hx hb hml hown hT hN tw_401 tw_402 tw_403 tw_6 tw_404 (by decide +kernel) rfl rfl ⟨Nat.le_of_ble_eq_true rfl, Nat.le_of_ble_eq_true rfl⟩ ⟨Nat.zero_le _, Nat.zero_le _⟩ hK hP hD hS hA rfl rfl rfl hl rfl (Nat.le_of_ble_eq_true rfl) d_ST_chance_20 (fun H locs hP hD hS => ?_)
    by_cases hO_20 : popc (eu x1) 12 + cT cp (eu x1) cc0 ≤ 14
    · rw [if_pos hO_20] at hP hD
      refine lv_aload_n hx hb d_ST_chance_23 rfl (lv_at hl 0 rfl) ?_
      refine va_get (D := g) (ci := 0) (v := .ref (a 5)) (C := R_ST) (T := F_ST) (N := 7) hx hb hT i_ST hown hK hP 0 rfl rfl 4 (by decide) (hT _ tw_227) (fun _ h9 => h9) rfl d_ST_chance_24 ?_
      refine va_getN (D := g) (ci := 5) (v := .ref (a 8)) (C := R_Od) (T := F_Od) (N := 7) hx hb hT i_Od hown hK hP 5 rfl rfl 3 (by decide) (va_Nw.use rfl (hN _ tw_174)) (fun _ h9 => h9) rfl d_ST_chance_27 ?_
      refine lv_iload_n hx hb d_ST_chance_30 rfl (lv_at hl 2 rfl) ?_
      refine my_V_l (q0 := 8) (ci := 7) (C := R_Fr) (As := [.int z]) (n := 1) (k_Fr_side8 l g a rB rT cI cJ cII cJJ nc nv ng kd vo nu nd en br bc un eu ((luS (luC nc kd un x1) nc (0, li) 33).2) (fsF tb br kd vo bc (luS (luC nc kd un x1) nc (0, li) 33).2 (eu x1 / 2 ^ 6) (luS (luC nc kd un x1) nc (0, li) 33).1) cc0 cp cu cd tc ts tf true ((evF (eu x1) en eu nu nd (ceF (eu x1) cp cu cd (wsF (fsF tb br kd vo bc (luS (luC nc kd un x1) nc (0, li) 33).2 (eu x1 / 2 ^ 6) (luS (luC nc kd un x1) nc (0, li) 33).1) x1 (eu x1) ow (2 ^ popc (eu x1) 12)) cc0) nv).1) ob ((evF (eu x1) en eu nu nd (ceF (eu x1) cp cu cd (wsF (fsF tb br kd vo bc (luS (luC nc kd un x1) nc (0, li) 33).2 (eu x1 / 2 ^ 6) (luS (luC nc kd un x1) nc (0, li) 33).1) x1 (eu x1) ow (2 ^ popc (eu x1) 12)) cc0) nv).1 0 / cdF 100 ((evF (eu x1) en eu nu nd (ceF (eu x1) cp cu cd (wsF (fsF tb br kd vo bc (luS (luC nc kd un x1) nc (0, li) 33).2 (eu x1 / 2 ^ 6) (luS (luC nc kd un x1) nc (0, li) 33).1) x1 (eu x1) ow (2 ^ popc (eu x1) 12)) cc0) nv).1 0) (evF (eu x1) en eu nu nd (ceF (eu x1) cp cu cd (wsF (fsF tb br kd vo bc (luS (luC nc kd un x1) nc (0, li) 33).2 (eu x1 / 2 ^ 6) (luS (luC nc kd un x1) nc (0, li) 33).1) x1 (eu x1) ow (2 ^ popc (eu x1) 12)) cc0) nv).2.1) ((evF (eu x1) en eu nu nd (ceF (eu x1) cp cu cd (wsF (fsF tb br kd vo bc (luS (luC nc kd un x1) nc (0, li) 33).2 (eu x1 / 2 ^ 6) (luS (luC nc kd un x1) nc (0, li) 33).1) x1 (eu x1) ow (2 ^ popc (eu x1) 12)) cc0) nv).2.1 / cdF 100 ((evF (eu x1) en eu nu nd (ceF (eu x1) cp cu cd (wsF (fsF tb br kd vo bc (luS (luC nc kd un x1) nc (0, li) 33).2 (eu x1 / 2 ^ 6) (luS (luC nc kd un x1) nc (0, li) 33).1) x1 (eu x1) ow (2 ^ popc (eu x1) 12)) cc0) nv).1 0) (evF (eu x1) en eu nu nd (ceF (eu x1) cp cu cd (wsF (fsF tb br kd vo bc (luS (luC nc kd un x1) nc (0, li) 33).2 (eu x1 / 2 ^ 6) (luS (luC nc kd un x1) nc (0, li) 33).1) x1 (eu x1) ow (2 ^ popc (eu x1) 12)) cc0) nv).2.1) gc gr gk gg gp gt sa sb z ) hx hb hml hown hT hN tw_460 tw_461 tw_462 tw_7 tw_463 (by decide +kernel) rfl rfl ⟨Nat.le_of_ble_eq_true rfl, Nat.le_of_ble_eq_true rfl⟩ ⟨Nat.zero_le _, Nat.zero_le _⟩ hK hP hD hS hA rfl rfl rfl hl rfl (Nat.le_of_ble_eq_true rfl) d_ST_chance_31 (fun H locs hP hD hS => ?_)
      refine hret _ _ _ _ _ (by rw [if_pos ⟨c_8, hO_20⟩]; exact hP) (by rw [if_pos ⟨c_8, hO_20⟩]; exact hD) hS d_ST_chance_34 ?_
      rw [if_neg (show ¬ isG nc kd (nI x1) = false by simp [c_8]), if_pos hO_20]
    rw [if_neg hO_20] at hP hD
    refine lv_aload_n hx hb d_ST_chance_23 rfl (lv_at hl 0 rfl) ?_
    refine va_get (D := g) (ci := 0) (v := .ref (a 5)) (C := R_ST) (T := F_ST) (N := 7) hx hb hT i_ST hown hK hP 0 rfl rfl 4 (by decide) (hT _ tw_227) (fun _ h9 => h9) rfl d_ST_chance_24 ?_
    refine va_getN (D := g) (ci := 5) (v := .ref (a 8)) (C := R_Od) (T := F_Od) (N := 7) hx hb hT i_Od hown hK hP 5 rfl rfl 3 (by decide) (va_Nw.use rfl (hN _ tw_174)) (fun _ h9 => h9) rfl d_ST_chance_27 ?_
    refine lv_iload_n hx hb d_ST_chance_30 rfl (lv_at hl 2 rfl) ?_
    refine my_V_l (q0 := 8) (ci := 7) (C := R_Fr) (As := [.int z]) (n := 1) (k_Fr_side8 l g a rB rT cI cJ cII cJJ nc nv ng kd vo nu nd en br bc un eu ((luS (luC nc kd un x1) nc (0, li) 33).2) tb cc0 cp cu cd tc ts tf false ow (bgF br bc vo kd (luS (luC nc kd un x1) nc (0, li) 33).2 (beF (fun z => mnF (ebF nu nd eu cp cu cd z cc0) 2520) en ob nv) (luS (luC nc kd un x1) nc (0, li) 33).1) ((bgF br bc vo kd (luS (luC nc kd un x1) nc (0, li) 33).2 (beF (fun z => mnF (ebF nu nd eu cp cu cd z cc0) 2520) en ob nv) (luS (luC nc kd un x1) nc (0, li) 33).1) x1 / cdF 100 ((bgF br bc vo kd (luS (luC nc kd un x1) nc (0, li) 33).2 (beF (fun z => mnF (ebF nu nd eu cp cu cd z cc0) 2520) en ob nv) (luS (luC nc kd un x1) nc (0, li) 33).1) x1) 2520) (2520 / cdF 100 ((bgF br bc vo kd (luS (luC nc kd un x1) nc (0, li) 33).2 (beF (fun z => mnF (ebF nu nd eu cp cu cd z cc0) 2520) en ob nv) (luS (luC nc kd un x1) nc (0, li) 33).1) x1) 2520) gc gr gk gg gp gt sa sb z ) hx hb hml hown hT hN tw_460 tw_461 tw_462 tw_7 tw_463 (by decide +kernel) rfl rfl ⟨Nat.le_of_ble_eq_true rfl, Nat.le_of_ble_eq_true rfl⟩ ⟨Nat.zero_le _, Nat.zero_le _⟩ hK hP hD hS hA rfl rfl rfl hl rfl (Nat.le_of_ble_eq_true rfl) d_ST_chance_31 (fun H locs hP hD hS => ?_)
    refine hret _ _ _ _ _ (by rw [if_neg (by intro hh; exact hO_20 hh.2), if_pos c_8]; exact hP) (by rw [if_neg (by intro hh; exact hO_20 hh.2), if_pos c_8]; exact hD) hS d_ST_chance_34 ?_
    rw [if_neg (show ¬ isG nc kd (nI x1) = false by simp [c_8]), if_neg hO_20]
  · -- 8: not taken
    refine lv_ldc2 (v := (-1)) hx hb hown (hT _ tw_400) d_ST_chance_11 ?_
    refine hret _ _ _ _ _ (by rw [if_neg (by simp [c_8]), if_neg (by simp [c_8])]; exact hP) (by rw [if_neg (by simp [c_8]), if_neg (by simp [c_8])]; exact hD) hS d_ST_chance_14 ?_
    rw [if_pos c_8]
