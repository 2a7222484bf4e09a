section LWH
variable {p : Program} {l : Launch} {e : Env} {s : State} {m : MethodId} {args : Array Value} {below : List Frame} {meth : Method} {c : Code} {H : Heap} {locs : List Loc} {cells slots : Nat} {Q : State → Prop}
variable {ls : Array Slot} {g : va_G} {cI cJ cII cJJ cZ : ClassId} {tp a0 b0 o b i L : Nat} {xs : Nat → Int32} {Jt : va_W → va_W → Prop} {ws wm : va_W} {f : Nat → Int64}
set_option maxHeartbeats 4000000 in
set_option maxRecDepth 100000 in
theorem arm_event (cx : lwCx p s m c args g cI cJ cII cJJ cZ tp b L xs) (hSh : lwSh a0 b0 Jt) (hO : lwA_event l g cI cJ cII cJJ cZ tp a0 b0 Jt) (hG : lwG s g cJ a0 b0 o b i Jt ws wm f H locs ls) (hi : i + 7 ≤ L) (hf : cells + 1 ≤ room_1.cells ∧ slots + 6 ≤ room_1.slots)
    (kk : ∀ (ws wm : va_W) (f : Nat → Int64) (H : Heap) (locs : List Loc) (ls : Array Slot), lwG s g cJ a0 b0 o b i Jt ws wm f H locs ls → W p l e room_1 s m args below meth c H locs (cells + 1) (slots + 6) Q (F0 m 811 ls [])) : W p l e room_1 s m args below meth c H locs cells slots Q (F0 m 112 ls []) := by
  obtain ⟨hx, hb, hml, hown, hT, hN, hth, hC, hZ, hKS, hKM, hX, hbl, hL3⟩ := cx
  obtain ⟨hJ, hP, hD, hS, hl⟩ := hG
  have hA : ∀ q : Nat, s.heap.size ≤ q → s.heap.size ≤ q := fun _ h => h
  obtain ⟨⟨fS, hfS⟩, fM, hfM⟩ := hSh ws wm hJ
  refine lv_aload_n hx hb d_Lw_law_112 rfl (lv_at hl 1 rfl) ?_
  refine lv_aload_n hx hb d_Lw_law_113 rfl (lv_at hl 0 rfl) ?_
  refine lv_iload hx hb d_Lw_law_114 (lv_at hl 4 rfl) ?_
  refine lv_iconst (v := (nI 1)) hx hb d_Lw_law_116 (by decide) ?_
  refine lv_iadd hx hb d_Lw_law_117 ?_
  refine my_ei (nI_add i 1) ?_
  refine lw_rd hx hb hX hbl hS (by omega) hL3 d_Lw_law_118 ?_
  refine lv_i2l (v := (xs (i + 1)).toInt64) hx hb d_Lw_law_119 rfl ?_
  refine lv_bipush (v := (nI 32)) hx hb d_Lw_law_120 (by decide) ?_
  refine lv_lshl hx hb d_Lw_law_122 rfl ?_
  refine lv_aload_n hx hb d_Lw_law_123 rfl (lv_at hl 0 rfl) ?_
  refine lv_iload hx hb d_Lw_law_124 (lv_at hl 4 rfl) ?_
  refine lv_iconst (v := (nI 2)) hx hb d_Lw_law_126 (by decide) ?_
  refine lv_iadd hx hb d_Lw_law_127 ?_
  refine my_ei (nI_add i 2) ?_
  refine lw_rd hx hb hX hbl hS (by omega) hL3 d_Lw_law_128 ?_
  refine lv_i2l (v := (xs (i + 2)).toInt64) hx hb d_Lw_law_129 rfl ?_
  refine lv_ldc2 (v := (lN 4294967295)) hx hb hown (hT _ tw_863) d_Lw_law_130 ?_
  refine lv_land hx hb d_Lw_law_133 ?_
  refine lv_lor hx hb d_Lw_law_134 ?_
  refine lv_aload_n hx hb d_Lw_law_135 rfl (lv_at hl 0 rfl) ?_
  refine lv_iload hx hb d_Lw_law_136 (lv_at hl 4 rfl) ?_
  refine lv_iconst (v := (nI 3)) hx hb d_Lw_law_138 (by decide) ?_
  refine lv_iadd hx hb d_Lw_law_139 ?_
  refine my_ei (nI_add i 3) ?_
  refine lw_rd hx hb hX hbl hS (by omega) hL3 d_Lw_law_140 ?_
  refine lv_i2l (v := (xs (i + 3)).toInt64) hx hb d_Lw_law_141 rfl ?_
  refine lv_bipush (v := (nI 32)) hx hb d_Lw_law_142 (by decide) ?_
  refine lv_lshl hx hb d_Lw_law_144 rfl ?_
  refine lv_aload_n hx hb d_Lw_law_145 rfl (lv_at hl 0 rfl) ?_
  refine lv_iload hx hb d_Lw_law_146 (lv_at hl 4 rfl) ?_
  refine lv_iconst (v := (nI 4)) hx hb d_Lw_law_148 (by decide) ?_
  refine lv_iadd hx hb d_Lw_law_149 ?_
  refine my_ei (nI_add i 4) ?_
  refine lw_rd hx hb hX hbl hS (by omega) hL3 d_Lw_law_150 ?_
  refine lv_i2l (v := (xs (i + 4)).toInt64) hx hb d_Lw_law_151 rfl ?_
  refine lv_ldc2 (v := (lN 4294967295)) hx hb hown (hT _ tw_863) d_Lw_law_152 ?_
  refine lv_land hx hb d_Lw_law_155 ?_
  refine lv_lor hx hb d_Lw_law_156 ?_
  obtain ⟨ws1, wm1, r, hcS, hcM, hJ1⟩ := hO ((((xs (i + 1)).toInt64) <<< ((nI 32).toInt64 &&& 63)) ||| (((xs (i + 2)).toInt64) &&& (lN 4294967295))) ((((xs (i + 3)).toInt64) <<< ((nI 32).toInt64 &&& 63)) ||| (((xs (i + 4)).toInt64) &&& (lN 4294967295))) ws wm hJ
  refine my_FPV_i (q0 := 0) (ci := 0) (C := R_ST) (As := [.long ((((xs (i + 1)).toInt64) <<< ((nI 32).toInt64 &&& 63)) ||| (((xs (i + 2)).toInt64) &&& (lN 4294967295))), .long ((((xs (i + 3)).toInt64) <<< ((nI 32).toInt64 &&& 63)) ||| (((xs (i + 4)).toInt64) &&& (lN 4294967295)))]) (n := 2) hcS hx hb hml hown hT hN hZ tw_245 tw_246 tw_247 tw_1 tw_248 (by decide +kernel) rfl rfl ⟨Nat.le_of_ble_eq_true rfl, Nat.le_of_ble_eq_true rfl⟩ ⟨Nat.le_of_succ_le hf.1, Nat.le_trans (Nat.le_add_right _ 6) hf.2⟩ hKS hP hD hS hA rfl hfS rfl hl rfl (Nat.le_of_ble_eq_true rfl) d_Lw_law_157 (fun H locs hP hD hS => ?_)
  refine lv_aload_n hx hb d_Lw_law_160 rfl (lv_at hl 2 rfl) ?_
  refine lv_aload_n hx hb d_Lw_law_161 rfl (lv_at hl 0 rfl) ?_
  refine lv_iload hx hb d_Lw_law_162 (lv_at hl 4 rfl) ?_
  refine lv_iconst (v := (nI 1)) hx hb d_Lw_law_164 (by decide) ?_
  refine lv_iadd hx hb d_Lw_law_165 ?_
  refine my_ei (nI_add i 1) ?_
  refine lw_rd hx hb hX hbl hS (by omega) hL3 d_Lw_law_166 ?_
  refine lv_i2l (v := (xs (i + 1)).toInt64) hx hb d_Lw_law_167 rfl ?_
  refine lv_bipush (v := (nI 32)) hx hb d_Lw_law_168 (by decide) ?_
  refine lv_lshl hx hb d_Lw_law_170 rfl ?_
  refine lv_aload_n hx hb d_Lw_law_171 rfl (lv_at hl 0 rfl) ?_
  refine lv_iload hx hb d_Lw_law_172 (lv_at hl 4 rfl) ?_
  refine lv_iconst (v := (nI 2)) hx hb d_Lw_law_174 (by decide) ?_
  refine lv_iadd hx hb d_Lw_law_175 ?_
  refine my_ei (nI_add i 2) ?_
  refine lw_rd hx hb hX hbl hS (by omega) hL3 d_Lw_law_176 ?_
  refine lv_i2l (v := (xs (i + 2)).toInt64) hx hb d_Lw_law_177 rfl ?_
  refine lv_ldc2 (v := (lN 4294967295)) hx hb hown (hT _ tw_863) d_Lw_law_178 ?_
  refine lv_land hx hb d_Lw_law_181 ?_
  refine lv_lor hx hb d_Lw_law_182 ?_
  refine lv_aload_n hx hb d_Lw_law_183 rfl (lv_at hl 0 rfl) ?_
  refine lv_iload hx hb d_Lw_law_184 (lv_at hl 4 rfl) ?_
  refine lv_iconst (v := (nI 3)) hx hb d_Lw_law_186 (by decide) ?_
  refine lv_iadd hx hb d_Lw_law_187 ?_
  refine my_ei (nI_add i 3) ?_
  refine lw_rd hx hb hX hbl hS (by omega) hL3 d_Lw_law_188 ?_
  refine lv_i2l (v := (xs (i + 3)).toInt64) hx hb d_Lw_law_189 rfl ?_
  refine lv_bipush (v := (nI 32)) hx hb d_Lw_law_190 (by decide) ?_
  refine lv_lshl hx hb d_Lw_law_192 rfl ?_
  refine lv_aload_n hx hb d_Lw_law_193 rfl (lv_at hl 0 rfl) ?_
  refine lv_iload hx hb d_Lw_law_194 (lv_at hl 4 rfl) ?_
  refine lv_iconst (v := (nI 4)) hx hb d_Lw_law_196 (by decide) ?_
  refine lv_iadd hx hb d_Lw_law_197 ?_
  refine my_ei (nI_add i 4) ?_
  refine lw_rd hx hb hX hbl hS (by omega) hL3 d_Lw_law_198 ?_
  refine lv_i2l (v := (xs (i + 4)).toInt64) hx hb d_Lw_law_199 rfl ?_
  refine lv_ldc2 (v := (lN 4294967295)) hx hb hown (hT _ tw_863) d_Lw_law_200 ?_
  refine lv_land hx hb d_Lw_law_203 ?_
  refine lv_lor hx hb d_Lw_law_204 ?_
  have hP := lw_toM hP
  have hD := lw_toMD hD
  refine my_FV_i (q0 := 0) (ci := 8) (C := R_Mo) (As := [.long ((((xs (i + 1)).toInt64) <<< ((nI 32).toInt64 &&& 63)) ||| (((xs (i + 2)).toInt64) &&& (lN 4294967295))), .long ((((xs (i + 3)).toInt64) <<< ((nI 32).toInt64 &&& 63)) ||| (((xs (i + 4)).toInt64) &&& (lN 4294967295)))]) (n := 2) hcM hx hb hml hown hT hN tw_732 tw_733 tw_734 tw_9 tw_735 (by decide +kernel) rfl rfl ⟨Nat.le_of_ble_eq_true rfl, Nat.le_of_ble_eq_true rfl⟩ ⟨Nat.le_of_succ_le hf.1, Nat.le_trans (Nat.le_add_right _ 6) hf.2⟩ hKM hP hD hS hA rfl hfM rfl hl rfl (Nat.le_of_ble_eq_true rfl) d_Lw_law_205 (fun H locs hP hD hS => ?_)
  have hP := lw_frM hP
  have hD := lw_frMD hD
  refine lv_icmp_eq (tgt := 811) hx hb d_Lw_law_208 (by decide) (fun _ => ?_) (fun q => absurd rfl q)
  exact W.widen (Nat.le_add_right _ _) (Nat.le_add_right _ _) (kk _ _ _ _ _ _ ⟨hJ1, hP, hD, hS, hl⟩)
set_option maxHeartbeats 4000000 in
set_option maxRecDepth 100000 in
theorem arm_gate (cx : lwCx p s m c args g cI cJ cII cJJ cZ tp b L xs) (hSh : lwSh a0 b0 Jt) (hO : lwA_gate l g cI cJ cII cJJ cZ tp a0 b0 Jt) (hG : lwG s g cJ a0 b0 o b i Jt ws wm f H locs ls) (hi : i + 7 ≤ L) (hf : cells + 1 ≤ room_1.cells ∧ slots + 6 ≤ room_1.slots)
    (kk : ∀ (ws wm : va_W) (f : Nat → Int64) (H : Heap) (locs : List Loc) (ls : Array Slot), lwG s g cJ a0 b0 o b i Jt ws wm f H locs ls → W p l e room_1 s m args below meth c H locs (cells + 1) (slots + 6) Q (F0 m 811 ls [])) : W p l e room_1 s m args below meth c H locs cells slots Q (F0 m 213 ls []) := by
  obtain ⟨hx, hb, hml, hown, hT, hN, hth, hC, hZ, hKS, hKM, hX, hbl, hL3⟩ := cx
  obtain ⟨hJ, hP, hD, hS, hl⟩ := hG
  have hA : ∀ q : Nat, s.heap.size ≤ q → s.heap.size ≤ q := fun _ h => h
  obtain ⟨⟨fS, hfS⟩, fM, hfM⟩ := hSh ws wm hJ
  refine lv_aload_n hx hb d_Lw_law_213 rfl (lv_at hl 1 rfl) ?_
  refine lv_aload_n hx hb d_Lw_law_214 rfl (lv_at hl 0 rfl) ?_
  refine lv_iload hx hb d_Lw_law_215 (lv_at hl 4 rfl) ?_
  refine lv_iconst (v := (nI 1)) hx hb d_Lw_law_217 (by decide) ?_
  refine lv_iadd hx hb d_Lw_law_218 ?_
  refine my_ei (nI_add i 1) ?_
  refine lw_rd hx hb hX hbl hS (by omega) hL3 d_Lw_law_219 ?_
  refine lv_aload_n hx hb d_Lw_law_220 rfl (lv_at hl 0 rfl) ?_
  refine lv_iload hx hb d_Lw_law_221 (lv_at hl 4 rfl) ?_
  refine lv_iconst (v := (nI 2)) hx hb d_Lw_law_223 (by decide) ?_
  refine lv_iadd hx hb d_Lw_law_224 ?_
  refine my_ei (nI_add i 2) ?_
  refine lw_rd hx hb hX hbl hS (by omega) hL3 d_Lw_law_225 ?_
  obtain ⟨ws1, wm1, r, hcS, hcM, hJ1⟩ := hO (xs (i + 1)) (xs (i + 2)) ws wm hJ
  refine my_FV_i (q0 := 0) (ci := 0) (C := R_ST) (As := [.int (xs (i + 1)), .int (xs (i + 2))]) (n := 2) hcS hx hb hml hown hT hN tw_270 tw_271 tw_272 tw_1 tw_273 (by decide +kernel) rfl rfl ⟨Nat.le_of_ble_eq_true rfl, Nat.le_of_ble_eq_true rfl⟩ ⟨Nat.le_of_succ_le hf.1, Nat.le_trans (Nat.le_add_right _ 6) hf.2⟩ hKS hP hD hS hA rfl hfS rfl hl rfl (Nat.le_of_ble_eq_true rfl) d_Lw_law_226 (fun H locs hP hD hS => ?_)
  refine lv_aload_n hx hb d_Lw_law_229 rfl (lv_at hl 2 rfl) ?_
  refine lv_aload_n hx hb d_Lw_law_230 rfl (lv_at hl 0 rfl) ?_
  refine lv_iload hx hb d_Lw_law_231 (lv_at hl 4 rfl) ?_
  refine lv_iconst (v := (nI 1)) hx hb d_Lw_law_233 (by decide) ?_
  refine lv_iadd hx hb d_Lw_law_234 ?_
  refine my_ei (nI_add i 1) ?_
  refine lw_rd hx hb hX hbl hS (by omega) hL3 d_Lw_law_235 ?_
  refine lv_aload_n hx hb d_Lw_law_236 rfl (lv_at hl 0 rfl) ?_
  refine lv_iload hx hb d_Lw_law_237 (lv_at hl 4 rfl) ?_
  refine lv_iconst (v := (nI 2)) hx hb d_Lw_law_239 (by decide) ?_
  refine lv_iadd hx hb d_Lw_law_240 ?_
  refine my_ei (nI_add i 2) ?_
  refine lw_rd hx hb hX hbl hS (by omega) hL3 d_Lw_law_241 ?_
  have hP := lw_toM hP
  have hD := lw_toMD hD
  refine my_FV_i (q0 := 0) (ci := 8) (C := R_Mo) (As := [.int (xs (i + 1)), .int (xs (i + 2))]) (n := 2) hcM hx hb hml hown hT hN tw_740 tw_741 tw_742 tw_9 tw_743 (by decide +kernel) rfl rfl ⟨Nat.le_of_ble_eq_true rfl, Nat.le_of_ble_eq_true rfl⟩ ⟨Nat.le_of_succ_le hf.1, Nat.le_trans (Nat.le_add_right _ 6) hf.2⟩ hKM hP hD hS hA rfl hfM rfl hl rfl (Nat.le_of_ble_eq_true rfl) d_Lw_law_242 (fun H locs hP hD hS => ?_)
  have hP := lw_frM hP
  have hD := lw_frMD hD
  refine lv_icmp_eq (tgt := 811) hx hb d_Lw_law_245 (by decide) (fun _ => ?_) (fun q => absurd rfl q)
  exact W.widen (Nat.le_add_right _ _) (Nat.le_add_right _ _) (kk _ _ _ _ _ _ ⟨hJ1, hP, hD, hS, hl⟩)
set_option maxHeartbeats 4000000 in
set_option maxRecDepth 100000 in
theorem arm_below (cx : lwCx p s m c args g cI cJ cII cJJ cZ tp b L xs) (hSh : lwSh a0 b0 Jt) (hO : lwA_below l g cI cJ cII cJJ cZ tp a0 b0 Jt) (hG : lwG s g cJ a0 b0 o b i Jt ws wm f H locs ls) (hi : i + 7 ≤ L) (hf : cells + 1 ≤ room_1.cells ∧ slots + 6 ≤ room_1.slots)
    (kk : ∀ (ws wm : va_W) (f : Nat → Int64) (H : Heap) (locs : List Loc) (ls : Array Slot), lwG s g cJ a0 b0 o b i Jt ws wm f H locs ls → W p l e room_1 s m args below meth c H locs (cells + 1) (slots + 6) Q (F0 m 811 ls [])) : W p l e room_1 s m args below meth c H locs cells slots Q (F0 m 250 ls []) := by
  obtain ⟨hx, hb, hml, hown, hT, hN, hth, hC, hZ, hKS, hKM, hX, hbl, hL3⟩ := cx
  obtain ⟨hJ, hP, hD, hS, hl⟩ := hG
  have hA : ∀ q : Nat, s.heap.size ≤ q → s.heap.size ≤ q := fun _ h => h
  obtain ⟨⟨fS, hfS⟩, fM, hfM⟩ := hSh ws wm hJ
  refine lv_aload_n hx hb d_Lw_law_250 rfl (lv_at hl 1 rfl) ?_
  refine lv_aload_n hx hb d_Lw_law_251 rfl (lv_at hl 0 rfl) ?_
  refine lv_iload hx hb d_Lw_law_252 (lv_at hl 4 rfl) ?_
  refine lv_iconst (v := (nI 1)) hx hb d_Lw_law_254 (by decide) ?_
  refine lv_iadd hx hb d_Lw_law_255 ?_
  refine my_ei (nI_add i 1) ?_
  refine lw_rd hx hb hX hbl hS (by omega) hL3 d_Lw_law_256 ?_
  refine lv_aload_n hx hb d_Lw_law_257 rfl (lv_at hl 0 rfl) ?_
  refine lv_iload hx hb d_Lw_law_258 (lv_at hl 4 rfl) ?_
  refine lv_iconst (v := (nI 2)) hx hb d_Lw_law_260 (by decide) ?_
  refine lv_iadd hx hb d_Lw_law_261 ?_
  refine my_ei (nI_add i 2) ?_
  refine lw_rd hx hb hX hbl hS (by omega) hL3 d_Lw_law_262 ?_
  obtain ⟨ws1, wm1, r, hcS, hcM, hJ1⟩ := hO (xs (i + 1)) (xs (i + 2)) ws wm hJ
  refine my_FV_i (q0 := 0) (ci := 0) (C := R_ST) (As := [.int (xs (i + 1)), .int (xs (i + 2))]) (n := 2) hcS hx hb hml hown hT hN tw_284 tw_285 tw_286 tw_1 tw_287 (by decide +kernel) rfl rfl ⟨Nat.le_of_ble_eq_true rfl, Nat.le_of_ble_eq_true rfl⟩ ⟨Nat.le_of_succ_le hf.1, Nat.le_trans (Nat.le_add_right _ 6) hf.2⟩ hKS hP hD hS hA rfl hfS rfl hl rfl (Nat.le_of_ble_eq_true rfl) d_Lw_law_263 (fun H locs hP hD hS => ?_)
  refine lv_aload_n hx hb d_Lw_law_266 rfl (lv_at hl 2 rfl) ?_
  refine lv_aload_n hx hb d_Lw_law_267 rfl (lv_at hl 0 rfl) ?_
  refine lv_iload hx hb d_Lw_law_268 (lv_at hl 4 rfl) ?_
  refine lv_iconst (v := (nI 1)) hx hb d_Lw_law_270 (by decide) ?_
  refine lv_iadd hx hb d_Lw_law_271 ?_
  refine my_ei (nI_add i 1) ?_
  refine lw_rd hx hb hX hbl hS (by omega) hL3 d_Lw_law_272 ?_
  refine lv_aload_n hx hb d_Lw_law_273 rfl (lv_at hl 0 rfl) ?_
  refine lv_iload hx hb d_Lw_law_274 (lv_at hl 4 rfl) ?_
  refine lv_iconst (v := (nI 2)) hx hb d_Lw_law_276 (by decide) ?_
  refine lv_iadd hx hb d_Lw_law_277 ?_
  refine my_ei (nI_add i 2) ?_
  refine lw_rd hx hb hX hbl hS (by omega) hL3 d_Lw_law_278 ?_
  have hP := lw_toM hP
  have hD := lw_toMD hD
  refine my_FV_i (q0 := 0) (ci := 8) (C := R_Mo) (As := [.int (xs (i + 1)), .int (xs (i + 2))]) (n := 2) hcM hx hb hml hown hT hN tw_745 tw_746 tw_747 tw_9 tw_748 (by decide +kernel) rfl rfl ⟨Nat.le_of_ble_eq_true rfl, Nat.le_of_ble_eq_true rfl⟩ ⟨Nat.le_of_succ_le hf.1, Nat.le_trans (Nat.le_add_right _ 6) hf.2⟩ hKM hP hD hS hA rfl hfM rfl hl rfl (Nat.le_of_ble_eq_true rfl) d_Lw_law_279 (fun H locs hP hD hS => ?_)
  have hP := lw_frM hP
  have hD := lw_frMD hD
  refine lv_icmp_eq (tgt := 811) hx hb d_Lw_law_282 (by decide) (fun _ => ?_) (fun q => absurd rfl q)
  exact W.widen (Nat.le_add_right _ _) (Nat.le_add_right _ _) (kk _ _ _ _ _ _ ⟨hJ1, hP, hD, hS, hl⟩)
set_option maxHeartbeats 4000000 in
set_option maxRecDepth 100000 in
theorem arm_cuts (cx : lwCx p s m c args g cI cJ cII cJJ cZ tp b L xs) (hSh : lwSh a0 b0 Jt) (hO : lwA_cuts l g cI cJ cII cJJ cZ tp a0 b0 Jt) (hG : lwG s g cJ a0 b0 o b i Jt ws wm f H locs ls) (hi : i + 7 ≤ L) (hf : cells + 1 ≤ room_1.cells ∧ slots + 6 ≤ room_1.slots)
    (kk : ∀ (ws wm : va_W) (f : Nat → Int64) (H : Heap) (locs : List Loc) (ls : Array Slot), lwG s g cJ a0 b0 o b i Jt ws wm f H locs ls → W p l e room_1 s m args below meth c H locs (cells + 1) (slots + 6) Q (F0 m 811 ls [])) : W p l e room_1 s m args below meth c H locs cells slots Q (F0 m 287 ls []) := by
  obtain ⟨hx, hb, hml, hown, hT, hN, hth, hC, hZ, hKS, hKM, hX, hbl, hL3⟩ := cx
  obtain ⟨hJ, hP, hD, hS, hl⟩ := hG
  have hA : ∀ q : Nat, s.heap.size ≤ q → s.heap.size ≤ q := fun _ h => h
  obtain ⟨⟨fS, hfS⟩, fM, hfM⟩ := hSh ws wm hJ
  refine lv_aload_n hx hb d_Lw_law_287 rfl (lv_at hl 1 rfl) ?_
  refine lv_aload_n hx hb d_Lw_law_288 rfl (lv_at hl 0 rfl) ?_
  refine lv_iload hx hb d_Lw_law_289 (lv_at hl 4 rfl) ?_
  refine lv_iconst (v := (nI 1)) hx hb d_Lw_law_291 (by decide) ?_
  refine lv_iadd hx hb d_Lw_law_292 ?_
  refine my_ei (nI_add i 1) ?_
  refine lw_rd hx hb hX hbl hS (by omega) hL3 d_Lw_law_293 ?_
  refine lv_aload_n hx hb d_Lw_law_294 rfl (lv_at hl 0 rfl) ?_
  refine lv_iload hx hb d_Lw_law_295 (lv_at hl 4 rfl) ?_
  refine lv_iconst (v := (nI 2)) hx hb d_Lw_law_297 (by decide) ?_
  refine lv_iadd hx hb d_Lw_law_298 ?_
  refine my_ei (nI_add i 2) ?_
  refine lw_rd hx hb hX hbl hS (by omega) hL3 d_Lw_law_299 ?_
  refine lv_i2l (v := (xs (i + 2)).toInt64) hx hb d_Lw_law_300 rfl ?_
  refine lv_bipush (v := (nI 32)) hx hb d_Lw_law_301 (by decide) ?_
  refine lv_lshl hx hb d_Lw_law_303 rfl ?_
  refine lv_aload_n hx hb d_Lw_law_304 rfl (lv_at hl 0 rfl) ?_
  refine lv_iload hx hb d_Lw_law_305 (lv_at hl 4 rfl) ?_
  refine lv_iconst (v := (nI 3)) hx hb d_Lw_law_307 (by decide) ?_
  refine lv_iadd hx hb d_Lw_law_308 ?_
  refine my_ei (nI_add i 3) ?_
  refine lw_rd hx hb hX hbl hS (by omega) hL3 d_Lw_law_309 ?_
  refine lv_i2l (v := (xs (i + 3)).toInt64) hx hb d_Lw_law_310 rfl ?_
  refine lv_ldc2 (v := (lN 4294967295)) hx hb hown (hT _ tw_863) d_Lw_law_311 ?_
  refine lv_land hx hb d_Lw_law_314 ?_
  refine lv_lor hx hb d_Lw_law_315 ?_
  obtain ⟨ws1, wm1, r, hcS, hcM, hJ1⟩ := hO (xs (i + 1)) ((((xs (i + 2)).toInt64) <<< ((nI 32).toInt64 &&& 63)) ||| (((xs (i + 3)).toInt64) &&& (lN 4294967295))) ws wm hJ
  refine my_FV_i (q0 := 0) (ci := 0) (C := R_ST) (As := [.int (xs (i + 1)), .long ((((xs (i + 2)).toInt64) <<< ((nI 32).toInt64 &&& 63)) ||| (((xs (i + 3)).toInt64) &&& (lN 4294967295)))]) (n := 2) hcS hx hb hml hown hT hN tw_310 tw_311 tw_312 tw_1 tw_313 (by decide +kernel) rfl rfl ⟨Nat.le_of_ble_eq_true rfl, Nat.le_of_ble_eq_true rfl⟩ ⟨Nat.le_of_succ_le hf.1, Nat.le_trans (Nat.le_add_right _ 6) hf.2⟩ hKS hP hD hS hA rfl hfS rfl hl rfl (Nat.le_of_ble_eq_true rfl) d_Lw_law_316 (fun H locs hP hD hS => ?_)
  refine lv_aload_n hx hb d_Lw_law_319 rfl (lv_at hl 2 rfl) ?_
  refine lv_aload_n hx hb d_Lw_law_320 rfl (lv_at hl 0 rfl) ?_
  refine lv_iload hx hb d_Lw_law_321 (lv_at hl 4 rfl) ?_
  refine lv_iconst (v := (nI 1)) hx hb d_Lw_law_323 (by decide) ?_
  refine lv_iadd hx hb d_Lw_law_324 ?_
  refine my_ei (nI_add i 1) ?_
  refine lw_rd hx hb hX hbl hS (by omega) hL3 d_Lw_law_325 ?_
  refine lv_aload_n hx hb d_Lw_law_326 rfl (lv_at hl 0 rfl) ?_
  refine lv_iload hx hb d_Lw_law_327 (lv_at hl 4 rfl) ?_
  refine lv_iconst (v := (nI 2)) hx hb d_Lw_law_329 (by decide) ?_
  refine lv_iadd hx hb d_Lw_law_330 ?_
  refine my_ei (nI_add i 2) ?_
  refine lw_rd hx hb hX hbl hS (by omega) hL3 d_Lw_law_331 ?_
  refine lv_i2l (v := (xs (i + 2)).toInt64) hx hb d_Lw_law_332 rfl ?_
  refine lv_bipush (v := (nI 32)) hx hb d_Lw_law_333 (by decide) ?_
  refine lv_lshl hx hb d_Lw_law_335 rfl ?_
  refine lv_aload_n hx hb d_Lw_law_336 rfl (lv_at hl 0 rfl) ?_
  refine lv_iload hx hb d_Lw_law_337 (lv_at hl 4 rfl) ?_
  refine lv_iconst (v := (nI 3)) hx hb d_Lw_law_339 (by decide) ?_
  refine lv_iadd hx hb d_Lw_law_340 ?_
  refine my_ei (nI_add i 3) ?_
  refine lw_rd hx hb hX hbl hS (by omega) hL3 d_Lw_law_341 ?_
  refine lv_i2l (v := (xs (i + 3)).toInt64) hx hb d_Lw_law_342 rfl ?_
  refine lv_ldc2 (v := (lN 4294967295)) hx hb hown (hT _ tw_863) d_Lw_law_343 ?_
  refine lv_land hx hb d_Lw_law_346 ?_
  refine lv_lor hx hb d_Lw_law_347 ?_
  have hP := lw_toM hP
  have hD := lw_toMD hD
  refine my_FV_i (q0 := 0) (ci := 8) (C := R_Mo) (As := [.int (xs (i + 1)), .long ((((xs (i + 2)).toInt64) <<< ((nI 32).toInt64 &&& 63)) ||| (((xs (i + 3)).toInt64) &&& (lN 4294967295)))]) (n := 2) hcM hx hb hml hown hT hN tw_757 tw_758 tw_759 tw_9 tw_760 (by decide +kernel) rfl rfl ⟨Nat.le_of_ble_eq_true rfl, Nat.le_of_ble_eq_true rfl⟩ ⟨Nat.le_of_succ_le hf.1, Nat.le_trans (Nat.le_add_right _ 6) hf.2⟩ hKM hP hD hS hA rfl hfM rfl hl rfl (Nat.le_of_ble_eq_true rfl) d_Lw_law_348 (fun H locs hP hD hS => ?_)
  have hP := lw_frM hP
  have hD := lw_frMD hD
  refine lv_icmp_eq (tgt := 811) hx hb d_Lw_law_351 (by decide) (fun _ => ?_) (fun q => absurd rfl q)
  exact W.widen (Nat.le_add_right _ _) (Nat.le_add_right _ _) (kk _ _ _ _ _ _ ⟨hJ1, hP, hD, hS, hl⟩)
set_option maxHeartbeats 4000000 in
set_option maxRecDepth 100000 in
theorem arm_cut (cx : lwCx p s m c args g cI cJ cII cJJ cZ tp b L xs) (hSh : lwSh a0 b0 Jt) (hO : lwA_cut l g cI cJ cII cJJ cZ tp a0 b0 Jt) (hG : lwG s g cJ a0 b0 o b i Jt ws wm f H locs ls) (hi : i + 7 ≤ L) (hf : cells + 1 ≤ room_1.cells ∧ slots + 6 ≤ room_1.slots)
    (kk : ∀ (ws wm : va_W) (f : Nat → Int64) (H : Heap) (locs : List Loc) (ls : Array Slot), lwG s g cJ a0 b0 o b i Jt ws wm f H locs ls → W p l e room_1 s m args below meth c H locs (cells + 1) (slots + 6) Q (F0 m 811 ls [])) : W p l e room_1 s m args below meth c H locs cells slots Q (F0 m 356 ls []) := by
  obtain ⟨hx, hb, hml, hown, hT, hN, hth, hC, hZ, hKS, hKM, hX, hbl, hL3⟩ := cx
  obtain ⟨hJ, hP, hD, hS, hl⟩ := hG
  have hA : ∀ q : Nat, s.heap.size ≤ q → s.heap.size ≤ q := fun _ h => h
  obtain ⟨⟨fS, hfS⟩, fM, hfM⟩ := hSh ws wm hJ
  refine lv_aload_n hx hb d_Lw_law_356 rfl (lv_at hl 1 rfl) ?_
  refine lv_aload_n hx hb d_Lw_law_357 rfl (lv_at hl 0 rfl) ?_
  refine lv_iload hx hb d_Lw_law_358 (lv_at hl 4 rfl) ?_
  refine lv_iconst (v := (nI 1)) hx hb d_Lw_law_360 (by decide) ?_
  refine lv_iadd hx hb d_Lw_law_361 ?_
  refine my_ei (nI_add i 1) ?_
  refine lw_rd hx hb hX hbl hS (by omega) hL3 d_Lw_law_362 ?_
  refine lv_aload_n hx hb d_Lw_law_363 rfl (lv_at hl 0 rfl) ?_
  refine lv_iload hx hb d_Lw_law_364 (lv_at hl 4 rfl) ?_
  refine lv_iconst (v := (nI 2)) hx hb d_Lw_law_366 (by decide) ?_
  refine lv_iadd hx hb d_Lw_law_367 ?_
  refine my_ei (nI_add i 2) ?_
  refine lw_rd hx hb hX hbl hS (by omega) hL3 d_Lw_law_368 ?_
  obtain ⟨ws1, wm1, r, hcS, hcM, hJ1⟩ := hO (xs (i + 1)) (xs (i + 2)) ws wm hJ
  refine my_FV_i (q0 := 0) (ci := 0) (C := R_ST) (As := [.int (xs (i + 1)), .int (xs (i + 2))]) (n := 2) hcS hx hb hml hown hT hN tw_387 tw_388 tw_389 tw_1 tw_390 (by decide +kernel) rfl rfl ⟨Nat.le_of_ble_eq_true rfl, Nat.le_of_ble_eq_true rfl⟩ ⟨Nat.le_of_succ_le hf.1, Nat.le_trans (Nat.le_add_right _ 6) hf.2⟩ hKS hP hD hS hA rfl hfS rfl hl rfl (Nat.le_of_ble_eq_true rfl) d_Lw_law_369 (fun H locs hP hD hS => ?_)
  refine lv_aload_n hx hb d_Lw_law_372 rfl (lv_at hl 2 rfl) ?_
  refine lv_aload_n hx hb d_Lw_law_373 rfl (lv_at hl 0 rfl) ?_
  refine lv_iload hx hb d_Lw_law_374 (lv_at hl 4 rfl) ?_
  refine lv_iconst (v := (nI 1)) hx hb d_Lw_law_376 (by decide) ?_
  refine lv_iadd hx hb d_Lw_law_377 ?_
  refine my_ei (nI_add i 1) ?_
  refine lw_rd hx hb hX hbl hS (by omega) hL3 d_Lw_law_378 ?_
  refine lv_aload_n hx hb d_Lw_law_379 rfl (lv_at hl 0 rfl) ?_
  refine lv_iload hx hb d_Lw_law_380 (lv_at hl 4 rfl) ?_
  refine lv_iconst (v := (nI 2)) hx hb d_Lw_law_382 (by decide) ?_
  refine lv_iadd hx hb d_Lw_law_383 ?_
  refine my_ei (nI_add i 2) ?_
  refine lw_rd hx hb hX hbl hS (by omega) hL3 d_Lw_law_384 ?_
  have hP := lw_toM hP
  have hD := lw_toMD hD
  refine my_FV_i (q0 := 0) (ci := 8) (C := R_Mo) (As := [.int (xs (i + 1)), .int (xs (i + 2))]) (n := 2) hcM hx hb hml hown hT hN tw_784 tw_785 tw_786 tw_9 tw_787 (by decide +kernel) rfl rfl ⟨Nat.le_of_ble_eq_true rfl, Nat.le_of_ble_eq_true rfl⟩ ⟨Nat.le_of_succ_le hf.1, Nat.le_trans (Nat.le_add_right _ 6) hf.2⟩ hKM hP hD hS hA rfl hfM rfl hl rfl (Nat.le_of_ble_eq_true rfl) d_Lw_law_385 (fun H locs hP hD hS => ?_)
  have hP := lw_frM hP
  have hD := lw_frMD hD
  refine lv_icmp_eq (tgt := 811) hx hb d_Lw_law_388 (by decide) (fun _ => ?_) (fun q => absurd rfl q)
  exact W.widen (Nat.le_add_right _ _) (Nat.le_add_right _ _) (kk _ _ _ _ _ _ ⟨hJ1, hP, hD, hS, hl⟩)
set_option maxHeartbeats 4000000 in
set_option maxRecDepth 100000 in
theorem arm_chance (cx : lwCx p s m c args g cI cJ cII cJJ cZ tp b L xs) (hSh : lwSh a0 b0 Jt) (hO : lwA_chance l g cI cJ cII cJJ cZ tp a0 b0 Jt) (hG : lwG s g cJ a0 b0 o b i Jt ws wm f H locs ls) (hi : i + 7 ≤ L) (hf : cells + 1 ≤ room_1.cells ∧ slots + 6 ≤ room_1.slots)
    (kk : ∀ (ws wm : va_W) (f : Nat → Int64) (H : Heap) (locs : List Loc) (ls : Array Slot), lwG s g cJ a0 b0 o b i Jt ws wm f H locs ls → W p l e room_1 s m args below meth c H locs (cells + 1) (slots + 6) Q (F0 m 811 ls [])) : W p l e room_1 s m args below meth c H locs cells slots Q (F0 m 393 ls []) := by
  obtain ⟨hx, hb, hml, hown, hT, hN, hth, hC, hZ, hKS, hKM, hX, hbl, hL3⟩ := cx
  obtain ⟨hJ, hP, hD, hS, hl⟩ := hG
  have hA : ∀ q : Nat, s.heap.size ≤ q → s.heap.size ≤ q := fun _ h => h
  obtain ⟨⟨fS, hfS⟩, fM, hfM⟩ := hSh ws wm hJ
  refine lv_aload_n hx hb d_Lw_law_393 rfl (lv_at hl 1 rfl) ?_
  refine lv_aload_n hx hb d_Lw_law_394 rfl (lv_at hl 0 rfl) ?_
  refine lv_iload hx hb d_Lw_law_395 (lv_at hl 4 rfl) ?_
  refine lv_iconst (v := (nI 1)) hx hb d_Lw_law_397 (by decide) ?_
  refine lv_iadd hx hb d_Lw_law_398 ?_
  refine my_ei (nI_add i 1) ?_
  refine lw_rd hx hb hX hbl hS (by omega) hL3 d_Lw_law_399 ?_
  refine lv_aload_n hx hb d_Lw_law_400 rfl (lv_at hl 0 rfl) ?_
  refine lv_iload hx hb d_Lw_law_401 (lv_at hl 4 rfl) ?_
  refine lv_iconst (v := (nI 2)) hx hb d_Lw_law_403 (by decide) ?_
  refine lv_iadd hx hb d_Lw_law_404 ?_
  refine my_ei (nI_add i 2) ?_
  refine lw_rd hx hb hX hbl hS (by omega) hL3 d_Lw_law_405 ?_
  obtain ⟨ws1, wm1, r, hcS, hcM, hJ1⟩ := hO (xs (i + 1)) (xs (i + 2)) ws wm hJ
  refine my_FV_l (q0 := 0) (ci := 0) (C := R_ST) (As := [.int (xs (i + 1)), .int (xs (i + 2))]) (n := 2) hcS hx hb hml hown hT hN tw_396 tw_397 tw_398 tw_1 tw_399 (by decide +kernel) rfl rfl ⟨Nat.le_of_ble_eq_true rfl, Nat.le_of_ble_eq_true rfl⟩ ⟨Nat.le_of_succ_le hf.1, Nat.le_trans (Nat.le_add_right _ 6) hf.2⟩ hKS hP hD hS hA rfl hfS rfl hl rfl (Nat.le_of_ble_eq_true rfl) d_Lw_law_406 (fun H locs hP hD hS => ?_)
  refine lv_aload_n hx hb d_Lw_law_409 rfl (lv_at hl 2 rfl) ?_
  refine lv_aload_n hx hb d_Lw_law_410 rfl (lv_at hl 0 rfl) ?_
  refine lv_iload hx hb d_Lw_law_411 (lv_at hl 4 rfl) ?_
  refine lv_iconst (v := (nI 1)) hx hb d_Lw_law_413 (by decide) ?_
  refine lv_iadd hx hb d_Lw_law_414 ?_
  refine my_ei (nI_add i 1) ?_
  refine lw_rd hx hb hX hbl hS (by omega) hL3 d_Lw_law_415 ?_
  refine lv_aload_n hx hb d_Lw_law_416 rfl (lv_at hl 0 rfl) ?_
  refine lv_iload hx hb d_Lw_law_417 (lv_at hl 4 rfl) ?_
  refine lv_iconst (v := (nI 2)) hx hb d_Lw_law_419 (by decide) ?_
  refine lv_iadd hx hb d_Lw_law_420 ?_
  refine my_ei (nI_add i 2) ?_
  refine lw_rd hx hb hX hbl hS (by omega) hL3 d_Lw_law_421 ?_
  have hP := lw_toM hP
  have hD := lw_toMD hD
  refine my_FV_l (q0 := 0) (ci := 8) (C := R_Mo) (As := [.int (xs (i + 1)), .int (xs (i + 2))]) (n := 2) hcM hx hb hml hown hT hN tw_792 tw_793 tw_794 tw_9 tw_795 (by decide +kernel) rfl rfl ⟨Nat.le_of_ble_eq_true rfl, Nat.le_of_ble_eq_true rfl⟩ ⟨Nat.le_of_succ_le hf.1, Nat.le_trans (Nat.le_add_right _ 6) hf.2⟩ hKM hP hD hS hA rfl hfM rfl hl rfl (Nat.le_of_ble_eq_true rfl) d_Lw_law_422 (fun H locs hP hD hS => ?_)
  have hP := lw_frM hP
  have hD := lw_frMD hD
  refine my_lcmpR_eq (tgt := 811) hx hb d_Lw_law_425 d_Lw_law_426 (by decide) (fun _ => ?_) (fun q => absurd rfl q)
  exact W.widen (Nat.le_add_right _ _) (Nat.le_add_right _ _) (kk _ _ _ _ _ _ ⟨hJ1, hP, hD, hS, hl⟩)
set_option maxHeartbeats 4000000 in
set_option maxRecDepth 100000 in
theorem arm_exact (cx : lwCx p s m c args g cI cJ cII cJJ cZ tp b L xs) (hSh : lwSh a0 b0 Jt) (hO : lwA_exact l g cI cJ cII cJJ cZ tp a0 b0 Jt) (hG : lwG s g cJ a0 b0 o b i Jt ws wm f H locs ls) (hi : i + 7 ≤ L) (hf : cells + 1 ≤ room_1.cells ∧ slots + 6 ≤ room_1.slots)
    (kk : ∀ (ws wm : va_W) (f : Nat → Int64) (H : Heap) (locs : List Loc) (ls : Array Slot), lwG s g cJ a0 b0 o b i Jt ws wm f H locs ls → W p l e room_1 s m args below meth c H locs (cells + 1) (slots + 6) Q (F0 m 811 ls [])) : W p l e room_1 s m args below meth c H locs cells slots Q (F0 m 431 ls []) := by
  obtain ⟨hx, hb, hml, hown, hT, hN, hth, hC, hZ, hKS, hKM, hX, hbl, hL3⟩ := cx
  obtain ⟨hJ, hP, hD, hS, hl⟩ := hG
  have hA : ∀ q : Nat, s.heap.size ≤ q → s.heap.size ≤ q := fun _ h => h
  obtain ⟨⟨fS, hfS⟩, fM, hfM⟩ := hSh ws wm hJ
  refine lv_aload_n hx hb d_Lw_law_431 rfl (lv_at hl 1 rfl) ?_
  obtain ⟨ws1, wm1, r, hcS, hcM, hJ1⟩ := hO  ws wm hJ
  refine my_FV_i (q0 := 0) (ci := 0) (C := R_ST) (As := []) (n := 0) hcS hx hb hml hown hT hN tw_464 tw_465 tw_466 tw_1 tw_467 (by decide +kernel) rfl rfl ⟨Nat.le_of_ble_eq_true rfl, Nat.le_of_ble_eq_true rfl⟩ ⟨Nat.le_of_succ_le hf.1, Nat.le_trans (Nat.le_add_right _ 6) hf.2⟩ hKS hP hD hS hA rfl hfS rfl hl rfl (Nat.le_of_ble_eq_true rfl) d_Lw_law_432 (fun H locs hP hD hS => ?_)
  refine lv_aload_n hx hb d_Lw_law_435 rfl (lv_at hl 2 rfl) ?_
  have hP := lw_toM hP
  have hD := lw_toMD hD
  refine my_FV_i (q0 := 0) (ci := 8) (C := R_Mo) (As := []) (n := 0) hcM hx hb hml hown hT hN tw_824 tw_825 tw_826 tw_9 tw_827 (by decide +kernel) rfl rfl ⟨Nat.le_of_ble_eq_true rfl, Nat.le_of_ble_eq_true rfl⟩ ⟨Nat.le_of_succ_le hf.1, Nat.le_trans (Nat.le_add_right _ 6) hf.2⟩ hKM hP hD hS hA rfl hfM rfl hl rfl (Nat.le_of_ble_eq_true rfl) d_Lw_law_436 (fun H locs hP hD hS => ?_)
  have hP := lw_frM hP
  have hD := lw_frMD hD
  refine lv_icmp_eq (tgt := 811) hx hb d_Lw_law_439 (by decide) (fun _ => ?_) (fun q => absurd rfl q)
  exact W.widen (Nat.le_add_right _ _) (Nat.le_add_right _ _) (kk _ _ _ _ _ _ ⟨hJ1, hP, hD, hS, hl⟩)
set_option maxHeartbeats 4000000 in
set_option maxRecDepth 100000 in
theorem arm_common (cx : lwCx p s m c args g cI cJ cII cJJ cZ tp b L xs) (hSh : lwSh a0 b0 Jt) (hO : lwA_common l g cI cJ cII cJJ cZ tp a0 b0 Jt) (hG : lwG s g cJ a0 b0 o b i Jt ws wm f H locs ls) (hi : i + 7 ≤ L) (hf : cells + 1 ≤ room_1.cells ∧ slots + 6 ≤ room_1.slots)
    (kk : ∀ (ws wm : va_W) (f : Nat → Int64) (H : Heap) (locs : List Loc) (ls : Array Slot), lwG s g cJ a0 b0 o b i Jt ws wm f H locs ls → W p l e room_1 s m args below meth c H locs (cells + 1) (slots + 6) Q (F0 m 811 ls [])) : W p l e room_1 s m args below meth c H locs cells slots Q (F0 m 444 ls []) := by
  obtain ⟨hx, hb, hml, hown, hT, hN, hth, hC, hZ, hKS, hKM, hX, hbl, hL3⟩ := cx
  obtain ⟨hJ, hP, hD, hS, hl⟩ := hG
  have hA : ∀ q : Nat, s.heap.size ≤ q → s.heap.size ≤ q := fun _ h => h
  obtain ⟨⟨fS, hfS⟩, fM, hfM⟩ := hSh ws wm hJ
  refine lv_aload_n hx hb d_Lw_law_444 rfl (lv_at hl 1 rfl) ?_
  refine lv_aload_n hx hb d_Lw_law_445 rfl (lv_at hl 0 rfl) ?_
  refine lv_iload hx hb d_Lw_law_446 (lv_at hl 4 rfl) ?_
  refine lv_iconst (v := (nI 1)) hx hb d_Lw_law_448 (by decide) ?_
  refine lv_iadd hx hb d_Lw_law_449 ?_
  refine my_ei (nI_add i 1) ?_
  refine lw_rd hx hb hX hbl hS (by omega) hL3 d_Lw_law_450 ?_
  refine lv_aload_n hx hb d_Lw_law_451 rfl (lv_at hl 0 rfl) ?_
  refine lv_iload hx hb d_Lw_law_452 (lv_at hl 4 rfl) ?_
  refine lv_iconst (v := (nI 2)) hx hb d_Lw_law_454 (by decide) ?_
  refine lv_iadd hx hb d_Lw_law_455 ?_
  refine my_ei (nI_add i 2) ?_
  refine lw_rd hx hb hX hbl hS (by omega) hL3 d_Lw_law_456 ?_
  refine lv_aload_n hx hb d_Lw_law_457 rfl (lv_at hl 0 rfl) ?_
  refine lv_iload hx hb d_Lw_law_458 (lv_at hl 4 rfl) ?_
  refine lv_iconst (v := (nI 3)) hx hb d_Lw_law_460 (by decide) ?_
  refine lv_iadd hx hb d_Lw_law_461 ?_
  refine my_ei (nI_add i 3) ?_
  refine lw_rd hx hb hX hbl hS (by omega) hL3 d_Lw_law_462 ?_
  refine lv_i2l (v := (xs (i + 3)).toInt64) hx hb d_Lw_law_463 rfl ?_
  refine lv_bipush (v := (nI 32)) hx hb d_Lw_law_464 (by decide) ?_
  refine lv_lshl hx hb d_Lw_law_466 rfl ?_
  refine lv_aload_n hx hb d_Lw_law_467 rfl (lv_at hl 0 rfl) ?_
  refine lv_iload hx hb d_Lw_law_468 (lv_at hl 4 rfl) ?_
  refine lv_iconst (v := (nI 4)) hx hb d_Lw_law_470 (by decide) ?_
  refine lv_iadd hx hb d_Lw_law_471 ?_
  refine my_ei (nI_add i 4) ?_
  refine lw_rd hx hb hX hbl hS (by omega) hL3 d_Lw_law_472 ?_
  refine lv_i2l (v := (xs (i + 4)).toInt64) hx hb d_Lw_law_473 rfl ?_
  refine lv_ldc2 (v := (lN 4294967295)) hx hb hown (hT _ tw_863) d_Lw_law_474 ?_
  refine lv_land hx hb d_Lw_law_477 ?_
  refine lv_lor hx hb d_Lw_law_478 ?_
  refine lv_aload_n hx hb d_Lw_law_479 rfl (lv_at hl 0 rfl) ?_
  refine lv_iload hx hb d_Lw_law_480 (lv_at hl 4 rfl) ?_
  refine lv_iconst (v := (nI 5)) hx hb d_Lw_law_482 (by decide) ?_
  refine lv_iadd hx hb d_Lw_law_483 ?_
  refine my_ei (nI_add i 5) ?_
  refine lw_rd hx hb hX hbl hS (by omega) hL3 d_Lw_law_484 ?_
  refine lv_i2l (v := (xs (i + 5)).toInt64) hx hb d_Lw_law_485 rfl ?_
  refine lv_bipush (v := (nI 32)) hx hb d_Lw_law_486 (by decide) ?_
  refine lv_lshl hx hb d_Lw_law_488 rfl ?_
  refine lv_aload_n hx hb d_Lw_law_489 rfl (lv_at hl 0 rfl) ?_
  refine lv_iload hx hb d_Lw_law_490 (lv_at hl 4 rfl) ?_
  refine lv_bipush (v := (nI 6)) hx hb d_Lw_law_492 (by decide) ?_
  refine lv_iadd hx hb d_Lw_law_494 ?_
  refine my_ei (nI_add i 6) ?_
  refine lw_rd hx hb hX hbl hS (by omega) hL3 d_Lw_law_495 ?_
  refine lv_i2l (v := (xs (i + 6)).toInt64) hx hb d_Lw_law_496 rfl ?_
  refine lv_ldc2 (v := (lN 4294967295)) hx hb hown (hT _ tw_863) d_Lw_law_497 ?_
  refine lv_land hx hb d_Lw_law_500 ?_
  refine lv_lor hx hb d_Lw_law_501 ?_
  obtain ⟨ws1, wm1, r, hcS, hcM, hJ1⟩ := hO (xs (i + 1)) (xs (i + 2)) ((((xs (i + 3)).toInt64) <<< ((nI 32).toInt64 &&& 63)) ||| (((xs (i + 4)).toInt64) &&& (lN 4294967295))) ((((xs (i + 5)).toInt64) <<< ((nI 32).toInt64 &&& 63)) ||| (((xs (i + 6)).toInt64) &&& (lN 4294967295))) ws wm hJ
  refine my_FV_i (q0 := 0) (ci := 0) (C := R_ST) (As := [.int (xs (i + 1)), .int (xs (i + 2)), .long ((((xs (i + 3)).toInt64) <<< ((nI 32).toInt64 &&& 63)) ||| (((xs (i + 4)).toInt64) &&& (lN 4294967295))), .long ((((xs (i + 5)).toInt64) <<< ((nI 32).toInt64 &&& 63)) ||| (((xs (i + 6)).toInt64) &&& (lN 4294967295)))]) (n := 4) hcS hx hb hml hown hT hN tw_468 tw_469 tw_470 tw_1 tw_471 (by decide +kernel) rfl rfl ⟨Nat.le_of_ble_eq_true rfl, Nat.le_of_ble_eq_true rfl⟩ ⟨Nat.le_of_succ_le hf.1, Nat.le_trans (Nat.le_add_right _ 6) hf.2⟩ hKS hP hD hS hA rfl hfS rfl hl rfl (Nat.le_of_ble_eq_true rfl) d_Lw_law_502 (fun H locs hP hD hS => ?_)
  refine lv_aload_n hx hb d_Lw_law_505 rfl (lv_at hl 2 rfl) ?_
  refine lv_aload_n hx hb d_Lw_law_506 rfl (lv_at hl 0 rfl) ?_
  refine lv_iload hx hb d_Lw_law_507 (lv_at hl 4 rfl) ?_
  refine lv_iconst (v := (nI 1)) hx hb d_Lw_law_509 (by decide) ?_
  refine lv_iadd hx hb d_Lw_law_510 ?_
  refine my_ei (nI_add i 1) ?_
  refine lw_rd hx hb hX hbl hS (by omega) hL3 d_Lw_law_511 ?_
  refine lv_aload_n hx hb d_Lw_law_512 rfl (lv_at hl 0 rfl) ?_
  refine lv_iload hx hb d_Lw_law_513 (lv_at hl 4 rfl) ?_
  refine lv_iconst (v := (nI 2)) hx hb d_Lw_law_515 (by decide) ?_
  refine lv_iadd hx hb d_Lw_law_516 ?_
  refine my_ei (nI_add i 2) ?_
  refine lw_rd hx hb hX hbl hS (by omega) hL3 d_Lw_law_517 ?_
  refine lv_aload_n hx hb d_Lw_law_518 rfl (lv_at hl 0 rfl) ?_
  refine lv_iload hx hb d_Lw_law_519 (lv_at hl 4 rfl) ?_
  refine lv_iconst (v := (nI 3)) hx hb d_Lw_law_521 (by decide) ?_
  refine lv_iadd hx hb d_Lw_law_522 ?_
  refine my_ei (nI_add i 3) ?_
  refine lw_rd hx hb hX hbl hS (by omega) hL3 d_Lw_law_523 ?_
  refine lv_i2l (v := (xs (i + 3)).toInt64) hx hb d_Lw_law_524 rfl ?_
  refine lv_bipush (v := (nI 32)) hx hb d_Lw_law_525 (by decide) ?_
  refine lv_lshl hx hb d_Lw_law_527 rfl ?_
  refine lv_aload_n hx hb d_Lw_law_528 rfl (lv_at hl 0 rfl) ?_
  refine lv_iload hx hb d_Lw_law_529 (lv_at hl 4 rfl) ?_
  refine lv_iconst (v := (nI 4)) hx hb d_Lw_law_531 (by decide) ?_
  refine lv_iadd hx hb d_Lw_law_532 ?_
  refine my_ei (nI_add i 4) ?_
  refine lw_rd hx hb hX hbl hS (by omega) hL3 d_Lw_law_533 ?_
  refine lv_i2l (v := (xs (i + 4)).toInt64) hx hb d_Lw_law_534 rfl ?_
  refine lv_ldc2 (v := (lN 4294967295)) hx hb hown (hT _ tw_863) d_Lw_law_535 ?_
  refine lv_land hx hb d_Lw_law_538 ?_
  refine lv_lor hx hb d_Lw_law_539 ?_
  refine lv_aload_n hx hb d_Lw_law_540 rfl (lv_at hl 0 rfl) ?_
  refine lv_iload hx hb d_Lw_law_541 (lv_at hl 4 rfl) ?_
  refine lv_iconst (v := (nI 5)) hx hb d_Lw_law_543 (by decide) ?_
  refine lv_iadd hx hb d_Lw_law_544 ?_
  refine my_ei (nI_add i 5) ?_
  refine lw_rd hx hb hX hbl hS (by omega) hL3 d_Lw_law_545 ?_
  refine lv_i2l (v := (xs (i + 5)).toInt64) hx hb d_Lw_law_546 rfl ?_
  refine lv_bipush (v := (nI 32)) hx hb d_Lw_law_547 (by decide) ?_
  refine lv_lshl hx hb d_Lw_law_549 rfl ?_
  refine lv_aload_n hx hb d_Lw_law_550 rfl (lv_at hl 0 rfl) ?_
  refine lv_iload hx hb d_Lw_law_551 (lv_at hl 4 rfl) ?_
  refine lv_bipush (v := (nI 6)) hx hb d_Lw_law_553 (by decide) ?_
  refine lv_iadd hx hb d_Lw_law_555 ?_
  refine my_ei (nI_add i 6) ?_
  refine lw_rd hx hb hX hbl hS (by omega) hL3 d_Lw_law_556 ?_
  refine lv_i2l (v := (xs (i + 6)).toInt64) hx hb d_Lw_law_557 rfl ?_
  refine lv_ldc2 (v := (lN 4294967295)) hx hb hown (hT _ tw_863) d_Lw_law_558 ?_
  refine lv_land hx hb d_Lw_law_561 ?_
  refine lv_lor hx hb d_Lw_law_562 ?_
  have hP := lw_toM hP
  have hD := lw_toMD hD
  refine my_FV_i (q0 := 0) (ci := 8) (C := R_Mo) (As := [.int (xs (i + 1)), .int (xs (i + 2)), .long ((((xs (i + 3)).toInt64) <<< ((nI 32).toInt64 &&& 63)) ||| (((xs (i + 4)).toInt64) &&& (lN 4294967295))), .long ((((xs (i + 5)).toInt64) <<< ((nI 32).toInt64 &&& 63)) ||| (((xs (i + 6)).toInt64) &&& (lN 4294967295)))]) (n := 4) hcM hx hb hml hown hT hN tw_828 tw_829 tw_830 tw_9 tw_831 (by decide +kernel) rfl rfl ⟨Nat.le_of_ble_eq_true rfl, Nat.le_of_ble_eq_true rfl⟩ ⟨Nat.le_of_succ_le hf.1, Nat.le_trans (Nat.le_add_right _ 6) hf.2⟩ hKM hP hD hS hA rfl hfM rfl hl rfl (Nat.le_of_ble_eq_true rfl) d_Lw_law_563 (fun H locs hP hD hS => ?_)
  have hP := lw_frM hP
  have hD := lw_frMD hD
  refine lv_icmp_eq (tgt := 811) hx hb d_Lw_law_566 (by decide) (fun _ => ?_) (fun q => absurd rfl q)
  exact W.widen (Nat.le_add_right _ _) (Nat.le_add_right _ _) (kk _ _ _ _ _ _ ⟨hJ1, hP, hD, hS, hl⟩)
set_option maxHeartbeats 4000000 in
set_option maxRecDepth 100000 in
theorem arm_grade (cx : lwCx p s m c args g cI cJ cII cJJ cZ tp b L xs) (hSh : lwSh a0 b0 Jt) (hO : lwA_grade l g cI cJ cII cJJ cZ tp a0 b0 Jt) (hG : lwG s g cJ a0 b0 o b i Jt ws wm f H locs ls) (hi : i + 7 ≤ L) (hf : cells + 1 ≤ room_1.cells ∧ slots + 6 ≤ room_1.slots)
    (kk : ∀ (ws wm : va_W) (f : Nat → Int64) (H : Heap) (locs : List Loc) (ls : Array Slot), lwG s g cJ a0 b0 o b i Jt ws wm f H locs ls → W p l e room_1 s m args below meth c H locs (cells + 1) (slots + 6) Q (F0 m 811 ls [])) : W p l e room_1 s m args below meth c H locs cells slots Q (F0 m 571 ls []) := by
  obtain ⟨hx, hb, hml, hown, hT, hN, hth, hC, hZ, hKS, hKM, hX, hbl, hL3⟩ := cx
  obtain ⟨hJ, hP, hD, hS, hl⟩ := hG
  have hA : ∀ q : Nat, s.heap.size ≤ q → s.heap.size ≤ q := fun _ h => h
  obtain ⟨⟨fS, hfS⟩, fM, hfM⟩ := hSh ws wm hJ
  refine lv_aload_n hx hb d_Lw_law_571 rfl (lv_at hl 1 rfl) ?_
  refine lv_aload_n hx hb d_Lw_law_572 rfl (lv_at hl 0 rfl) ?_
  refine lv_iload hx hb d_Lw_law_573 (lv_at hl 4 rfl) ?_
  refine lv_iconst (v := (nI 1)) hx hb d_Lw_law_575 (by decide) ?_
  refine lv_iadd hx hb d_Lw_law_576 ?_
  refine my_ei (nI_add i 1) ?_
  refine lw_rd hx hb hX hbl hS (by omega) hL3 d_Lw_law_577 ?_
  refine lv_aload_n hx hb d_Lw_law_578 rfl (lv_at hl 0 rfl) ?_
  refine lv_iload hx hb d_Lw_law_579 (lv_at hl 4 rfl) ?_
  refine lv_iconst (v := (nI 2)) hx hb d_Lw_law_581 (by decide) ?_
  refine lv_iadd hx hb d_Lw_law_582 ?_
  refine my_ei (nI_add i 2) ?_
  refine lw_rd hx hb hX hbl hS (by omega) hL3 d_Lw_law_583 ?_
  refine lv_aload_n hx hb d_Lw_law_584 rfl (lv_at hl 0 rfl) ?_
  refine lv_iload hx hb d_Lw_law_585 (lv_at hl 4 rfl) ?_
  refine lv_iconst (v := (nI 3)) hx hb d_Lw_law_587 (by decide) ?_
  refine lv_iadd hx hb d_Lw_law_588 ?_
  refine my_ei (nI_add i 3) ?_
  refine lw_rd hx hb hX hbl hS (by omega) hL3 d_Lw_law_589 ?_
  obtain ⟨ws1, wm1, r, hcS, hcM, hJ1⟩ := hO (xs (i + 1)) (xs (i + 2)) (xs (i + 3)) ws wm hJ
  refine my_FV_i (q0 := 0) (ci := 0) (C := R_ST) (As := [.int (xs (i + 1)), .int (xs (i + 2)), .int (xs (i + 3))]) (n := 3) hcS hx hb hml hown hT hN tw_480 tw_481 tw_482 tw_1 tw_483 (by decide +kernel) rfl rfl ⟨Nat.le_of_ble_eq_true rfl, Nat.le_of_ble_eq_true rfl⟩ ⟨Nat.le_of_succ_le hf.1, Nat.le_trans (Nat.le_add_right _ 6) hf.2⟩ hKS hP hD hS hA rfl hfS rfl hl rfl (Nat.le_of_ble_eq_true rfl) d_Lw_law_590 (fun H locs hP hD hS => ?_)
  refine lv_aload_n hx hb d_Lw_law_593 rfl (lv_at hl 2 rfl) ?_
  refine lv_aload_n hx hb d_Lw_law_594 rfl (lv_at hl 0 rfl) ?_
  refine lv_iload hx hb d_Lw_law_595 (lv_at hl 4 rfl) ?_
  refine lv_iconst (v := (nI 1)) hx hb d_Lw_law_597 (by decide) ?_
  refine lv_iadd hx hb d_Lw_law_598 ?_
  refine my_ei (nI_add i 1) ?_
  refine lw_rd hx hb hX hbl hS (by omega) hL3 d_Lw_law_599 ?_
  refine lv_aload_n hx hb d_Lw_law_600 rfl (lv_at hl 0 rfl) ?_
  refine lv_iload hx hb d_Lw_law_601 (lv_at hl 4 rfl) ?_
  refine lv_iconst (v := (nI 2)) hx hb d_Lw_law_603 (by decide) ?_
  refine lv_iadd hx hb d_Lw_law_604 ?_
  refine my_ei (nI_add i 2) ?_
  refine lw_rd hx hb hX hbl hS (by omega) hL3 d_Lw_law_605 ?_
  refine lv_aload_n hx hb d_Lw_law_606 rfl (lv_at hl 0 rfl) ?_
  refine lv_iload hx hb d_Lw_law_607 (lv_at hl 4 rfl) ?_
  refine lv_iconst (v := (nI 3)) hx hb d_Lw_law_609 (by decide) ?_
  refine lv_iadd hx hb d_Lw_law_610 ?_
  refine my_ei (nI_add i 3) ?_
  refine lw_rd hx hb hX hbl hS (by omega) hL3 d_Lw_law_611 ?_
  have hP := lw_toM hP
  have hD := lw_toMD hD
  refine my_FV_i (q0 := 0) (ci := 8) (C := R_Mo) (As := [.int (xs (i + 1)), .int (xs (i + 2)), .int (xs (i + 3))]) (n := 3) hcM hx hb hml hown hT hN tw_836 tw_837 tw_838 tw_9 tw_839 (by decide +kernel) rfl rfl ⟨Nat.le_of_ble_eq_true rfl, Nat.le_of_ble_eq_true rfl⟩ ⟨Nat.le_of_succ_le hf.1, Nat.le_trans (Nat.le_add_right _ 6) hf.2⟩ hKM hP hD hS hA rfl hfM rfl hl rfl (Nat.le_of_ble_eq_true rfl) d_Lw_law_612 (fun H locs hP hD hS => ?_)
  have hP := lw_frM hP
  have hD := lw_frMD hD
  refine lv_icmp_eq (tgt := 811) hx hb d_Lw_law_615 (by decide) (fun _ => ?_) (fun q => absurd rfl q)
  exact W.widen (Nat.le_add_right _ _) (Nat.le_add_right _ _) (kk _ _ _ _ _ _ ⟨hJ1, hP, hD, hS, hl⟩)
set_option maxHeartbeats 4000000 in
set_option maxRecDepth 100000 in
theorem arm_goal (cx : lwCx p s m c args g cI cJ cII cJJ cZ tp b L xs) (hSh : lwSh a0 b0 Jt) (hO : lwA_goal l g cI cJ cII cJJ cZ tp a0 b0 Jt) (hG : lwG s g cJ a0 b0 o b i Jt ws wm f H locs ls) (hi : i + 7 ≤ L) (hf : cells + 1 ≤ room_1.cells ∧ slots + 6 ≤ room_1.slots)
    (kk : ∀ (ws wm : va_W) (f : Nat → Int64) (H : Heap) (locs : List Loc) (ls : Array Slot), lwG s g cJ a0 b0 o b i Jt ws wm f H locs ls → W p l e room_1 s m args below meth c H locs (cells + 1) (slots + 6) Q (F0 m 811 ls [])) : W p l e room_1 s m args below meth c H locs cells slots Q (F0 m 620 ls []) := by
  obtain ⟨hx, hb, hml, hown, hT, hN, hth, hC, hZ, hKS, hKM, hX, hbl, hL3⟩ := cx
  obtain ⟨hJ, hP, hD, hS, hl⟩ := hG
  have hA : ∀ q : Nat, s.heap.size ≤ q → s.heap.size ≤ q := fun _ h => h
  obtain ⟨⟨fS, hfS⟩, fM, hfM⟩ := hSh ws wm hJ
  refine lv_aload_n hx hb d_Lw_law_620 rfl (lv_at hl 1 rfl) ?_
  refine lv_aload_n hx hb d_Lw_law_621 rfl (lv_at hl 0 rfl) ?_
  refine lv_iload hx hb d_Lw_law_622 (lv_at hl 4 rfl) ?_
  refine lv_iconst (v := (nI 1)) hx hb d_Lw_law_624 (by decide) ?_
  refine lv_iadd hx hb d_Lw_law_625 ?_
  refine my_ei (nI_add i 1) ?_
  refine lw_rd hx hb hX hbl hS (by omega) hL3 d_Lw_law_626 ?_
  obtain ⟨ws1, wm1, r, hcS, hcM, hJ1⟩ := hO (xs (i + 1)) ws wm hJ
  refine my_FV_i (q0 := 0) (ci := 0) (C := R_ST) (As := [.int (xs (i + 1))]) (n := 1) hcS hx hb hml hown hT hN tw_484 tw_485 tw_486 tw_1 tw_487 (by decide +kernel) rfl rfl ⟨Nat.le_of_ble_eq_true rfl, Nat.le_of_ble_eq_true rfl⟩ ⟨Nat.le_of_succ_le hf.1, Nat.le_trans (Nat.le_add_right _ 6) hf.2⟩ hKS hP hD hS hA rfl hfS rfl hl rfl (Nat.le_of_ble_eq_true rfl) d_Lw_law_627 (fun H locs hP hD hS => ?_)
  refine lv_aload_n hx hb d_Lw_law_630 rfl (lv_at hl 2 rfl) ?_
  refine lv_aload_n hx hb d_Lw_law_631 rfl (lv_at hl 0 rfl) ?_
  refine lv_iload hx hb d_Lw_law_632 (lv_at hl 4 rfl) ?_
  refine lv_iconst (v := (nI 1)) hx hb d_Lw_law_634 (by decide) ?_
  refine lv_iadd hx hb d_Lw_law_635 ?_
  refine my_ei (nI_add i 1) ?_
  refine lw_rd hx hb hX hbl hS (by omega) hL3 d_Lw_law_636 ?_
  have hP := lw_toM hP
  have hD := lw_toMD hD
  refine my_FV_i (q0 := 0) (ci := 8) (C := R_Mo) (As := [.int (xs (i + 1))]) (n := 1) hcM hx hb hml hown hT hN tw_842 tw_843 tw_844 tw_9 tw_845 (by decide +kernel) rfl rfl ⟨Nat.le_of_ble_eq_true rfl, Nat.le_of_ble_eq_true rfl⟩ ⟨Nat.le_of_succ_le hf.1, Nat.le_trans (Nat.le_add_right _ 6) hf.2⟩ hKM hP hD hS hA rfl hfM rfl hl rfl (Nat.le_of_ble_eq_true rfl) d_Lw_law_637 (fun H locs hP hD hS => ?_)
  have hP := lw_frM hP
  have hD := lw_frMD hD
  refine lv_icmp_eq (tgt := 811) hx hb d_Lw_law_640 (by decide) (fun _ => ?_) (fun q => absurd rfl q)
  exact W.widen (Nat.le_add_right _ _) (Nat.le_add_right _ _) (kk _ _ _ _ _ _ ⟨hJ1, hP, hD, hS, hl⟩)
set_option maxHeartbeats 4000000 in
set_option maxRecDepth 100000 in
theorem arm_trace (cx : lwCx p s m c args g cI cJ cII cJJ cZ tp b L xs) (hSh : lwSh a0 b0 Jt) (hO : lwA_trace l g cI cJ cII cJJ cZ tp a0 b0 Jt) (hG : lwG s g cJ a0 b0 o b i Jt ws wm f H locs ls) (hi : i + 7 ≤ L) (hf : cells + 1 ≤ room_1.cells ∧ slots + 6 ≤ room_1.slots)
    (kk : ∀ (ws wm : va_W) (f : Nat → Int64) (H : Heap) (locs : List Loc) (ls : Array Slot), lwG s g cJ a0 b0 o b i Jt ws wm f H locs ls → W p l e room_1 s m args below meth c H locs (cells + 1) (slots + 6) Q (F0 m 811 ls [])) : W p l e room_1 s m args below meth c H locs cells slots Q (F0 m 645 ls []) := by
  obtain ⟨hx, hb, hml, hown, hT, hN, hth, hC, hZ, hKS, hKM, hX, hbl, hL3⟩ := cx
  obtain ⟨hJ, hP, hD, hS, hl⟩ := hG
  have hA : ∀ q : Nat, s.heap.size ≤ q → s.heap.size ≤ q := fun _ h => h
  obtain ⟨⟨fS, hfS⟩, fM, hfM⟩ := hSh ws wm hJ
  refine lv_aload_n hx hb d_Lw_law_645 rfl (lv_at hl 1 rfl) ?_
  refine lv_aload_n hx hb d_Lw_law_646 rfl (lv_at hl 0 rfl) ?_
  refine lv_iload hx hb d_Lw_law_647 (lv_at hl 4 rfl) ?_
  refine lv_iconst (v := (nI 1)) hx hb d_Lw_law_649 (by decide) ?_
  refine lv_iadd hx hb d_Lw_law_650 ?_
  refine my_ei (nI_add i 1) ?_
  refine lw_rd hx hb hX hbl hS (by omega) hL3 d_Lw_law_651 ?_
  refine lv_aload_n hx hb d_Lw_law_652 rfl (lv_at hl 0 rfl) ?_
  refine lv_iload hx hb d_Lw_law_653 (lv_at hl 4 rfl) ?_
  refine lv_iconst (v := (nI 2)) hx hb d_Lw_law_655 (by decide) ?_
  refine lv_iadd hx hb d_Lw_law_656 ?_
  refine my_ei (nI_add i 2) ?_
  refine lw_rd hx hb hX hbl hS (by omega) hL3 d_Lw_law_657 ?_
  refine lv_aload_n hx hb d_Lw_law_658 rfl (lv_at hl 0 rfl) ?_
  refine lv_iload hx hb d_Lw_law_659 (lv_at hl 4 rfl) ?_
  refine lv_iconst (v := (nI 3)) hx hb d_Lw_law_661 (by decide) ?_
  refine lv_iadd hx hb d_Lw_law_662 ?_
  refine my_ei (nI_add i 3) ?_
  refine lw_rd hx hb hX hbl hS (by omega) hL3 d_Lw_law_663 ?_
  obtain ⟨ws1, wm1, r, hcS, hcM, hJ1⟩ := hO (xs (i + 1)) (xs (i + 2)) (xs (i + 3)) ws wm hJ
  refine my_FV_i (q0 := 0) (ci := 0) (C := R_ST) (As := [.int (xs (i + 1)), .int (xs (i + 2)), .int (xs (i + 3))]) (n := 3) hcS hx hb hml hown hT hN tw_492 tw_493 tw_494 tw_1 tw_495 (by decide +kernel) rfl rfl ⟨Nat.le_of_ble_eq_true rfl, Nat.le_of_ble_eq_true rfl⟩ ⟨Nat.le_of_succ_le hf.1, Nat.le_trans (Nat.le_add_right _ 6) hf.2⟩ hKS hP hD hS hA rfl hfS rfl hl rfl (Nat.le_of_ble_eq_true rfl) d_Lw_law_664 (fun H locs hP hD hS => ?_)
  refine lv_aload_n hx hb d_Lw_law_667 rfl (lv_at hl 2 rfl) ?_
  refine lv_aload_n hx hb d_Lw_law_668 rfl (lv_at hl 0 rfl) ?_
  refine lv_iload hx hb d_Lw_law_669 (lv_at hl 4 rfl) ?_
  refine lv_iconst (v := (nI 1)) hx hb d_Lw_law_671 (by decide) ?_
  refine lv_iadd hx hb d_Lw_law_672 ?_
  refine my_ei (nI_add i 1) ?_
  refine lw_rd hx hb hX hbl hS (by omega) hL3 d_Lw_law_673 ?_
  refine lv_aload_n hx hb d_Lw_law_674 rfl (lv_at hl 0 rfl) ?_
  refine lv_iload hx hb d_Lw_law_675 (lv_at hl 4 rfl) ?_
  refine lv_iconst (v := (nI 2)) hx hb d_Lw_law_677 (by decide) ?_
  refine lv_iadd hx hb d_Lw_law_678 ?_
  refine my_ei (nI_add i 2) ?_
  refine lw_rd hx hb hX hbl hS (by omega) hL3 d_Lw_law_679 ?_
  refine lv_aload_n hx hb d_Lw_law_680 rfl (lv_at hl 0 rfl) ?_
  refine lv_iload hx hb d_Lw_law_681 (lv_at hl 4 rfl) ?_
  refine lv_iconst (v := (nI 3)) hx hb d_Lw_law_683 (by decide) ?_
  refine lv_iadd hx hb d_Lw_law_684 ?_
  refine my_ei (nI_add i 3) ?_
  refine lw_rd hx hb hX hbl hS (by omega) hL3 d_Lw_law_685 ?_
  have hP := lw_toM hP
  have hD := lw_toMD hD
  refine my_FV_i (q0 := 0) (ci := 8) (C := R_Mo) (As := [.int (xs (i + 1)), .int (xs (i + 2)), .int (xs (i + 3))]) (n := 3) hcM hx hb hml hown hT hN tw_846 tw_847 tw_848 tw_9 tw_849 (by decide +kernel) rfl rfl ⟨Nat.le_of_ble_eq_true rfl, Nat.le_of_ble_eq_true rfl⟩ ⟨Nat.le_of_succ_le hf.1, Nat.le_trans (Nat.le_add_right _ 6) hf.2⟩ hKM hP hD hS hA rfl hfM rfl hl rfl (Nat.le_of_ble_eq_true rfl) d_Lw_law_686 (fun H locs hP hD hS => ?_)
  have hP := lw_frM hP
  have hD := lw_frMD hD
  refine lv_icmp_eq (tgt := 811) hx hb d_Lw_law_689 (by decide) (fun _ => ?_) (fun q => absurd rfl q)
  exact W.widen (Nat.le_add_right _ _) (Nat.le_add_right _ _) (kk _ _ _ _ _ _ ⟨hJ1, hP, hD, hS, hl⟩)
set_option maxHeartbeats 4000000 in
set_option maxRecDepth 100000 in
theorem arm_open (cx : lwCx p s m c args g cI cJ cII cJJ cZ tp b L xs) (hSh : lwSh a0 b0 Jt) (hO : lwA_open l g cI cJ cII cJJ cZ tp a0 b0 Jt) (hG : lwG s g cJ a0 b0 o b i Jt ws wm f H locs ls) (hi : i + 7 ≤ L) (hf : cells + 1 ≤ room_1.cells ∧ slots + 6 ≤ room_1.slots)
    (kk : ∀ (ws wm : va_W) (f : Nat → Int64) (H : Heap) (locs : List Loc) (ls : Array Slot), lwG s g cJ a0 b0 o b i Jt ws wm f H locs ls → W p l e room_1 s m args below meth c H locs (cells + 1) (slots + 6) Q (F0 m 811 ls [])) : W p l e room_1 s m args below meth c H locs cells slots Q (F0 m 694 ls []) := by
  obtain ⟨hx, hb, hml, hown, hT, hN, hth, hC, hZ, hKS, hKM, hX, hbl, hL3⟩ := cx
  obtain ⟨hJ, hP, hD, hS, hl⟩ := hG
  have hA : ∀ q : Nat, s.heap.size ≤ q → s.heap.size ≤ q := fun _ h => h
  obtain ⟨⟨fS, hfS⟩, fM, hfM⟩ := hSh ws wm hJ
  refine lv_aload_n hx hb d_Lw_law_694 rfl (lv_at hl 1 rfl) ?_
  refine lv_aload_n hx hb d_Lw_law_695 rfl (lv_at hl 0 rfl) ?_
  refine lv_iload hx hb d_Lw_law_696 (lv_at hl 4 rfl) ?_
  refine lv_iconst (v := (nI 1)) hx hb d_Lw_law_698 (by decide) ?_
  refine lv_iadd hx hb d_Lw_law_699 ?_
  refine my_ei (nI_add i 1) ?_
  refine lw_rd hx hb hX hbl hS (by omega) hL3 d_Lw_law_700 ?_
  obtain ⟨ws1, wm1, r, hcS, hcM, hJ1⟩ := hO (xs (i + 1)) ws wm hJ
  refine my_FV_i (q0 := 0) (ci := 0) (C := R_ST) (As := [.int (xs (i + 1))]) (n := 1) hcS hx hb hml hown hT hN tw_504 tw_505 tw_506 tw_1 tw_507 (by decide +kernel) rfl rfl ⟨Nat.le_of_ble_eq_true rfl, Nat.le_of_ble_eq_true rfl⟩ ⟨Nat.le_of_succ_le hf.1, Nat.le_trans (Nat.le_add_right _ 6) hf.2⟩ hKS hP hD hS hA rfl hfS rfl hl rfl (Nat.le_of_ble_eq_true rfl) d_Lw_law_701 (fun H locs hP hD hS => ?_)
  refine lv_aload_n hx hb d_Lw_law_704 rfl (lv_at hl 2 rfl) ?_
  refine lv_aload_n hx hb d_Lw_law_705 rfl (lv_at hl 0 rfl) ?_
  refine lv_iload hx hb d_Lw_law_706 (lv_at hl 4 rfl) ?_
  refine lv_iconst (v := (nI 1)) hx hb d_Lw_law_708 (by decide) ?_
  refine lv_iadd hx hb d_Lw_law_709 ?_
  refine my_ei (nI_add i 1) ?_
  refine lw_rd hx hb hX hbl hS (by omega) hL3 d_Lw_law_710 ?_
  have hP := lw_toM hP
  have hD := lw_toMD hD
  refine my_FV_i (q0 := 0) (ci := 8) (C := R_Mo) (As := [.int (xs (i + 1))]) (n := 1) hcM hx hb hml hown hT hN tw_851 tw_852 tw_853 tw_9 tw_854 (by decide +kernel) rfl rfl ⟨Nat.le_of_ble_eq_true rfl, Nat.le_of_ble_eq_true rfl⟩ ⟨Nat.le_of_succ_le hf.1, Nat.le_trans (Nat.le_add_right _ 6) hf.2⟩ hKM hP hD hS hA rfl hfM rfl hl rfl (Nat.le_of_ble_eq_true rfl) d_Lw_law_711 (fun H locs hP hD hS => ?_)
  have hP := lw_frM hP
  have hD := lw_frMD hD
  refine lv_icmp_eq (tgt := 811) hx hb d_Lw_law_714 (by decide) (fun _ => ?_) (fun q => absurd rfl q)
  exact W.widen (Nat.le_add_right _ _) (Nat.le_add_right _ _) (kk _ _ _ _ _ _ ⟨hJ1, hP, hD, hS, hl⟩)
set_option maxHeartbeats 4000000 in
set_option maxRecDepth 100000 in
theorem arm_cover (cx : lwCx p s m c args g cI cJ cII cJJ cZ tp b L xs) (hSh : lwSh a0 b0 Jt) (hO : lwA_cover l g cI cJ cII cJJ cZ tp a0 b0 Jt) (hG : lwG s g cJ a0 b0 o b i Jt ws wm f H locs ls) (hi : i + 7 ≤ L) (hf : cells + 1 ≤ room_1.cells ∧ slots + 6 ≤ room_1.slots)
    (kk : ∀ (ws wm : va_W) (f : Nat → Int64) (H : Heap) (locs : List Loc) (ls : Array Slot), lwG s g cJ a0 b0 o b i Jt ws wm f H locs ls → W p l e room_1 s m args below meth c H locs (cells + 1) (slots + 6) Q (F0 m 811 ls [])) : W p l e room_1 s m args below meth c H locs cells slots Q (F0 m 719 ls []) := by
  obtain ⟨hx, hb, hml, hown, hT, hN, hth, hC, hZ, hKS, hKM, hX, hbl, hL3⟩ := cx
  obtain ⟨hJ, hP, hD, hS, hl⟩ := hG
  have hA : ∀ q : Nat, s.heap.size ≤ q → s.heap.size ≤ q := fun _ h => h
  obtain ⟨⟨fS, hfS⟩, fM, hfM⟩ := hSh ws wm hJ
  rcases hO (xs (i + 1)) (xs (i + 2)) ws wm hJ with ⟨hcT, wm1, wm2, r, hcM, ⟨fM1, hfM1⟩, hcN, hJ1⟩ | ⟨ws1, wm1, wm2, r, hcS, hcM, ⟨fM1, hfM1⟩, hcN, hJ1⟩
  · skip
    refine lv_aload_n hx hb d_Lw_law_719 rfl (lv_at hl 1 rfl) ?_
    refine lv_aload_n hx hb d_Lw_law_720 rfl (lv_at hl 0 rfl) ?_
    refine lv_iload hx hb d_Lw_law_721 (lv_at hl 4 rfl) ?_
    refine lv_iconst (v := (nI 1)) hx hb d_Lw_law_723 (by decide) ?_
    refine lv_iadd hx hb d_Lw_law_724 ?_
    refine my_ei (nI_add i 1) ?_
    refine lw_rd hx hb hX hbl hS (by omega) hL3 d_Lw_law_725 ?_
    refine lv_aload_n hx hb d_Lw_law_726 rfl (lv_at hl 0 rfl) ?_
    refine lv_iload hx hb d_Lw_law_727 (lv_at hl 4 rfl) ?_
    refine lv_iconst (v := (nI 2)) hx hb d_Lw_law_729 (by decide) ?_
    refine lv_iadd hx hb d_Lw_law_730 ?_
    refine my_ei (nI_add i 2) ?_
    refine lw_rd hx hb hX hbl hS (by omega) hL3 d_Lw_law_731 ?_
    refine lv_aload_n hx hb d_Lw_law_732 rfl (lv_at hl 3 rfl) ?_
    have hP := lw_toC hP
    have hD := lw_toCD hD
    refine lw_callC (As := [.ref a0, .int (xs (i + 1)), .int (xs (i + 2)), .ref o]) (k_Lw_coverT l g cI cJ cII cJJ hcT hfS) hx hb hml hown hT hN hth hC ⟨Nat.le_of_ble_eq_true rfl, Nat.le_of_ble_eq_true rfl⟩ hf hKS hP hD hS hA (fun q h => hS.2.1 q h (Nat.not_le.mpr h)) rfl hl rfl (Nat.le_of_ble_eq_true rfl) d_Lw_law_733 (fun H locs hP hD hS => ?_)
    have hP := lw_frC hP
    have hD := lw_frCD hD
    refine lv_istore (lv' := [(5, .int (nI 1)), (0, .ref b), (1, .ref a0), (2, .ref b0), (3, .ref o), (4, .int (nI i))]) hx hb d_Lw_law_736 hl (by decide) rfl (fun ls hl => ?_)
    refine lv_aload_n hx hb d_Lw_law_738 rfl (lv_at hl 3 rfl) ?_
    refine lv_aload_n hx hb d_Lw_law_739 rfl (lv_at hl 1 rfl) ?_
    refine lv_iload hx hb d_Lw_law_740 (lv_at hl 5 rfl) ?_
    refine lv_iconst (v := (nI 1)) hx hb d_Lw_law_742 (by decide) ?_
    refine lv_iadd hx hb d_Lw_law_743 ?_
    refine my_ei (nI_add i 1) ?_
    refine lw_rd hx hb hX hbl hS (by omega) hL3 d_Lw_law_744 ?_
    refine lv_aload_n hx hb d_Lw_law_745 rfl (lv_at hl 1 rfl) ?_
    refine lv_iload hx hb d_Lw_law_746 (lv_at hl 5 rfl) ?_
    refine lv_iconst (v := (nI 2)) hx hb d_Lw_law_748 (by decide) ?_
    refine lv_iadd hx hb d_Lw_law_749 ?_
    refine my_ei (nI_add i 2) ?_
    refine lw_rd hx hb hX hbl hS (by omega) hL3 d_Lw_law_750 ?_
    have hP := lw_toM hP
    have hD := lw_toMD hD
    refine my_FV_l (q0 := 0) (ci := 8) (C := R_Mo) (As := [.int (xs (i + 1)), .int (xs (i + 2))]) (n := 2) hcM hx hb hml hown hT hN tw_859 tw_860 tw_861 tw_9 tw_862 (by decide +kernel) rfl rfl ⟨Nat.le_of_ble_eq_true rfl, Nat.le_of_ble_eq_true rfl⟩ ⟨hf.1, hf.2⟩ hKM hP hD hS hA rfl hfM rfl hl rfl (Nat.le_of_ble_eq_true rfl) d_Lw_law_751 (fun H locs hP hD hS => ?_)
    have hP := lw_frM hP
    have hD := lw_frMD hD
    refine lv_lstore (lv' := [(6, .long r), (5, .int (nI 1)), (0, .ref b), (1, .ref a0), (2, .ref b0), (3, .ref o), (4, .int (nI i))]) hx hb d_Lw_law_754 hl (by decide) rfl (fun ls hl => ?_)
    refine lv_aload_n hx hb d_Lw_law_756 rfl (lv_at hl 4 rfl) ?_
    have hP := lw_toM hP
    have hD := lw_toMD hD
    refine my_FV_i (q0 := 0) (ci := 8) (C := R_Mo) (As := []) (n := 0) hcN hx hb hml hown hT hN tw_728 tw_729 tw_730 tw_9 tw_731 (by decide +kernel) rfl rfl ⟨Nat.le_of_ble_eq_true rfl, Nat.le_of_ble_eq_true rfl⟩ ⟨hf.1, hf.2⟩ hKM hP hD hS hA rfl hfM1 rfl hl rfl (Nat.le_of_ble_eq_true rfl) d_Lw_law_757 (fun H locs hP hD hS => ?_)
    have hP := lw_frM hP
    have hD := lw_frMD hD
    refine lv_iload hx hb d_Lw_law_760 (lv_at hl 1 rfl) ?_
    refine lv_icmp_eq (tgt := 767) hx hb d_Lw_law_762 (by decide) (fun _ => ?_) (fun q => absurd rfl q)
    refine lv_iload hx hb d_Lw_law_767 (lv_at hl 1 rfl) ?_
    refine lv_if_ne (tgt := 783) hx hb d_Lw_law_769 (by decide) (fun _ => ?_) (fun q => absurd q (by decide))
    refine lv_goto (tgt := 811) hx hb d_Lw_law_783 (by decide) ?_
    exact kk _ _ _ _ _ _ ⟨hJ1, hP, hD, hS, lv_sub hl [2, 3, 4, 5, 6] rfl⟩
  · skip
    refine lv_aload_n hx hb d_Lw_law_719 rfl (lv_at hl 1 rfl) ?_
    refine lv_aload_n hx hb d_Lw_law_720 rfl (lv_at hl 0 rfl) ?_
    refine lv_iload hx hb d_Lw_law_721 (lv_at hl 4 rfl) ?_
    refine lv_iconst (v := (nI 1)) hx hb d_Lw_law_723 (by decide) ?_
    refine lv_iadd hx hb d_Lw_law_724 ?_
    refine my_ei (nI_add i 1) ?_
    refine lw_rd hx hb hX hbl hS (by omega) hL3 d_Lw_law_725 ?_
    refine lv_aload_n hx hb d_Lw_law_726 rfl (lv_at hl 0 rfl) ?_
    refine lv_iload hx hb d_Lw_law_727 (lv_at hl 4 rfl) ?_
    refine lv_iconst (v := (nI 2)) hx hb d_Lw_law_729 (by decide) ?_
    refine lv_iadd hx hb d_Lw_law_730 ?_
    refine my_ei (nI_add i 2) ?_
    refine lw_rd hx hb hX hbl hS (by omega) hL3 d_Lw_law_731 ?_
    refine lv_aload_n hx hb d_Lw_law_732 rfl (lv_at hl 3 rfl) ?_
    have hP := lw_toC hP
    have hD := lw_toCD hD
    refine lw_callC (As := [.ref a0, .int (xs (i + 1)), .int (xs (i + 2)), .ref o]) (k_Lw_coverR l g cI cJ cII cJJ hcS hfS) hx hb hml hown hT hN hth hC ⟨Nat.le_of_ble_eq_true rfl, Nat.le_of_ble_eq_true rfl⟩ hf hKS hP hD hS hA (fun q h => hS.2.1 q h (Nat.not_le.mpr h)) rfl hl rfl (Nat.le_of_ble_eq_true rfl) d_Lw_law_733 (fun H locs hP hD hS => ?_)
    have hP := lw_frC hP
    have hD := lw_frCD hD
    refine lv_istore (lv' := [(5, .int (nI 0)), (0, .ref b), (1, .ref a0), (2, .ref b0), (3, .ref o), (4, .int (nI i))]) hx hb d_Lw_law_736 hl (by decide) rfl (fun ls hl => ?_)
    refine lv_aload_n hx hb d_Lw_law_738 rfl (lv_at hl 3 rfl) ?_
    refine lv_aload_n hx hb d_Lw_law_739 rfl (lv_at hl 1 rfl) ?_
    refine lv_iload hx hb d_Lw_law_740 (lv_at hl 5 rfl) ?_
    refine lv_iconst (v := (nI 1)) hx hb d_Lw_law_742 (by decide) ?_
    refine lv_iadd hx hb d_Lw_law_743 ?_
    refine my_ei (nI_add i 1) ?_
    refine lw_rd hx hb hX hbl hS (by omega) hL3 d_Lw_law_744 ?_
    refine lv_aload_n hx hb d_Lw_law_745 rfl (lv_at hl 1 rfl) ?_
    refine lv_iload hx hb d_Lw_law_746 (lv_at hl 5 rfl) ?_
    refine lv_iconst (v := (nI 2)) hx hb d_Lw_law_748 (by decide) ?_
    refine lv_iadd hx hb d_Lw_law_749 ?_
    refine my_ei (nI_add i 2) ?_
    refine lw_rd hx hb hX hbl hS (by omega) hL3 d_Lw_law_750 ?_
    have hP := lw_toM hP
    have hD := lw_toMD hD
    refine my_FV_l (q0 := 0) (ci := 8) (C := R_Mo) (As := [.int (xs (i + 1)), .int (xs (i + 2))]) (n := 2) hcM hx hb hml hown hT hN tw_859 tw_860 tw_861 tw_9 tw_862 (by decide +kernel) rfl rfl ⟨Nat.le_of_ble_eq_true rfl, Nat.le_of_ble_eq_true rfl⟩ ⟨hf.1, hf.2⟩ hKM hP hD hS hA rfl hfM rfl hl rfl (Nat.le_of_ble_eq_true rfl) d_Lw_law_751 (fun H locs hP hD hS => ?_)
    have hP := lw_frM hP
    have hD := lw_frMD hD
    refine lv_lstore (lv' := [(6, .long r), (5, .int (nI 0)), (0, .ref b), (1, .ref a0), (2, .ref b0), (3, .ref o), (4, .int (nI i))]) hx hb d_Lw_law_754 hl (by decide) rfl (fun ls hl => ?_)
    refine lv_aload_n hx hb d_Lw_law_756 rfl (lv_at hl 4 rfl) ?_
    have hP := lw_toM hP
    have hD := lw_toMD hD
    refine my_FV_i (q0 := 0) (ci := 8) (C := R_Mo) (As := []) (n := 0) hcN hx hb hml hown hT hN tw_728 tw_729 tw_730 tw_9 tw_731 (by decide +kernel) rfl rfl ⟨Nat.le_of_ble_eq_true rfl, Nat.le_of_ble_eq_true rfl⟩ ⟨hf.1, hf.2⟩ hKM hP hD hS hA rfl hfM1 rfl hl rfl (Nat.le_of_ble_eq_true rfl) d_Lw_law_757 (fun H locs hP hD hS => ?_)
    have hP := lw_frM hP
    have hD := lw_frMD hD
    refine lv_iload hx hb d_Lw_law_760 (lv_at hl 1 rfl) ?_
    refine lv_icmp_eq (tgt := 767) hx hb d_Lw_law_762 (by decide) (fun _ => ?_) (fun q => absurd rfl q)
    refine lv_iload hx hb d_Lw_law_767 (lv_at hl 1 rfl) ?_
    refine lv_if_ne (tgt := 783) hx hb d_Lw_law_769 (by decide) (fun q => absurd q (by decide)) (fun _ => ?_)
    refine lv_aload_n hx hb d_Lw_law_772 rfl (lv_at hl 5 rfl) ?_
    refine lv_iconst (v := (nI 0)) hx hb d_Lw_law_773 (by decide) ?_
    refine my_lald (v := r) (i := 0) hx hb hKS (lw_spP (lw_spP hP).2).2 0 1 rfl rfl (by decide) (by decide) rfl d_Lw_law_774 ?_
    refine lv_lload hx hb d_Lw_law_775 (lv_at hl 0 rfl) ?_
    refine my_lcmpR_eq (tgt := 783) hx hb d_Lw_law_777 d_Lw_law_778 (by decide) (fun _ => ?_) (fun q => absurd rfl q)
    refine lv_goto (tgt := 811) hx hb d_Lw_law_783 (by decide) ?_
    exact kk _ _ _ _ _ _ ⟨hJ1, hP, hD, hS, lv_sub hl [2, 3, 4, 5, 6] rfl⟩
set_option maxHeartbeats 4000000 in
set_option maxRecDepth 100000 in
theorem arm_plain (cx : lwCx p s m c args g cI cJ cII cJJ cZ tp b L xs) (hSh : lwSh a0 b0 Jt) (hO : lwA_plain l g cI cJ cII cJJ cZ tp a0 b0 Jt) (hG : lwG s g cJ a0 b0 o b i Jt ws wm f H locs ls) (hi : i + 7 ≤ L) (hf : cells + 1 ≤ room_1.cells ∧ slots + 6 ≤ room_1.slots)
    (kk : ∀ (ws wm : va_W) (f : Nat → Int64) (H : Heap) (locs : List Loc) (ls : Array Slot), lwG s g cJ a0 b0 o b i Jt ws wm f H locs ls → W p l e room_1 s m args below meth c H locs (cells + 1) (slots + 6) Q (F0 m 811 ls [])) : W p l e room_1 s m args below meth c H locs cells slots Q (F0 m 786 ls []) := by
  obtain ⟨hx, hb, hml, hown, hT, hN, hth, hC, hZ, hKS, hKM, hX, hbl, hL3⟩ := cx
  obtain ⟨hJ, hP, hD, hS, hl⟩ := hG
  have hA : ∀ q : Nat, s.heap.size ≤ q → s.heap.size ≤ q := fun _ h => h
  obtain ⟨⟨fS, hfS⟩, fM, hfM⟩ := hSh ws wm hJ
  refine lv_aload_n hx hb d_Lw_law_786 rfl (lv_at hl 1 rfl) ?_
  refine lv_aload_n hx hb d_Lw_law_787 rfl (lv_at hl 0 rfl) ?_
  refine lv_iload hx hb d_Lw_law_788 (lv_at hl 4 rfl) ?_
  refine lv_iconst (v := (nI 1)) hx hb d_Lw_law_790 (by decide) ?_
  refine lv_iadd hx hb d_Lw_law_791 ?_
  refine my_ei (nI_add i 1) ?_
  refine lw_rd hx hb hX hbl hS (by omega) hL3 d_Lw_law_792 ?_
  obtain ⟨ws1, wm1, r, hcS, hcM, hJ1⟩ := hO (xs (i + 1)) ws wm hJ
  refine my_FV_i (q0 := 0) (ci := 0) (C := R_ST) (As := [.int (xs (i + 1))]) (n := 1) hcS hx hb hml hown hT hN tw_528 tw_529 tw_530 tw_1 tw_531 (by decide +kernel) rfl rfl ⟨Nat.le_of_ble_eq_true rfl, Nat.le_of_ble_eq_true rfl⟩ ⟨Nat.le_of_succ_le hf.1, Nat.le_trans (Nat.le_add_right _ 6) hf.2⟩ hKS hP hD hS hA rfl hfS rfl hl rfl (Nat.le_of_ble_eq_true rfl) d_Lw_law_793 (fun H locs hP hD hS => ?_)
  refine lv_aload_n hx hb d_Lw_law_796 rfl (lv_at hl 2 rfl) ?_
  refine lv_aload_n hx hb d_Lw_law_797 rfl (lv_at hl 0 rfl) ?_
  refine lv_iload hx hb d_Lw_law_798 (lv_at hl 4 rfl) ?_
  refine lv_iconst (v := (nI 1)) hx hb d_Lw_law_800 (by decide) ?_
  refine lv_iadd hx hb d_Lw_law_801 ?_
  refine my_ei (nI_add i 1) ?_
  refine lw_rd hx hb hX hbl hS (by omega) hL3 d_Lw_law_802 ?_
  have hP := lw_toM hP
  have hD := lw_toMD hD
  refine my_FV_i (q0 := 0) (ci := 8) (C := R_Mo) (As := [.int (xs (i + 1))]) (n := 1) hcM hx hb hml hown hT hN tw_788 tw_789 tw_790 tw_9 tw_791 (by decide +kernel) rfl rfl ⟨Nat.le_of_ble_eq_true rfl, Nat.le_of_ble_eq_true rfl⟩ ⟨Nat.le_of_succ_le hf.1, Nat.le_trans (Nat.le_add_right _ 6) hf.2⟩ hKM hP hD hS hA rfl hfM rfl hl rfl (Nat.le_of_ble_eq_true rfl) d_Lw_law_803 (fun H locs hP hD hS => ?_)
  have hP := lw_frM hP
  have hD := lw_frMD hD
  refine lv_icmp_eq (tgt := 811) hx hb d_Lw_law_806 (by decide) (fun _ => ?_) (fun q => absurd rfl q)
  exact W.widen (Nat.le_add_right _ _) (Nat.le_add_right _ _) (kk _ _ _ _ _ _ ⟨hJ1, hP, hD, hS, hl⟩)
end LWH
