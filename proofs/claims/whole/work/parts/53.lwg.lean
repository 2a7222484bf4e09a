theorem lw_and15 (x : Int32) : ∃ k, k < 16 ∧ x &&& nI 15 = nI k := by
  refine ⟨x.toBitVec.toNat &&& 15, Nat.lt_succ_of_le Nat.and_le_right, ?_⟩
  apply Int32.toBitVec_inj.mp
  apply BitVec.eq_of_toNat_eq
  rw [Int32.toBitVec_and, BitVec.toNat_and]
  show x.toBitVec.toNat &&& 15 = (x.toBitVec.toNat &&& 15) % 2 ^ 32
  rw [Nat.mod_eq_of_lt]
  exact Nat.lt_of_le_of_lt Nat.and_le_right (by decide)
theorem lw_gt {i L : Nat} (hi : i < 2 ^ 30) (hL : L ≤ 3584) (h : ¬ Int32.ofNat L - nI 7 < nI i) : i + 7 ≤ L := by
  rw [Int32.lt_iff_toInt_lt, nI_toInt (by omega), show Int32.ofNat L = nI L from rfl, pk_sub_toInt (by omega) (by decide)] at h
  omega
def lwAll (l : Launch) (g : va_G) (cI cJ cII cJJ cZ : ClassId) (tp a0 b0 : Nat) (Jt : va_W → va_W → Prop) : Prop :=
  lwA_event l g cI cJ cII cJJ cZ tp a0 b0 Jt ∧ lwA_gate l g cI cJ cII cJJ cZ tp a0 b0 Jt ∧ lwA_below l g cI cJ cII cJJ cZ tp a0 b0 Jt ∧ lwA_cuts l g cI cJ cII cJJ cZ tp a0 b0 Jt ∧ lwA_cut l g cI cJ cII cJJ cZ tp a0 b0 Jt ∧ lwA_chance l g cI cJ cII cJJ cZ tp a0 b0 Jt ∧ lwA_exact l g cI cJ cII cJJ cZ tp a0 b0 Jt ∧ lwA_common l g cI cJ cII cJJ cZ tp a0 b0 Jt ∧ lwA_grade l g cI cJ cII cJJ cZ tp a0 b0 Jt ∧ lwA_goal l g cI cJ cII cJJ cZ tp a0 b0 Jt ∧ lwA_trace l g cI cJ cII cJJ cZ tp a0 b0 Jt ∧ lwA_open l g cI cJ cII cJJ cZ tp a0 b0 Jt ∧ lwA_cover l g cI cJ cII cJJ cZ tp a0 b0 Jt ∧ lwA_plain l g cI cJ cII cJJ cZ tp a0 b0 Jt
section LWH
variable {p : Program} {l : Launch} {e : Env} {s : State} {m : MethodId} {args : Array Value} {below : List Frame} {meth : Method} {c : Code} {H : Heap} {locs : List Loc} {cells slots : Nat} {Q : State → Prop}
variable {ls : Array Slot} {g : va_G} {cI cJ cII cJJ cZ : ClassId} {tp a0 b0 o b i L : Nat} {xs : Nat → Int32} {Jt : va_W → va_W → Prop} {ws wm : va_W} {f : Nat → Int64}
set_option maxHeartbeats 4000000 in
set_option maxRecDepth 100000 in
theorem lw_loop (cx : lwCx p s m c args g cI cJ cII cJJ cZ tp b L xs) (hSh : lwSh a0 b0 Jt) (hAll : lwAll l g cI cJ cII cJJ cZ tp a0 b0 Jt)
    (hend : ∀ (H : Heap) (locs : List Loc) (ls : Array Slot) (cells slots : Nat), cells ≤ room_1.cells → slots ≤ room_1.slots → va_S (fun q => s.heap.size ≤ q) s.heap H locs → W p l e room_1 s m args below meth c H locs cells slots Q (F0 m 818 ls [.int 1])) :
    ∀ (k i cells slots : Nat) (ws wm : va_W) (f : Nat → Int64) (H : Heap) (locs : List Loc) (ls : Array Slot), L < i + 7 + 7 * k → i < 2 ^ 29 → cells + k ≤ room_1.cells → slots + 6 * k ≤ room_1.slots → lwG s g cJ a0 b0 o b i Jt ws wm f H locs ls → W p l e room_1 s m args below meth c H locs cells slots Q (F0 m 23 ls []) := by
  have cx0 := cx
  obtain ⟨hx, hb, hml, hown, hT, hN, hth, hC, hZ, hKS, hKM, hX, hbl, hL3⟩ := cx
  obtain ⟨hA_event, hA_gate, hA_below, hA_cuts, hA_cut, hA_chance, hA_exact, hA_common, hA_grade, hA_goal, hA_trace, hA_open, hA_cover, hA_plain⟩ := hAll
  intro k
  induction k with
  | zero =>
    intro i cells slots ws wm f H locs ls hk hi h1 h2 hG
    obtain ⟨hJ, hP, hD, hS, hl⟩ := id hG
    refine lv_iload hx hb d_Lw_law_23 (lv_at hl 4 rfl) ?_
    refine lv_aload_n hx hb d_Lw_law_25 rfl (lv_at hl 0 rfl) ?_
    refine va_slen hx hb hX hbl (by omega) hS d_Lw_law_26 ?_
    refine lv_bipush (v := nI 7) hx hb d_Lw_law_27 (by decide) ?_
    refine lv_isub hx hb d_Lw_law_29 ?_
    refine lv_icmp_gt (tgt := 817) hx hb d_Lw_law_30 (by decide) (fun _ => ?_) (fun q => ?_)
    · refine lv_iconst (v := 1) hx hb d_Lw_law_817 (by decide) ?_
      exact hend _ _ _ _ _ (by omega) (by omega) hS
    · have := lw_gt (by omega) hL3 q
      omega
  | succ k ih =>
    intro i cells slots ws wm f H locs ls hk hi h1 h2 hG
    obtain ⟨hJ, hP, hD, hS, hl⟩ := id hG
    refine lv_iload hx hb d_Lw_law_23 (lv_at hl 4 rfl) ?_
    refine lv_aload_n hx hb d_Lw_law_25 rfl (lv_at hl 0 rfl) ?_
    refine va_slen hx hb hX hbl (by omega) hS d_Lw_law_26 ?_
    refine lv_bipush (v := nI 7) hx hb d_Lw_law_27 (by decide) ?_
    refine lv_isub hx hb d_Lw_law_29 ?_
    refine lv_icmp_gt (tgt := 817) hx hb d_Lw_law_30 (by decide) (fun _ => ?_) (fun q => ?_)
    · refine lv_iconst (v := 1) hx hb d_Lw_law_817 (by decide) ?_
      exact hend _ _ _ _ _ (by omega) (by omega) hS
    · have hi7 := lw_gt (by omega) hL3 q
      have hf : cells + 1 ≤ room_1.cells ∧ slots + 6 ≤ room_1.slots := ⟨by omega, by omega⟩
      have back : ∀ (ws wm : va_W) (f : Nat → Int64) (H : Heap) (locs : List Loc) (ls : Array Slot), lwG s g cJ a0 b0 o b i Jt ws wm f H locs ls → W p l e room_1 s m args below meth c H locs (cells + 1) (slots + 6) Q (F0 m 811 ls []) := by
        intro ws wm f H locs ls hG
        obtain ⟨hJ, hP, hD, hS, hl⟩ := hG
        refine lv_iinc (v := nI (i + 7)) (lv' := [(4, .int (nI (i + 7))), (0, .ref b), (1, .ref a0), (2, .ref b0), (3, .ref o)]) hx hb d_Lw_law_811 hl (k := 4) rfl (by show nI i + nI 7 = _; exact nI_add i 7) (by decide) rfl (fun ls hl => ?_)
        refine lv_goto (tgt := 23) hx hb d_Lw_law_814 (by decide) ?_
        exact ih (i + 7) _ _ ws wm f H locs ls (by omega) (by omega) (by omega) (by omega) ⟨hJ, hP, hD, hS, lv_sub hl [1, 2, 3, 4, 0] rfl⟩
      refine lv_aload_n hx hb d_Lw_law_33 rfl (lv_at hl 0 rfl) ?_
      refine lv_iload hx hb d_Lw_law_34 (lv_at hl 4 rfl) ?_
      refine lw_rd hx hb hX hbl hS (by omega) hL3 d_Lw_law_36 ?_
      refine lv_bipush (v := nI 15) hx hb d_Lw_law_37 (by decide) ?_
      refine lv_iand hx hb d_Lw_law_39 ?_
      obtain ⟨n, hn, en⟩ := lw_and15 (xs i)
      rw [en]
      rcases (show n = 0 ∨ n = 1 ∨ n = 2 ∨ n = 3 ∨ n = 4 ∨ n = 5 ∨ n = 6 ∨ n = 7 ∨ n = 8 ∨ n = 9 ∨ n = 10 ∨ n = 11 ∨ n = 12 ∨ n = 13 ∨ n = 14 ∨ n = 15 by omega) with rfl | rfl | rfl | rfl | rfl | rfl | rfl | rfl | rfl | rfl | rfl | rfl | rfl | rfl | rfl | rfl
      · refine lv_tableIn (tgt := 112) hx hb d_Lw_law_40 (by decide) (by decide) rfl (by decide) ?_
        exact arm_event cx0 hSh hA_event hG hi7 hf back
      · refine lv_tableIn (tgt := 213) hx hb d_Lw_law_40 (by decide) (by decide) rfl (by decide) ?_
        exact arm_gate cx0 hSh hA_gate hG hi7 hf back
      · refine lv_tableIn (tgt := 250) hx hb d_Lw_law_40 (by decide) (by decide) rfl (by decide) ?_
        exact arm_below cx0 hSh hA_below hG hi7 hf back
      · refine lv_tableIn (tgt := 287) hx hb d_Lw_law_40 (by decide) (by decide) rfl (by decide) ?_
        exact arm_cuts cx0 hSh hA_cuts hG hi7 hf back
      · refine lv_tableIn (tgt := 356) hx hb d_Lw_law_40 (by decide) (by decide) rfl (by decide) ?_
        exact arm_cut cx0 hSh hA_cut hG hi7 hf back
      · refine lv_tableIn (tgt := 393) hx hb d_Lw_law_40 (by decide) (by decide) rfl (by decide) ?_
        exact arm_chance cx0 hSh hA_chance hG hi7 hf back
      · refine lv_tableIn (tgt := 431) hx hb d_Lw_law_40 (by decide) (by decide) rfl (by decide) ?_
        exact arm_exact cx0 hSh hA_exact hG hi7 hf back
      · refine lv_tableIn (tgt := 444) hx hb d_Lw_law_40 (by decide) (by decide) rfl (by decide) ?_
        exact arm_common cx0 hSh hA_common hG hi7 hf back
      · refine lv_tableIn (tgt := 571) hx hb d_Lw_law_40 (by decide) (by decide) rfl (by decide) ?_
        exact arm_grade cx0 hSh hA_grade hG hi7 hf back
      · refine lv_tableIn (tgt := 620) hx hb d_Lw_law_40 (by decide) (by decide) rfl (by decide) ?_
        exact arm_goal cx0 hSh hA_goal hG hi7 hf back
      · refine lv_tableIn (tgt := 645) hx hb d_Lw_law_40 (by decide) (by decide) rfl (by decide) ?_
        exact arm_trace cx0 hSh hA_trace hG hi7 hf back
      · refine lv_tableIn (tgt := 694) hx hb d_Lw_law_40 (by decide) (by decide) rfl (by decide) ?_
        exact arm_open cx0 hSh hA_open hG hi7 hf back
      · refine lv_tableIn (tgt := 719) hx hb d_Lw_law_40 (by decide) (by decide) rfl (by decide) ?_
        exact arm_cover cx0 hSh hA_cover hG hi7 hf back
      · refine lv_tableIn (tgt := 786) hx hb d_Lw_law_40 (by decide) (by decide) rfl (by decide) ?_
        exact arm_plain cx0 hSh hA_plain hG hi7 hf back
      · refine lv_tableOut (tgt := 811) hx hb d_Lw_law_40 (by decide) (by decide) ?_
        exact W.widen (Nat.le_add_right _ _) (Nat.le_add_right _ _) (back _ _ _ _ _ _ hG)
      · refine lv_tableOut (tgt := 811) hx hb d_Lw_law_40 (by decide) (by decide) ?_
        exact W.widen (Nat.le_add_right _ _) (Nat.le_add_right _ _) (back _ _ _ _ _ _ hG)
end LWH
