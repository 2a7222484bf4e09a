def bdF (mu md m1 m2 m3 m4 : Nat → Nat) (mc e : Nat) : Nat := if boF mu md m1 m2 m3 m4 e mc < 2520 then boF mu md m1 m2 m3 m4 e mc else 2520
theorem bdF_le {mu md m1 m2 m3 m4 : Nat → Nat} {mc e : Nat} : bdF mu md m1 m2 m3 m4 mc e ≤ 2520 := by unfold bdF; split <;> omega
def vbF (bd ea : Nat → Nat) (v : Nat → Nat) : Nat → (Nat → Nat)
  | 0 => v
  | k + 1 => va_up (vbF bd ea v k) (ea k) (bd (ea k))
/-- (least, sum) below a gate -/
def lsF (v mb : Nat → Nat) (g : Nat) : Nat → Nat × Nat
  | 0 => (2520, 0)
  | i + 1 => (if v (mb (10 * g + i)) < (lsF v mb g i).1 then v (mb (10 * g + i)) else (lsF v mb g i).1, (lsF v mb g i).2 + v (mb (10 * g + i)))
def ngF (mk mo ms mb v : Nat → Nat) (g : Nat) : Nat := if mk g = 1 then (lsF v mb g (ms g)).1 else if mk g = 2 then (lsF v mb g (ms g)).2 else ((lsF v mb g (ms g)).2 + mo g - 1) / mo g
def vgF (mk mo ms mb oo : Nat → Nat) (v : Nat → Nat) : Nat → (Nat → Nat)
  | 0 => v
  | k + 1 => va_up (vgF mk mo ms mb oo v k) (oo k) (if ngF mk mo ms mb (vgF mk mo ms mb oo v k) (oo k) < 2520 then ngF mk mo ms mb (vgF mk mo ms mb oo v k) (oo k) else 2520)
theorem vbF_le {bd ea v : Nat → Nat} (h : ∀ j, v j ≤ 2520) (hb : ∀ j, bd j ≤ 2520) : ∀ k j, vbF bd ea v k j ≤ 2520
  | 0 => h
  | k + 1 => up_le (vbF_le h hb k) (hb _)
theorem vgF_le {mk mo ms mb oo v : Nat → Nat} (h : ∀ j, v j ≤ 2520) : ∀ k j, vgF mk mo ms mb oo v k j ≤ 2520
  | 0 => h
  | k + 1 => up_le (vgF_le h k) (by split <;> omega)
theorem lsF_le {v mb : Nat → Nat} {g : Nat} (h : ∀ j, v j ≤ 2520) : ∀ i, (lsF v mb g i).1 ≤ 2520 ∧ (lsF v mb g i).2 ≤ 2520 * i
  | 0 => ⟨Nat.le_refl _, Nat.le_refl _⟩
  | i + 1 => by
    obtain ⟨h1, h2⟩ := lsF_le (mb := mb) (g := g) h i
    have := h (mb (10 * g + i))
    refine ⟨?_, ?_⟩
    · show (if _ then _ else _) ≤ 2520
      split <;> omega
    · show (lsF v mb g i).2 + _ ≤ _
      omega
def cxF (ud : Nat → Bool) (m1 m2 : Nat → Nat) (n : Nat) : Nat → Nat
  | 0 => n
  | c + 1 => if ud (m1 c) = true ∨ ud (m2 c) = true then cxF ud m1 m2 n c + 1 else cxF ud m1 m2 n c
theorem cxF_le (ud : Nat → Bool) (m1 m2 : Nat → Nat) (n : Nat) : ∀ c, cxF ud m1 m2 n c ≤ n + c
  | 0 => Nat.le_refl _
  | c + 1 => by
    have := cxF_le ud m1 m2 n c
    by_cases h : ud (m1 c) = true ∨ ud (m2 c) = true
    · rw [show cxF ud m1 m2 n (c + 1) = cxF ud m1 m2 n c + 1 from if_pos h]; omega
    · rw [show cxF ud m1 m2 n (c + 1) = cxF ud m1 m2 n c from if_neg h]; omega
set_option maxHeartbeats 4000000 in
set_option maxRecDepth 100000 in
theorem k_Mo_boundChance (l : Launch) (g : va_G) (b : Nat → Nat) (cI cJ cZ : ClassId) (f0 : Nat) (mn : Nat) (mv : Nat) (mg : Nat) (mk : Nat → Nat) (mo : Nat → Nat) (mu : Nat → Nat) (md : Nat → Nat) (ms : Nat → Nat) (mb : Nat → Nat) (mc : Nat) (m1 : Nat → Nat) (m2 : Nat → Nat) (m3 : Nat → Nat) (m4 : Nat → Nat) (we : Bool) (ud : Nat → Bool) (my : Nat) (ea : Nat → Nat) (od : Nat) (oo : Nat → Nat) (dn : Nat → Bool) (va : Nat → Nat) (ho : Nat → Bool) (wt : Nat → Nat) (cm : Nat) (co : Nat → Nat) (te : Nat → Nat) (tm : Nat) (gs : Nat) (gl : Nat → Nat) (rs : Nat) (rg : Nat → Nat) (rp : Nat → Nat) (rt : Nat → Nat) (x : Nat) (z : Int32) (hx1 : x ≤ 32) (hmn : mn ≤ 32) (hms : ∀ j, ms j ≤ 10) (hmb : ∀ j, mb j ≤ 32) (hev : evc mk mn ≤ 12) (hgt : ndc (fun j => decide (mk j = 0)) mn ≤ 20) (hmk : ∀ j, mk j ≤ 3) (hmo : ∀ j, mo j ≤ 10) (hva : ∀ j, va j ≤ 2520) (hmc : mc ≤ 4) (hmud : ∀ j, mu j ≤ md j) (hmd : ∀ j, md j ≤ 10) (hm1 : ∀ j, m1 j ≤ 32) (hm2 : ∀ j, m2 j ≤ 32) (hm34 : ∀ j, m3 j ≤ m4 j) (hm4 : ∀ j, m4 j ≤ 10) (hm40 : ∀ j, j < mc → 0 < m4 j) (hmdp : ∀ j, mk j = 0 → 1 ≤ j → j ≤ mn → 0 < md j) (hmop : ∀ j, mk j = 3 → 1 ≤ j → j ≤ mn → 0 < mo j) : ct_l l g vwCl (tyM cI cJ cZ) y_Mo_boundChance c_Mo_boundChance 9 (some .long) ({ frames := 2, cells := 0, slots := 0, locals := 55 } : Room) [.ref (b 0), .int (nI x), .int z] (moW b cI cJ cZ f0 mn mv mg mk mo mu md ms mb mc m1 m2 m3 m4 we ud my ea od oo dn va ho wt cm co te tm gs gl rs rg rp rt) (moW b cI cJ cZ f0 mn mv mg mk mo mu md ms mb mc m1 m2 m3 m4 we (pU mb ms mn ud x) ((pE mk mb ms mn ud dn ea x).2.1) ((pE mk mb ms mn ud dn ea x).2.2) ((pW mk mb ms mn ud dn ea oo x).2.1) ((pW mk mb ms mn ud dn ea oo x).2.2) ((pW mk mb ms mn ud dn ea oo x).1) (vgF mk mo ms mb (pW mk mb ms mn ud dn ea oo x).2.2 (vbF (bdF mu md m1 m2 m3 m4 mc) (pE mk mb ms mn ud dn ea x).2.2 va (pE mk mb ms mn ud dn ea x).2.1) (pW mk mb ms mn ud dn ea oo x).2.1) ho wt cm co te tm gs gl rs rg rp rt) (lN (if z = 0 then ((vgF mk mo ms mb (pW mk mb ms mn ud dn ea oo x).2.2 (vbF (bdF mu md m1 m2 m3 m4 mc) (pE mk mb ms mn ud dn ea x).2.2 va (pE mk mb ms mn ud dn ea x).2.1) (pW mk mb ms mn ud dn ea oo x).2.1) x) / gcF (2520 + 1) ((vgF mk mo ms mb (pW mk mb ms mn ud dn ea oo x).2.2 (vbF (bdF mu md m1 m2 m3 m4 mc) (pE mk mb ms mn ud dn ea x).2.2 va (pE mk mb ms mn ud dn ea x).2.1) (pW mk mb ms mn ud dn ea oo x).2.1) x) 2520 else 2520 / gcF (2520 + 1) ((vgF mk mo ms mb (pW mk mb ms mn ud dn ea oo x).2.2 (vbF (bdF mu md m1 m2 m3 m4 mc) (pE mk mb ms mn ud dn ea x).2.2 va (pE mk mb ms mn ud dn ea x).2.1) (pW mk mb ms mn ud dn ea oo x).2.1) x) 2520)) := by
  refine ct_l.intro (by decide) (Nat.le_of_ble_eq_true rfl) ?_
  intro p e s m args below meth c Q A ls hx hb hml hT hown hA hK hN hret hP hD hS hl
  have hown : s.vm.findClass R_Mo = some m.cls := hown
  have hl : lv_has ls 9 [(0, .ref (b 0)), (1, .int (nI x)), (2, .int z)] := hl
  have qM : (pE mk mb ms mn ud dn ea x).2.1 ≤ 12 := pE_my hev
  have qA := pE_ea (mk := mk) (mb := mb) (ms := ms) (ud := ud) (dn := dn) (ea := ea) (x := x) hmn
  have qV : ∀ i, i < (pE mk mb ms mn ud dn ea x).2.1 → mk ((pE mk mb ms mn ud dn ea x).2.2 i) = 0 := fun i h => prE_ev mn i h
  have qW := pW_in (mb := mb) (ms := ms) (ud := ud) (dn := dn) (ea := ea) (oo := oo) (x := x) hgt
  have qG := pW_gt (mk := mk) (mb := mb) (ms := ms) (mn := mn) (ud := ud) (dn := dn) (ea := ea) (oo := oo) (x := x)
  have hmu : ∀ j, mu j ≤ 10 := fun j => Nat.le_trans (hmud j) (hmd j)
  have hm3 : ∀ j, m3 j ≤ 10 := fun j => Nat.le_trans (hm34 j) (hm4 j)
  refine lv_aload_n hx hb d_Mo_boundChance_0 rfl (lv_at hl 0 rfl) ?_
  refine lv_iload_n hx hb d_Mo_boundChance_1 rfl (lv_at hl 1 rfl) ?_
  refine my_V_v (q0 := 0) (ci := 8) (C := R_Mo) (As := [.int (nI x)]) (n := 1) (k_Mo_prepareP l g b cI cJ cZ f0 mn mv mg mk mo mu md ms mb mc m1 m2 m3 m4 we ud my ea od oo dn va ho wt cm co te tm gs gl rs rg rp rt x hx1 hmn hms hmb hev hgt hmk) hx hb hml hown hT hN tw_761 tw_763 tp_18 tw_9 tw_764 (by decide +kernel) rfl rfl ⟨Nat.le_of_ble_eq_true rfl, Nat.le_of_ble_eq_true rfl⟩ ⟨Nat.zero_le _, Nat.zero_le _⟩ hK hP hD hS hA rfl rfl rfl hl rfl (Nat.le_of_ble_eq_true rfl) d_Mo_boundChance_2 (fun H locs hP hD hS => ?_)
  refine lv_iconst (v := (nI 0)) hx hb d_Mo_boundChance_5 (by decide) ?_
  refine lv_istore_n (lv' := [(3, .int (nI 0)), (0, .ref (b 0)), (1, .int (nI x)), (2, .int z)]) hx hb d_Mo_boundChance_6 rfl hl (by decide) rfl (fun ls hl => ?_)
  have lp_7 : ∀ (k : Nat) (kk : Nat) (v1 : Nat → Nat) (H : Heap) (locs : List Loc) (ls : Array Slot), ((pE mk mb ms mn ud dn ea x).2.1 < kk + k) → (kk ≤ (pE mk mb ms mn ud dn ea x).2.1) → (v1 = vbF (bdF mu md m1 m2 m3 m4 mc) (pE mk mb ms mn ud dn ea x).2.2 va kk) → va_P g vwCl (moW b cI cJ cZ f0 mn mv mg mk mo mu md ms mb mc m1 m2 m3 m4 we (pU mb ms mn ud x) ((pE mk mb ms mn ud dn ea x).2.1) ((pE mk mb ms mn ud dn ea x).2.2) ((pW mk mb ms mn ud dn ea oo x).2.1) ((pW mk mb ms mn ud dn ea oo x).2.2) ((pW mk mb ms mn ud dn ea oo x).1) v1 ho wt cm co te tm gs gl rs rg rp rt) H → va_D A (moW b cI cJ cZ f0 mn mv mg mk mo mu md ms mb mc m1 m2 m3 m4 we (pU mb ms mn ud x) ((pE mk mb ms mn ud dn ea x).2.1) ((pE mk mb ms mn ud dn ea x).2.2) ((pW mk mb ms mn ud dn ea oo x).2.1) ((pW mk mb ms mn ud dn ea oo x).2.2) ((pW mk mb ms mn ud dn ea oo x).1) v1 ho wt cm co te tm gs gl rs rg rp rt) → va_S A s.heap H locs → lv_has ls 9 [(0, .ref (b 0)), (1, .int (nI x)), (2, .int z), (3, .int (nI kk))] → W p l e ({ frames := 2, cells := 0, slots := 0, locals := 55 } : Room) s m args below meth c H locs 0 0 Q (F0 m 7 ls []) := by
    intro k
    induction k with
    | zero =>
      intro kk v1 H locs ls hk hkk hf1 hP hD hS hl
      exfalso
      omega
    | succ k ih_7 =>
      intro kk v1 H locs ls hk hkk hf1 hP hD hS hl
      refine lv_iload_n hx hb d_Mo_boundChance_7 rfl (lv_at hl 3 rfl) ?_
      refine lv_aload_n hx hb d_Mo_boundChance_8 rfl (lv_at hl 0 rfl) ?_
      refine va_get (D := g) (ci := 8) (v := .int (nI ((pE mk mb ms mn ud dn ea x).2.1))) (C := R_Mo) (T := F_Mo) (N := 35) hx hb hT i_Mo hown hK hP 0 rfl rfl 17 (by decide) (hT _ tw_638) (fun _ h9 => h9) rfl d_Mo_boundChance_9 ?_
      refine my_icmp_ge (tgt := 42) (a := kk) (b := (pE mk mb ms mn ud dn ea x).2.1) hx hb d_Mo_boundChance_12 (by decide) (by omega) (by omega) (fun c_12 => ?_) (fun c_12 => ?_)
      · -- 12: taken
        refine lv_iconst (v := (nI 0)) hx hb d_Mo_boundChance_42 (by decide) ?_
        refine lv_istore_n (lv' := [(3, .int (nI 0)), (0, .ref (b 0)), (1, .int (nI x)), (2, .int z)]) hx hb d_Mo_boundChance_43 rfl hl (by decide) rfl (fun ls hl => ?_)
        have lp_44 : ∀ (k2 : Nat) (kk : Nat) (v2 : Nat → Nat) (H : Heap) (locs : List Loc) (ls : Array Slot), ((pW mk mb ms mn ud dn ea oo x).2.1 < kk + k2) → (kk ≤ (pW mk mb ms mn ud dn ea oo x).2.1) → (∀ j, v2 j ≤ 2520) → (v2 = (vgF mk mo ms mb (pW mk mb ms mn ud dn ea oo x).2.2 (vbF (bdF mu md m1 m2 m3 m4 mc) (pE mk mb ms mn ud dn ea x).2.2 va (pE mk mb ms mn ud dn ea x).2.1) kk)) → va_P g vwCl (moW b cI cJ cZ f0 mn mv mg mk mo mu md ms mb mc m1 m2 m3 m4 we (pU mb ms mn ud x) ((pE mk mb ms mn ud dn ea x).2.1) ((pE mk mb ms mn ud dn ea x).2.2) ((pW mk mb ms mn ud dn ea oo x).2.1) ((pW mk mb ms mn ud dn ea oo x).2.2) ((pW mk mb ms mn ud dn ea oo x).1) v2 ho wt cm co te tm gs gl rs rg rp rt) H → va_D A (moW b cI cJ cZ f0 mn mv mg mk mo mu md ms mb mc m1 m2 m3 m4 we (pU mb ms mn ud x) ((pE mk mb ms mn ud dn ea x).2.1) ((pE mk mb ms mn ud dn ea x).2.2) ((pW mk mb ms mn ud dn ea oo x).2.1) ((pW mk mb ms mn ud dn ea oo x).2.2) ((pW mk mb ms mn ud dn ea oo x).1) v2 ho wt cm co te tm gs gl rs rg rp rt) → va_S A s.heap H locs → lv_has ls 9 [(0, .ref (b 0)), (1, .int (nI x)), (2, .int z), (3, .int (nI kk))] → W p l e ({ frames := 2, cells := 0, slots := 0, locals := 55 } : Room) s m args below meth c H locs 0 0 Q (F0 m 44 ls []) := by
          intro k2
          induction k2 with
          | zero =>
            intro kk v2 H locs ls hk2 hkk2 hv2 hf2 hP hD hS hl
            exfalso
            omega
          | succ k2 ih_44 =>
            intro kk v2 H locs ls hk2 hkk2 hv2 hf2 hP hD hS hl
            refine lv_iload_n hx hb d_Mo_boundChance_44 rfl (lv_at hl 3 rfl) ?_
            refine lv_aload_n hx hb d_Mo_boundChance_45 rfl (lv_at hl 0 rfl) ?_
            refine va_get (D := g) (ci := 8) (v := .int (nI ((pW mk mb ms mn ud dn ea oo x).2.1))) (C := R_Mo) (T := F_Mo) (N := 35) hx hb hT i_Mo hown hK hP 0 rfl rfl 19 (by decide) (hT _ tw_640) (fun _ h9 => h9) rfl d_Mo_boundChance_46 ?_
            refine my_icmp_ge (tgt := 215) (a := kk) (b := (pW mk mb ms mn ud dn ea oo x).2.1) hx hb d_Mo_boundChance_49 (by decide) (by omega) (by omega) (fun c_49 => ?_) (fun c_49 => ?_)
            · -- 49: taken
              have e1 : v2 = (vgF mk mo ms mb (pW mk mb ms mn ud dn ea oo x).2.2 (vbF (bdF mu md m1 m2 m3 m4 mc) (pE mk mb ms mn ud dn ea x).2.2 va (pE mk mb ms mn ud dn ea x).2.1) (pW mk mb ms mn ud dn ea oo x).2.1) := by rw [hf2, show kk = (pW mk mb ms mn ud dn ea oo x).2.1 by omega]
              have qF : ∀ j, (vgF mk mo ms mb (pW mk mb ms mn ud dn ea oo x).2.2 (vbF (bdF mu md m1 m2 m3 m4 mc) (pE mk mb ms mn ud dn ea x).2.2 va (pE mk mb ms mn ud dn ea x).2.1) (pW mk mb ms mn ud dn ea oo x).2.1) j ≤ 2520 := by rw [← e1]; exact hv2
              rw [e1] at hP hD
              have qx := qF x
              refine lv_aload_n hx hb d_Mo_boundChance_215 rfl (lv_at hl 0 rfl) ?_
              refine va_get (D := g) (ci := 8) (v := .ref (b 15)) (C := R_Mo) (T := F_Mo) (N := 35) hx hb hT i_Mo hown hK hP 0 rfl rfl 22 (by decide) (hT _ tw_643) (fun _ h9 => h9) rfl d_Mo_boundChance_216 ?_
              refine lv_iload_n hx hb d_Mo_boundChance_219 rfl (lv_at hl 1 rfl) ?_
              refine my_iald (v := (nI ((vgF mk mo ms mb (pW mk mb ms mn ud dn ea oo x).2.2 (vbF (bdF mu md m1 m2 m3 m4 mc) (pE mk mb ms mn ud dn ea x).2.2 va (pE mk mb ms mn ud dn ea x).2.1) (pW mk mb ms mn ud dn ea oo x).2.1) x))) (i := x) hx hb hK hP 15 0 rfl rfl (by omega) (by decide) rfl d_Mo_boundChance_220 ?_
              refine lv_i2l (v := lN ((vgF mk mo ms mb (pW mk mb ms mn ud dn ea oo x).2.2 (vbF (bdF mu md m1 m2 m3 m4 mc) (pE mk mb ms mn ud dn ea x).2.2 va (pE mk mb ms mn ud dn ea x).2.1) (pW mk mb ms mn ud dn ea oo x).2.1) x)) hx hb d_Mo_boundChance_221 (nI_l (by omega)) ?_
              refine lv_ldc2 (v := (lN 2520)) hx hb hown (hT _ tw_823) d_Mo_boundChance_222 ?_
              refine lv_iload_n hx hb d_Mo_boundChance_225 rfl (lv_at hl 2 rfl) ?_
              refine my_S_l (As := [.long (lN ((vgF mk mo ms mb (pW mk mb ms mn ud dn ea oo x).2.2 (vbF (bdF mu md m1 m2 m3 m4 mc) (pE mk mb ms mn ud dn ea x).2.2 va (pE mk mb ms mn ud dn ea x).2.1) (pW mk mb ms mn ud dn ea oo x).2.1) x)), .long (lN 2520), .int z]) (n := 3) (k_Mo_lowest l g vwCl (tyM cI cJ cZ) (moW b cI cJ cZ f0 mn mv mg mk mo mu md ms mb mc m1 m2 m3 m4 we (pU mb ms mn ud x) ((pE mk mb ms mn ud dn ea x).2.1) ((pE mk mb ms mn ud dn ea x).2.2) ((pW mk mb ms mn ud dn ea oo x).2.1) ((pW mk mb ms mn ud dn ea oo x).2.2) ((pW mk mb ms mn ud dn ea oo x).1) (vgF mk mo ms mb (pW mk mb ms mn ud dn ea oo x).2.2 (vbF (bdF mu md m1 m2 m3 m4 mc) (pE mk mb ms mn ud dn ea x).2.2 va (pE mk mb ms mn ud dn ea x).2.1) (pW mk mb ms mn ud dn ea oo x).2.1) ho wt cm co te tm gs gl rs rg rp rt) ((vgF mk mo ms mb (pW mk mb ms mn ud dn ea oo x).2.2 (vbF (bdF mu md m1 m2 m3 m4 mc) (pE mk mb ms mn ud dn ea x).2.2 va (pE mk mb ms mn ud dn ea x).2.1) (pW mk mb ms mn ud dn ea oo x).2.1) x) 2520 z (by have := qF x; omega) (by decide) (by decide)) hx hb hml hown hT hN tw_809 tw_810 tw_9 tw_811 (by decide +kernel) rfl rfl ⟨Nat.le_of_ble_eq_true rfl, Nat.le_of_ble_eq_true rfl⟩ ⟨Nat.zero_le _, Nat.zero_le _⟩ hK hP hD hS hA rfl hl rfl (Nat.le_of_ble_eq_true rfl) d_Mo_boundChance_226 (fun H locs hP hD hS => ?_)
              refine hret _ _ _ _ _ hP hD hS d_Mo_boundChance_229 ?_
              rfl
            · -- 49: not taken
              have qo := qW.2 kk c_49
              have q5 := hms ((pW mk mb ms mn ud dn ea oo x).2.2 kk)
              have q6 := hmk ((pW mk mb ms mn ud dn ea oo x).2.2 kk)
              have q7 := hmo ((pW mk mb ms mn ud dn ea oo x).2.2 kk)
              have qg := qG kk c_49
              refine lv_aload_n hx hb d_Mo_boundChance_52 rfl (lv_at hl 0 rfl) ?_
              refine va_get (D := g) (ci := 8) (v := .ref (b 13)) (C := R_Mo) (T := F_Mo) (N := 35) hx hb hT i_Mo hown hK hP 0 rfl rfl 20 (by decide) (hT _ tw_641) (fun _ h9 => h9) rfl d_Mo_boundChance_53 ?_
              refine lv_iload_n hx hb d_Mo_boundChance_56 rfl (lv_at hl 3 rfl) ?_
              refine my_iald (v := (nI (((pW mk mb ms mn ud dn ea oo x).2.2) kk))) (i := kk) hx hb hK hP 13 0 rfl rfl (by omega) (by decide) rfl d_Mo_boundChance_57 ?_
              refine lv_istore (lv' := [(4, .int (nI (((pW mk mb ms mn ud dn ea oo x).2.2) kk))), (0, .ref (b 0)), (1, .int (nI x)), (2, .int z), (3, .int (nI kk))]) hx hb d_Mo_boundChance_58 hl (by decide) rfl (fun ls hl => ?_)
              refine lv_sipush (v := (nI 2520)) hx hb d_Mo_boundChance_60 (by decide) ?_
              refine lv_istore (lv' := [(5, .int (nI 2520)), (4, .int (nI (((pW mk mb ms mn ud dn ea oo x).2.2) kk))), (0, .ref (b 0)), (1, .int (nI x)), (2, .int z), (3, .int (nI kk))]) hx hb d_Mo_boundChance_63 hl (by decide) rfl (fun ls hl => ?_)
              refine lv_iconst (v := (nI 0)) hx hb d_Mo_boundChance_65 (by decide) ?_
              refine lv_istore (lv' := [(6, .int (nI 0)), (5, .int (nI 2520)), (4, .int (nI (((pW mk mb ms mn ud dn ea oo x).2.2) kk))), (0, .ref (b 0)), (1, .int (nI x)), (2, .int z), (3, .int (nI kk))]) hx hb d_Mo_boundChance_66 hl (by decide) rfl (fun ls hl => ?_)
              refine lv_iconst (v := (nI 0)) hx hb d_Mo_boundChance_68 (by decide) ?_
              refine lv_istore (lv' := [(7, .int (nI 0)), (6, .int (nI 0)), (5, .int (nI 2520)), (4, .int (nI (((pW mk mb ms mn ud dn ea oo x).2.2) kk))), (0, .ref (b 0)), (1, .int (nI x)), (2, .int z), (3, .int (nI kk))]) hx hb d_Mo_boundChance_69 hl (by decide) rfl (fun ls hl => ?_)
              have lp_71 : ∀ (k3 : Nat) (i : Nat) (n5 : Nat) (n6 : Nat) (H : Heap) (locs : List Loc) (ls : Array Slot), (ms ((pW mk mb ms mn ud dn ea oo x).2.2 kk) < i + k3) → (i ≤ ms ((pW mk mb ms mn ud dn ea oo x).2.2 kk)) → ((n5, n6) = lsF v2 mb ((pW mk mb ms mn ud dn ea oo x).2.2 kk) i) → va_P g vwCl (moW b cI cJ cZ f0 mn mv mg mk mo mu md ms mb mc m1 m2 m3 m4 we (pU mb ms mn ud x) ((pE mk mb ms mn ud dn ea x).2.1) ((pE mk mb ms mn ud dn ea x).2.2) ((pW mk mb ms mn ud dn ea oo x).2.1) ((pW mk mb ms mn ud dn ea oo x).2.2) ((pW mk mb ms mn ud dn ea oo x).1) v2 ho wt cm co te tm gs gl rs rg rp rt) H → va_D A (moW b cI cJ cZ f0 mn mv mg mk mo mu md ms mb mc m1 m2 m3 m4 we (pU mb ms mn ud x) ((pE mk mb ms mn ud dn ea x).2.1) ((pE mk mb ms mn ud dn ea x).2.2) ((pW mk mb ms mn ud dn ea oo x).2.1) ((pW mk mb ms mn ud dn ea oo x).2.2) ((pW mk mb ms mn ud dn ea oo x).1) v2 ho wt cm co te tm gs gl rs rg rp rt) → va_S A s.heap H locs → lv_has ls 9 [(0, .ref (b 0)), (1, .int (nI x)), (2, .int z), (3, .int (nI kk)), (4, .int (nI ((pW mk mb ms mn ud dn ea oo x).2.2 kk))), (5, .int (nI n5)), (6, .int (nI n6)), (7, .int (nI i))] → W p l e ({ frames := 2, cells := 0, slots := 0, locals := 55 } : Room) s m args below meth c H locs 0 0 Q (F0 m 71 ls []) := by
                intro k3
                induction k3 with
                | zero =>
                  intro i n5 n6 H locs ls hk3 hi3 hf5 hP hD hS hl
                  exfalso
                  omega
                | succ k3 ih_71 =>
                  intro i n5 n6 H locs ls hk3 hi3 hf5 hP hD hS hl
                  have qL := lsF_le (mb := mb) (g := (pW mk mb ms mn ud dn ea oo x).2.2 kk) hv2 i
                  rw [← hf5] at qL
                  have qL : n5 ≤ 2520 ∧ n6 ≤ 2520 * i := qL
                  refine lv_iload hx hb d_Mo_boundChance_71 (lv_at hl 7 rfl) ?_
                  refine lv_aload_n hx hb d_Mo_boundChance_73 rfl (lv_at hl 0 rfl) ?_
                  refine va_get (D := g) (ci := 8) (v := .ref (b 5)) (C := R_Mo) (T := F_Mo) (N := 35) hx hb hT i_Mo hown hK hP 0 rfl rfl 8 (by decide) (hT _ tw_629) (fun _ h9 => h9) rfl d_Mo_boundChance_74 ?_
                  refine lv_iload hx hb d_Mo_boundChance_77 (lv_at hl 4 rfl) ?_
                  refine my_iald (v := (nI (ms ((pW mk mb ms mn ud dn ea oo x).2.2 kk)))) (i := (pW mk mb ms mn ud dn ea oo x).2.2 kk) hx hb hK hP 5 0 rfl rfl (by omega) (by decide) rfl d_Mo_boundChance_79 ?_
                  refine my_icmp_ge (tgt := 132) (a := i) (b := ms ((pW mk mb ms mn ud dn ea oo x).2.2 kk)) hx hb d_Mo_boundChance_80 (by decide) (by omega) (by omega) (fun c_80 => ?_) (fun c_80 => ?_)
                  · -- 80: taken
                    have hL : lsF v2 mb ((pW mk mb ms mn ud dn ea oo x).2.2 kk) (ms ((pW mk mb ms mn ud dn ea oo x).2.2 kk)) = (n5, n6) := by rw [hf5, show i = ms ((pW mk mb ms mn ud dn ea oo x).2.2 kk) by omega]
                    refine lv_aload_n hx hb d_Mo_boundChance_132 rfl (lv_at hl 0 rfl) ?_
                    refine va_get (D := g) (ci := 8) (v := .ref (b 1)) (C := R_Mo) (T := F_Mo) (N := 35) hx hb hT i_Mo hown hK hP 0 rfl rfl 4 (by decide) (hT _ tw_625) (fun _ h9 => h9) rfl d_Mo_boundChance_133 ?_
                    refine lv_iload hx hb d_Mo_boundChance_136 (lv_at hl 4 rfl) ?_
                    refine my_iald (v := (nI (mk ((pW mk mb ms mn ud dn ea oo x).2.2 kk)))) (i := (pW mk mb ms mn ud dn ea oo x).2.2 kk) hx hb hK hP 1 0 rfl rfl (by omega) (by decide) rfl d_Mo_boundChance_138 ?_
                    refine lv_iconst (v := (nI 1)) hx hb d_Mo_boundChance_139 (by decide) ?_
                    refine my_icmp_ne (tgt := 148) (a := mk ((pW mk mb ms mn ud dn ea oo x).2.2 kk)) (b := 1) hx hb d_Mo_boundChance_140 (by decide) (by omega) (by omega) (fun c_140 => ?_) (fun c_140 => ?_)
                    · -- 140: taken
                      refine lv_aload_n hx hb d_Mo_boundChance_148 rfl (lv_at hl 0 rfl) ?_
                      refine va_get (D := g) (ci := 8) (v := .ref (b 1)) (C := R_Mo) (T := F_Mo) (N := 35) hx hb hT i_Mo hown hK hP 0 rfl rfl 4 (by decide) (hT _ tw_625) (fun _ h9 => h9) rfl d_Mo_boundChance_149 ?_
                      refine lv_iload hx hb d_Mo_boundChance_152 (lv_at hl 4 rfl) ?_
                      refine my_iald (v := (nI (mk ((pW mk mb ms mn ud dn ea oo x).2.2 kk)))) (i := (pW mk mb ms mn ud dn ea oo x).2.2 kk) hx hb hK hP 1 0 rfl rfl (by omega) (by decide) rfl d_Mo_boundChance_154 ?_
                      refine lv_iconst (v := (nI 2)) hx hb d_Mo_boundChance_155 (by decide) ?_
                      refine my_icmp_ne (tgt := 164) (a := mk ((pW mk mb ms mn ud dn ea oo x).2.2 kk)) (b := 2) hx hb d_Mo_boundChance_156 (by decide) (by omega) (by omega) (fun c_156 => ?_) (fun c_156 => ?_)
                      · -- 156: taken
                        have q3 : mk ((pW mk mb ms mn ud dn ea oo x).2.2 kk) = 3 := by omega
                        have qv := hmop ((pW mk mb ms mn ud dn ea oo x).2.2 kk) q3 (by omega) (by omega)
                        refine lv_iload hx hb d_Mo_boundChance_164 (lv_at hl 6 rfl) ?_
                        refine lv_aload_n hx hb d_Mo_boundChance_166 rfl (lv_at hl 0 rfl) ?_
                        refine va_get (D := g) (ci := 8) (v := .ref (b 2)) (C := R_Mo) (T := F_Mo) (N := 35) hx hb hT i_Mo hown hK hP 0 rfl rfl 5 (by decide) (hT _ tw_626) (fun _ h9 => h9) rfl d_Mo_boundChance_167 ?_
                        refine lv_iload hx hb d_Mo_boundChance_170 (lv_at hl 4 rfl) ?_
                        refine my_iald (v := (nI (mo ((pW mk mb ms mn ud dn ea oo x).2.2 kk)))) (i := (pW mk mb ms mn ud dn ea oo x).2.2 kk) hx hb hK hP 2 0 rfl rfl (by omega) (by decide) rfl d_Mo_boundChance_172 ?_
                        refine lv_iadd hx hb d_Mo_boundChance_173 ?_
                        refine my_ei (nI_add n6 (mo ((pW mk mb ms mn ud dn ea oo x).2.2 kk))) ?_
                        refine lv_iconst (v := (nI 1)) hx hb d_Mo_boundChance_174 (by decide) ?_
                        refine lv_isub hx hb d_Mo_boundChance_175 ?_
                        refine my_ei (pk_sub (a := n6 + (mo ((pW mk mb ms mn ud dn ea oo x).2.2 kk))) (b := 1) (by omega)) ?_
                        refine lv_aload_n hx hb d_Mo_boundChance_176 rfl (lv_at hl 0 rfl) ?_
                        refine va_get (D := g) (ci := 8) (v := .ref (b 2)) (C := R_Mo) (T := F_Mo) (N := 35) hx hb hT i_Mo hown hK hP 0 rfl rfl 5 (by decide) (hT _ tw_626) (fun _ h9 => h9) rfl d_Mo_boundChance_177 ?_
                        refine lv_iload hx hb d_Mo_boundChance_180 (lv_at hl 4 rfl) ?_
                        refine my_iald (v := (nI (mo ((pW mk mb ms mn ud dn ea oo x).2.2 kk)))) (i := (pW mk mb ms mn ud dn ea oo x).2.2 kk) hx hb hK hP 2 0 rfl rfl (by omega) (by decide) rfl d_Mo_boundChance_182 ?_
                        refine my_idiv (a := (n6 + (mo ((pW mk mb ms mn ud dn ea oo x).2.2 kk))) - 1) (b := mo ((pW mk mb ms mn ud dn ea oo x).2.2 kk)) hx hb d_Mo_boundChance_183 (by omega) (by omega) (by omega) ?_
                        have qD : (n6 + mo ((pW mk mb ms mn ud dn ea oo x).2.2 kk) - 1) / mo ((pW mk mb ms mn ud dn ea oo x).2.2 kk) ≤ n6 + mo ((pW mk mb ms mn ud dn ea oo x).2.2 kk) - 1 := Nat.div_le_self _ _
                        refine lv_istore (lv' := [(7, .int (nI (((n6 + (mo ((pW mk mb ms mn ud dn ea oo x).2.2 kk))) - 1) / (mo ((pW mk mb ms mn ud dn ea oo x).2.2 kk))))), (0, .ref (b 0)), (1, .int (nI x)), (2, .int z), (3, .int (nI kk)), (4, .int (nI ((pW mk mb ms mn ud dn ea oo x).2.2 kk))), (5, .int (nI n5)), (6, .int (nI n6))]) hx hb d_Mo_boundChance_184 hl (by decide) rfl (fun ls hl => ?_)
                        refine lv_aload_n hx hb d_Mo_boundChance_186 rfl (lv_at hl 1 rfl) ?_
                        refine va_get (D := g) (ci := 8) (v := .ref (b 15)) (C := R_Mo) (T := F_Mo) (N := 35) hx hb hT i_Mo hown hK hP 0 rfl rfl 22 (by decide) (hT _ tw_643) (fun _ h9 => h9) rfl d_Mo_boundChance_187 ?_
                        refine lv_iload hx hb d_Mo_boundChance_190 (lv_at hl 5 rfl) ?_
                        refine lv_iload hx hb d_Mo_boundChance_192 (lv_at hl 0 rfl) ?_
                        refine lv_sipush (v := (nI 2520)) hx hb d_Mo_boundChance_194 (by decide) ?_
                        refine my_icmp_ge (tgt := 205) (a := ((n6 + (mo ((pW mk mb ms mn ud dn ea oo x).2.2 kk))) - 1) / (mo ((pW mk mb ms mn ud dn ea oo x).2.2 kk))) (b := 2520) hx hb d_Mo_boundChance_197 (by decide) (by omega) (by omega) (fun c_197 => ?_) (fun c_197 => ?_)
                        · -- 197: taken
                          refine lv_sipush (v := (nI 2520)) hx hb d_Mo_boundChance_205 (by decide) ?_
                          refine my_iast (i := (pW mk mb ms mn ud dn ea oo x).2.2 kk) hx hb hK hP hD hS 15 0 rfl rfl (by omega) (by decide) (my_upN _ _ _) (w' := (moW b cI cJ cZ f0 mn mv mg mk mo mu md ms mb mc m1 m2 m3 m4 we (pU mb ms mn ud x) ((pE mk mb ms mn ud dn ea x).2.1) ((pE mk mb ms mn ud dn ea x).2.2) ((pW mk mb ms mn ud dn ea oo x).2.1) ((pW mk mb ms mn ud dn ea oo x).2.2) ((pW mk mb ms mn ud dn ea oo x).1) (va_up v2 ((pW mk mb ms mn ud dn ea oo x).2.2 kk) 2520) ho wt cm co te tm gs gl rs rg rp rt)) rfl d_Mo_boundChance_208 (fun H locs hP hD hS => ?_)
                          refine lv_iinc (v := (nI (kk + 1))) (lv' := [(3, .int (nI (kk + 1))), (7, .int (nI (((n6 + (mo ((pW mk mb ms mn ud dn ea oo x).2.2 kk))) - 1) / (mo ((pW mk mb ms mn ud dn ea oo x).2.2 kk))))), (0, .ref (b 0)), (1, .int (nI x)), (2, .int z), (4, .int (nI ((pW mk mb ms mn ud dn ea oo x).2.2 kk))), (5, .int (nI n5)), (6, .int (nI n6))]) hx hb d_Mo_boundChance_209 hl (k := 4) rfl (nI_1 kk) (by decide) rfl (fun ls hl => ?_)
                          refine lv_goto (tgt := 44) hx hb d_Mo_boundChance_212 (by decide) ?_
                          refine ih_44 (kk + 1) _ _ _ _ ?_ ?_ ?_ ?_ hP hD hS (lv_sub hl [2, 3, 4, 0] rfl)
                          · omega
                          · omega
                          · exact up_le hv2 (by omega)
                          · have eN : ngF mk mo ms mb v2 ((pW mk mb ms mn ud dn ea oo x).2.2 kk) = ((n6 + (mo ((pW mk mb ms mn ud dn ea oo x).2.2 kk))) - 1) / (mo ((pW mk mb ms mn ud dn ea oo x).2.2 kk)) := by rw [ngF, if_neg c_140, if_neg c_156, hL]
                            rw [hf2]
                            show _ = va_up (vgF mk mo ms mb (pW mk mb ms mn ud dn ea oo x).2.2 (vbF (bdF mu md m1 m2 m3 m4 mc) (pE mk mb ms mn ud dn ea x).2.2 va (pE mk mb ms mn ud dn ea x).2.1) kk) ((pW mk mb ms mn ud dn ea oo x).2.2 kk) (if ngF mk mo ms mb (vgF mk mo ms mb (pW mk mb ms mn ud dn ea oo x).2.2 (vbF (bdF mu md m1 m2 m3 m4 mc) (pE mk mb ms mn ud dn ea x).2.2 va (pE mk mb ms mn ud dn ea x).2.1) kk) ((pW mk mb ms mn ud dn ea oo x).2.2 kk) < 2520 then ngF mk mo ms mb (vgF mk mo ms mb (pW mk mb ms mn ud dn ea oo x).2.2 (vbF (bdF mu md m1 m2 m3 m4 mc) (pE mk mb ms mn ud dn ea x).2.2 va (pE mk mb ms mn ud dn ea x).2.1) kk) ((pW mk mb ms mn ud dn ea oo x).2.2 kk) else 2520)
                            rw [← hf2, eN]
                            first | rw [if_pos (by omega)] | rw [if_neg (by omega)]
                        · -- 197: not taken
                          refine lv_iload hx hb d_Mo_boundChance_200 (lv_at hl 0 rfl) ?_
                          refine lv_goto (tgt := 208) hx hb d_Mo_boundChance_202 (by decide) ?_
                          refine my_iast (i := (pW mk mb ms mn ud dn ea oo x).2.2 kk) hx hb hK hP hD hS 15 0 rfl rfl (by omega) (by decide) (my_upN _ _ _) (w' := (moW b cI cJ cZ f0 mn mv mg mk mo mu md ms mb mc m1 m2 m3 m4 we (pU mb ms mn ud x) ((pE mk mb ms mn ud dn ea x).2.1) ((pE mk mb ms mn ud dn ea x).2.2) ((pW mk mb ms mn ud dn ea oo x).2.1) ((pW mk mb ms mn ud dn ea oo x).2.2) ((pW mk mb ms mn ud dn ea oo x).1) (va_up v2 ((pW mk mb ms mn ud dn ea oo x).2.2 kk) (((n6 + (mo ((pW mk mb ms mn ud dn ea oo x).2.2 kk))) - 1) / (mo ((pW mk mb ms mn ud dn ea oo x).2.2 kk)))) ho wt cm co te tm gs gl rs rg rp rt)) rfl d_Mo_boundChance_208 (fun H locs hP hD hS => ?_)
                          refine lv_iinc (v := (nI (kk + 1))) (lv' := [(3, .int (nI (kk + 1))), (7, .int (nI (((n6 + (mo ((pW mk mb ms mn ud dn ea oo x).2.2 kk))) - 1) / (mo ((pW mk mb ms mn ud dn ea oo x).2.2 kk))))), (0, .ref (b 0)), (1, .int (nI x)), (2, .int z), (4, .int (nI ((pW mk mb ms mn ud dn ea oo x).2.2 kk))), (5, .int (nI n5)), (6, .int (nI n6))]) hx hb d_Mo_boundChance_209 hl (k := 4) rfl (nI_1 kk) (by decide) rfl (fun ls hl => ?_)
                          refine lv_goto (tgt := 44) hx hb d_Mo_boundChance_212 (by decide) ?_
                          refine ih_44 (kk + 1) _ _ _ _ ?_ ?_ ?_ ?_ hP hD hS (lv_sub hl [2, 3, 4, 0] rfl)
                          · omega
                          · omega
                          · exact up_le hv2 (by omega)
                          · have eN : ngF mk mo ms mb v2 ((pW mk mb ms mn ud dn ea oo x).2.2 kk) = ((n6 + (mo ((pW mk mb ms mn ud dn ea oo x).2.2 kk))) - 1) / (mo ((pW mk mb ms mn ud dn ea oo x).2.2 kk)) := by rw [ngF, if_neg c_140, if_neg c_156, hL]
                            rw [hf2]
                            show _ = va_up (vgF mk mo ms mb (pW mk mb ms mn ud dn ea oo x).2.2 (vbF (bdF mu md m1 m2 m3 m4 mc) (pE mk mb ms mn ud dn ea x).2.2 va (pE mk mb ms mn ud dn ea x).2.1) kk) ((pW mk mb ms mn ud dn ea oo x).2.2 kk) (if ngF mk mo ms mb (vgF mk mo ms mb (pW mk mb ms mn ud dn ea oo x).2.2 (vbF (bdF mu md m1 m2 m3 m4 mc) (pE mk mb ms mn ud dn ea x).2.2 va (pE mk mb ms mn ud dn ea x).2.1) kk) ((pW mk mb ms mn ud dn ea oo x).2.2 kk) < 2520 then ngF mk mo ms mb (vgF mk mo ms mb (pW mk mb ms mn ud dn ea oo x).2.2 (vbF (bdF mu md m1 m2 m3 m4 mc) (pE mk mb ms mn ud dn ea x).2.2 va (pE mk mb ms mn ud dn ea x).2.1) kk) ((pW mk mb ms mn ud dn ea oo x).2.2 kk) else 2520)
                            rw [← hf2, eN]
                            first | rw [if_pos (by omega)] | rw [if_neg (by omega)]
                      · -- 156: not taken
                        refine lv_iload hx hb d_Mo_boundChance_159 (lv_at hl 6 rfl) ?_
                        refine lv_goto (tgt := 184) hx hb d_Mo_boundChance_161 (by decide) ?_
                        refine lv_istore (lv' := [(7, .int (nI n6)), (0, .ref (b 0)), (1, .int (nI x)), (2, .int z), (3, .int (nI kk)), (4, .int (nI ((pW mk mb ms mn ud dn ea oo x).2.2 kk))), (5, .int (nI n5)), (6, .int (nI n6))]) hx hb d_Mo_boundChance_184 hl (by decide) rfl (fun ls hl => ?_)
                        refine lv_aload_n hx hb d_Mo_boundChance_186 rfl (lv_at hl 1 rfl) ?_
                        refine va_get (D := g) (ci := 8) (v := .ref (b 15)) (C := R_Mo) (T := F_Mo) (N := 35) hx hb hT i_Mo hown hK hP 0 rfl rfl 22 (by decide) (hT _ tw_643) (fun _ h9 => h9) rfl d_Mo_boundChance_187 ?_
                        refine lv_iload hx hb d_Mo_boundChance_190 (lv_at hl 5 rfl) ?_
                        refine lv_iload hx hb d_Mo_boundChance_192 (lv_at hl 0 rfl) ?_
                        refine lv_sipush (v := (nI 2520)) hx hb d_Mo_boundChance_194 (by decide) ?_
                        refine my_icmp_ge (tgt := 205) (a := n6) (b := 2520) hx hb d_Mo_boundChance_197 (by decide) (by omega) (by omega) (fun c_197 => ?_) (fun c_197 => ?_)
                        · -- 197: taken
                          refine lv_sipush (v := (nI 2520)) hx hb d_Mo_boundChance_205 (by decide) ?_
                          refine my_iast (i := (pW mk mb ms mn ud dn ea oo x).2.2 kk) hx hb hK hP hD hS 15 0 rfl rfl (by omega) (by decide) (my_upN _ _ _) (w' := (moW b cI cJ cZ f0 mn mv mg mk mo mu md ms mb mc m1 m2 m3 m4 we (pU mb ms mn ud x) ((pE mk mb ms mn ud dn ea x).2.1) ((pE mk mb ms mn ud dn ea x).2.2) ((pW mk mb ms mn ud dn ea oo x).2.1) ((pW mk mb ms mn ud dn ea oo x).2.2) ((pW mk mb ms mn ud dn ea oo x).1) (va_up v2 ((pW mk mb ms mn ud dn ea oo x).2.2 kk) 2520) ho wt cm co te tm gs gl rs rg rp rt)) rfl d_Mo_boundChance_208 (fun H locs hP hD hS => ?_)
                          refine lv_iinc (v := (nI (kk + 1))) (lv' := [(3, .int (nI (kk + 1))), (7, .int (nI n6)), (0, .ref (b 0)), (1, .int (nI x)), (2, .int z), (4, .int (nI ((pW mk mb ms mn ud dn ea oo x).2.2 kk))), (5, .int (nI n5)), (6, .int (nI n6))]) hx hb d_Mo_boundChance_209 hl (k := 4) rfl (nI_1 kk) (by decide) rfl (fun ls hl => ?_)
                          refine lv_goto (tgt := 44) hx hb d_Mo_boundChance_212 (by decide) ?_
                          refine ih_44 (kk + 1) _ _ _ _ ?_ ?_ ?_ ?_ hP hD hS (lv_sub hl [2, 3, 4, 0] rfl)
                          · omega
                          · omega
                          · exact up_le hv2 (by omega)
                          · have eN : ngF mk mo ms mb v2 ((pW mk mb ms mn ud dn ea oo x).2.2 kk) = n6 := by rw [ngF, if_neg c_140, if_pos c_156, hL]
                            rw [hf2]
                            show _ = va_up (vgF mk mo ms mb (pW mk mb ms mn ud dn ea oo x).2.2 (vbF (bdF mu md m1 m2 m3 m4 mc) (pE mk mb ms mn ud dn ea x).2.2 va (pE mk mb ms mn ud dn ea x).2.1) kk) ((pW mk mb ms mn ud dn ea oo x).2.2 kk) (if ngF mk mo ms mb (vgF mk mo ms mb (pW mk mb ms mn ud dn ea oo x).2.2 (vbF (bdF mu md m1 m2 m3 m4 mc) (pE mk mb ms mn ud dn ea x).2.2 va (pE mk mb ms mn ud dn ea x).2.1) kk) ((pW mk mb ms mn ud dn ea oo x).2.2 kk) < 2520 then ngF mk mo ms mb (vgF mk mo ms mb (pW mk mb ms mn ud dn ea oo x).2.2 (vbF (bdF mu md m1 m2 m3 m4 mc) (pE mk mb ms mn ud dn ea x).2.2 va (pE mk mb ms mn ud dn ea x).2.1) kk) ((pW mk mb ms mn ud dn ea oo x).2.2 kk) else 2520)
                            rw [← hf2, eN]
                            first | rw [if_pos (by omega)] | rw [if_neg (by omega)]
                        · -- 197: not taken
                          refine lv_iload hx hb d_Mo_boundChance_200 (lv_at hl 0 rfl) ?_
                          refine lv_goto (tgt := 208) hx hb d_Mo_boundChance_202 (by decide) ?_
                          refine my_iast (i := (pW mk mb ms mn ud dn ea oo x).2.2 kk) hx hb hK hP hD hS 15 0 rfl rfl (by omega) (by decide) (my_upN _ _ _) (w' := (moW b cI cJ cZ f0 mn mv mg mk mo mu md ms mb mc m1 m2 m3 m4 we (pU mb ms mn ud x) ((pE mk mb ms mn ud dn ea x).2.1) ((pE mk mb ms mn ud dn ea x).2.2) ((pW mk mb ms mn ud dn ea oo x).2.1) ((pW mk mb ms mn ud dn ea oo x).2.2) ((pW mk mb ms mn ud dn ea oo x).1) (va_up v2 ((pW mk mb ms mn ud dn ea oo x).2.2 kk) n6) ho wt cm co te tm gs gl rs rg rp rt)) rfl d_Mo_boundChance_208 (fun H locs hP hD hS => ?_)
                          refine lv_iinc (v := (nI (kk + 1))) (lv' := [(3, .int (nI (kk + 1))), (7, .int (nI n6)), (0, .ref (b 0)), (1, .int (nI x)), (2, .int z), (4, .int (nI ((pW mk mb ms mn ud dn ea oo x).2.2 kk))), (5, .int (nI n5)), (6, .int (nI n6))]) hx hb d_Mo_boundChance_209 hl (k := 4) rfl (nI_1 kk) (by decide) rfl (fun ls hl => ?_)
                          refine lv_goto (tgt := 44) hx hb d_Mo_boundChance_212 (by decide) ?_
                          refine ih_44 (kk + 1) _ _ _ _ ?_ ?_ ?_ ?_ hP hD hS (lv_sub hl [2, 3, 4, 0] rfl)
                          · omega
                          · omega
                          · exact up_le hv2 (by omega)
                          · have eN : ngF mk mo ms mb v2 ((pW mk mb ms mn ud dn ea oo x).2.2 kk) = n6 := by rw [ngF, if_neg c_140, if_pos c_156, hL]
                            rw [hf2]
                            show _ = va_up (vgF mk mo ms mb (pW mk mb ms mn ud dn ea oo x).2.2 (vbF (bdF mu md m1 m2 m3 m4 mc) (pE mk mb ms mn ud dn ea x).2.2 va (pE mk mb ms mn ud dn ea x).2.1) kk) ((pW mk mb ms mn ud dn ea oo x).2.2 kk) (if ngF mk mo ms mb (vgF mk mo ms mb (pW mk mb ms mn ud dn ea oo x).2.2 (vbF (bdF mu md m1 m2 m3 m4 mc) (pE mk mb ms mn ud dn ea x).2.2 va (pE mk mb ms mn ud dn ea x).2.1) kk) ((pW mk mb ms mn ud dn ea oo x).2.2 kk) < 2520 then ngF mk mo ms mb (vgF mk mo ms mb (pW mk mb ms mn ud dn ea oo x).2.2 (vbF (bdF mu md m1 m2 m3 m4 mc) (pE mk mb ms mn ud dn ea x).2.2 va (pE mk mb ms mn ud dn ea x).2.1) kk) ((pW mk mb ms mn ud dn ea oo x).2.2 kk) else 2520)
                            rw [← hf2, eN]
                            first | rw [if_pos (by omega)] | rw [if_neg (by omega)]
                    · -- 140: not taken
                      refine lv_iload hx hb d_Mo_boundChance_143 (lv_at hl 5 rfl) ?_
                      refine lv_goto (tgt := 184) hx hb d_Mo_boundChance_145 (by decide) ?_
                      refine lv_istore (lv' := [(7, .int (nI n5)), (0, .ref (b 0)), (1, .int (nI x)), (2, .int z), (3, .int (nI kk)), (4, .int (nI ((pW mk mb ms mn ud dn ea oo x).2.2 kk))), (5, .int (nI n5)), (6, .int (nI n6))]) hx hb d_Mo_boundChance_184 hl (by decide) rfl (fun ls hl => ?_)
                      refine lv_aload_n hx hb d_Mo_boundChance_186 rfl (lv_at hl 1 rfl) ?_
                      refine va_get (D := g) (ci := 8) (v := .ref (b 15)) (C := R_Mo) (T := F_Mo) (N := 35) hx hb hT i_Mo hown hK hP 0 rfl rfl 22 (by decide) (hT _ tw_643) (fun _ h9 => h9) rfl d_Mo_boundChance_187 ?_
                      refine lv_iload hx hb d_Mo_boundChance_190 (lv_at hl 5 rfl) ?_
                      refine lv_iload hx hb d_Mo_boundChance_192 (lv_at hl 0 rfl) ?_
                      refine lv_sipush (v := (nI 2520)) hx hb d_Mo_boundChance_194 (by decide) ?_
                      refine my_icmp_ge (tgt := 205) (a := n5) (b := 2520) hx hb d_Mo_boundChance_197 (by decide) (by omega) (by omega) (fun c_197 => ?_) (fun c_197 => ?_)
                      · -- 197: taken
                        refine lv_sipush (v := (nI 2520)) hx hb d_Mo_boundChance_205 (by decide) ?_
                        refine my_iast (i := (pW mk mb ms mn ud dn ea oo x).2.2 kk) hx hb hK hP hD hS 15 0 rfl rfl (by omega) (by decide) (my_upN _ _ _) (w' := (moW b cI cJ cZ f0 mn mv mg mk mo mu md ms mb mc m1 m2 m3 m4 we (pU mb ms mn ud x) ((pE mk mb ms mn ud dn ea x).2.1) ((pE mk mb ms mn ud dn ea x).2.2) ((pW mk mb ms mn ud dn ea oo x).2.1) ((pW mk mb ms mn ud dn ea oo x).2.2) ((pW mk mb ms mn ud dn ea oo x).1) (va_up v2 ((pW mk mb ms mn ud dn ea oo x).2.2 kk) 2520) ho wt cm co te tm gs gl rs rg rp rt)) rfl d_Mo_boundChance_208 (fun H locs hP hD hS => ?_)
                        refine lv_iinc (v := (nI (kk + 1))) (lv' := [(3, .int (nI (kk + 1))), (7, .int (nI n5)), (0, .ref (b 0)), (1, .int (nI x)), (2, .int z), (4, .int (nI ((pW mk mb ms mn ud dn ea oo x).2.2 kk))), (5, .int (nI n5)), (6, .int (nI n6))]) hx hb d_Mo_boundChance_209 hl (k := 4) rfl (nI_1 kk) (by decide) rfl (fun ls hl => ?_)
                        refine lv_goto (tgt := 44) hx hb d_Mo_boundChance_212 (by decide) ?_
                        refine ih_44 (kk + 1) _ _ _ _ ?_ ?_ ?_ ?_ hP hD hS (lv_sub hl [2, 3, 4, 0] rfl)
                        · omega
                        · omega
                        · exact up_le hv2 (by omega)
                        · have eN : ngF mk mo ms mb v2 ((pW mk mb ms mn ud dn ea oo x).2.2 kk) = n5 := by rw [ngF, if_pos c_140, hL]
                          rw [hf2]
                          show _ = va_up (vgF mk mo ms mb (pW mk mb ms mn ud dn ea oo x).2.2 (vbF (bdF mu md m1 m2 m3 m4 mc) (pE mk mb ms mn ud dn ea x).2.2 va (pE mk mb ms mn ud dn ea x).2.1) kk) ((pW mk mb ms mn ud dn ea oo x).2.2 kk) (if ngF mk mo ms mb (vgF mk mo ms mb (pW mk mb ms mn ud dn ea oo x).2.2 (vbF (bdF mu md m1 m2 m3 m4 mc) (pE mk mb ms mn ud dn ea x).2.2 va (pE mk mb ms mn ud dn ea x).2.1) kk) ((pW mk mb ms mn ud dn ea oo x).2.2 kk) < 2520 then ngF mk mo ms mb (vgF mk mo ms mb (pW mk mb ms mn ud dn ea oo x).2.2 (vbF (bdF mu md m1 m2 m3 m4 mc) (pE mk mb ms mn ud dn ea x).2.2 va (pE mk mb ms mn ud dn ea x).2.1) kk) ((pW mk mb ms mn ud dn ea oo x).2.2 kk) else 2520)
                          rw [← hf2, eN]
                          first | rw [if_pos (by omega)] | rw [if_neg (by omega)]
                      · -- 197: not taken
                        refine lv_iload hx hb d_Mo_boundChance_200 (lv_at hl 0 rfl) ?_
                        refine lv_goto (tgt := 208) hx hb d_Mo_boundChance_202 (by decide) ?_
                        refine my_iast (i := (pW mk mb ms mn ud dn ea oo x).2.2 kk) hx hb hK hP hD hS 15 0 rfl rfl (by omega) (by decide) (my_upN _ _ _) (w' := (moW b cI cJ cZ f0 mn mv mg mk mo mu md ms mb mc m1 m2 m3 m4 we (pU mb ms mn ud x) ((pE mk mb ms mn ud dn ea x).2.1) ((pE mk mb ms mn ud dn ea x).2.2) ((pW mk mb ms mn ud dn ea oo x).2.1) ((pW mk mb ms mn ud dn ea oo x).2.2) ((pW mk mb ms mn ud dn ea oo x).1) (va_up v2 ((pW mk mb ms mn ud dn ea oo x).2.2 kk) n5) ho wt cm co te tm gs gl rs rg rp rt)) rfl d_Mo_boundChance_208 (fun H locs hP hD hS => ?_)
                        refine lv_iinc (v := (nI (kk + 1))) (lv' := [(3, .int (nI (kk + 1))), (7, .int (nI n5)), (0, .ref (b 0)), (1, .int (nI x)), (2, .int z), (4, .int (nI ((pW mk mb ms mn ud dn ea oo x).2.2 kk))), (5, .int (nI n5)), (6, .int (nI n6))]) hx hb d_Mo_boundChance_209 hl (k := 4) rfl (nI_1 kk) (by decide) rfl (fun ls hl => ?_)
                        refine lv_goto (tgt := 44) hx hb d_Mo_boundChance_212 (by decide) ?_
                        refine ih_44 (kk + 1) _ _ _ _ ?_ ?_ ?_ ?_ hP hD hS (lv_sub hl [2, 3, 4, 0] rfl)
                        · omega
                        · omega
                        · exact up_le hv2 (by omega)
                        · have eN : ngF mk mo ms mb v2 ((pW mk mb ms mn ud dn ea oo x).2.2 kk) = n5 := by rw [ngF, if_pos c_140, hL]
                          rw [hf2]
                          show _ = va_up (vgF mk mo ms mb (pW mk mb ms mn ud dn ea oo x).2.2 (vbF (bdF mu md m1 m2 m3 m4 mc) (pE mk mb ms mn ud dn ea x).2.2 va (pE mk mb ms mn ud dn ea x).2.1) kk) ((pW mk mb ms mn ud dn ea oo x).2.2 kk) (if ngF mk mo ms mb (vgF mk mo ms mb (pW mk mb ms mn ud dn ea oo x).2.2 (vbF (bdF mu md m1 m2 m3 m4 mc) (pE mk mb ms mn ud dn ea x).2.2 va (pE mk mb ms mn ud dn ea x).2.1) kk) ((pW mk mb ms mn ud dn ea oo x).2.2 kk) < 2520 then ngF mk mo ms mb (vgF mk mo ms mb (pW mk mb ms mn ud dn ea oo x).2.2 (vbF (bdF mu md m1 m2 m3 m4 mc) (pE mk mb ms mn ud dn ea x).2.2 va (pE mk mb ms mn ud dn ea x).2.1) kk) ((pW mk mb ms mn ud dn ea oo x).2.2 kk) else 2520)
                          rw [← hf2, eN]
                          first | rw [if_pos (by omega)] | rw [if_neg (by omega)]
                  · -- 80: not taken
                    have q8 := hmb (10 * (pW mk mb ms mn ud dn ea oo x).2.2 kk + i)
                    have q9 := hv2 (mb (10 * (pW mk mb ms mn ud dn ea oo x).2.2 kk + i))
                    refine lv_aload_n hx hb d_Mo_boundChance_83 rfl (lv_at hl 0 rfl) ?_
                    refine va_get (D := g) (ci := 8) (v := .ref (b 15)) (C := R_Mo) (T := F_Mo) (N := 35) hx hb hT i_Mo hown hK hP 0 rfl rfl 22 (by decide) (hT _ tw_643) (fun _ h9 => h9) rfl d_Mo_boundChance_84 ?_
                    refine lv_aload_n hx hb d_Mo_boundChance_87 rfl (lv_at hl 0 rfl) ?_
                    refine va_get (D := g) (ci := 8) (v := .ref (b 6)) (C := R_Mo) (T := F_Mo) (N := 35) hx hb hT i_Mo hown hK hP 0 rfl rfl 9 (by decide) (hT _ tw_630) (fun _ h9 => h9) rfl d_Mo_boundChance_88 ?_
                    refine lv_bipush (v := (nI 10)) hx hb d_Mo_boundChance_91 (by decide) ?_
                    refine lv_iload hx hb d_Mo_boundChance_93 (lv_at hl 4 rfl) ?_
                    refine lv_imul hx hb d_Mo_boundChance_95 ?_
                    refine my_ei (pk_mul 10 ((pW mk mb ms mn ud dn ea oo x).2.2 kk)) ?_
                    refine lv_iload hx hb d_Mo_boundChance_96 (lv_at hl 7 rfl) ?_
                    refine lv_iadd hx hb d_Mo_boundChance_98 ?_
                    refine my_ei (nI_add (10 * ((pW mk mb ms mn ud dn ea oo x).2.2 kk)) i) ?_
                    refine my_iald (v := (nI (mb ((10 * ((pW mk mb ms mn ud dn ea oo x).2.2 kk)) + i)))) (i := (10 * ((pW mk mb ms mn ud dn ea oo x).2.2 kk)) + i) hx hb hK hP 6 0 rfl rfl (by omega) (by decide) rfl d_Mo_boundChance_99 ?_
                    refine my_iald (v := (nI (v2 (mb ((10 * ((pW mk mb ms mn ud dn ea oo x).2.2 kk)) + i))))) (i := mb ((10 * ((pW mk mb ms mn ud dn ea oo x).2.2 kk)) + i)) hx hb hK hP 15 0 rfl rfl (by omega) (by decide) rfl d_Mo_boundChance_100 ?_
                    refine lv_istore (lv' := [(8, .int (nI (v2 (mb ((10 * ((pW mk mb ms mn ud dn ea oo x).2.2 kk)) + i))))), (0, .ref (b 0)), (1, .int (nI x)), (2, .int z), (3, .int (nI kk)), (4, .int (nI ((pW mk mb ms mn ud dn ea oo x).2.2 kk))), (5, .int (nI n5)), (6, .int (nI n6)), (7, .int (nI i))]) hx hb d_Mo_boundChance_101 hl (by decide) rfl (fun ls hl => ?_)
                    refine lv_iload hx hb d_Mo_boundChance_103 (lv_at hl 0 rfl) ?_
                    refine lv_iload hx hb d_Mo_boundChance_105 (lv_at hl 6 rfl) ?_
                    refine my_icmp_ge (tgt := 115) (a := v2 (mb ((10 * ((pW mk mb ms mn ud dn ea oo x).2.2 kk)) + i))) (b := n5) hx hb d_Mo_boundChance_107 (by decide) (by omega) (by omega) (fun c_107 => ?_) (fun c_107 => ?_)
                    · -- 107: taken
                      refine lv_iload hx hb d_Mo_boundChance_115 (lv_at hl 6 rfl) ?_
                      refine lv_istore (lv' := [(5, .int (nI n5)), (8, .int (nI (v2 (mb ((10 * ((pW mk mb ms mn ud dn ea oo x).2.2 kk)) + i))))), (0, .ref (b 0)), (1, .int (nI x)), (2, .int z), (3, .int (nI kk)), (4, .int (nI ((pW mk mb ms mn ud dn ea oo x).2.2 kk))), (6, .int (nI n6)), (7, .int (nI i))]) hx hb d_Mo_boundChance_117 hl (by decide) rfl (fun ls hl => ?_)
                      refine lv_iload hx hb d_Mo_boundChance_119 (lv_at hl 7 rfl) ?_
                      refine lv_iload hx hb d_Mo_boundChance_121 (lv_at hl 1 rfl) ?_
                      refine lv_iadd hx hb d_Mo_boundChance_123 ?_
                      refine my_ei (nI_add n6 (v2 (mb ((10 * ((pW mk mb ms mn ud dn ea oo x).2.2 kk)) + i)))) ?_
                      refine lv_istore (lv' := [(6, .int (nI (n6 + (v2 (mb ((10 * ((pW mk mb ms mn ud dn ea oo x).2.2 kk)) + i)))))), (5, .int (nI n5)), (8, .int (nI (v2 (mb ((10 * ((pW mk mb ms mn ud dn ea oo x).2.2 kk)) + i))))), (0, .ref (b 0)), (1, .int (nI x)), (2, .int z), (3, .int (nI kk)), (4, .int (nI ((pW mk mb ms mn ud dn ea oo x).2.2 kk))), (7, .int (nI i))]) hx hb d_Mo_boundChance_124 hl (by decide) rfl (fun ls hl => ?_)
                      refine lv_iinc (v := (nI (i + 1))) (lv' := [(7, .int (nI (i + 1))), (6, .int (nI (n6 + (v2 (mb ((10 * ((pW mk mb ms mn ud dn ea oo x).2.2 kk)) + i)))))), (5, .int (nI n5)), (8, .int (nI (v2 (mb ((10 * ((pW mk mb ms mn ud dn ea oo x).2.2 kk)) + i))))), (0, .ref (b 0)), (1, .int (nI x)), (2, .int z), (3, .int (nI kk)), (4, .int (nI ((pW mk mb ms mn ud dn ea oo x).2.2 kk)))]) hx hb d_Mo_boundChance_126 hl (k := 8) rfl (nI_1 i) (by decide) rfl (fun ls hl => ?_)
                      refine lv_goto (tgt := 71) hx hb d_Mo_boundChance_129 (by decide) ?_
                      refine ih_71 _ _ _ _ _ _ ?_ ?_ ?_ hP hD hS (lv_sub hl [4, 5, 6, 7, 8, 2, 1, 0] rfl)
                      · omega
                      · omega
                      · simp only [lsF, ← hf5]; first | rw [if_pos c_107] | rw [if_neg (show ¬ v2 (mb (10 * (pW mk mb ms mn ud dn ea oo x).2.2 kk + i)) < n5 by omega)]
                    · -- 107: not taken
                      refine lv_iload hx hb d_Mo_boundChance_110 (lv_at hl 0 rfl) ?_
                      refine lv_goto (tgt := 117) hx hb d_Mo_boundChance_112 (by decide) ?_
                      refine lv_istore (lv' := [(5, .int (nI (v2 (mb ((10 * ((pW mk mb ms mn ud dn ea oo x).2.2 kk)) + i))))), (8, .int (nI (v2 (mb ((10 * ((pW mk mb ms mn ud dn ea oo x).2.2 kk)) + i))))), (0, .ref (b 0)), (1, .int (nI x)), (2, .int z), (3, .int (nI kk)), (4, .int (nI ((pW mk mb ms mn ud dn ea oo x).2.2 kk))), (6, .int (nI n6)), (7, .int (nI i))]) hx hb d_Mo_boundChance_117 hl (by decide) rfl (fun ls hl => ?_)
                      refine lv_iload hx hb d_Mo_boundChance_119 (lv_at hl 7 rfl) ?_
                      refine lv_iload hx hb d_Mo_boundChance_121 (lv_at hl 1 rfl) ?_
                      refine lv_iadd hx hb d_Mo_boundChance_123 ?_
                      refine my_ei (nI_add n6 (v2 (mb ((10 * ((pW mk mb ms mn ud dn ea oo x).2.2 kk)) + i)))) ?_
                      refine lv_istore (lv' := [(6, .int (nI (n6 + (v2 (mb ((10 * ((pW mk mb ms mn ud dn ea oo x).2.2 kk)) + i)))))), (5, .int (nI (v2 (mb ((10 * ((pW mk mb ms mn ud dn ea oo x).2.2 kk)) + i))))), (8, .int (nI (v2 (mb ((10 * ((pW mk mb ms mn ud dn ea oo x).2.2 kk)) + i))))), (0, .ref (b 0)), (1, .int (nI x)), (2, .int z), (3, .int (nI kk)), (4, .int (nI ((pW mk mb ms mn ud dn ea oo x).2.2 kk))), (7, .int (nI i))]) hx hb d_Mo_boundChance_124 hl (by decide) rfl (fun ls hl => ?_)
                      refine lv_iinc (v := (nI (i + 1))) (lv' := [(7, .int (nI (i + 1))), (6, .int (nI (n6 + (v2 (mb ((10 * ((pW mk mb ms mn ud dn ea oo x).2.2 kk)) + i)))))), (5, .int (nI (v2 (mb ((10 * ((pW mk mb ms mn ud dn ea oo x).2.2 kk)) + i))))), (8, .int (nI (v2 (mb ((10 * ((pW mk mb ms mn ud dn ea oo x).2.2 kk)) + i))))), (0, .ref (b 0)), (1, .int (nI x)), (2, .int z), (3, .int (nI kk)), (4, .int (nI ((pW mk mb ms mn ud dn ea oo x).2.2 kk)))]) hx hb d_Mo_boundChance_126 hl (k := 8) rfl (nI_1 i) (by decide) rfl (fun ls hl => ?_)
                      refine lv_goto (tgt := 71) hx hb d_Mo_boundChance_129 (by decide) ?_
                      refine ih_71 _ _ _ _ _ _ ?_ ?_ ?_ hP hD hS (lv_sub hl [4, 5, 6, 7, 8, 2, 1, 0] rfl)
                      · omega
                      · omega
                      · simp only [lsF, ← hf5]; first | rw [if_pos c_107] | rw [if_neg (show ¬ v2 (mb (10 * (pW mk mb ms mn ud dn ea oo x).2.2 kk + i)) < n5 by omega)]
              refine lp_71 (ms ((pW mk mb ms mn ud dn ea oo x).2.2 kk) + 1) _ _ _ _ _ _ ?_ ?_ ?_ hP hD hS (lv_sub hl [4, 5, 6, 7, 3, 2, 1, 0] rfl)
              · omega
              · omega
              · rfl
        refine lp_44 ((pW mk mb ms mn ud dn ea oo x).2.1 + 1) 0 _ _ _ _ ?_ ?_ ?_ ?_ hP hD hS (lv_sub hl [1, 2, 3, 0] rfl)
        · omega
        · omega
        · rw [hf1]; exact vbF_le hva (fun j => bdF_le) _
        · rw [hf1, show kk = (pE mk mb ms mn ud dn ea x).2.1 by omega]; rfl
      · -- 12: not taken
        have qa := qA kk c_12
        have qd := hmdp ((pE mk mb ms mn ud dn ea x).2.2 kk) (qV kk c_12) (by omega) (by omega)
        refine lv_aload_n hx hb d_Mo_boundChance_15 rfl (lv_at hl 0 rfl) ?_
        refine va_get (D := g) (ci := 8) (v := .ref (b 15)) (C := R_Mo) (T := F_Mo) (N := 35) hx hb hT i_Mo hown hK hP 0 rfl rfl 22 (by decide) (hT _ tw_643) (fun _ h9 => h9) rfl d_Mo_boundChance_16 ?_
        refine lv_aload_n hx hb d_Mo_boundChance_19 rfl (lv_at hl 0 rfl) ?_
        refine va_get (D := g) (ci := 8) (v := .ref (b 12)) (C := R_Mo) (T := F_Mo) (N := 35) hx hb hT i_Mo hown hK hP 0 rfl rfl 18 (by decide) (hT _ tw_639) (fun _ h9 => h9) rfl d_Mo_boundChance_20 ?_
        refine lv_iload_n hx hb d_Mo_boundChance_23 rfl (lv_at hl 3 rfl) ?_
        refine my_iald (v := (nI (((pE mk mb ms mn ud dn ea x).2.2) kk))) (i := kk) hx hb hK hP 12 0 rfl rfl (by omega) (by decide) rfl d_Mo_boundChance_24 ?_
        refine lv_aload_n hx hb d_Mo_boundChance_25 rfl (lv_at hl 0 rfl) ?_
        refine lv_aload_n hx hb d_Mo_boundChance_26 rfl (lv_at hl 0 rfl) ?_
        refine va_get (D := g) (ci := 8) (v := .ref (b 12)) (C := R_Mo) (T := F_Mo) (N := 35) hx hb hT i_Mo hown hK hP 0 rfl rfl 18 (by decide) (hT _ tw_639) (fun _ h9 => h9) rfl d_Mo_boundChance_27 ?_
        refine lv_iload_n hx hb d_Mo_boundChance_30 rfl (lv_at hl 3 rfl) ?_
        refine my_iald (v := (nI (((pE mk mb ms mn ud dn ea x).2.2) kk))) (i := kk) hx hb hK hP 12 0 rfl rfl (by omega) (by decide) rfl d_Mo_boundChance_31 ?_
        refine my_V_i (q0 := 0) (ci := 8) (C := R_Mo) (As := [.int (nI (((pE mk mb ms mn ud dn ea x).2.2) kk))]) (n := 1) (k_Mo_boundOfEvent l g b cI cJ cZ f0 mn mv mg mk mo mu md ms mb mc m1 m2 m3 m4 we (pU mb ms mn ud x) ((pE mk mb ms mn ud dn ea x).2.1) ((pE mk mb ms mn ud dn ea x).2.2) ((pW mk mb ms mn ud dn ea oo x).2.1) ((pW mk mb ms mn ud dn ea oo x).2.2) ((pW mk mb ms mn ud dn ea oo x).1) v1 ho wt cm co te tm gs gl rs rg rp rt (((pE mk mb ms mn ud dn ea x).2.2) kk) (by omega) hmc hmu qd hmd hm1 hm2 hm3 hm4 hm40) hx hb hml hown hT hN tw_819 tw_821 tp_27 tw_9 tw_822 (by decide +kernel) rfl rfl ⟨Nat.le_of_ble_eq_true rfl, Nat.le_of_ble_eq_true rfl⟩ ⟨Nat.zero_le _, Nat.zero_le _⟩ hK hP hD hS hA rfl rfl rfl hl rfl (Nat.le_of_ble_eq_true rfl) d_Mo_boundChance_32 (fun H locs hP hD hS => ?_)
        refine my_iast (i := ((pE mk mb ms mn ud dn ea x).2.2) kk) hx hb hK hP hD hS 15 0 rfl rfl (by omega) (by decide) (my_upN _ _ _) (w' := (moW b cI cJ cZ f0 mn mv mg mk mo mu md ms mb mc m1 m2 m3 m4 we (pU mb ms mn ud x) ((pE mk mb ms mn ud dn ea x).2.1) ((pE mk mb ms mn ud dn ea x).2.2) ((pW mk mb ms mn ud dn ea oo x).2.1) ((pW mk mb ms mn ud dn ea oo x).2.2) ((pW mk mb ms mn ud dn ea oo x).1) (va_up v1 (((pE mk mb ms mn ud dn ea x).2.2) kk) (if boF mu md m1 m2 m3 m4 (((pE mk mb ms mn ud dn ea x).2.2) kk) mc < 2520 then boF mu md m1 m2 m3 m4 (((pE mk mb ms mn ud dn ea x).2.2) kk) mc else 2520)) ho wt cm co te tm gs gl rs rg rp rt)) rfl d_Mo_boundChance_35 (fun H locs hP hD hS => ?_)
        refine lv_iinc (v := (nI (kk + 1))) (lv' := [(3, .int (nI (kk + 1))), (0, .ref (b 0)), (1, .int (nI x)), (2, .int z)]) hx hb d_Mo_boundChance_36 hl (k := 3) rfl (nI_1 kk) (by decide) rfl (fun ls hl => ?_)
        refine lv_goto (tgt := 7) hx hb d_Mo_boundChance_39 (by decide) ?_
        refine ih_7 _ _ _ _ _ ?_ ?_ ?_ hP hD hS (lv_sub hl [1, 2, 3, 0] rfl)
        · omega
        · omega
        · rw [hf1]; rfl
  refine lp_7 ((pE mk mb ms mn ud dn ea x).2.1 + 1) _ _ _ _ _ ?_ ?_ ?_ hP hD hS (lv_sub hl [1, 2, 3, 0] rfl)
  · omega
  · omega
  · rfl
set_option maxHeartbeats 4000000 in
set_option maxRecDepth 100000 in
theorem k_Mo_chance (l : Launch) (g : va_G) (b : Nat → Nat) (cI cJ cZ : ClassId) (f0 : Nat) (mn : Nat) (mv : Nat) (mg : Nat) (mk : Nat → Nat) (mo : Nat → Nat) (mu : Nat → Nat) (md : Nat → Nat) (ms : Nat → Nat) (mb : Nat → Nat) (mc : Nat) (m1 : Nat → Nat) (m2 : Nat → Nat) (m3 : Nat → Nat) (m4 : Nat → Nat) (we : Bool) (ud : Nat → Bool) (my : Nat) (ea : Nat → Nat) (od : Nat) (oo : Nat → Nat) (dn : Nat → Bool) (va : Nat → Nat) (ho : Nat → Bool) (wt : Nat → Nat) (cm : Nat) (co : Nat → Nat) (te : Nat → Nat) (tm : Nat) (gs : Nat) (gl : Nat → Nat) (rs : Nat) (rg : Nat → Nat) (rp : Nat → Nat) (rt : Nat → Nat) (x : Int32) (z : Int32) (hmn : mn ≤ 32) (hms : ∀ j, ms j ≤ 10) (hmb : ∀ j, mb j ≤ 32) (hev : evc mk mn ≤ 12) (hgt : ndc (fun j => decide (mk j = 0)) mn ≤ 20) (hmk : ∀ j, mk j ≤ 3) (hmo : ∀ j, mo j ≤ 10) (hva : ∀ j, va j ≤ 2520) (hea : ∀ j, ea j ≤ 32) (hmc : mc ≤ 4) (hmud : ∀ j, mu j ≤ md j) (hmd : ∀ j, md j ≤ 10) (hm1 : ∀ j, m1 j ≤ 32) (hm2 : ∀ j, m2 j ≤ 32) (hm34 : ∀ j, m3 j ≤ m4 j) (hm4 : ∀ j, m4 j ≤ 10) (hm40 : ∀ j, j < mc → 0 < m4 j) (hmdp : ∀ j, mk j = 0 → 1 ≤ j → j ≤ mn → 0 < md j) (hmop : ∀ j, mk j = 3 → 1 ≤ j → j ≤ mn → 0 < mo j) (hlim : miG mn mk x = true → (cxF (pU mb ms mn ud x.toNatClampNeg) m1 m2 (pE mk mb ms mn ud dn ea x.toNatClampNeg).2.1 mc) ≤ 14 → (exN (tA mk ms mo mb (pE mk mb ms mn (pU mb ms mn ud x.toNatClampNeg) ((pW mk mb ms mn ud dn ea oo x.toNatClampNeg).1) ((pE mk mb ms mn ud dn ea x.toNatClampNeg).2.2) x.toNatClampNeg).2.2 (pW mk mb ms mn (pU mb ms mn ud x.toNatClampNeg) ((pW mk mb ms mn ud dn ea oo x.toNatClampNeg).1) ((pE mk mb ms mn ud dn ea x.toNatClampNeg).2.2) ((pW mk mb ms mn ud dn ea oo x.toNatClampNeg).2.2) x.toNatClampNeg).2.2 (pE mk mb ms mn (pU mb ms mn ud x.toNatClampNeg) ((pW mk mb ms mn ud dn ea oo x.toNatClampNeg).1) ((pE mk mb ms mn ud dn ea x.toNatClampNeg).2.2) x.toNatClampNeg).2.1 (pW mk mb ms mn (pU mb ms mn ud x.toNatClampNeg) ((pW mk mb ms mn ud dn ea oo x.toNatClampNeg).1) ((pE mk mb ms mn ud dn ea x.toNatClampNeg).2.2) ((pW mk mb ms mn ud dn ea oo x.toNatClampNeg).2.2) x.toNatClampNeg).2.1 x.toNatClampNeg va ho).2 (exC (pE mk mb ms mn (pU mb ms mn ud x.toNatClampNeg) ((pW mk mb ms mn ud dn ea oo x.toNatClampNeg).1) ((pE mk mb ms mn ud dn ea x.toNatClampNeg).2.2) x.toNatClampNeg).2.2 mu md m1 m2 m3 m4 (pE mk mb ms mn (pU mb ms mn ud x.toNatClampNeg) ((pW mk mb ms mn ud dn ea oo x.toNatClampNeg).1) ((pE mk mb ms mn ud dn ea x.toNatClampNeg).2.2) x.toNatClampNeg).2.1 wt mc).1 (2 ^ (pE mk mb ms mn (pU mb ms mn ud x.toNatClampNeg) ((pW mk mb ms mn ud dn ea oo x.toNatClampNeg).1) ((pE mk mb ms mn ud dn ea x.toNatClampNeg).2.2) x.toNatClampNeg).2.1)) < 2 ^ 62 ∧ (exC (pE mk mb ms mn (pU mb ms mn ud x.toNatClampNeg) ((pW mk mb ms mn ud dn ea oo x.toNatClampNeg).1) ((pE mk mb ms mn ud dn ea x.toNatClampNeg).2.2) x.toNatClampNeg).2.2 mu md m1 m2 m3 m4 (pE mk mb ms mn (pU mb ms mn ud x.toNatClampNeg) ((pW mk mb ms mn ud dn ea oo x.toNatClampNeg).1) ((pE mk mb ms mn ud dn ea x.toNatClampNeg).2.2) x.toNatClampNeg).2.1 wt mc).2 < 2 ^ 62 ∧ 0 < (exC (pE mk mb ms mn (pU mb ms mn ud x.toNatClampNeg) ((pW mk mb ms mn ud dn ea oo x.toNatClampNeg).1) ((pE mk mb ms mn ud dn ea x.toNatClampNeg).2.2) x.toNatClampNeg).2.2 mu md m1 m2 m3 m4 (pE mk mb ms mn (pU mb ms mn ud x.toNatClampNeg) ((pW mk mb ms mn ud dn ea oo x.toNatClampNeg).1) ((pE mk mb ms mn ud dn ea x.toNatClampNeg).2.2) x.toNatClampNeg).2.1 wt mc).2) : ct_l l g vwCl (tyM cI cJ cZ) y_Mo_chance c_Mo_chance 5 (some .long) ({ frames := 4, cells := 0, slots := 0, locals := 101 } : Room) [.ref (b 0), .int x, .int z] (moW b cI cJ cZ f0 mn mv mg mk mo mu md ms mb mc m1 m2 m3 m4 we ud my ea od oo dn va ho wt cm co te tm gs gl rs rg rp rt) (if miG mn mk x = true ∧ (cxF (pU mb ms mn ud x.toNatClampNeg) m1 m2 (pE mk mb ms mn ud dn ea x.toNatClampNeg).2.1 mc) ≤ 14 then (moW b cI cJ cZ 0 mn mv mg mk mo mu md ms mb mc m1 m2 m3 m4 true (pU mb ms mn (pU mb ms mn ud x.toNatClampNeg) x.toNatClampNeg) ((pE mk mb ms mn (pU mb ms mn ud x.toNatClampNeg) ((pW mk mb ms mn ud dn ea oo x.toNatClampNeg).1) ((pE mk mb ms mn ud dn ea x.toNatClampNeg).2.2) x.toNatClampNeg).2.1) ((pE mk mb ms mn (pU mb ms mn ud x.toNatClampNeg) ((pW mk mb ms mn ud dn ea oo x.toNatClampNeg).1) ((pE mk mb ms mn ud dn ea x.toNatClampNeg).2.2) x.toNatClampNeg).2.2) ((pW mk mb ms mn (pU mb ms mn ud x.toNatClampNeg) ((pW mk mb ms mn ud dn ea oo x.toNatClampNeg).1) ((pE mk mb ms mn ud dn ea x.toNatClampNeg).2.2) ((pW mk mb ms mn ud dn ea oo x.toNatClampNeg).2.2) x.toNatClampNeg).2.1) ((pW mk mb ms mn (pU mb ms mn ud x.toNatClampNeg) ((pW mk mb ms mn ud dn ea oo x.toNatClampNeg).1) ((pE mk mb ms mn ud dn ea x.toNatClampNeg).2.2) ((pW mk mb ms mn ud dn ea oo x.toNatClampNeg).2.2) x.toNatClampNeg).2.2) ((pW mk mb ms mn (pU mb ms mn ud x.toNatClampNeg) ((pW mk mb ms mn ud dn ea oo x.toNatClampNeg).1) ((pE mk mb ms mn ud dn ea x.toNatClampNeg).2.2) ((pW mk mb ms mn ud dn ea oo x.toNatClampNeg).2.2) x.toNatClampNeg).1) ((tA mk ms mo mb (pE mk mb ms mn (pU mb ms mn ud x.toNatClampNeg) ((pW mk mb ms mn ud dn ea oo x.toNatClampNeg).1) ((pE mk mb ms mn ud dn ea x.toNatClampNeg).2.2) x.toNatClampNeg).2.2 (pW mk mb ms mn (pU mb ms mn ud x.toNatClampNeg) ((pW mk mb ms mn ud dn ea oo x.toNatClampNeg).1) ((pE mk mb ms mn ud dn ea x.toNatClampNeg).2.2) ((pW mk mb ms mn ud dn ea oo x.toNatClampNeg).2.2) x.toNatClampNeg).2.2 (pE mk mb ms mn (pU mb ms mn ud x.toNatClampNeg) ((pW mk mb ms mn ud dn ea oo x.toNatClampNeg).1) ((pE mk mb ms mn ud dn ea x.toNatClampNeg).2.2) x.toNatClampNeg).2.1 (pW mk mb ms mn (pU mb ms mn ud x.toNatClampNeg) ((pW mk mb ms mn ud dn ea oo x.toNatClampNeg).1) ((pE mk mb ms mn ud dn ea x.toNatClampNeg).2.2) ((pW mk mb ms mn ud dn ea oo x.toNatClampNeg).2.2) x.toNatClampNeg).2.1 x.toNatClampNeg va ho).1) ((tA mk ms mo mb (pE mk mb ms mn (pU mb ms mn ud x.toNatClampNeg) ((pW mk mb ms mn ud dn ea oo x.toNatClampNeg).1) ((pE mk mb ms mn ud dn ea x.toNatClampNeg).2.2) x.toNatClampNeg).2.2 (pW mk mb ms mn (pU mb ms mn ud x.toNatClampNeg) ((pW mk mb ms mn ud dn ea oo x.toNatClampNeg).1) ((pE mk mb ms mn ud dn ea x.toNatClampNeg).2.2) ((pW mk mb ms mn ud dn ea oo x.toNatClampNeg).2.2) x.toNatClampNeg).2.2 (pE mk mb ms mn (pU mb ms mn ud x.toNatClampNeg) ((pW mk mb ms mn ud dn ea oo x.toNatClampNeg).1) ((pE mk mb ms mn ud dn ea x.toNatClampNeg).2.2) x.toNatClampNeg).2.1 (pW mk mb ms mn (pU mb ms mn ud x.toNatClampNeg) ((pW mk mb ms mn ud dn ea oo x.toNatClampNeg).1) ((pE mk mb ms mn ud dn ea x.toNatClampNeg).2.2) ((pW mk mb ms mn ud dn ea oo x.toNatClampNeg).2.2) x.toNatClampNeg).2.1 x.toNatClampNeg va ho).2) ((exC (pE mk mb ms mn (pU mb ms mn ud x.toNatClampNeg) ((pW mk mb ms mn ud dn ea oo x.toNatClampNeg).1) ((pE mk mb ms mn ud dn ea x.toNatClampNeg).2.2) x.toNatClampNeg).2.2 mu md m1 m2 m3 m4 (pE mk mb ms mn (pU mb ms mn ud x.toNatClampNeg) ((pW mk mb ms mn ud dn ea oo x.toNatClampNeg).1) ((pE mk mb ms mn ud dn ea x.toNatClampNeg).2.2) x.toNatClampNeg).2.1 wt mc).1) cm co te tm gs gl rs rg rp rt) else (if miG mn mk x = true then (moW b cI cJ cZ 0 mn mv mg mk mo mu md ms mb mc m1 m2 m3 m4 false (pU mb ms mn (pU mb ms mn ud x.toNatClampNeg) x.toNatClampNeg) ((pE mk mb ms mn (pU mb ms mn ud x.toNatClampNeg) ((pW mk mb ms mn ud dn ea oo x.toNatClampNeg).1) ((pE mk mb ms mn ud dn ea x.toNatClampNeg).2.2) x.toNatClampNeg).2.1) ((pE mk mb ms mn (pU mb ms mn ud x.toNatClampNeg) ((pW mk mb ms mn ud dn ea oo x.toNatClampNeg).1) ((pE mk mb ms mn ud dn ea x.toNatClampNeg).2.2) x.toNatClampNeg).2.2) ((pW mk mb ms mn (pU mb ms mn ud x.toNatClampNeg) ((pW mk mb ms mn ud dn ea oo x.toNatClampNeg).1) ((pE mk mb ms mn ud dn ea x.toNatClampNeg).2.2) ((pW mk mb ms mn ud dn ea oo x.toNatClampNeg).2.2) x.toNatClampNeg).2.1) ((pW mk mb ms mn (pU mb ms mn ud x.toNatClampNeg) ((pW mk mb ms mn ud dn ea oo x.toNatClampNeg).1) ((pE mk mb ms mn ud dn ea x.toNatClampNeg).2.2) ((pW mk mb ms mn ud dn ea oo x.toNatClampNeg).2.2) x.toNatClampNeg).2.2) ((pW mk mb ms mn (pU mb ms mn ud x.toNatClampNeg) ((pW mk mb ms mn ud dn ea oo x.toNatClampNeg).1) ((pE mk mb ms mn ud dn ea x.toNatClampNeg).2.2) ((pW mk mb ms mn ud dn ea oo x.toNatClampNeg).2.2) x.toNatClampNeg).1) (vgF mk mo ms mb (pW mk mb ms mn (pU mb ms mn ud x.toNatClampNeg) ((pW mk mb ms mn ud dn ea oo x.toNatClampNeg).1) ((pE mk mb ms mn ud dn ea x.toNatClampNeg).2.2) ((pW mk mb ms mn ud dn ea oo x.toNatClampNeg).2.2) x.toNatClampNeg).2.2 (vbF (bdF mu md m1 m2 m3 m4 mc) (pE mk mb ms mn (pU mb ms mn ud x.toNatClampNeg) ((pW mk mb ms mn ud dn ea oo x.toNatClampNeg).1) ((pE mk mb ms mn ud dn ea x.toNatClampNeg).2.2) x.toNatClampNeg).2.2 va (pE mk mb ms mn (pU mb ms mn ud x.toNatClampNeg) ((pW mk mb ms mn ud dn ea oo x.toNatClampNeg).1) ((pE mk mb ms mn ud dn ea x.toNatClampNeg).2.2) x.toNatClampNeg).2.1) (pW mk mb ms mn (pU mb ms mn ud x.toNatClampNeg) ((pW mk mb ms mn ud dn ea oo x.toNatClampNeg).1) ((pE mk mb ms mn ud dn ea x.toNatClampNeg).2.2) ((pW mk mb ms mn ud dn ea oo x.toNatClampNeg).2.2) x.toNatClampNeg).2.1) ho wt cm co te tm gs gl rs rg rp rt) else (moW b cI cJ cZ 0 mn mv mg mk mo mu md ms mb mc m1 m2 m3 m4 we ud my ea od oo dn va ho wt cm co te tm gs gl rs rg rp rt))) (if miG mn mk x = false then (-1) else if (cxF (pU mb ms mn ud x.toNatClampNeg) m1 m2 (pE mk mb ms mn ud dn ea x.toNatClampNeg).2.1 mc) ≤ 14 then (lN (if z = 0 then (exN (tA mk ms mo mb (pE mk mb ms mn (pU mb ms mn ud x.toNatClampNeg) ((pW mk mb ms mn ud dn ea oo x.toNatClampNeg).1) ((pE mk mb ms mn ud dn ea x.toNatClampNeg).2.2) x.toNatClampNeg).2.2 (pW mk mb ms mn (pU mb ms mn ud x.toNatClampNeg) ((pW mk mb ms mn ud dn ea oo x.toNatClampNeg).1) ((pE mk mb ms mn ud dn ea x.toNatClampNeg).2.2) ((pW mk mb ms mn ud dn ea oo x.toNatClampNeg).2.2) x.toNatClampNeg).2.2 (pE mk mb ms mn (pU mb ms mn ud x.toNatClampNeg) ((pW mk mb ms mn ud dn ea oo x.toNatClampNeg).1) ((pE mk mb ms mn ud dn ea x.toNatClampNeg).2.2) x.toNatClampNeg).2.1 (pW mk mb ms mn (pU mb ms mn ud x.toNatClampNeg) ((pW mk mb ms mn ud dn ea oo x.toNatClampNeg).1) ((pE mk mb ms mn ud dn ea x.toNatClampNeg).2.2) ((pW mk mb ms mn ud dn ea oo x.toNatClampNeg).2.2) x.toNatClampNeg).2.1 x.toNatClampNeg va ho).2 (exC (pE mk mb ms mn (pU mb ms mn ud x.toNatClampNeg) ((pW mk mb ms mn ud dn ea oo x.toNatClampNeg).1) ((pE mk mb ms mn ud dn ea x.toNatClampNeg).2.2) x.toNatClampNeg).2.2 mu md m1 m2 m3 m4 (pE mk mb ms mn (pU mb ms mn ud x.toNatClampNeg) ((pW mk mb ms mn ud dn ea oo x.toNatClampNeg).1) ((pE mk mb ms mn ud dn ea x.toNatClampNeg).2.2) x.toNatClampNeg).2.1 wt mc).1 (2 ^ (pE mk mb ms mn (pU mb ms mn ud x.toNatClampNeg) ((pW mk mb ms mn ud dn ea oo x.toNatClampNeg).1) ((pE mk mb ms mn ud dn ea x.toNatClampNeg).2.2) x.toNatClampNeg).2.1)) / gcF ((exC (pE mk mb ms mn (pU mb ms mn ud x.toNatClampNeg) ((pW mk mb ms mn ud dn ea oo x.toNatClampNeg).1) ((pE mk mb ms mn ud dn ea x.toNatClampNeg).2.2) x.toNatClampNeg).2.2 mu md m1 m2 m3 m4 (pE mk mb ms mn (pU mb ms mn ud x.toNatClampNeg) ((pW mk mb ms mn ud dn ea oo x.toNatClampNeg).1) ((pE mk mb ms mn ud dn ea x.toNatClampNeg).2.2) x.toNatClampNeg).2.1 wt mc).2 + 1) (exN (tA mk ms mo mb (pE mk mb ms mn (pU mb ms mn ud x.toNatClampNeg) ((pW mk mb ms mn ud dn ea oo x.toNatClampNeg).1) ((pE mk mb ms mn ud dn ea x.toNatClampNeg).2.2) x.toNatClampNeg).2.2 (pW mk mb ms mn (pU mb ms mn ud x.toNatClampNeg) ((pW mk mb ms mn ud dn ea oo x.toNatClampNeg).1) ((pE mk mb ms mn ud dn ea x.toNatClampNeg).2.2) ((pW mk mb ms mn ud dn ea oo x.toNatClampNeg).2.2) x.toNatClampNeg).2.2 (pE mk mb ms mn (pU mb ms mn ud x.toNatClampNeg) ((pW mk mb ms mn ud dn ea oo x.toNatClampNeg).1) ((pE mk mb ms mn ud dn ea x.toNatClampNeg).2.2) x.toNatClampNeg).2.1 (pW mk mb ms mn (pU mb ms mn ud x.toNatClampNeg) ((pW mk mb ms mn ud dn ea oo x.toNatClampNeg).1) ((pE mk mb ms mn ud dn ea x.toNatClampNeg).2.2) ((pW mk mb ms mn ud dn ea oo x.toNatClampNeg).2.2) x.toNatClampNeg).2.1 x.toNatClampNeg va ho).2 (exC (pE mk mb ms mn (pU mb ms mn ud x.toNatClampNeg) ((pW mk mb ms mn ud dn ea oo x.toNatClampNeg).1) ((pE mk mb ms mn ud dn ea x.toNatClampNeg).2.2) x.toNatClampNeg).2.2 mu md m1 m2 m3 m4 (pE mk mb ms mn (pU mb ms mn ud x.toNatClampNeg) ((pW mk mb ms mn ud dn ea oo x.toNatClampNeg).1) ((pE mk mb ms mn ud dn ea x.toNatClampNeg).2.2) x.toNatClampNeg).2.1 wt mc).1 (2 ^ (pE mk mb ms mn (pU mb ms mn ud x.toNatClampNeg) ((pW mk mb ms mn ud dn ea oo x.toNatClampNeg).1) ((pE mk mb ms mn ud dn ea x.toNatClampNeg).2.2) x.toNatClampNeg).2.1)) (exC (pE mk mb ms mn (pU mb ms mn ud x.toNatClampNeg) ((pW mk mb ms mn ud dn ea oo x.toNatClampNeg).1) ((pE mk mb ms mn ud dn ea x.toNatClampNeg).2.2) x.toNatClampNeg).2.2 mu md m1 m2 m3 m4 (pE mk mb ms mn (pU mb ms mn ud x.toNatClampNeg) ((pW mk mb ms mn ud dn ea oo x.toNatClampNeg).1) ((pE mk mb ms mn ud dn ea x.toNatClampNeg).2.2) x.toNatClampNeg).2.1 wt mc).2 else (exC (pE mk mb ms mn (pU mb ms mn ud x.toNatClampNeg) ((pW mk mb ms mn ud dn ea oo x.toNatClampNeg).1) ((pE mk mb ms mn ud dn ea x.toNatClampNeg).2.2) x.toNatClampNeg).2.2 mu md m1 m2 m3 m4 (pE mk mb ms mn (pU mb ms mn ud x.toNatClampNeg) ((pW mk mb ms mn ud dn ea oo x.toNatClampNeg).1) ((pE mk mb ms mn ud dn ea x.toNatClampNeg).2.2) x.toNatClampNeg).2.1 wt mc).2 / gcF ((exC (pE mk mb ms mn (pU mb ms mn ud x.toNatClampNeg) ((pW mk mb ms mn ud dn ea oo x.toNatClampNeg).1) ((pE mk mb ms mn ud dn ea x.toNatClampNeg).2.2) x.toNatClampNeg).2.2 mu md m1 m2 m3 m4 (pE mk mb ms mn (pU mb ms mn ud x.toNatClampNeg) ((pW mk mb ms mn ud dn ea oo x.toNatClampNeg).1) ((pE mk mb ms mn ud dn ea x.toNatClampNeg).2.2) x.toNatClampNeg).2.1 wt mc).2 + 1) (exN (tA mk ms mo mb (pE mk mb ms mn (pU mb ms mn ud x.toNatClampNeg) ((pW mk mb ms mn ud dn ea oo x.toNatClampNeg).1) ((pE mk mb ms mn ud dn ea x.toNatClampNeg).2.2) x.toNatClampNeg).2.2 (pW mk mb ms mn (pU mb ms mn ud x.toNatClampNeg) ((pW mk mb ms mn ud dn ea oo x.toNatClampNeg).1) ((pE mk mb ms mn ud dn ea x.toNatClampNeg).2.2) ((pW mk mb ms mn ud dn ea oo x.toNatClampNeg).2.2) x.toNatClampNeg).2.2 (pE mk mb ms mn (pU mb ms mn ud x.toNatClampNeg) ((pW mk mb ms mn ud dn ea oo x.toNatClampNeg).1) ((pE mk mb ms mn ud dn ea x.toNatClampNeg).2.2) x.toNatClampNeg).2.1 (pW mk mb ms mn (pU mb ms mn ud x.toNatClampNeg) ((pW mk mb ms mn ud dn ea oo x.toNatClampNeg).1) ((pE mk mb ms mn ud dn ea x.toNatClampNeg).2.2) ((pW mk mb ms mn ud dn ea oo x.toNatClampNeg).2.2) x.toNatClampNeg).2.1 x.toNatClampNeg va ho).2 (exC (pE mk mb ms mn (pU mb ms mn ud x.toNatClampNeg) ((pW mk mb ms mn ud dn ea oo x.toNatClampNeg).1) ((pE mk mb ms mn ud dn ea x.toNatClampNeg).2.2) x.toNatClampNeg).2.2 mu md m1 m2 m3 m4 (pE mk mb ms mn (pU mb ms mn ud x.toNatClampNeg) ((pW mk mb ms mn ud dn ea oo x.toNatClampNeg).1) ((pE mk mb ms mn ud dn ea x.toNatClampNeg).2.2) x.toNatClampNeg).2.1 wt mc).1 (2 ^ (pE mk mb ms mn (pU mb ms mn ud x.toNatClampNeg) ((pW mk mb ms mn ud dn ea oo x.toNatClampNeg).1) ((pE mk mb ms mn ud dn ea x.toNatClampNeg).2.2) x.toNatClampNeg).2.1)) (exC (pE mk mb ms mn (pU mb ms mn ud x.toNatClampNeg) ((pW mk mb ms mn ud dn ea oo x.toNatClampNeg).1) ((pE mk mb ms mn ud dn ea x.toNatClampNeg).2.2) x.toNatClampNeg).2.2 mu md m1 m2 m3 m4 (pE mk mb ms mn (pU mb ms mn ud x.toNatClampNeg) ((pW mk mb ms mn ud dn ea oo x.toNatClampNeg).1) ((pE mk mb ms mn ud dn ea x.toNatClampNeg).2.2) x.toNatClampNeg).2.1 wt mc).2)) else (lN (if z = 0 then ((vgF mk mo ms mb (pW mk mb ms mn (pU mb ms mn ud x.toNatClampNeg) ((pW mk mb ms mn ud dn ea oo x.toNatClampNeg).1) ((pE mk mb ms mn ud dn ea x.toNatClampNeg).2.2) ((pW mk mb ms mn ud dn ea oo x.toNatClampNeg).2.2) x.toNatClampNeg).2.2 (vbF (bdF mu md m1 m2 m3 m4 mc) (pE mk mb ms mn (pU mb ms mn ud x.toNatClampNeg) ((pW mk mb ms mn ud dn ea oo x.toNatClampNeg).1) ((pE mk mb ms mn ud dn ea x.toNatClampNeg).2.2) x.toNatClampNeg).2.2 va (pE mk mb ms mn (pU mb ms mn ud x.toNatClampNeg) ((pW mk mb ms mn ud dn ea oo x.toNatClampNeg).1) ((pE mk mb ms mn ud dn ea x.toNatClampNeg).2.2) x.toNatClampNeg).2.1) (pW mk mb ms mn (pU mb ms mn ud x.toNatClampNeg) ((pW mk mb ms mn ud dn ea oo x.toNatClampNeg).1) ((pE mk mb ms mn ud dn ea x.toNatClampNeg).2.2) ((pW mk mb ms mn ud dn ea oo x.toNatClampNeg).2.2) x.toNatClampNeg).2.1) x.toNatClampNeg) / gcF (2520 + 1) ((vgF mk mo ms mb (pW mk mb ms mn (pU mb ms mn ud x.toNatClampNeg) ((pW mk mb ms mn ud dn ea oo x.toNatClampNeg).1) ((pE mk mb ms mn ud dn ea x.toNatClampNeg).2.2) ((pW mk mb ms mn ud dn ea oo x.toNatClampNeg).2.2) x.toNatClampNeg).2.2 (vbF (bdF mu md m1 m2 m3 m4 mc) (pE mk mb ms mn (pU mb ms mn ud x.toNatClampNeg) ((pW mk mb ms mn ud dn ea oo x.toNatClampNeg).1) ((pE mk mb ms mn ud dn ea x.toNatClampNeg).2.2) x.toNatClampNeg).2.2 va (pE mk mb ms mn (pU mb ms mn ud x.toNatClampNeg) ((pW mk mb ms mn ud dn ea oo x.toNatClampNeg).1) ((pE mk mb ms mn ud dn ea x.toNatClampNeg).2.2) x.toNatClampNeg).2.1) (pW mk mb ms mn (pU mb ms mn ud x.toNatClampNeg) ((pW mk mb ms mn ud dn ea oo x.toNatClampNeg).1) ((pE mk mb ms mn ud dn ea x.toNatClampNeg).2.2) ((pW mk mb ms mn ud dn ea oo x.toNatClampNeg).2.2) x.toNatClampNeg).2.1) x.toNatClampNeg) 2520 else 2520 / gcF (2520 + 1) ((vgF mk mo ms mb (pW mk mb ms mn (pU mb ms mn ud x.toNatClampNeg) ((pW mk mb ms mn ud dn ea oo x.toNatClampNeg).1) ((pE mk mb ms mn ud dn ea x.toNatClampNeg).2.2) ((pW mk mb ms mn ud dn ea oo x.toNatClampNeg).2.2) x.toNatClampNeg).2.2 (vbF (bdF mu md m1 m2 m3 m4 mc) (pE mk mb ms mn (pU mb ms mn ud x.toNatClampNeg) ((pW mk mb ms mn ud dn ea oo x.toNatClampNeg).1) ((pE mk mb ms mn ud dn ea x.toNatClampNeg).2.2) x.toNatClampNeg).2.2 va (pE mk mb ms mn (pU mb ms mn ud x.toNatClampNeg) ((pW mk mb ms mn ud dn ea oo x.toNatClampNeg).1) ((pE mk mb ms mn ud dn ea x.toNatClampNeg).2.2) x.toNatClampNeg).2.1) (pW mk mb ms mn (pU mb ms mn ud x.toNatClampNeg) ((pW mk mb ms mn ud dn ea oo x.toNatClampNeg).1) ((pE mk mb ms mn ud dn ea x.toNatClampNeg).2.2) ((pW mk mb ms mn ud dn ea oo x.toNatClampNeg).2.2) x.toNatClampNeg).2.1) x.toNatClampNeg) 2520))) := by
  refine ct_l.intro (by decide) (Nat.le_of_ble_eq_true rfl) ?_
  intro p e s m args below meth c Q A ls hx hb hml hT hown hA hK hN hret hP hD hS hl
  have hown : s.vm.findClass R_Mo = some m.cls := hown
  have hl : lv_has ls 5 [(0, .ref (b 0)), (1, .int x), (2, .int z)] := hl
  refine lv_aload_n hx hb d_Mo_chance_0 rfl (lv_at hl 0 rfl) ?_
  refine lv_iconst (v := (nI 0)) hx hb d_Mo_chance_1 (by decide) ?_
  refine va_put (D := g) (ci := 8) (v := .int (nI 0)) (ty := .int) (C := R_Mo) (T := F_Mo) (N := 35) hx hb hT i_Mo t_Mo t_Mo_ok n_Mo hown hK hP hD hS 0 rfl rfl 0 (by decide) (hT _ tw_621) (fun _ h9 => h9) rfl (by decide +kernel) rfl rfl (Nat.le_of_ble_eq_true rfl) d_Mo_chance_2 (fun H locs hP hD hS => ?_)
  have hP : va_P g vwCl (moW b cI cJ cZ 0 mn mv mg mk mo mu md ms mb mc m1 m2 m3 m4 we ud my ea od oo dn va ho wt cm co te tm gs gl rs rg rp rt) H := hP
  have hD : va_D A (moW b cI cJ cZ 0 mn mv mg mk mo mu md ms mb mc m1 m2 m3 m4 we ud my ea od oo dn va ho wt cm co te tm gs gl rs rg rp rt) := hD
  refine lv_aload_n hx hb d_Mo_chance_5 rfl (lv_at hl 0 rfl) ?_
  refine lv_iload_n hx hb d_Mo_chance_6 rfl (lv_at hl 1 rfl) ?_
  refine my_V_i (q0 := 0) (ci := 8) (C := R_Mo) (As := [.int x]) (n := 1) (k_Mo_isGate l g b cI cJ cZ 0 mn mv mg mk mo mu md ms mb mc m1 m2 m3 m4 we ud my ea od oo dn va ho wt cm co te tm gs gl rs rg rp rt x hmn hmk) hx hb hml hown hT hN tw_749 tw_751 tp_16 tw_9 tw_752 (by decide +kernel) rfl rfl ⟨Nat.le_of_ble_eq_true rfl, Nat.le_of_ble_eq_true rfl⟩ ⟨Nat.zero_le _, Nat.zero_le _⟩ hK hP hD hS hA rfl rfl rfl hl rfl (Nat.le_of_ble_eq_true rfl) d_Mo_chance_7 (fun H locs hP hD hS => ?_)
  refine my_if_ne_b (tgt := 17) hx hb d_Mo_chance_10 (by decide) (fun c_10 => ?_) (fun c_10 => ?_)
  · -- 10: taken
    obtain ⟨x1, hx11, hx12, rfl⟩ := miG_nat hmn c_10
    have hkc : (nI x1).toNatClampNeg = x1 := nI_clamp (by omega)
    simp only [hkc] at hret
    simp only [hkc] at hlim
    have qM : (pE mk mb ms mn ud dn ea x1).2.1 ≤ 12 := pE_my hev
    have qE : ∀ j, (pE mk mb ms mn ud dn ea x1).2.2 j ≤ 32 := prE_all hea mn hmn
    refine lv_aload_n hx hb d_Mo_chance_17 rfl (lv_at hl 0 rfl) ?_
    refine lv_iload_n hx hb d_Mo_chance_18 rfl (lv_at hl 1 rfl) ?_
    refine my_V_v (q0 := 0) (ci := 8) (C := R_Mo) (As := [.int (nI x1)]) (n := 1) (k_Mo_prepareP l g b cI cJ cZ 0 mn mv mg mk mo mu md ms mb mc m1 m2 m3 m4 we ud my ea od oo dn va ho wt cm co te tm gs gl rs rg rp rt x1 (by omega) hmn hms hmb hev hgt hmk) hx hb hml hown hT hN tw_761 tw_763 tp_18 tw_9 tw_764 (by decide +kernel) rfl rfl ⟨Nat.le_of_ble_eq_true rfl, Nat.le_of_ble_eq_true rfl⟩ ⟨Nat.zero_le _, Nat.zero_le _⟩ hK hP hD hS hA rfl rfl rfl hl rfl (Nat.le_of_ble_eq_true rfl) d_Mo_chance_19 (fun H locs hP hD hS => ?_)
    refine lv_aload_n hx hb d_Mo_chance_22 rfl (lv_at hl 0 rfl) ?_
    refine va_get (D := g) (ci := 8) (v := .int (nI ((pE mk mb ms mn ud dn ea x1).2.1))) (C := R_Mo) (T := F_Mo) (N := 35) hx hb hT i_Mo hown hK hP 0 rfl rfl 17 (by decide) (hT _ tw_638) (fun _ h9 => h9) rfl d_Mo_chance_23 ?_
    refine lv_istore_n (lv' := [(3, .int (nI ((pE mk mb ms mn ud dn ea x1).2.1))), (0, .ref (b 0)), (1, .int (nI x1)), (2, .int z)]) hx hb d_Mo_chance_26 rfl hl (by decide) rfl (fun ls hl => ?_)
    refine lv_iconst (v := (nI 0)) hx hb d_Mo_chance_27 (by decide) ?_
    refine lv_istore (lv' := [(4, .int (nI 0)), (3, .int (nI ((pE mk mb ms mn ud dn ea x1).2.1))), (0, .ref (b 0)), (1, .int (nI x1)), (2, .int z)]) hx hb d_Mo_chance_28 hl (by decide) rfl (fun ls hl => ?_)
    have lp_30 : ∀ (k : Nat) (i : Nat) (f : Nat) (H : Heap) (locs : List Loc) (ls : Array Slot), (mc < i + k) → (i ≤ mc) → (f = cxF (pU mb ms mn ud x1) m1 m2 (pE mk mb ms mn ud dn ea x1).2.1 i) → va_P g vwCl (moW b cI cJ cZ 0 mn mv mg mk mo mu md ms mb mc m1 m2 m3 m4 we (pU mb ms mn ud x1) ((pE mk mb ms mn ud dn ea x1).2.1) ((pE mk mb ms mn ud dn ea x1).2.2) ((pW mk mb ms mn ud dn ea oo x1).2.1) ((pW mk mb ms mn ud dn ea oo x1).2.2) ((pW mk mb ms mn ud dn ea oo x1).1) va ho wt cm co te tm gs gl rs rg rp rt) H → va_D A (moW b cI cJ cZ 0 mn mv mg mk mo mu md ms mb mc m1 m2 m3 m4 we (pU mb ms mn ud x1) ((pE mk mb ms mn ud dn ea x1).2.1) ((pE mk mb ms mn ud dn ea x1).2.2) ((pW mk mb ms mn ud dn ea oo x1).2.1) ((pW mk mb ms mn ud dn ea oo x1).2.2) ((pW mk mb ms mn ud dn ea oo x1).1) va ho wt cm co te tm gs gl rs rg rp rt) → va_S A s.heap H locs → lv_has ls 5 [(0, .ref (b 0)), (1, .int (nI x1)), (2, .int z), (3, .int (nI f)), (4, .int (nI i))] → W p l e ({ frames := 4, cells := 0, slots := 0, locals := 101 } : Room) s m args below meth c H locs 0 0 Q (F0 m 30 ls []) := by
      intro k
      induction k with
      | zero =>
        intro i f H locs ls hk hi hf hP hD hS hl
        exfalso
        omega
      | succ k ih_30 =>
        intro i f H locs ls hk hi hf hP hD hS hl
        refine lv_iload hx hb d_Mo_chance_30 (lv_at hl 4 rfl) ?_
        refine lv_aload_n hx hb d_Mo_chance_32 rfl (lv_at hl 0 rfl) ?_
        refine va_get (D := g) (ci := 8) (v := .int (nI mc)) (C := R_Mo) (T := F_Mo) (N := 35) hx hb hT i_Mo hown hK hP 0 rfl rfl 10 (by decide) (hT _ tw_631) (fun _ h9 => h9) rfl d_Mo_chance_33 ?_
        refine my_icmp_ge (tgt := 83) (a := i) (b := mc) hx hb d_Mo_chance_36 (by decide) (by omega) (by omega) (fun c_36 => ?_) (fun c_36 => ?_)
        · -- 36: taken
          have e1 : f = (cxF (pU mb ms mn ud x1) m1 m2 (pE mk mb ms mn ud dn ea x1).2.1 mc) := by rw [hf, show i = mc by omega]
          rw [e1] at hl
          have q3 := cxF_le (pU mb ms mn ud x1) m1 m2 (pE mk mb ms mn ud dn ea x1).2.1 mc
          refine lv_aload_n hx hb d_Mo_chance_83 rfl (lv_at hl 0 rfl) ?_
          refine lv_iload_n hx hb d_Mo_chance_84 rfl (lv_at hl 3 rfl) ?_
          refine lv_bipush (v := (nI 14)) hx hb d_Mo_chance_85 (by decide) ?_
          refine my_icmp_gt (tgt := 94) (a := (cxF (pU mb ms mn ud x1) m1 m2 (pE mk mb ms mn ud dn ea x1).2.1 mc)) (b := 14) hx hb d_Mo_chance_87 (by decide) (by omega) (by omega) (fun c_87 => ?_) (fun c_87 => ?_)
          · -- 87: taken
            refine lv_iconst (v := (nI 0)) hx hb d_Mo_chance_94 (by decide) ?_
            refine va_put (D := g) (ci := 8) (v := .int (b2 false)) (ty := .boolean) (C := R_Mo) (T := F_Mo) (N := 35) hx hb hT i_Mo t_Mo t_Mo_ok n_Mo hown hK hP hD hS 0 rfl rfl 15 (by decide) (hT _ tw_636) (fun _ h9 => h9) rfl (by decide +kernel) rfl rfl (Nat.le_of_ble_eq_true rfl) d_Mo_chance_95 (fun H locs hP hD hS => ?_)
            have hP : va_P g vwCl (moW b cI cJ cZ 0 mn mv mg mk mo mu md ms mb mc m1 m2 m3 m4 false (pU mb ms mn ud x1) ((pE mk mb ms mn ud dn ea x1).2.1) ((pE mk mb ms mn ud dn ea x1).2.2) ((pW mk mb ms mn ud dn ea oo x1).2.1) ((pW mk mb ms mn ud dn ea oo x1).2.2) ((pW mk mb ms mn ud dn ea oo x1).1) va ho wt cm co te tm gs gl rs rg rp rt) H := hP
            have hD : va_D A (moW b cI cJ cZ 0 mn mv mg mk mo mu md ms mb mc m1 m2 m3 m4 false (pU mb ms mn ud x1) ((pE mk mb ms mn ud dn ea x1).2.1) ((pE mk mb ms mn ud dn ea x1).2.2) ((pW mk mb ms mn ud dn ea oo x1).2.1) ((pW mk mb ms mn ud dn ea oo x1).2.2) ((pW mk mb ms mn ud dn ea oo x1).1) va ho wt cm co te tm gs gl rs rg rp rt) := hD
            refine lv_aload_n hx hb d_Mo_chance_98 rfl (lv_at hl 0 rfl) ?_
            refine va_get (D := g) (ci := 8) (v := .int (b2 false)) (C := R_Mo) (T := F_Mo) (N := 35) hx hb hT i_Mo hown hK hP 0 rfl rfl 15 (by decide) (hT _ tw_636) (fun _ h9 => h9) rfl d_Mo_chance_99 ?_
            refine my_if_eq_b (tgt := 114) hx hb d_Mo_chance_102 (by decide) (fun _ => ?_) (fun q => absurd q (by decide))
            refine lv_aload_n hx hb d_Mo_chance_114 rfl (lv_at hl 0 rfl) ?_
            refine lv_iload_n hx hb d_Mo_chance_115 rfl (lv_at hl 1 rfl) ?_
            refine lv_iload_n hx hb d_Mo_chance_116 rfl (lv_at hl 2 rfl) ?_
            refine my_V_l (q0 := 0) (ci := 8) (C := R_Mo) (As := [.int (nI x1), .int z]) (n := 2) (k_Mo_boundChance l g b cI cJ cZ 0 mn mv mg mk mo mu md ms mb mc m1 m2 m3 m4 false (pU mb ms mn ud x1) ((pE mk mb ms mn ud dn ea x1).2.1) ((pE mk mb ms mn ud dn ea x1).2.2) ((pW mk mb ms mn ud dn ea oo x1).2.1) ((pW mk mb ms mn ud dn ea oo x1).2.2) ((pW mk mb ms mn ud dn ea oo x1).1) va ho wt cm co te tm gs gl rs rg rp rt x1 z (by omega) hmn hms hmb hev hgt hmk hmo hva hmc hmud hmd hm1 hm2 hm34 hm4 hm40 hmdp hmop) hx hb hml hown hT hN tw_815 tw_817 tp_26 tw_9 tw_818 (by decide +kernel) rfl rfl ⟨Nat.le_of_ble_eq_true rfl, Nat.le_of_ble_eq_true rfl⟩ ⟨Nat.zero_le _, Nat.zero_le _⟩ hK hP hD hS hA rfl rfl rfl hl rfl (Nat.le_of_ble_eq_true rfl) d_Mo_chance_117 (fun H locs hP hD hS => ?_)
            refine hret _ _ _ _ _ (by rw [if_neg (by intro hh; have := hh.2; omega), if_pos c_10]; exact hP) (by rw [if_neg (by intro hh; have := hh.2; omega), if_pos c_10]; exact hD) hS d_Mo_chance_120 ?_
            rw [if_neg (show ¬ miG mn mk (nI x1) = false by simp [c_10]), if_neg (show ¬ (cxF (pU mb ms mn ud x1) m1 m2 (pE mk mb ms mn ud dn ea x1).2.1 mc) ≤ 14 by omega)]
          · -- 87: not taken
            refine lv_iconst (v := (nI 1)) hx hb d_Mo_chance_90 (by decide) ?_
            refine lv_goto (tgt := 95) hx hb d_Mo_chance_91 (by decide) ?_
            refine va_put (D := g) (ci := 8) (v := .int (b2 true)) (ty := .boolean) (C := R_Mo) (T := F_Mo) (N := 35) hx hb hT i_Mo t_Mo t_Mo_ok n_Mo hown hK hP hD hS 0 rfl rfl 15 (by decide) (hT _ tw_636) (fun _ h9 => h9) rfl (by decide +kernel) rfl rfl (Nat.le_of_ble_eq_true rfl) d_Mo_chance_95 (fun H locs hP hD hS => ?_)
            have hP : va_P g vwCl (moW b cI cJ cZ 0 mn mv mg mk mo mu md ms mb mc m1 m2 m3 m4 true (pU mb ms mn ud x1) ((pE mk mb ms mn ud dn ea x1).2.1) ((pE mk mb ms mn ud dn ea x1).2.2) ((pW mk mb ms mn ud dn ea oo x1).2.1) ((pW mk mb ms mn ud dn ea oo x1).2.2) ((pW mk mb ms mn ud dn ea oo x1).1) va ho wt cm co te tm gs gl rs rg rp rt) H := hP
            have hD : va_D A (moW b cI cJ cZ 0 mn mv mg mk mo mu md ms mb mc m1 m2 m3 m4 true (pU mb ms mn ud x1) ((pE mk mb ms mn ud dn ea x1).2.1) ((pE mk mb ms mn ud dn ea x1).2.2) ((pW mk mb ms mn ud dn ea oo x1).2.1) ((pW mk mb ms mn ud dn ea oo x1).2.2) ((pW mk mb ms mn ud dn ea oo x1).1) va ho wt cm co te tm gs gl rs rg rp rt) := hD
            refine lv_aload_n hx hb d_Mo_chance_98 rfl (lv_at hl 0 rfl) ?_
            refine va_get (D := g) (ci := 8) (v := .int (b2 true)) (C := R_Mo) (T := F_Mo) (N := 35) hx hb hT i_Mo hown hK hP 0 rfl rfl 15 (by decide) (hT _ tw_636) (fun _ h9 => h9) rfl d_Mo_chance_99 ?_
            refine my_if_eq_b (tgt := 114) hx hb d_Mo_chance_102 (by decide) (fun q => absurd q (by decide)) (fun _ => ?_)
            refine lv_aload_n hx hb d_Mo_chance_105 rfl (lv_at hl 0 rfl) ?_
            refine lv_iload_n hx hb d_Mo_chance_106 rfl (lv_at hl 1 rfl) ?_
            refine lv_iload_n hx hb d_Mo_chance_107 rfl (lv_at hl 2 rfl) ?_
            refine my_V_l (q0 := 0) (ci := 8) (C := R_Mo) (As := [.int (nI x1), .int z]) (n := 2) (k_Mo_exactChance l g b cI cJ cZ 0 mn mv mg mk mo mu md ms mb mc m1 m2 m3 m4 true (pU mb ms mn ud x1) ((pE mk mb ms mn ud dn ea x1).2.1) ((pE mk mb ms mn ud dn ea x1).2.2) ((pW mk mb ms mn ud dn ea oo x1).2.1) ((pW mk mb ms mn ud dn ea oo x1).2.2) ((pW mk mb ms mn ud dn ea oo x1).1) va ho wt cm co te tm gs gl rs rg rp rt x1 z (by omega) hmn hms hmb hev hgt hmk hmo hva qE hmc hmud hmd hm1 hm2 hm34 hm4 (hlim c_10 (by omega))) hx hb hml hown hT hN tw_797 tw_799 tp_23 tw_9 tw_800 (by decide +kernel) rfl rfl ⟨Nat.le_of_ble_eq_true rfl, Nat.le_of_ble_eq_true rfl⟩ ⟨Nat.zero_le _, Nat.zero_le _⟩ hK hP hD hS hA rfl rfl rfl hl rfl (Nat.le_of_ble_eq_true rfl) d_Mo_chance_108 (fun H locs hP hD hS => ?_)
            refine lv_goto (tgt := 120) hx hb d_Mo_chance_111 (by decide) ?_
            refine hret _ _ _ _ _ (by rw [if_pos ⟨c_10, by omega⟩]; exact hP) (by rw [if_pos ⟨c_10, by omega⟩]; exact hD) hS d_Mo_chance_120 ?_
            rw [if_neg (show ¬ miG mn mk (nI x1) = false by simp [c_10]), if_pos (show (cxF (pU mb ms mn ud x1) m1 m2 (pE mk mb ms mn ud dn ea x1).2.1 mc) ≤ 14 by omega)]
        · -- 36: not taken
          have q1 := hm1 i; have q2 := hm2 i
          refine lv_aload_n hx hb d_Mo_chance_39 rfl (lv_at hl 0 rfl) ?_
          refine va_get (D := g) (ci := 8) (v := .ref (b 11)) (C := R_Mo) (T := F_Mo) (N := 35) hx hb hT i_Mo hown hK hP 0 rfl rfl 16 (by decide) (hT _ tw_637) (fun _ h9 => h9) rfl d_Mo_chance_40 ?_
          refine lv_aload_n hx hb d_Mo_chance_43 rfl (lv_at hl 0 rfl) ?_
          refine va_get (D := g) (ci := 8) (v := .ref (b 7)) (C := R_Mo) (T := F_Mo) (N := 35) hx hb hT i_Mo hown hK hP 0 rfl rfl 11 (by decide) (hT _ tw_632) (fun _ h9 => h9) rfl d_Mo_chance_44 ?_
          refine lv_iload hx hb d_Mo_chance_47 (lv_at hl 4 rfl) ?_
          refine my_iald (v := (nI (m1 i))) (i := i) hx hb hK hP 7 0 rfl rfl (by omega) (by decide) rfl d_Mo_chance_49 ?_
          refine my_zald (v := (b2 ((pU mb ms mn ud x1) (m1 i)))) (i := m1 i) hx hb hK hP 11 2 rfl rfl (by omega) (by decide) rfl d_Mo_chance_50 ?_
          refine my_if_ne_b (tgt := 69) hx hb d_Mo_chance_51 (by decide) (fun c_51 => ?_) (fun c_51 => ?_)
          · -- 51: taken
            refine lv_iload_n hx hb d_Mo_chance_69 rfl (lv_at hl 3 rfl) ?_
            refine lv_iconst (v := (nI 1)) hx hb d_Mo_chance_70 (by decide) ?_
            refine lv_iadd hx hb d_Mo_chance_71 ?_
            refine my_ei (nI_add f 1) ?_
            refine lv_goto (tgt := 76) hx hb d_Mo_chance_72 (by decide) ?_
            refine lv_istore_n (lv' := [(3, .int (nI (f + 1))), (0, .ref (b 0)), (1, .int (nI x1)), (2, .int z), (4, .int (nI i))]) hx hb d_Mo_chance_76 rfl hl (by decide) rfl (fun ls hl => ?_)
            refine lv_iinc (v := (nI (i + 1))) (lv' := [(4, .int (nI (i + 1))), (3, .int (nI (f + 1))), (0, .ref (b 0)), (1, .int (nI x1)), (2, .int z)]) hx hb d_Mo_chance_77 hl (k := 4) rfl (nI_1 i) (by decide) rfl (fun ls hl => ?_)
            refine lv_goto (tgt := 30) hx hb d_Mo_chance_80 (by decide) ?_
            refine ih_30 _ _ _ _ _ ?_ ?_ ?_ hP hD hS (lv_sub hl [2, 3, 4, 1, 0] rfl)
            · omega
            · omega
            · rw [hf]
              exact (if_pos (by first | exact Or.inl c_51 | exact Or.inr c_66)).symm
          · -- 51: not taken
            refine lv_aload_n hx hb d_Mo_chance_54 rfl (lv_at hl 0 rfl) ?_
            refine va_get (D := g) (ci := 8) (v := .ref (b 11)) (C := R_Mo) (T := F_Mo) (N := 35) hx hb hT i_Mo hown hK hP 0 rfl rfl 16 (by decide) (hT _ tw_637) (fun _ h9 => h9) rfl d_Mo_chance_55 ?_
            refine lv_aload_n hx hb d_Mo_chance_58 rfl (lv_at hl 0 rfl) ?_
            refine va_get (D := g) (ci := 8) (v := .ref (b 8)) (C := R_Mo) (T := F_Mo) (N := 35) hx hb hT i_Mo hown hK hP 0 rfl rfl 12 (by decide) (hT _ tw_633) (fun _ h9 => h9) rfl d_Mo_chance_59 ?_
            refine lv_iload hx hb d_Mo_chance_62 (lv_at hl 4 rfl) ?_
            refine my_iald (v := (nI (m2 i))) (i := i) hx hb hK hP 8 0 rfl rfl (by omega) (by decide) rfl d_Mo_chance_64 ?_
            refine my_zald (v := (b2 ((pU mb ms mn ud x1) (m2 i)))) (i := m2 i) hx hb hK hP 11 2 rfl rfl (by omega) (by decide) rfl d_Mo_chance_65 ?_
            refine my_if_eq_b (tgt := 75) hx hb d_Mo_chance_66 (by decide) (fun c_66 => ?_) (fun c_66 => ?_)
            · -- 66: taken
              refine lv_iload_n hx hb d_Mo_chance_75 rfl (lv_at hl 3 rfl) ?_
              refine lv_istore_n (lv' := [(3, .int (nI f)), (0, .ref (b 0)), (1, .int (nI x1)), (2, .int z), (4, .int (nI i))]) hx hb d_Mo_chance_76 rfl hl (by decide) rfl (fun ls hl => ?_)
              refine lv_iinc (v := (nI (i + 1))) (lv' := [(4, .int (nI (i + 1))), (3, .int (nI f)), (0, .ref (b 0)), (1, .int (nI x1)), (2, .int z)]) hx hb d_Mo_chance_77 hl (k := 4) rfl (nI_1 i) (by decide) rfl (fun ls hl => ?_)
              refine lv_goto (tgt := 30) hx hb d_Mo_chance_80 (by decide) ?_
              refine ih_30 _ _ _ _ _ ?_ ?_ ?_ hP hD hS (lv_sub hl [2, 3, 4, 1, 0] rfl)
              · omega
              · omega
              · rw [hf]
                exact (if_neg (by intro hh; rcases hh with hh | hh; rw [c_51] at hh; exact absurd hh (by decide); rw [c_66] at hh; exact absurd hh (by decide))).symm
            · -- 66: not taken
              refine lv_iload_n hx hb d_Mo_chance_69 rfl (lv_at hl 3 rfl) ?_
              refine lv_iconst (v := (nI 1)) hx hb d_Mo_chance_70 (by decide) ?_
              refine lv_iadd hx hb d_Mo_chance_71 ?_
              refine my_ei (nI_add f 1) ?_
              refine lv_goto (tgt := 76) hx hb d_Mo_chance_72 (by decide) ?_
              refine lv_istore_n (lv' := [(3, .int (nI (f + 1))), (0, .ref (b 0)), (1, .int (nI x1)), (2, .int z), (4, .int (nI i))]) hx hb d_Mo_chance_76 rfl hl (by decide) rfl (fun ls hl => ?_)
              refine lv_iinc (v := (nI (i + 1))) (lv' := [(4, .int (nI (i + 1))), (3, .int (nI (f + 1))), (0, .ref (b 0)), (1, .int (nI x1)), (2, .int z)]) hx hb d_Mo_chance_77 hl (k := 4) rfl (nI_1 i) (by decide) rfl (fun ls hl => ?_)
              refine lv_goto (tgt := 30) hx hb d_Mo_chance_80 (by decide) ?_
              refine ih_30 _ _ _ _ _ ?_ ?_ ?_ hP hD hS (lv_sub hl [2, 3, 4, 1, 0] rfl)
              · omega
              · omega
              · rw [hf]
                exact (if_pos (by first | exact Or.inl c_51 | exact Or.inr c_66)).symm
    refine lp_30 (mc + 1) _ _ _ _ _ ?_ ?_ ?_ hP hD hS (lv_sub hl [2, 3, 4, 1, 0] rfl)
    · omega
    · omega
    · rfl
  · -- 10: not taken
    refine lv_ldc2 (v := (-1)) hx hb hown (hT _ tw_796) d_Mo_chance_13 ?_
    refine hret _ _ _ _ _ (by rw [if_neg (by simp [c_10]), if_neg (by simp [c_10])]; exact hP) (by rw [if_neg (by simp [c_10]), if_neg (by simp [c_10])]; exact hD) hS d_Mo_chance_16 ?_
    rw [if_pos c_10]
