theorem dn_neg {t : Nat} (ht : t < 2 ^ 31) : nI t + (-1) < 0 ↔ t = 0 := by
  rcases Nat.eq_zero_or_pos t with q | q
  · subst q; exact ⟨fun _ => rfl, fun _ => by decide⟩
  · rw [sb_m1 q]
    exact ⟨fun h => absurd h (nI_pos (by omega)), fun h => by omega⟩
theorem dn_top {p : Nat} (h : 0 < p) : nI p - nI 1 = nI p + (-1) := (pk_sub (show 1 ≤ p by omega)).trans (sb_m1 h).symm
def plF (ho : Nat → Bool) : Nat → Nat
  | 0 => 0
  | s + 1 => if ho s = true then plF ho s + 1 else plF ho s
theorem plF_le (ho : Nat → Bool) : ∀ s, plF ho s ≤ s
  | 0 => Nat.le_refl _
  | s + 1 => by have := plF_le ho s; show (if ho s = true then plF ho s + 1 else plF ho s) ≤ s + 1; split <;> omega
def spA (M bits d : Nat) (wt : Nat → Nat) : Nat → (Nat → Nat)
  | 0 => wt
  | i + 1 => if (M - 1 - i) ||| bits = M - 1 - i then va_up (spA M bits d wt i) (M - 1 - i) (spA M bits d wt i (M - 1 - i) * d) else spA M bits d wt i
/-- one set spread -/
def sp1 (bits a d s : Nat) (q : Nat → Nat) : Nat → Nat := va_up (va_up q (s ||| bits) (q (s ||| bits) + q s * a)) s (va_up q (s ||| bits) (q (s ||| bits) + q s * a) s * (d - a))
def spB (M bits a d : Nat) (wt : Nat → Nat) : Nat → (Nat → Nat)
  | 0 => wt
  | i + 1 => if (M - 1 - i) ||| bits = M - 1 - i then spB M bits a d wt i else sp1 bits a d (M - 1 - i) (spB M bits a d wt i)
def spF (M bits a d : Nat) (wt : Nat → Nat) : Nat → Nat := spB M bits a d (spA M bits d wt M) M
/-- the cuts of one size: (cutMany, cutOf) after the sets M-1 .. M-i -/
def cuS (ho : Nat → Bool) (my M n : Nat) (s : Nat × (Nat → Nat)) : Nat → Nat × (Nat → Nat)
  | 0 => s
  | i + 1 => if onF (M - 1 - i) 12 = n ∧ mmF ho my (M - 1 - i) my = true then ((cuS ho my M n s i).1 + 1, va_up (cuS ho my M n s i).2 (cuS ho my M n s i).1 (M - 1 - i)) else cuS ho my M n s i
def cuN (ho : Nat → Bool) (my M : Nat) (co : Nat → Nat) : Nat → Nat × (Nat → Nat)
  | 0 => (0, co)
  | n + 1 => cuS ho my M n (cuN ho my M co n) M
def teF (ea te : Nat → Nat) : Nat → (Nat → Nat)
  | 0 => te
  | k + 1 => va_up (teF ea te k) k (ea k)
/-- how many of the first i sets have fewer ones than n, or n and are among the last seen: a bound for cutMany -/
def lsC (n : Nat) : Nat → Nat
  | 0 => 0
  | s + 1 => lsC n s + (if onF s 12 < n then 1 else 0)
def eqC (n M : Nat) : Nat → Nat
  | 0 => 0
  | i + 1 => eqC n M i + (if onF (M - 1 - i) 12 = n then 1 else 0)
set_option maxHeartbeats 4000000 in
set_option maxRecDepth 100000 in
theorem k_Mo_plain (l : Launch) (g : va_G) (b : Nat → Nat) (cI cJ cZ : ClassId) (f0 : Nat) (mn : Nat) (mv : Nat) (mg : Nat) (mk : Nat → Nat) (mo : Nat → Nat) (mu : Nat → Nat) (md : Nat → Nat) (ms : Nat → Nat) (mb : Nat → Nat) (mc : Nat) (m1 : Nat → Nat) (m2 : Nat → Nat) (m3 : Nat → Nat) (m4 : Nat → Nat) (we : Bool) (ud : Nat → Bool) (my : Nat) (ea : Nat → Nat) (od : Nat) (oo : Nat → Nat) (dn : Nat → Bool) (va : Nat → Nat) (ho : Nat → Bool) (wt : Nat → Nat) (cm : Nat) (co : Nat → Nat) (te : Nat → Nat) (tm : Nat) (gs : Nat) (gl : Nat → Nat) (rs : Nat) (rg : Nat → Nat) (rp : Nat → Nat) (rt : Nat → Nat) (x : Int32) (hmn : mn ≤ 32) (hms : ∀ j, ms j ≤ 10) (hmb : ∀ j, mb j ≤ 32) (hev : evc mk mn ≤ 12) (hgt : ndc (fun j => decide (mk j = 0)) mn ≤ 20) (hmk : ∀ j, mk j ≤ 3) (hmo : ∀ j, mo j ≤ 10) (hva : ∀ j, va j ≤ 2520) : ct_i l g vwCl (tyM cI cJ cZ) y_Mo_plain c_Mo_plain 4 (some .int) ({ frames := 3, cells := 0, slots := 0, locals := 74 } : Room) [.ref (b 0), .int x] (moW b cI cJ cZ f0 mn mv mg mk mo mu md ms mb mc m1 m2 m3 m4 we ud my ea od oo dn va ho wt cm co te tm gs gl rs rg rp rt) (if miG mn mk x = true then (moW b cI cJ cZ 0 mn mv mg mk mo mu md ms mb mc m1 m2 m3 m4 we (pU mb ms mn ud x.toNatClampNeg) ((pE mk mb ms mn ud dn ea x.toNatClampNeg).2.1) ((pE mk mb ms mn ud dn ea x.toNatClampNeg).2.2) ((pW mk mb ms mn ud dn ea oo x.toNatClampNeg).2.1) ((pW mk mb ms mn ud dn ea oo x.toNatClampNeg).2.2) ((pW mk mb ms mn ud dn ea oo x.toNatClampNeg).1) ((tA mk ms mo mb (pE mk mb ms mn ud dn ea x.toNatClampNeg).2.2 (pW mk mb ms mn ud dn ea oo x.toNatClampNeg).2.2 (pE mk mb ms mn ud dn ea x.toNatClampNeg).2.1 (pW mk mb ms mn ud dn ea oo x.toNatClampNeg).2.1 x.toNatClampNeg va ho).1) ((tA mk ms mo mb (pE mk mb ms mn ud dn ea x.toNatClampNeg).2.2 (pW mk mb ms mn ud dn ea oo x.toNatClampNeg).2.2 (pE mk mb ms mn ud dn ea x.toNatClampNeg).2.1 (pW mk mb ms mn ud dn ea oo x.toNatClampNeg).2.1 x.toNatClampNeg va ho).2) wt cm co te tm gs gl rs rg rp rt) else (moW b cI cJ cZ 0 mn mv mg mk mo mu md ms mb mc m1 m2 m3 m4 we ud my ea od oo dn va ho wt cm co te tm gs gl rs rg rp rt)) (if miG mn mk x = false then -2 else nI (plF (tA mk ms mo mb (pE mk mb ms mn ud dn ea x.toNatClampNeg).2.2 (pW mk mb ms mn ud dn ea oo x.toNatClampNeg).2.2 (pE mk mb ms mn ud dn ea x.toNatClampNeg).2.1 (pW mk mb ms mn ud dn ea oo x.toNatClampNeg).2.1 x.toNatClampNeg va ho).2 (2 ^ (pE mk mb ms mn ud dn ea x.toNatClampNeg).2.1))) := by
  refine ct_i.intro (by decide) (Nat.le_of_ble_eq_true rfl) ?_
  intro p e s m args below meth c Q A ls hx hb hml hT hown hA hK hN hret hP hD hS hl
  have hown : s.vm.findClass R_Mo = some m.cls := hown
  have hl : lv_has ls 4 [(0, .ref (b 0)), (1, .int x)] := hl
  refine lv_aload_n hx hb d_Mo_plain_0 rfl (lv_at hl 0 rfl) ?_
  refine lv_iconst (v := (nI 0)) hx hb d_Mo_plain_1 (by decide) ?_
  refine va_put (D := g) (ci := 8) (v := .int (nI 0)) (ty := .int) (C := R_Mo) (T := F_Mo) (N := 35) hx hb hT i_Mo t_Mo t_Mo_ok n_Mo hown hK hP hD hS 0 rfl rfl 0 (by decide) (hT _ tw_621) (fun _ h9 => h9) rfl (by decide +kernel) rfl rfl (Nat.le_of_ble_eq_true rfl) d_Mo_plain_2 (fun H locs hP hD hS => ?_)
  have hP : va_P g vwCl (moW b cI cJ cZ 0 mn mv mg mk mo mu md ms mb mc m1 m2 m3 m4 we ud my ea od oo dn va ho wt cm co te tm gs gl rs rg rp rt) H := hP
  have hD : va_D A (moW b cI cJ cZ 0 mn mv mg mk mo mu md ms mb mc m1 m2 m3 m4 we ud my ea od oo dn va ho wt cm co te tm gs gl rs rg rp rt) := hD
  refine lv_aload_n hx hb d_Mo_plain_5 rfl (lv_at hl 0 rfl) ?_
  refine lv_iload_n hx hb d_Mo_plain_6 rfl (lv_at hl 1 rfl) ?_
  refine my_V_i (q0 := 0) (ci := 8) (C := R_Mo) (As := [.int x]) (n := 1) (k_Mo_isGate l g b cI cJ cZ 0 mn mv mg mk mo mu md ms mb mc m1 m2 m3 m4 we ud my ea od oo dn va ho wt cm co te tm gs gl rs rg rp rt x hmn hmk) hx hb hml hown hT hN tw_749 tw_751 tp_16 tw_9 tw_752 (by decide +kernel) rfl rfl ⟨Nat.le_of_ble_eq_true rfl, Nat.le_of_ble_eq_true rfl⟩ ⟨Nat.zero_le _, Nat.zero_le _⟩ hK hP hD hS hA rfl rfl rfl hl rfl (Nat.le_of_ble_eq_true rfl) d_Mo_plain_7 (fun H locs hP hD hS => ?_)
  refine my_if_ne_b (tgt := 16) hx hb d_Mo_plain_10 (by decide) (fun c_10 => ?_) (fun c_10 => ?_)
  · -- 10: taken
    obtain ⟨x1, hx11, hx12, rfl⟩ := miG_nat hmn c_10
    have hkc : (nI x1).toNatClampNeg = x1 := nI_clamp (by omega)
    simp only [hkc] at hret
    have qM : (pE mk mb ms mn ud dn ea x1).2.1 ≤ 12 := pE_my hev
    have qP : 2 ^ (pE mk mb ms mn ud dn ea x1).2.1 ≤ 4096 := pw12c qM
    have qP0 : 0 < 2 ^ (pE mk mb ms mn ud dn ea x1).2.1 := Nat.two_pow_pos _
    refine lv_aload_n hx hb d_Mo_plain_16 rfl (lv_at hl 0 rfl) ?_
    refine lv_iload_n hx hb d_Mo_plain_17 rfl (lv_at hl 1 rfl) ?_
    refine my_V_v (q0 := 0) (ci := 8) (C := R_Mo) (As := [.int (nI x1)]) (n := 1) (k_Mo_tryAll l g b cI cJ cZ 0 mn mv mg mk mo mu md ms mb mc m1 m2 m3 m4 we ud my ea od oo dn va ho wt cm co te tm gs gl rs rg rp rt x1 (by omega) hmn hms hmb hev hgt hmk hmo hva) hx hb hml hown hT hN tw_769 tw_771 tp_20 tw_9 tw_772 (by decide +kernel) rfl rfl ⟨Nat.le_of_ble_eq_true rfl, Nat.le_of_ble_eq_true rfl⟩ ⟨Nat.zero_le _, Nat.zero_le _⟩ hK hP hD hS hA rfl rfl rfl hl rfl (Nat.le_of_ble_eq_true rfl) d_Mo_plain_18 (fun H locs hP hD hS => ?_)
    refine lv_iconst (v := (nI 0)) hx hb d_Mo_plain_21 (by decide) ?_
    refine lv_istore_n (lv' := [(2, .int (nI 0)), (0, .ref (b 0)), (1, .int (nI x1))]) hx hb d_Mo_plain_22 rfl hl (by decide) rfl (fun ls hl => ?_)
    refine lv_iconst (v := (nI 0)) hx hb d_Mo_plain_23 (by decide) ?_
    refine lv_istore_n (lv' := [(3, .int (nI 0)), (2, .int (nI 0)), (0, .ref (b 0)), (1, .int (nI x1))]) hx hb d_Mo_plain_24 rfl hl (by decide) rfl (fun ls hl => ?_)
    have lp_25 : ∀ (k : Nat) (i : Nat) (f : Nat) (H : Heap) (locs : List Loc) (ls : Array Slot), (2 ^ (pE mk mb ms mn ud dn ea x1).2.1 < i + k) → (i ≤ 2 ^ (pE mk mb ms mn ud dn ea x1).2.1) → (f = plF (tA mk ms mo mb (pE mk mb ms mn ud dn ea x1).2.2 (pW mk mb ms mn ud dn ea oo x1).2.2 (pE mk mb ms mn ud dn ea x1).2.1 (pW mk mb ms mn ud dn ea oo x1).2.1 x1 va ho).2 i) → va_P g vwCl (moW b cI cJ cZ 0 mn mv mg mk mo mu md ms mb mc m1 m2 m3 m4 we (pU mb ms mn ud x1) ((pE mk mb ms mn ud dn ea x1).2.1) ((pE mk mb ms mn ud dn ea x1).2.2) ((pW mk mb ms mn ud dn ea oo x1).2.1) ((pW mk mb ms mn ud dn ea oo x1).2.2) ((pW mk mb ms mn ud dn ea oo x1).1) ((tA mk ms mo mb (pE mk mb ms mn ud dn ea x1).2.2 (pW mk mb ms mn ud dn ea oo x1).2.2 (pE mk mb ms mn ud dn ea x1).2.1 (pW mk mb ms mn ud dn ea oo x1).2.1 x1 va ho).1) ((tA mk ms mo mb (pE mk mb ms mn ud dn ea x1).2.2 (pW mk mb ms mn ud dn ea oo x1).2.2 (pE mk mb ms mn ud dn ea x1).2.1 (pW mk mb ms mn ud dn ea oo x1).2.1 x1 va ho).2) wt cm co te tm gs gl rs rg rp rt) H → va_D A (moW b cI cJ cZ 0 mn mv mg mk mo mu md ms mb mc m1 m2 m3 m4 we (pU mb ms mn ud x1) ((pE mk mb ms mn ud dn ea x1).2.1) ((pE mk mb ms mn ud dn ea x1).2.2) ((pW mk mb ms mn ud dn ea oo x1).2.1) ((pW mk mb ms mn ud dn ea oo x1).2.2) ((pW mk mb ms mn ud dn ea oo x1).1) ((tA mk ms mo mb (pE mk mb ms mn ud dn ea x1).2.2 (pW mk mb ms mn ud dn ea oo x1).2.2 (pE mk mb ms mn ud dn ea x1).2.1 (pW mk mb ms mn ud dn ea oo x1).2.1 x1 va ho).1) ((tA mk ms mo mb (pE mk mb ms mn ud dn ea x1).2.2 (pW mk mb ms mn ud dn ea oo x1).2.2 (pE mk mb ms mn ud dn ea x1).2.1 (pW mk mb ms mn ud dn ea oo x1).2.1 x1 va ho).2) wt cm co te tm gs gl rs rg rp rt) → va_S A s.heap H locs → lv_has ls 4 [(0, .ref (b 0)), (1, .int (nI x1)), (2, .int (nI f)), (3, .int (nI i))] → W p l e ({ frames := 3, cells := 0, slots := 0, locals := 74 } : Room) s m args below meth c H locs 0 0 Q (F0 m 25 ls []) := by
      intro k
      induction k with
      | zero =>
        intro i f H locs ls hk hi hf hP hD hS hl
        exfalso
        omega
      | succ k ih_25 =>
        intro i f H locs ls hk hi hf hP hD hS hl
        refine lv_iload_n hx hb d_Mo_plain_25 rfl (lv_at hl 3 rfl) ?_
        refine lv_iconst (v := (nI 1)) hx hb d_Mo_plain_26 (by decide) ?_
        refine lv_aload_n hx hb d_Mo_plain_27 rfl (lv_at hl 0 rfl) ?_
        refine va_get (D := g) (ci := 8) (v := .int (nI ((pE mk mb ms mn ud dn ea x1).2.1))) (C := R_Mo) (T := F_Mo) (N := 35) hx hb hT i_Mo hown hK hP 0 rfl rfl 17 (by decide) (hT _ tw_638) (fun _ h9 => h9) rfl d_Mo_plain_28 ?_
        refine lv_ishl hx hb d_Mo_plain_31 ?_
        refine my_ei (nx_shl1 ((pE mk mb ms mn ud dn ea x1).2.1) (by omega)) ?_
        refine my_icmp_ge (tgt := 58) (a := i) (b := 2 ^ ((pE mk mb ms mn ud dn ea x1).2.1)) hx hb d_Mo_plain_32 (by decide) (by omega) (by omega) (fun c_32 => ?_) (fun c_32 => ?_)
        · -- 32: taken
          refine lv_iload_n hx hb d_Mo_plain_58 rfl (lv_at hl 2 rfl) ?_
          refine hret _ _ _ _ _ (by rw [if_pos c_10]; exact hP) (by rw [if_pos c_10]; exact hD) hS d_Mo_plain_59 ?_
          rw [if_neg (by simp [c_10]), hf, show i = 2 ^ (pE mk mb ms mn ud dn ea x1).2.1 by omega]
        · -- 32: not taken
          refine lv_aload_n hx hb d_Mo_plain_35 rfl (lv_at hl 0 rfl) ?_
          refine va_get (D := g) (ci := 8) (v := .ref (b 16)) (C := R_Mo) (T := F_Mo) (N := 35) hx hb hT i_Mo hown hK hP 0 rfl rfl 23 (by decide) (hT _ tw_644) (fun _ h9 => h9) rfl d_Mo_plain_36 ?_
          refine lv_iload_n hx hb d_Mo_plain_39 rfl (lv_at hl 3 rfl) ?_
          refine my_zald (v := (b2 (((tA mk ms mo mb (pE mk mb ms mn ud dn ea x1).2.2 (pW mk mb ms mn ud dn ea oo x1).2.2 (pE mk mb ms mn ud dn ea x1).2.1 (pW mk mb ms mn ud dn ea oo x1).2.1 x1 va ho).2) i))) (i := i) hx hb hK hP 16 2 rfl rfl (by omega) (by decide) rfl d_Mo_plain_40 ?_
          refine my_if_eq_b (tgt := 50) hx hb d_Mo_plain_41 (by decide) (fun c_41 => ?_) (fun c_41 => ?_)
          · -- 41: taken
            refine lv_iload_n hx hb d_Mo_plain_50 rfl (lv_at hl 2 rfl) ?_
            refine lv_istore_n (lv' := [(2, .int (nI f)), (0, .ref (b 0)), (1, .int (nI x1)), (3, .int (nI i))]) hx hb d_Mo_plain_51 rfl hl (by decide) rfl (fun ls hl => ?_)
            refine lv_iinc (v := (nI (i + 1))) (lv' := [(3, .int (nI (i + 1))), (2, .int (nI f)), (0, .ref (b 0)), (1, .int (nI x1))]) hx hb d_Mo_plain_52 hl (k := 3) rfl (nI_1 i) (by decide) rfl (fun ls hl => ?_)
            refine lv_goto (tgt := 25) hx hb d_Mo_plain_55 (by decide) ?_
            refine ih_25 _ _ _ _ _ ?_ ?_ ?_ hP hD hS (lv_sub hl [2, 3, 1, 0] rfl)
            · omega
            · omega
            · rw [hf]; simp [plF, c_41]
          · -- 41: not taken
            refine lv_iload_n hx hb d_Mo_plain_44 rfl (lv_at hl 2 rfl) ?_
            refine lv_iconst (v := (nI 1)) hx hb d_Mo_plain_45 (by decide) ?_
            refine lv_iadd hx hb d_Mo_plain_46 ?_
            refine my_ei (nI_add f 1) ?_
            refine lv_goto (tgt := 51) hx hb d_Mo_plain_47 (by decide) ?_
            refine lv_istore_n (lv' := [(2, .int (nI (f + 1))), (0, .ref (b 0)), (1, .int (nI x1)), (3, .int (nI i))]) hx hb d_Mo_plain_51 rfl hl (by decide) rfl (fun ls hl => ?_)
            refine lv_iinc (v := (nI (i + 1))) (lv' := [(3, .int (nI (i + 1))), (2, .int (nI (f + 1))), (0, .ref (b 0)), (1, .int (nI x1))]) hx hb d_Mo_plain_52 hl (k := 3) rfl (nI_1 i) (by decide) rfl (fun ls hl => ?_)
            refine lv_goto (tgt := 25) hx hb d_Mo_plain_55 (by decide) ?_
            refine ih_25 _ _ _ _ _ ?_ ?_ ?_ hP hD hS (lv_sub hl [2, 3, 1, 0] rfl)
            · omega
            · omega
            · rw [hf]; simp [plF, c_41]
    refine lp_25 (2 ^ (pE mk mb ms mn ud dn ea x1).2.1 + 1) _ _ _ _ _ ?_ ?_ ?_ hP hD hS (lv_sub hl [2, 3, 1, 0] rfl)
    · omega
    · omega
    · rfl
  · -- 10: not taken
    refine lv_bipush (v := (-2)) hx hb d_Mo_plain_13 (by decide) ?_
    refine hret _ _ _ _ _ (by rw [if_neg (by simp [c_10])]; exact hP) (by rw [if_neg (by simp [c_10])]; exact hD) hS d_Mo_plain_15 ?_
    rw [if_pos c_10]
set_option maxHeartbeats 4000000 in
set_option maxRecDepth 100000 in
theorem k_Mo_spread (l : Launch) (g : va_G) (b : Nat → Nat) (cI cJ cZ : ClassId) (f0 : Nat) (mn : Nat) (mv : Nat) (mg : Nat) (mk : Nat → Nat) (mo : Nat → Nat) (mu : Nat → Nat) (md : Nat → Nat) (ms : Nat → Nat) (mb : Nat → Nat) (mc : Nat) (m1 : Nat → Nat) (m2 : Nat → Nat) (m3 : Nat → Nat) (m4 : Nat → Nat) (we : Bool) (ud : Nat → Bool) (my : Nat) (ea : Nat → Nat) (od : Nat) (oo : Nat → Nat) (dn : Nat → Bool) (va : Nat → Nat) (ho : Nat → Bool) (wt : Nat → Nat) (cm : Nat) (co : Nat → Nat) (te : Nat → Nat) (tm : Nat) (gs : Nat) (gl : Nat → Nat) (rs : Nat) (rg : Nat → Nat) (rp : Nat → Nat) (rt : Nat → Nat) (bi : Nat) (u : Nat) (d : Nat) (hmy : my ≤ 12) (hbi : bi < 4096) (hud : u ≤ d) : ct_v l g vwCl (tyM cI cJ cZ) y_Mo_spread c_Mo_spread 9 none ({ frames := 0, cells := 0, slots := 0, locals := 0 } : Room) [.ref (b 0), .int (nI bi), .long (lN u), .long (lN d)] (moW b cI cJ cZ f0 mn mv mg mk mo mu md ms mb mc m1 m2 m3 m4 we ud my ea od oo dn va ho wt cm co te tm gs gl rs rg rp rt) (moW b cI cJ cZ f0 mn mv mg mk mo mu md ms mb mc m1 m2 m3 m4 we ud my ea od oo dn va ho (spF (2 ^ my) bi u d wt) cm co te tm gs gl rs rg rp rt) := by
  refine ct_v.intro (by decide) (Nat.le_of_ble_eq_true rfl) ?_
  intro p e s m args below meth c Q A ls hx hb hml hT hown hA hK hN hret hP hD hS hl
  have hown : s.vm.findClass R_Mo = some m.cls := hown
  have hl : lv_has ls 9 [(0, .ref (b 0)), (1, .int (nI bi)), (2, .long (lN u)), (4, .long (lN d))] := hl
  have qP : 2 ^ my ≤ 4096 := pw12c hmy
  have qP0 : 0 < 2 ^ my := Nat.two_pow_pos _
  refine lv_iconst (v := (nI 1)) hx hb d_Mo_spread_0 (by decide) ?_
  refine lv_aload_n hx hb d_Mo_spread_1 rfl (lv_at hl 0 rfl) ?_
  refine va_get (D := g) (ci := 8) (v := .int (nI my)) (C := R_Mo) (T := F_Mo) (N := 35) hx hb hT i_Mo hown hK hP 0 rfl rfl 17 (by decide) (hT _ tw_638) (fun _ h9 => h9) rfl d_Mo_spread_2 ?_
  refine lv_ishl hx hb d_Mo_spread_5 ?_
  refine my_ei (nx_shl1 my (by omega)) ?_
  refine lv_iconst (v := (nI 1)) hx hb d_Mo_spread_6 (by decide) ?_
  refine lv_isub hx hb d_Mo_spread_7 ?_
  refine my_ei (dn_top (p := 2 ^ my) qP0) ?_
  refine lv_istore (lv' := [(6, .int (nI (2 ^ my) + (-1))), (0, .ref (b 0)), (1, .int (nI bi)), (2, .long (lN u)), (4, .long (lN d))]) hx hb d_Mo_spread_8 hl (by decide) rfl (fun ls hl => ?_)
  have lp_10 : ∀ (k : Nat) (i : Nat) (t : Nat) (q : Nat → Nat) (H : Heap) (locs : List Loc) (ls : Array Slot), (t < k) → (i + t = 2 ^ my) → (q = spA (2 ^ my) bi d wt i) → va_P g vwCl (moW b cI cJ cZ f0 mn mv mg mk mo mu md ms mb mc m1 m2 m3 m4 we ud my ea od oo dn va ho q cm co te tm gs gl rs rg rp rt) H → va_D A (moW b cI cJ cZ f0 mn mv mg mk mo mu md ms mb mc m1 m2 m3 m4 we ud my ea od oo dn va ho q cm co te tm gs gl rs rg rp rt) → va_S A s.heap H locs → lv_has ls 9 [(0, .ref (b 0)), (1, .int (nI bi)), (2, .long (lN u)), (4, .long (lN d)), (6, .int (nI t + (-1)))] → W p l e ({ frames := 0, cells := 0, slots := 0, locals := 0 } : Room) s m args below meth c H locs 0 0 Q (F0 m 10 ls []) := by
    intro k
    induction k with
    | zero =>
      intro i t q H locs ls hk hi hf hP hD hS hl
      exfalso
      omega
    | succ k ih_10 =>
      intro i t q H locs ls hk hi hf hP hD hS hl
      refine lv_iload hx hb d_Mo_spread_10 (lv_at hl 4 rfl) ?_
      refine lv_if_lt (tgt := 51) hx hb d_Mo_spread_12 (by decide) (fun c_12 => ?_) (fun c_12 => ?_)
      · -- 12: taken
        have t0 : t = 0 := (dn_neg (by omega)).mp c_12
        subst t0
        refine lv_iconst (v := (nI 1)) hx hb d_Mo_spread_51 (by decide) ?_
        refine lv_aload_n hx hb d_Mo_spread_52 rfl (lv_at hl 0 rfl) ?_
        refine va_get (D := g) (ci := 8) (v := .int (nI my)) (C := R_Mo) (T := F_Mo) (N := 35) hx hb hT i_Mo hown hK hP 0 rfl rfl 17 (by decide) (hT _ tw_638) (fun _ h9 => h9) rfl d_Mo_spread_53 ?_
        refine lv_ishl hx hb d_Mo_spread_56 ?_
        refine my_ei (nx_shl1 my (by omega)) ?_
        refine lv_iconst (v := (nI 1)) hx hb d_Mo_spread_57 (by decide) ?_
        refine lv_isub hx hb d_Mo_spread_58 ?_
        refine my_ei (dn_top (p := 2 ^ my) qP0) ?_
        refine lv_istore (lv' := [(6, .int (nI (2 ^ my) + (-1))), (0, .ref (b 0)), (1, .int (nI bi)), (2, .long (lN u)), (4, .long (lN d))]) hx hb d_Mo_spread_59 hl (by decide) rfl (fun ls hl => ?_)
        have lp_61 : ∀ (k : Nat) (i : Nat) (t : Nat) (q : Nat → Nat) (H : Heap) (locs : List Loc) (ls : Array Slot), (t < k) → (i + t = 2 ^ my) → (q = spB (2 ^ my) bi u d (spA (2 ^ my) bi d wt (2 ^ my)) i) → va_P g vwCl (moW b cI cJ cZ f0 mn mv mg mk mo mu md ms mb mc m1 m2 m3 m4 we ud my ea od oo dn va ho q cm co te tm gs gl rs rg rp rt) H → va_D A (moW b cI cJ cZ f0 mn mv mg mk mo mu md ms mb mc m1 m2 m3 m4 we ud my ea od oo dn va ho q cm co te tm gs gl rs rg rp rt) → va_S A s.heap H locs → lv_has ls 9 [(0, .ref (b 0)), (1, .int (nI bi)), (2, .long (lN u)), (4, .long (lN d)), (6, .int (nI t + (-1)))] → W p l e ({ frames := 0, cells := 0, slots := 0, locals := 0 } : Room) s m args below meth c H locs 0 0 Q (F0 m 61 ls []) := by
          intro k
          induction k with
          | zero =>
            intro i t q H locs ls hk hi hf2 hP hD hS hl
            exfalso
            omega
          | succ k ih_61 =>
            intro i t q H locs ls hk hi hf2 hP hD hS hl
            refine lv_iload hx hb d_Mo_spread_61 (lv_at hl 4 rfl) ?_
            refine lv_if_lt (tgt := 128) hx hb d_Mo_spread_63 (by decide) (fun c_63 => ?_) (fun c_63 => ?_)
            · -- 63: taken
              have t0 : t = 0 := (dn_neg (by omega)).mp c_63
              subst t0
              have e1 : q = spF (2 ^ my) bi u d wt := by rw [hf2, show i = 2 ^ my by omega]; rfl
              rw [e1] at hP hD
              exact hret _ _ _ _ hP hD hS d_Mo_spread_128
            · -- 63: not taken
              obtain ⟨t, rfl⟩ : ∃ q, t = q + 1 := ⟨t - 1, by rcases Nat.eq_zero_or_pos t with q | q; exact absurd ((dn_neg (by omega)).mpr q) c_63; omega⟩
              rw [pk_m1] at hl
              refine lv_iload hx hb d_Mo_spread_66 (lv_at hl 4 rfl) ?_
              refine lv_iload_n hx hb d_Mo_spread_68 rfl (lv_at hl 1 rfl) ?_
              have qo : t ||| bi < 4096 := or_lt (k := 12) (by omega) hbi
              refine lv_ior hx hb d_Mo_spread_69 ?_
              refine my_ei (nx_or t bi) ?_
              refine lv_iload hx hb d_Mo_spread_70 (lv_at hl 4 rfl) ?_
              refine my_icmp_eq (tgt := 122) (a := t ||| bi) (b := t) hx hb d_Mo_spread_72 (by decide) (by omega) (by omega) (fun c_72 => ?_) (fun c_72 => ?_)
              · -- 72: taken
                refine lv_iinc (v := (nI t + (-1))) (lv' := [(6, .int (nI t + (-1))), (0, .ref (b 0)), (1, .int (nI bi)), (2, .long (lN u)), (4, .long (lN d))]) hx hb d_Mo_spread_122 hl (k := 4) rfl rfl (by decide) rfl (fun ls hl => ?_)
                refine lv_goto (tgt := 61) hx hb d_Mo_spread_125 (by decide) ?_
                refine ih_61 (i + 1) _ _ _ _ _ ?_ ?_ ?_ hP hD hS (lv_sub hl [1, 2, 3, 4, 0] rfl)
                · omega
                · omega
                · have es : 2 ^ my - 1 - i = t := by omega
                  rw [hf2]
                  show _ = (if (2 ^ my - 1 - i) ||| bi = 2 ^ my - 1 - i then spB (2 ^ my) bi u d (spA (2 ^ my) bi d wt (2 ^ my)) i else sp1 bi u d (2 ^ my - 1 - i) (spB (2 ^ my) bi u d (spA (2 ^ my) bi d wt (2 ^ my)) i))
                  rw [es, if_pos c_72]
              · -- 72: not taken
                refine lv_aload_n hx hb d_Mo_spread_75 rfl (lv_at hl 0 rfl) ?_
                refine va_get (D := g) (ci := 8) (v := .ref (b 17)) (C := R_Mo) (T := F_Mo) (N := 35) hx hb hT i_Mo hown hK hP 0 rfl rfl 24 (by decide) (hT _ tw_645) (fun _ h9 => h9) rfl d_Mo_spread_76 ?_
                refine lv_iload hx hb d_Mo_spread_79 (lv_at hl 4 rfl) ?_
                refine lv_iload_n hx hb d_Mo_spread_81 rfl (lv_at hl 1 rfl) ?_
                refine lv_ior hx hb d_Mo_spread_82 ?_
                refine my_ei (nx_or t bi) ?_
                refine lv_aload_n hx hb d_Mo_spread_83 rfl (lv_at hl 0 rfl) ?_
                refine va_get (D := g) (ci := 8) (v := .ref (b 17)) (C := R_Mo) (T := F_Mo) (N := 35) hx hb hT i_Mo hown hK hP 0 rfl rfl 24 (by decide) (hT _ tw_645) (fun _ h9 => h9) rfl d_Mo_spread_84 ?_
                refine lv_iload hx hb d_Mo_spread_87 (lv_at hl 4 rfl) ?_
                refine lv_iload_n hx hb d_Mo_spread_89 rfl (lv_at hl 1 rfl) ?_
                refine lv_ior hx hb d_Mo_spread_90 ?_
                refine my_ei (nx_or t bi) ?_
                refine my_lald (v := (lN (q (t ||| bi)))) (i := t ||| bi) hx hb hK hP 17 1 rfl rfl (by omega) (by decide) rfl d_Mo_spread_91 ?_
                refine lv_aload_n hx hb d_Mo_spread_92 rfl (lv_at hl 0 rfl) ?_
                refine va_get (D := g) (ci := 8) (v := .ref (b 17)) (C := R_Mo) (T := F_Mo) (N := 35) hx hb hT i_Mo hown hK hP 0 rfl rfl 24 (by decide) (hT _ tw_645) (fun _ h9 => h9) rfl d_Mo_spread_93 ?_
                refine lv_iload hx hb d_Mo_spread_96 (lv_at hl 4 rfl) ?_
                refine my_lald (v := (lN (q t))) (i := t) hx hb hK hP 17 1 rfl rfl (by omega) (by decide) rfl d_Mo_spread_98 ?_
                refine lv_lload_n hx hb d_Mo_spread_99 rfl (lv_at hl 2 rfl) ?_
                refine lv_lmul hx hb d_Mo_spread_100 ?_
                refine my_el (lN_mul (q t) u) ?_
                refine lv_ladd hx hb d_Mo_spread_101 ?_
                refine my_el (lN_add (q (t ||| bi)) ((q t) * u)) ?_
                refine my_last (i := t ||| bi) hx hb hK hP hD hS 17 1 rfl rfl (by omega) (by decide) (my_upL _ _ _) (w' := (moW b cI cJ cZ f0 mn mv mg mk mo mu md ms mb mc m1 m2 m3 m4 we ud my ea od oo dn va ho (va_up q (t ||| bi) ((q (t ||| bi)) + ((q t) * u))) cm co te tm gs gl rs rg rp rt)) rfl d_Mo_spread_102 (fun H locs hP hD hS => ?_)
                refine lv_aload_n hx hb d_Mo_spread_103 rfl (lv_at hl 0 rfl) ?_
                refine va_get (D := g) (ci := 8) (v := .ref (b 17)) (C := R_Mo) (T := F_Mo) (N := 35) hx hb hT i_Mo hown hK hP 0 rfl rfl 24 (by decide) (hT _ tw_645) (fun _ h9 => h9) rfl d_Mo_spread_104 ?_
                refine lv_iload hx hb d_Mo_spread_107 (lv_at hl 4 rfl) ?_
                refine lv_aload_n hx hb d_Mo_spread_109 rfl (lv_at hl 0 rfl) ?_
                refine va_get (D := g) (ci := 8) (v := .ref (b 17)) (C := R_Mo) (T := F_Mo) (N := 35) hx hb hT i_Mo hown hK hP 0 rfl rfl 24 (by decide) (hT _ tw_645) (fun _ h9 => h9) rfl d_Mo_spread_110 ?_
                refine lv_iload hx hb d_Mo_spread_113 (lv_at hl 4 rfl) ?_
                refine my_lald (v := (lN ((va_up q (t ||| bi) ((q (t ||| bi)) + ((q t) * u))) t))) (i := t) hx hb hK hP 17 1 rfl rfl (by omega) (by decide) rfl d_Mo_spread_115 ?_
                refine lv_lload hx hb d_Mo_spread_116 (lv_at hl 3 rfl) ?_
                refine lv_lload_n hx hb d_Mo_spread_118 rfl (lv_at hl 2 rfl) ?_
                refine lv_lsub hx hb d_Mo_spread_119 ?_
                refine my_el (lN_sub (a := d) (b := u) (by omega)) ?_
                refine lv_lmul hx hb d_Mo_spread_120 ?_
                refine my_el (lN_mul ((va_up q (t ||| bi) ((q (t ||| bi)) + ((q t) * u))) t) (d - u)) ?_
                refine my_last (i := t) hx hb hK hP hD hS 17 1 rfl rfl (by omega) (by decide) (my_upL _ _ _) (w' := (moW b cI cJ cZ f0 mn mv mg mk mo mu md ms mb mc m1 m2 m3 m4 we ud my ea od oo dn va ho (va_up (va_up q (t ||| bi) ((q (t ||| bi)) + ((q t) * u))) t (((va_up q (t ||| bi) ((q (t ||| bi)) + ((q t) * u))) t) * (d - u))) cm co te tm gs gl rs rg rp rt)) rfl d_Mo_spread_121 (fun H locs hP hD hS => ?_)
                refine lv_iinc (v := (nI t + (-1))) (lv' := [(6, .int (nI t + (-1))), (0, .ref (b 0)), (1, .int (nI bi)), (2, .long (lN u)), (4, .long (lN d))]) hx hb d_Mo_spread_122 hl (k := 4) rfl rfl (by decide) rfl (fun ls hl => ?_)
                refine lv_goto (tgt := 61) hx hb d_Mo_spread_125 (by decide) ?_
                refine ih_61 (i + 1) _ _ _ _ _ ?_ ?_ ?_ hP hD hS (lv_sub hl [1, 2, 3, 4, 0] rfl)
                · omega
                · omega
                · have es : 2 ^ my - 1 - i = t := by omega
                  rw [hf2]
                  show _ = (if (2 ^ my - 1 - i) ||| bi = 2 ^ my - 1 - i then spB (2 ^ my) bi u d (spA (2 ^ my) bi d wt (2 ^ my)) i else sp1 bi u d (2 ^ my - 1 - i) (spB (2 ^ my) bi u d (spA (2 ^ my) bi d wt (2 ^ my)) i))
                  rw [es, if_neg c_72]; rfl
        refine lp_61 (2 ^ my + 1) 0 (2 ^ my) _ _ _ _ ?_ ?_ ?_ hP hD hS (lv_sub hl [1, 2, 3, 4, 0] rfl)
        · omega
        · omega
        · rw [hf, show i = 2 ^ my by omega]; rfl
      · -- 12: not taken
        obtain ⟨t, rfl⟩ : ∃ q, t = q + 1 := ⟨t - 1, by rcases Nat.eq_zero_or_pos t with q | q; exact absurd ((dn_neg (by omega)).mpr q) c_12; omega⟩
        rw [pk_m1] at hl
        refine lv_aload_n hx hb d_Mo_spread_15 rfl (lv_at hl 0 rfl) ?_
        refine va_get (D := g) (ci := 8) (v := .ref (b 17)) (C := R_Mo) (T := F_Mo) (N := 35) hx hb hT i_Mo hown hK hP 0 rfl rfl 24 (by decide) (hT _ tw_645) (fun _ h9 => h9) rfl d_Mo_spread_16 ?_
        refine lv_iload hx hb d_Mo_spread_19 (lv_at hl 4 rfl) ?_
        refine my_lald (v := (lN (q t))) (i := t) hx hb hK hP 17 1 rfl rfl (by omega) (by decide) rfl d_Mo_spread_21 ?_
        refine lv_lstore (lv' := [(7, .long (lN (q t))), (0, .ref (b 0)), (1, .int (nI bi)), (2, .long (lN u)), (4, .long (lN d)), (6, .int (nI t))]) hx hb d_Mo_spread_22 hl (by decide) rfl (fun ls hl => ?_)
        refine lv_iload hx hb d_Mo_spread_24 (lv_at hl 5 rfl) ?_
        refine lv_iload_n hx hb d_Mo_spread_26 rfl (lv_at hl 2 rfl) ?_
        have qo : t ||| bi < 4096 := or_lt (k := 12) (by omega) hbi
        refine lv_ior hx hb d_Mo_spread_27 ?_
        refine my_ei (nx_or t bi) ?_
        refine lv_iload hx hb d_Mo_spread_28 (lv_at hl 5 rfl) ?_
        refine my_icmp_ne (tgt := 45) (a := t ||| bi) (b := t) hx hb d_Mo_spread_30 (by decide) (by omega) (by omega) (fun c_30 => ?_) (fun c_30 => ?_)
        · -- 30: taken
          refine lv_iinc (v := (nI t + (-1))) (lv' := [(6, .int (nI t + (-1))), (7, .long (lN (q t))), (0, .ref (b 0)), (1, .int (nI bi)), (2, .long (lN u)), (4, .long (lN d))]) hx hb d_Mo_spread_45 hl (k := 5) rfl rfl (by decide) rfl (fun ls hl => ?_)
          refine lv_goto (tgt := 10) hx hb d_Mo_spread_48 (by decide) ?_
          refine ih_10 (i + 1) _ _ _ _ _ ?_ ?_ ?_ hP hD hS (lv_sub hl [2, 3, 4, 5, 0] rfl)
          · omega
          · omega
          · have es : 2 ^ my - 1 - i = t := by omega
            rw [hf]
            show _ = (if (2 ^ my - 1 - i) ||| bi = 2 ^ my - 1 - i then va_up (spA (2 ^ my) bi d wt i) (2 ^ my - 1 - i) (spA (2 ^ my) bi d wt i (2 ^ my - 1 - i) * d) else spA (2 ^ my) bi d wt i)
            rw [es, if_neg c_30]
        · -- 30: not taken
          refine lv_aload_n hx hb d_Mo_spread_33 rfl (lv_at hl 1 rfl) ?_
          refine va_get (D := g) (ci := 8) (v := .ref (b 17)) (C := R_Mo) (T := F_Mo) (N := 35) hx hb hT i_Mo hown hK hP 0 rfl rfl 24 (by decide) (hT _ tw_645) (fun _ h9 => h9) rfl d_Mo_spread_34 ?_
          refine lv_iload hx hb d_Mo_spread_37 (lv_at hl 5 rfl) ?_
          refine lv_lload hx hb d_Mo_spread_39 (lv_at hl 0 rfl) ?_
          refine lv_lload hx hb d_Mo_spread_41 (lv_at hl 4 rfl) ?_
          refine lv_lmul hx hb d_Mo_spread_43 ?_
          refine my_el (lN_mul (q t) d) ?_
          refine my_last (i := t) hx hb hK hP hD hS 17 1 rfl rfl (by omega) (by decide) (my_upL _ _ _) (w' := (moW b cI cJ cZ f0 mn mv mg mk mo mu md ms mb mc m1 m2 m3 m4 we ud my ea od oo dn va ho (va_up q t ((q t) * d)) cm co te tm gs gl rs rg rp rt)) rfl d_Mo_spread_44 (fun H locs hP hD hS => ?_)
          refine lv_iinc (v := (nI t + (-1))) (lv' := [(6, .int (nI t + (-1))), (7, .long (lN (q t))), (0, .ref (b 0)), (1, .int (nI bi)), (2, .long (lN u)), (4, .long (lN d))]) hx hb d_Mo_spread_45 hl (k := 5) rfl rfl (by decide) rfl (fun ls hl => ?_)
          refine lv_goto (tgt := 10) hx hb d_Mo_spread_48 (by decide) ?_
          refine ih_10 (i + 1) _ _ _ _ _ ?_ ?_ ?_ hP hD hS (lv_sub hl [2, 3, 4, 5, 0] rfl)
          · omega
          · omega
          · have es : 2 ^ my - 1 - i = t := by omega
            rw [hf]
            show _ = (if (2 ^ my - 1 - i) ||| bi = 2 ^ my - 1 - i then va_up (spA (2 ^ my) bi d wt i) (2 ^ my - 1 - i) (spA (2 ^ my) bi d wt i (2 ^ my - 1 - i) * d) else spA (2 ^ my) bi d wt i)
            rw [es, if_pos c_30]
  refine lp_10 (2 ^ my + 1) 0 (2 ^ my) _ _ _ _ ?_ ?_ ?_ hP hD hS (lv_sub hl [1, 2, 3, 4, 0] rfl)
  · omega
  · omega
  · rfl
