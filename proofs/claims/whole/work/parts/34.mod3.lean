theorem gcF_pos : ∀ f x y, 0 < y → y < f → 0 < gcF f x y
  | 0, x, y, h, h2 => by omega
  | f + 1, x, y, h, h2 => by
    show 0 < (if y = 0 then x else gcF f y (x % y))
    rw [if_neg (by omega)]
    rcases Nat.eq_zero_or_pos (x % y) with q | q
    · rw [q]
      cases f with
      | zero => exact h
      | succ f => show 0 < (if (0 : Nat) = 0 then y else _); rw [if_pos rfl]; exact h
    · exact gcF_pos f y (x % y) q (by have := Nat.mod_lt x h; omega)
theorem gcF_lt {n : Nat} : ∀ f x y, x < n → y < n → gcF f x y < n
  | 0, x, y, h, _ => h
  | f + 1, x, y, h1, h2 => by
    show (if y = 0 then x else gcF f y (x % y)) < n
    split
    · exact h1
    · exact gcF_lt f y (x % y) h2 (Nat.lt_of_le_of_lt (Nat.mod_le _ _) h1)
def boF (mu md m1 m2 m3 m4 : Nat → Nat) (x : Nat) : Nat → Nat
  | 0 => mu x * (2520 / md x)
  | i + 1 => boF mu md m1 m2 m3 m4 x i + (if m1 i = x ∨ m2 i = x then m3 i * (2520 / m4 i) else 0)
theorem boF_le {mu md m1 m2 m3 m4 : Nat → Nat} {x : Nat} (h1 : mu x ≤ 10) (h2 : ∀ j, m3 j ≤ 10) : ∀ i, boF mu md m1 m2 m3 m4 x i ≤ 25200 + 25200 * i
  | 0 => by
    have a : 2520 / md x ≤ 2520 := Nat.div_le_self _ _
    have := Nat.mul_le_mul h1 a
    show mu x * (2520 / md x) ≤ _
    omega
  | i + 1 => by
    have ih := boF_le (md := md) (m1 := m1) (m2 := m2) (m4 := m4) h1 h2 i
    have a : 2520 / m4 i ≤ 2520 := Nat.div_le_self _ _
    have := Nat.mul_le_mul (h2 i) a
    show boF mu md m1 m2 m3 m4 x i + _ ≤ _
    split <;> omega
def biF (ea : Nat → Nat) (my x : Nat) : Nat → Nat
  | 0 => 0
  | i + 1 => if ea i = x then biF ea my x i ||| 2 ^ (my - 1 - i) else biF ea my x i
theorem biF_lt {ea : Nat → Nat} {my x : Nat} (h : my ≤ 12) : ∀ i, i ≤ my → biF ea my x i < 4096
  | 0, _ => by show 0 < 4096; decide
  | i + 1, hi => by
    have ih := biF_lt (ea := ea) (x := x) h i (by omega)
    show (if ea i = x then biF ea my x i ||| 2 ^ (my - 1 - i) else biF ea my x i) < 4096
    split
    · exact or_lt (k := 12) ih (Nat.pow_lt_pow_right (by decide) (by omega))
    · exact ih
def mmF (ho : Nat → Bool) (my s : Nat) : Nat → Bool
  | 0 => ho s
  | i + 1 => mmF ho my s i && (decide (s &&& 2 ^ (my - 1 - i) = 0) || !(ho (s ^^^ 2 ^ (my - 1 - i))))
def rdF (dn : Nat → Bool) (mb : Nat → Nat) (x : Nat) : Nat → Bool
  | 0 => true
  | i + 1 => rdF dn mb x i && dn (mb (10 * x + i))
def cuL (v tm : Nat) (te : Nat → Nat) (y : Int32) : Nat → Nat → Nat → Int32
  | 0, _, _ => 0
  | f + 1, e, n => if v / 2 ^ (tm - 1 - e) &&& 1 = 1 then (if nI n = y then nI (te e) else cuL v tm te y f (e + 1) (n + 1)) else cuL v tm te y f (e + 1) n
def mcuR (cm : Nat) (co : Nat → Nat) (tm : Nat) (te : Nat → Nat) (x y : Int32) : Int32 := if isI x.toInt64 (lN 0) ((nI cm - nI 1).toInt64) = false then 0 else cuL (co x.toNatClampNeg) tm te y tm 0 0
theorem cut_nat {x : Int32} {cm : Nat} (h : cm ≤ 4096) (hI : isI x.toInt64 (lN 0) ((nI cm - nI 1).toInt64) = true) : ∃ k : Nat, k < cm ∧ k < 4096 ∧ x = nI k := by
  rcases Nat.eq_zero_or_pos cm with q | q
  · subst q
    simp only [isI, Bool.and_eq_true, decide_eq_true_eq] at hI
    obtain ⟨h1, h2⟩ := hI
    rw [Int64.lt_iff_toInt_lt, toI64] at h1 h2
    rw [toI64, show (nI 0 - nI 1).toInt = -1 by decide] at h2
    rw [show (lN 0).toInt = 0 by decide] at h1
    omega
  · rw [pk_sub (show 1 ≤ cm by omega), nI_l (by omega)] at hI
    obtain ⟨k, -, h2, e⟩ := isI_nat (by decide) (by omega) hI
    exact ⟨k, by omega, by omega, e⟩
set_option maxHeartbeats 4000000 in
set_option maxRecDepth 100000 in
theorem k_Mo_gcd (l : Launch) (g : va_G) (cl : List vw_C) (tys : List (ClassId × FieldType)) (ww : va_W) (x : Nat) (y : Nat) (hxx : x < 2 ^ 62) (hyy : y < 2 ^ 62) : ct_l l g cl tys y_Mo_gcd c_Mo_gcd 10 (some .long) ({ frames := 0, cells := 0, slots := 0, locals := 0 } : Room) [.long (lN x), .long (lN y)] ww ww (lN (gcF (y + 1) x y)) := by
  refine ct_l.intro (by decide) (Nat.le_of_ble_eq_true rfl) ?_
  intro p e s m args below meth c Q A ls hx hb hml hT hown hA hK hN hret hP hD hS hl
  have hown : s.vm.findClass R_Mo = some m.cls := hown
  have hl : lv_has ls 10 [(0, .long (lN x)), (2, .long (lN y))] := hl
  refine lv_lload_n hx hb d_Mo_gcd_0 rfl (lv_at hl 0 rfl) ?_
  refine lv_lstore (lv' := [(4, .long (lN x)), (0, .long (lN x)), (2, .long (lN y))]) hx hb d_Mo_gcd_1 hl (by decide) rfl (fun ls hl => ?_)
  refine lv_lload_n hx hb d_Mo_gcd_3 rfl (lv_at hl 2 rfl) ?_
  refine lv_lstore (lv' := [(6, .long (lN y)), (4, .long (lN x)), (0, .long (lN x)), (2, .long (lN y))]) hx hb d_Mo_gcd_4 hl (by decide) rfl (fun ls hl => ?_)
  have lp_6 : ∀ (k : Nat) (f : Nat) (u : Nat) (v : Nat) (H : Heap) (locs : List Loc) (ls : Array Slot), (v < k) → (v < f) → (u < 2 ^ 62) → (v < 2 ^ 62) → (gcF f u v = gcF (y + 1) x y) → va_P g cl ww H → va_D A ww → va_S A s.heap H locs → lv_has ls 10 [(0, .long (lN x)), (2, .long (lN y)), (4, .long (lN u)), (6, .long (lN v))] → W p l e ({ frames := 0, cells := 0, slots := 0, locals := 0 } : Room) s m args below meth c H locs 0 0 Q (F0 m 6 ls []) := by
    intro k
    induction k with
    | zero =>
      intro f u v H locs ls hk hvf hu hv hf hP hD hS hl
      exfalso
      omega
    | succ k ih_6 =>
      intro f u v H locs ls hk hvf hu hv hf hP hD hS hl
      refine lv_lload hx hb d_Mo_gcd_6 (lv_at hl 3 rfl) ?_
      refine lv_lconst (v := (lN 0)) hx hb d_Mo_gcd_8 (by decide) ?_
      refine my_lcmp_eq (tgt := 31) (a := v) (b := 0) hx hb d_Mo_gcd_9 d_Mo_gcd_10 (by decide) (by omega) (by omega) (fun c_9 => ?_) (fun c_9 => ?_)
      · -- 9: taken
        obtain ⟨f, rfl⟩ : ∃ q, f = q + 1 := ⟨f - 1, by omega⟩
        refine lv_lload hx hb d_Mo_gcd_31 (lv_at hl 2 rfl) ?_
        refine hret _ _ _ _ _ hP hD hS d_Mo_gcd_33 ?_
        exact congrArg lN (by rw [← hf]; simp [gcF, c_9])
      · -- 9: not taken
        obtain ⟨f, rfl⟩ : ∃ q, f = q + 1 := ⟨f - 1, by omega⟩
        refine lv_lload hx hb d_Mo_gcd_13 (lv_at hl 2 rfl) ?_
        refine lv_lload hx hb d_Mo_gcd_15 (lv_at hl 3 rfl) ?_
        refine my_lrem (a := u) (b := v) hx hb d_Mo_gcd_17 (by omega) (by omega) (by omega) ?_
        refine lv_lstore (lv' := [(8, .long (lN (u % v))), (0, .long (lN x)), (2, .long (lN y)), (4, .long (lN u)), (6, .long (lN v))]) hx hb d_Mo_gcd_18 hl (by decide) rfl (fun ls hl => ?_)
        refine lv_lload hx hb d_Mo_gcd_20 (lv_at hl 4 rfl) ?_
        refine lv_lstore (lv' := [(4, .long (lN v)), (8, .long (lN (u % v))), (0, .long (lN x)), (2, .long (lN y)), (6, .long (lN v))]) hx hb d_Mo_gcd_22 hl (by decide) rfl (fun ls hl => ?_)
        refine lv_lload hx hb d_Mo_gcd_24 (lv_at hl 1 rfl) ?_
        refine lv_lstore (lv' := [(6, .long (lN (u % v))), (4, .long (lN v)), (8, .long (lN (u % v))), (0, .long (lN x)), (2, .long (lN y))]) hx hb d_Mo_gcd_26 hl (by decide) rfl (fun ls hl => ?_)
        refine lv_goto (tgt := 6) hx hb d_Mo_gcd_28 (by decide) ?_
        refine ih_6 f _ _ _ _ _ ?_ ?_ ?_ ?_ ?_ hP hD hS (lv_sub hl [3, 4, 1, 0] rfl)
        · have := Nat.mod_lt u (show 0 < v by omega); omega
        · have := Nat.mod_lt u (show 0 < v by omega); omega
        · omega
        · exact (Nat.lt_of_le_of_lt (Nat.mod_le _ _) hu)
        · rw [← hf]; simp [gcF, c_9]
  refine lp_6 (y + 1) (y + 1) _ _ _ _ _ ?_ ?_ ?_ ?_ ?_ hP hD hS (lv_sub hl [2, 3, 1, 0] rfl)
  · omega
  · omega
  · omega
  · omega
  · rfl
set_option maxHeartbeats 4000000 in
set_option maxRecDepth 100000 in
theorem k_Mo_lowest (l : Launch) (g : va_G) (cl : List vw_C) (tys : List (ClassId × FieldType)) (ww : va_W) (x : Nat) (y : Nat) (z : Int32) (hxx : x < 2 ^ 62) (hyy : y < 2 ^ 62) (hy0 : 0 < y) : ct_l l g cl tys y_Mo_lowest c_Mo_lowest 7 (some .long) ({ frames := 1, cells := 0, slots := 0, locals := 29 } : Room) [.long (lN x), .long (lN y), .int z] ww ww (lN (if z = 0 then x / gcF (y + 1) x y else y / gcF (y + 1) x y)) := by
  refine ct_l.intro (by decide) (Nat.le_of_ble_eq_true rfl) ?_
  intro p e s m args below meth c Q A ls hx hb hml hT hown hA hK hN hret hP hD hS hl
  have hown : s.vm.findClass R_Mo = some m.cls := hown
  have hl : lv_has ls 7 [(0, .long (lN x)), (2, .long (lN y)), (4, .int z)] := hl
  have q1 : 0 < gcF (y + 1) x y := gcF_pos (y + 1) x y hy0 (by omega)
  have q2 : gcF (y + 1) x y < 2 ^ 62 := gcF_lt (y + 1) x y hxx hyy
  refine lv_lload_n hx hb d_Mo_lowest_0 rfl (lv_at hl 0 rfl) ?_
  refine lv_lload_n hx hb d_Mo_lowest_1 rfl (lv_at hl 1 rfl) ?_
  refine my_S_l (As := [.long (lN x), .long (lN y)]) (n := 2) (k_Mo_gcd l g cl tys ww x y (by omega) (by omega)) hx hb hml hown hT hN tw_812 tw_813 tw_9 tw_814 (by decide +kernel) rfl rfl ⟨Nat.le_of_ble_eq_true rfl, Nat.le_of_ble_eq_true rfl⟩ ⟨Nat.zero_le _, Nat.zero_le _⟩ hK hP hD hS hA rfl hl rfl (Nat.le_of_ble_eq_true rfl) d_Mo_lowest_2 (fun H locs hP hD hS => ?_)
  refine lv_lstore (lv' := [(5, .long (lN (gcF (y + 1) x y))), (0, .long (lN x)), (2, .long (lN y)), (4, .int z)]) hx hb d_Mo_lowest_5 hl (by decide) rfl (fun ls hl => ?_)
  refine lv_iload hx hb d_Mo_lowest_7 (lv_at hl 3 rfl) ?_
  refine lv_if_ne (tgt := 19) hx hb d_Mo_lowest_9 (by decide) (fun c_9 => ?_) (fun c_9 => ?_)
  · -- 9: taken
    refine lv_lload_n hx hb d_Mo_lowest_19 rfl (lv_at hl 2 rfl) ?_
    refine lv_lload hx hb d_Mo_lowest_20 (lv_at hl 0 rfl) ?_
    refine my_ldiv (a := y) (b := gcF (y + 1) x y) hx hb d_Mo_lowest_22 (by omega) (by omega) (by omega) ?_
    refine hret _ _ _ _ _ hP hD hS d_Mo_lowest_23 ?_
    simp [c_9]
  · -- 9: not taken
    refine lv_lload_n hx hb d_Mo_lowest_12 rfl (lv_at hl 1 rfl) ?_
    refine lv_lload hx hb d_Mo_lowest_13 (lv_at hl 0 rfl) ?_
    refine my_ldiv (a := x) (b := gcF (y + 1) x y) hx hb d_Mo_lowest_15 (by omega) (by omega) (by omega) ?_
    refine lv_goto (tgt := 23) hx hb d_Mo_lowest_16 (by decide) ?_
    refine hret _ _ _ _ _ hP hD hS d_Mo_lowest_23 ?_
    simp [c_9]
set_option maxHeartbeats 4000000 in
set_option maxRecDepth 100000 in
theorem k_Mo_open (l : Launch) (g : va_G) (b : Nat → Nat) (cI cJ cZ : ClassId) (f0 : Nat) (mn : Nat) (mv : Nat) (mg : Nat) (mk : Nat → Nat) (mo : Nat → Nat) (mu : Nat → Nat) (md : Nat → Nat) (ms : Nat → Nat) (mb : Nat → Nat) (mc : Nat) (m1 : Nat → Nat) (m2 : Nat → Nat) (m3 : Nat → Nat) (m4 : Nat → Nat) (we : Bool) (ud : Nat → Bool) (my : Nat) (ea : Nat → Nat) (od : Nat) (oo : Nat → Nat) (dn : Nat → Bool) (va : Nat → Nat) (ho : Nat → Bool) (wt : Nat → Nat) (cm : Nat) (co : Nat → Nat) (te : Nat → Nat) (tm : Nat) (gs : Nat) (gl : Nat → Nat) (rs : Nat) (rg : Nat → Nat) (rp : Nat → Nat) (rt : Nat → Nat) (x : Int32) (hgs : gs ≤ 30) (hr : rs ≤ 100) (hgl : ∀ j, gl j < 1000) (hrg : ∀ j, rg j < 1000) (hrp : ∀ j, rp j < 1000) (hrt : ∀ j, rt j < 1000) : ct_i l g vwCl (tyM cI cJ cZ) y_Mo_open c_Mo_open 4 (some .int) ({ frames := 1, cells := 0, slots := 0, locals := 26 } : Room) [.ref (b 0), .int x] (moW b cI cJ cZ f0 mn mv mg mk mo mu md ms mb mc m1 m2 m3 m4 we ud my ea od oo dn va ho wt cm co te tm gs gl rs rg rp rt) (moW b cI cJ cZ 0 mn mv mg mk mo mu md ms mb mc m1 m2 m3 m4 we ud my ea od oo dn va ho wt cm co te tm gs gl rs rg rp rt) (moR (mo1 gl rg rp rt rs) (mo2 rg rp rt rs) gs x) := by
  refine ct_i.intro (by decide) (Nat.le_of_ble_eq_true rfl) ?_
  intro p e s m args below meth c Q A ls hx hb hml hT hown hA hK hN hret hP hD hS hl
  have hown : s.vm.findClass R_Mo = some m.cls := hown
  have hl : lv_has ls 4 [(0, .ref (b 0)), (1, .int x)] := hl
  refine lv_aload_n hx hb d_Mo_open_0 rfl (lv_at hl 0 rfl) ?_
  refine lv_iconst (v := (nI 0)) hx hb d_Mo_open_1 (by decide) ?_
  refine va_put (D := g) (ci := 8) (v := .int (nI 0)) (ty := .int) (C := R_Mo) (T := F_Mo) (N := 35) hx hb hT i_Mo t_Mo t_Mo_ok n_Mo hown hK hP hD hS 0 rfl rfl 0 (by decide) (hT _ tw_621) (fun _ h9 => h9) rfl (by decide +kernel) rfl rfl (Nat.le_of_ble_eq_true rfl) d_Mo_open_2 (fun H locs hP hD hS => ?_)
  have hP : va_P g vwCl (moW b cI cJ cZ 0 mn mv mg mk mo mu md ms mb mc m1 m2 m3 m4 we ud my ea od oo dn va ho wt cm co te tm gs gl rs rg rp rt) H := hP
  have hD : va_D A (moW b cI cJ cZ 0 mn mv mg mk mo mu md ms mb mc m1 m2 m3 m4 we ud my ea od oo dn va ho wt cm co te tm gs gl rs rg rp rt) := hD
  refine lv_iconst (v := (nI 0)) hx hb d_Mo_open_5 (by decide) ?_
  refine lv_istore_n (lv' := [(2, .int (nI 0)), (0, .ref (b 0)), (1, .int x)]) hx hb d_Mo_open_6 rfl hl (by decide) rfl (fun ls hl => ?_)
  refine lv_iconst (v := (nI 1)) hx hb d_Mo_open_7 (by decide) ?_
  refine lv_istore_n (lv' := [(3, .int (nI 1)), (2, .int (nI 0)), (0, .ref (b 0)), (1, .int x)]) hx hb d_Mo_open_8 rfl hl (by decide) rfl (fun ls hl => ?_)
  have lp_9 : ∀ (k : Nat) (j : Nat) (f : Nat) (n : Nat) (H : Heap) (locs : List Loc) (ls : Array Slot), (gs + 1 < j + k) → (j + f = gs + 1) → (1 ≤ j) → (oL (mo1 gl rg rp rt rs) x f j n = oL (mo1 gl rg rp rt rs) x gs 1 0) → va_P g vwCl (moW b cI cJ cZ 0 mn mv mg mk mo mu md ms mb mc m1 m2 m3 m4 we ud my ea od oo dn va ho wt cm co te tm gs gl rs rg rp rt) H → va_D A (moW b cI cJ cZ 0 mn mv mg mk mo mu md ms mb mc m1 m2 m3 m4 we ud my ea od oo dn va ho wt cm co te tm gs gl rs rg rp rt) → va_S A s.heap H locs → lv_has ls 4 [(0, .ref (b 0)), (1, .int x), (2, .int (nI n)), (3, .int (nI j))] → W p l e ({ frames := 1, cells := 0, slots := 0, locals := 26 } : Room) s m args below meth c H locs 0 0 Q (F0 m 9 ls []) := by
    intro k
    induction k with
    | zero =>
      intro j f n H locs ls hk hj h1 hf hP hD hS hl
      exfalso
      omega
    | succ k ih_9 =>
      intro j f n H locs ls hk hj h1 hf hP hD hS hl
      refine lv_iload_n hx hb d_Mo_open_9 rfl (lv_at hl 3 rfl) ?_
      refine lv_aload_n hx hb d_Mo_open_10 rfl (lv_at hl 0 rfl) ?_
      refine va_get (D := g) (ci := 8) (v := .int (nI gs)) (C := R_Mo) (T := F_Mo) (N := 35) hx hb hT i_Mo hown hK hP 0 rfl rfl 29 (by decide) (hT _ tw_650) (fun _ h9 => h9) rfl d_Mo_open_11 ?_
      refine my_icmp_gt (tgt := 52) (a := j) (b := gs) hx hb d_Mo_open_14 (by decide) (by omega) (by omega) (fun c_14 => ?_) (fun c_14 => ?_)
      · -- 14: taken
        have f0 : f = 0 := by omega
        subst f0
        have hR1 : oL (mo1 gl rg rp rt rs) x gs 1 0 = (0, n) := hf.symm
        refine lv_iconst (v := (nI 1)) hx hb d_Mo_open_52 (by decide) ?_
        refine lv_istore_n (lv' := [(3, .int (nI 1)), (0, .ref (b 0)), (1, .int x), (2, .int (nI n))]) hx hb d_Mo_open_53 rfl hl (by decide) rfl (fun ls hl => ?_)
        have lp_54 : ∀ (k : Nat) (j : Nat) (f : Nat) (n : Nat) (H : Heap) (locs : List Loc) (ls : Array Slot), (51 < j + k) → (j + f = 51) → (1 ≤ j) → (oL (mo2 rg rp rt rs) x f j n = oL (mo2 rg rp rt rs) x 50 1 (oL (mo1 gl rg rp rt rs) x gs 1 0).2) → va_P g vwCl (moW b cI cJ cZ 0 mn mv mg mk mo mu md ms mb mc m1 m2 m3 m4 we ud my ea od oo dn va ho wt cm co te tm gs gl rs rg rp rt) H → va_D A (moW b cI cJ cZ 0 mn mv mg mk mo mu md ms mb mc m1 m2 m3 m4 we ud my ea od oo dn va ho wt cm co te tm gs gl rs rg rp rt) → va_S A s.heap H locs → lv_has ls 4 [(0, .ref (b 0)), (1, .int x), (2, .int (nI n)), (3, .int (nI j))] → W p l e ({ frames := 1, cells := 0, slots := 0, locals := 26 } : Room) s m args below meth c H locs 0 0 Q (F0 m 54 ls []) := by
          intro k
          induction k with
          | zero =>
            intro j f n H locs ls hk hj h1 hf2 hP hD hS hl
            exfalso
            omega
          | succ k ih_54 =>
            intro j f n H locs ls hk hj h1 hf2 hP hD hS hl
            refine lv_iload_n hx hb d_Mo_open_54 rfl (lv_at hl 3 rfl) ?_
            refine lv_bipush (v := (nI 50)) hx hb d_Mo_open_55 (by decide) ?_
            refine my_icmp_gt (tgt := 97) (a := j) (b := 50) hx hb d_Mo_open_57 (by decide) (by omega) (by omega) (fun c_57 => ?_) (fun c_57 => ?_)
            · -- 57: taken
              have f0 : f = 0 := by omega
              subst f0
              have hR2 : oL (mo2 rg rp rt rs) x 50 1 (oL (mo1 gl rg rp rt rs) x gs 1 0).2 = (0, n) := hf2.symm
              refine lv_iconst (v := (nI 0)) hx hb d_Mo_open_97 (by decide) ?_
              refine hret _ _ _ _ _ hP hD hS d_Mo_open_98 ?_
              rw [moR, hR2, hR1]; rfl
            · -- 57: not taken
              obtain ⟨f, rfl⟩ : ∃ q, f = q + 1 := ⟨f - 1, by omega⟩
              refine lv_aload_n hx hb d_Mo_open_60 rfl (lv_at hl 0 rfl) ?_
              refine lv_iconst (v := (nI 0)) hx hb d_Mo_open_61 (by decide) ?_
              refine lv_iload_n hx hb d_Mo_open_62 rfl (lv_at hl 3 rfl) ?_
              refine lv_iconst (v := (nI 0)) hx hb d_Mo_open_63 (by decide) ?_
              refine my_V_i (q0 := 0) (ci := 8) (C := R_Mo) (As := [.int (nI 0), .int (nI j), .int (b2 false)]) (n := 3) (k_Mo_rowsOf l g b cI cJ cZ 0 mn mv mg mk mo mu md ms mb mc m1 m2 m3 m4 we ud my ea od oo dn va ho wt cm co te tm gs gl rs rg rp rt 0 j false hr (by omega) (by omega) hrg hrp hrt) hx hb hml hown hT hN tw_855 tw_857 tp_29 tw_9 tw_858 (by decide +kernel) rfl rfl ⟨Nat.le_of_ble_eq_true rfl, Nat.le_of_ble_eq_true rfl⟩ ⟨Nat.zero_le _, Nat.zero_le _⟩ hK hP hD hS hA rfl rfl rfl hl rfl (Nat.le_of_ble_eq_true rfl) d_Mo_open_64 (fun H locs hP hD hS => ?_)
              have q4 := roF_le rg rp rt 0 j false rs
              refine my_if_le (tgt := 91) (a := roF rg rp rt 0 j false rs) hx hb d_Mo_open_67 (by decide) (by omega) (fun c_67 => ?_) (fun c_67 => ?_)
              · -- 67: taken
                refine lv_iinc (v := (nI (j + 1))) (lv' := [(3, .int (nI (j + 1))), (0, .ref (b 0)), (1, .int x), (2, .int (nI n))]) hx hb d_Mo_open_91 hl (k := 3) rfl (nI_1 j) (by decide) rfl (fun ls hl => ?_)
                refine lv_goto (tgt := 54) hx hb d_Mo_open_94 (by decide) ?_
                refine ih_54 _ f _ _ _ _ ?_ ?_ ?_ ?_ hP hD hS (lv_sub hl [1, 2, 3, 0] rfl)
                · omega
                · exact (show j + 1 + f = 51 by omega)
                · omega
                · rw [← hf2]
                  have hop : (mo2 rg rp rt rs) j = false := by simp [mo2, c_67]
                  simp [oL, hop]
              · -- 67: not taken
                refine lv_aload_n hx hb d_Mo_open_70 rfl (lv_at hl 0 rfl) ?_
                refine lv_iconst (v := (nI 0)) hx hb d_Mo_open_71 (by decide) ?_
                refine lv_iload_n hx hb d_Mo_open_72 rfl (lv_at hl 3 rfl) ?_
                refine lv_iconst (v := (nI 1)) hx hb d_Mo_open_73 (by decide) ?_
                refine my_V_i (q0 := 0) (ci := 8) (C := R_Mo) (As := [.int (nI 0), .int (nI j), .int (b2 true)]) (n := 3) (k_Mo_rowsOf l g b cI cJ cZ 0 mn mv mg mk mo mu md ms mb mc m1 m2 m3 m4 we ud my ea od oo dn va ho wt cm co te tm gs gl rs rg rp rt 0 j true hr (by omega) (by omega) hrg hrp hrt) hx hb hml hown hT hN tw_855 tw_857 tp_29 tw_9 tw_858 (by decide +kernel) rfl rfl ⟨Nat.le_of_ble_eq_true rfl, Nat.le_of_ble_eq_true rfl⟩ ⟨Nat.zero_le _, Nat.zero_le _⟩ hK hP hD hS hA rfl rfl rfl hl rfl (Nat.le_of_ble_eq_true rfl) d_Mo_open_74 (fun H locs hP hD hS => ?_)
                have q5 := roF_le rg rp rt 0 j true rs
                refine my_if_ne (tgt := 91) (a := roF rg rp rt 0 j true rs) hx hb d_Mo_open_77 (by decide) (by omega) (fun c_77 => ?_) (fun c_77 => ?_)
                · -- 77: taken
                  refine lv_iinc (v := (nI (j + 1))) (lv' := [(3, .int (nI (j + 1))), (0, .ref (b 0)), (1, .int x), (2, .int (nI n))]) hx hb d_Mo_open_91 hl (k := 3) rfl (nI_1 j) (by decide) rfl (fun ls hl => ?_)
                  refine lv_goto (tgt := 54) hx hb d_Mo_open_94 (by decide) ?_
                  refine ih_54 _ f _ _ _ _ ?_ ?_ ?_ ?_ hP hD hS (lv_sub hl [1, 2, 3, 0] rfl)
                  · omega
                  · exact (show j + 1 + f = 51 by omega)
                  · omega
                  · rw [← hf2]
                    have hop : (mo2 rg rp rt rs) j = false := by simp [mo2, show ¬ roF rg rp rt 0 j true rs = 0 by omega]
                    simp [oL, hop]
                · -- 77: not taken
                  refine lv_iload_n hx hb d_Mo_open_80 rfl (lv_at hl 2 rfl) ?_
                  refine lv_iload_n hx hb d_Mo_open_81 rfl (lv_at hl 1 rfl) ?_
                  refine lv_icmp_ne (tgt := 88) hx hb d_Mo_open_82 (by decide) (fun c_82 => ?_) (fun c_82 => ?_)
                  · -- 82: taken
                    refine lv_iinc (v := (nI (n + 1))) (lv' := [(2, .int (nI (n + 1))), (0, .ref (b 0)), (1, .int x), (3, .int (nI j))]) hx hb d_Mo_open_88 hl (k := 2) rfl (nI_1 n) (by decide) rfl (fun ls hl => ?_)
                    refine lv_iinc (v := (nI (j + 1))) (lv' := [(3, .int (nI (j + 1))), (2, .int (nI (n + 1))), (0, .ref (b 0)), (1, .int x)]) hx hb d_Mo_open_91 hl (k := 3) rfl (nI_1 j) (by decide) rfl (fun ls hl => ?_)
                    refine lv_goto (tgt := 54) hx hb d_Mo_open_94 (by decide) ?_
                    refine ih_54 _ f _ _ _ _ ?_ ?_ ?_ ?_ hP hD hS (lv_sub hl [2, 3, 1, 0] rfl)
                    · omega
                    · exact (show j + 1 + f = 51 by omega)
                    · omega
                    · rw [← hf2]
                      have hop : (mo2 rg rp rt rs) j = true := by simp [mo2, c_67, c_77]
                      simp [oL, hop, c_82]
                  · -- 82: not taken
                    refine lv_iload_n hx hb d_Mo_open_85 rfl (lv_at hl 3 rfl) ?_
                    refine lv_ineg hx hb d_Mo_open_86 ?_
                    refine hret _ _ _ _ _ hP hD hS d_Mo_open_87 ?_
                    have hop : (mo2 rg rp rt rs) j = true := by simp [mo2, c_67, c_77]
                    have hR2 : oL (mo2 rg rp rt rs) x 50 1 (oL (mo1 gl rg rp rt rs) x gs 1 0).2 = (j, n) := by rw [← hf2]; simp [oL, hop, c_82]
                    rw [moR, hR2, hR1]
                    simp [show j ≠ 0 by omega]
        refine lp_54 (52) 1 50 _ _ _ _ ?_ ?_ ?_ ?_ hP hD hS (lv_sub hl [1, 2, 3, 0] rfl)
        · omega
        · rfl
        · omega
        · rw [hR1]
      · -- 14: not taken
        obtain ⟨f, rfl⟩ : ∃ q, f = q + 1 := ⟨f - 1, by omega⟩
        refine lv_aload_n hx hb d_Mo_open_17 rfl (lv_at hl 0 rfl) ?_
        refine va_get (D := g) (ci := 8) (v := .ref (b 20)) (C := R_Mo) (T := F_Mo) (N := 35) hx hb hT i_Mo hown hK hP 0 rfl rfl 30 (by decide) (hT _ tw_651) (fun _ h9 => h9) rfl d_Mo_open_18 ?_
        refine lv_iload_n hx hb d_Mo_open_21 rfl (lv_at hl 3 rfl) ?_
        refine my_iald (v := (nI (gl j))) (i := j) hx hb hK hP 20 0 rfl rfl (by omega) (by decide) rfl d_Mo_open_22 ?_
        have qg := hgl j
        refine my_if_le (tgt := 46) (a := gl j) hx hb d_Mo_open_23 (by decide) (by omega) (fun c_23 => ?_) (fun c_23 => ?_)
        · -- 23: taken
          refine lv_iinc (v := (nI (j + 1))) (lv' := [(3, .int (nI (j + 1))), (0, .ref (b 0)), (1, .int x), (2, .int (nI n))]) hx hb d_Mo_open_46 hl (k := 3) rfl (nI_1 j) (by decide) rfl (fun ls hl => ?_)
          refine lv_goto (tgt := 9) hx hb d_Mo_open_49 (by decide) ?_
          refine ih_9 _ f _ _ _ _ ?_ ?_ ?_ ?_ hP hD hS (lv_sub hl [1, 2, 3, 0] rfl)
          · omega
          · exact (show j + 1 + f = gs + 1 by omega)
          · omega
          · rw [← hf]
            have hop : (mo1 gl rg rp rt rs) j = false := by simp [mo1, c_23]
            simp [oL, hop]
        · -- 23: not taken
          refine lv_aload_n hx hb d_Mo_open_26 rfl (lv_at hl 0 rfl) ?_
          refine lv_iload_n hx hb d_Mo_open_27 rfl (lv_at hl 3 rfl) ?_
          refine lv_iconst (v := (nI 0)) hx hb d_Mo_open_28 (by decide) ?_
          refine lv_iconst (v := (nI 1)) hx hb d_Mo_open_29 (by decide) ?_
          refine my_V_i (q0 := 0) (ci := 8) (C := R_Mo) (As := [.int (nI j), .int (nI 0), .int (b2 true)]) (n := 3) (k_Mo_rowsOf l g b cI cJ cZ 0 mn mv mg mk mo mu md ms mb mc m1 m2 m3 m4 we ud my ea od oo dn va ho wt cm co te tm gs gl rs rg rp rt j 0 true hr (by omega) (by omega) hrg hrp hrt) hx hb hml hown hT hN tw_855 tw_857 tp_29 tw_9 tw_858 (by decide +kernel) rfl rfl ⟨Nat.le_of_ble_eq_true rfl, Nat.le_of_ble_eq_true rfl⟩ ⟨Nat.zero_le _, Nat.zero_le _⟩ hK hP hD hS hA rfl rfl rfl hl rfl (Nat.le_of_ble_eq_true rfl) d_Mo_open_30 (fun H locs hP hD hS => ?_)
          have q4 := roF_le rg rp rt j 0 true rs
          refine my_if_ne (tgt := 46) (a := roF rg rp rt j 0 true rs) hx hb d_Mo_open_33 (by decide) (by omega) (fun c_33 => ?_) (fun c_33 => ?_)
          · -- 33: taken
            refine lv_iinc (v := (nI (j + 1))) (lv' := [(3, .int (nI (j + 1))), (0, .ref (b 0)), (1, .int x), (2, .int (nI n))]) hx hb d_Mo_open_46 hl (k := 3) rfl (nI_1 j) (by decide) rfl (fun ls hl => ?_)
            refine lv_goto (tgt := 9) hx hb d_Mo_open_49 (by decide) ?_
            refine ih_9 _ f _ _ _ _ ?_ ?_ ?_ ?_ hP hD hS (lv_sub hl [1, 2, 3, 0] rfl)
            · omega
            · exact (show j + 1 + f = gs + 1 by omega)
            · omega
            · rw [← hf]
              have hop : (mo1 gl rg rp rt rs) j = false := by simp [mo1, show ¬ roF rg rp rt j 0 true rs = 0 by omega]
              simp [oL, hop]
          · -- 33: not taken
            refine lv_iload_n hx hb d_Mo_open_36 rfl (lv_at hl 2 rfl) ?_
            refine lv_iload_n hx hb d_Mo_open_37 rfl (lv_at hl 1 rfl) ?_
            refine lv_icmp_ne (tgt := 43) hx hb d_Mo_open_38 (by decide) (fun c_38 => ?_) (fun c_38 => ?_)
            · -- 38: taken
              refine lv_iinc (v := (nI (n + 1))) (lv' := [(2, .int (nI (n + 1))), (0, .ref (b 0)), (1, .int x), (3, .int (nI j))]) hx hb d_Mo_open_43 hl (k := 2) rfl (nI_1 n) (by decide) rfl (fun ls hl => ?_)
              refine lv_iinc (v := (nI (j + 1))) (lv' := [(3, .int (nI (j + 1))), (2, .int (nI (n + 1))), (0, .ref (b 0)), (1, .int x)]) hx hb d_Mo_open_46 hl (k := 3) rfl (nI_1 j) (by decide) rfl (fun ls hl => ?_)
              refine lv_goto (tgt := 9) hx hb d_Mo_open_49 (by decide) ?_
              refine ih_9 _ f _ _ _ _ ?_ ?_ ?_ ?_ hP hD hS (lv_sub hl [2, 3, 1, 0] rfl)
              · omega
              · exact (show j + 1 + f = gs + 1 by omega)
              · omega
              · rw [← hf]
                have hop : (mo1 gl rg rp rt rs) j = true := by simp [mo1, c_23, c_33]
                simp [oL, hop, c_38]
            · -- 38: not taken
              refine lv_iload_n hx hb d_Mo_open_41 rfl (lv_at hl 3 rfl) ?_
              refine hret _ _ _ _ _ hP hD hS d_Mo_open_42 ?_
              have hop : (mo1 gl rg rp rt rs) j = true := by simp [mo1, c_23, c_33]
              have hR1 : oL (mo1 gl rg rp rt rs) x gs 1 0 = (j, n) := by rw [← hf]; simp [oL, hop, c_38]
              simp [moR, hR1, show j ≠ 0 by omega]
  refine lp_9 (gs + 2) 1 gs 0 _ _ _ ?_ ?_ ?_ ?_ hP hD hS (lv_sub hl [2, 3, 1, 0] rfl)
  · omega
  · exact Nat.add_comm 1 gs
  · omega
  · rfl
set_option maxHeartbeats 4000000 in
set_option maxRecDepth 100000 in
theorem k_Mo_common (l : Launch) (g : va_G) (b : Nat → Nat) (cI cJ cZ : ClassId) (f0 : Nat) (mn : Nat) (mv : Nat) (mg : Nat) (mk : Nat → Nat) (mo : Nat → Nat) (mu : Nat → Nat) (md : Nat → Nat) (ms : Nat → Nat) (mb : Nat → Nat) (mc : Nat) (m1 : Nat → Nat) (m2 : Nat → Nat) (m3 : Nat → Nat) (m4 : Nat → Nat) (we : Bool) (ud : Nat → Bool) (my : Nat) (ea : Nat → Nat) (od : Nat) (oo : Nat → Nat) (dn : Nat → Bool) (va : Nat → Nat) (ho : Nat → Bool) (wt : Nat → Nat) (cm : Nat) (co : Nat → Nat) (te : Nat → Nat) (tm : Nat) (gs : Nat) (gl : Nat → Nat) (rs : Nat) (rg : Nat → Nat) (rp : Nat → Nat) (rt : Nat → Nat) (x : Int32) (y : Int32) (u : Int64) (d : Int64) (hmn : mn ≤ 32) (hmk : ∀ j, mk j ≤ 3) (hmc : mc ≤ 4) : ct_i l g vwCl (tyM cI cJ cZ) y_Mo_common c_Mo_common 7 (some .int) ({ frames := 2, cells := 0, slots := 0, locals := 46 } : Room) [.ref (b 0), .int x, .int y, .long u, .long d] (moW b cI cJ cZ f0 mn mv mg mk mo mu md ms mb mc m1 m2 m3 m4 we ud my ea od oo dn va ho wt cm co te tm gs gl rs rg rp rt) (if miE mn mk x = true ∧ miE mn mk y = true ∧ ¬ x = y ∧ isI d (lN 1) (lN 10) = true ∧ isI u (lN 0) d = true ∧ ¬ mc = 4 then (moW b cI cJ cZ 0 mn mv mg mk mo mu md ms mb (mc + 1) (va_up m1 mc x.toNatClampNeg) (va_up m2 mc y.toNatClampNeg) (va_up m3 mc (lnat u)) (va_up m4 mc (lnat d)) we ud my ea od oo dn va ho wt cm co te tm gs gl rs rg rp rt) else (moW b cI cJ cZ 0 mn mv mg mk mo mu md ms mb mc m1 m2 m3 m4 we ud my ea od oo dn va ho wt cm co te tm gs gl rs rg rp rt)) (mcoR mn mk mc x y u d) := by
  refine ct_i.intro (by decide) (Nat.le_of_ble_eq_true rfl) ?_
  intro p e s m args below meth c Q A ls hx hb hml hT hown hA hK hN hret hP hD hS hl
  have hown : s.vm.findClass R_Mo = some m.cls := hown
  have hl : lv_has ls 7 [(0, .ref (b 0)), (1, .int x), (2, .int y), (3, .long u), (5, .long d)] := hl
  refine lv_aload_n hx hb d_Mo_common_0 rfl (lv_at hl 0 rfl) ?_
  refine lv_iconst (v := (nI 0)) hx hb d_Mo_common_1 (by decide) ?_
  refine va_put (D := g) (ci := 8) (v := .int (nI 0)) (ty := .int) (C := R_Mo) (T := F_Mo) (N := 35) hx hb hT i_Mo t_Mo t_Mo_ok n_Mo hown hK hP hD hS 0 rfl rfl 0 (by decide) (hT _ tw_621) (fun _ h9 => h9) rfl (by decide +kernel) rfl rfl (Nat.le_of_ble_eq_true rfl) d_Mo_common_2 (fun H locs hP hD hS => ?_)
  have hP : va_P g vwCl (moW b cI cJ cZ 0 mn mv mg mk mo mu md ms mb mc m1 m2 m3 m4 we ud my ea od oo dn va ho wt cm co te tm gs gl rs rg rp rt) H := hP
  have hD : va_D A (moW b cI cJ cZ 0 mn mv mg mk mo mu md ms mb mc m1 m2 m3 m4 we ud my ea od oo dn va ho wt cm co te tm gs gl rs rg rp rt) := hD
  refine lv_aload_n hx hb d_Mo_common_5 rfl (lv_at hl 0 rfl) ?_
  refine lv_iload_n hx hb d_Mo_common_6 rfl (lv_at hl 1 rfl) ?_
  refine my_V_i (q0 := 0) (ci := 8) (C := R_Mo) (As := [.int x]) (n := 1) (k_Mo_isEvent l g b cI cJ cZ 0 mn mv mg mk mo mu md ms mb mc m1 m2 m3 m4 we ud my ea od oo dn va ho wt cm co te tm gs gl rs rg rp rt x hmn hmk) hx hb hml hown hT hN tw_832 tw_834 tp_28 tw_9 tw_835 (by decide +kernel) rfl rfl ⟨Nat.le_of_ble_eq_true rfl, Nat.le_of_ble_eq_true rfl⟩ ⟨Nat.zero_le _, Nat.zero_le _⟩ hK hP hD hS hA rfl rfl rfl hl rfl (Nat.le_of_ble_eq_true rfl) d_Mo_common_7 (fun H locs hP hD hS => ?_)
  refine my_if_eq_b (tgt := 21) hx hb d_Mo_common_10 (by decide) (fun c_10 => ?_) (fun c_10 => ?_)
  · -- 10: taken
    refine lv_iconst (v := (-1)) hx hb d_Mo_common_21 (by decide) ?_
    refine hret _ _ _ _ _ (by rw [if_neg (by intro hh; first | exact absurd (hh.1.symm.trans c_10) (by decide) | exact absurd (hh.2.1.symm.trans c_18) (by decide) | exact hh.2.2.1 c_25 | exact absurd (hh.2.2.2.1.symm.trans c_37) (by decide) | exact absurd (hh.2.2.2.2.1.symm.trans c_47) (by decide) | exact hh.2.2.2.2.2 c_58)]; exact hP) (by rw [if_neg (by intro hh; first | exact absurd (hh.1.symm.trans c_10) (by decide) | exact absurd (hh.2.1.symm.trans c_18) (by decide) | exact hh.2.2.1 c_25 | exact absurd (hh.2.2.2.1.symm.trans c_37) (by decide) | exact absurd (hh.2.2.2.2.1.symm.trans c_47) (by decide) | exact hh.2.2.2.2.2 c_58)]; exact hD) hS d_Mo_common_22 ?_
    rw [mcoR, if_pos (by first | exact Or.inl c_10 | exact Or.inr c_18)]
  · -- 10: not taken
    refine lv_aload_n hx hb d_Mo_common_13 rfl (lv_at hl 0 rfl) ?_
    refine lv_iload_n hx hb d_Mo_common_14 rfl (lv_at hl 2 rfl) ?_
    refine my_V_i (q0 := 0) (ci := 8) (C := R_Mo) (As := [.int y]) (n := 1) (k_Mo_isEvent l g b cI cJ cZ 0 mn mv mg mk mo mu md ms mb mc m1 m2 m3 m4 we ud my ea od oo dn va ho wt cm co te tm gs gl rs rg rp rt y hmn hmk) hx hb hml hown hT hN tw_832 tw_834 tp_28 tw_9 tw_835 (by decide +kernel) rfl rfl ⟨Nat.le_of_ble_eq_true rfl, Nat.le_of_ble_eq_true rfl⟩ ⟨Nat.zero_le _, Nat.zero_le _⟩ hK hP hD hS hA rfl rfl rfl hl rfl (Nat.le_of_ble_eq_true rfl) d_Mo_common_15 (fun H locs hP hD hS => ?_)
    refine my_if_ne_b (tgt := 23) hx hb d_Mo_common_18 (by decide) (fun c_18 => ?_) (fun c_18 => ?_)
    · -- 18: taken
      refine lv_iload_n hx hb d_Mo_common_23 rfl (lv_at hl 1 rfl) ?_
      refine lv_iload_n hx hb d_Mo_common_24 rfl (lv_at hl 2 rfl) ?_
      refine lv_icmp_eq (tgt := 50) hx hb d_Mo_common_25 (by decide) (fun c_25 => ?_) (fun c_25 => ?_)
      · -- 25: taken
        refine lv_bipush (v := (-2)) hx hb d_Mo_common_50 (by decide) ?_
        refine hret _ _ _ _ _ (by rw [if_neg (by intro hh; first | exact absurd (hh.1.symm.trans c_10) (by decide) | exact absurd (hh.2.1.symm.trans c_18) (by decide) | exact hh.2.2.1 c_25 | exact absurd (hh.2.2.2.1.symm.trans c_37) (by decide) | exact absurd (hh.2.2.2.2.1.symm.trans c_47) (by decide) | exact hh.2.2.2.2.2 c_58)]; exact hP) (by rw [if_neg (by intro hh; first | exact absurd (hh.1.symm.trans c_10) (by decide) | exact absurd (hh.2.1.symm.trans c_18) (by decide) | exact hh.2.2.1 c_25 | exact absurd (hh.2.2.2.1.symm.trans c_37) (by decide) | exact absurd (hh.2.2.2.2.1.symm.trans c_47) (by decide) | exact hh.2.2.2.2.2 c_58)]; exact hD) hS d_Mo_common_52 ?_
        rw [mcoR, if_neg (by simp [c_10, c_18]), if_pos (by first | exact Or.inl c_25 | exact Or.inr (Or.inl c_37) | exact Or.inr (Or.inr c_47))]
      · -- 25: not taken
        refine lv_lload hx hb d_Mo_common_28 (lv_at hl 4 rfl) ?_
        refine lv_lconst (v := (lN 1)) hx hb d_Mo_common_30 (by decide) ?_
        refine lv_ldc2 (v := (lN 10)) hx hb hown (hT _ tw_736) d_Mo_common_31 ?_
        refine my_S_i (As := [.long d, .long (lN 1), .long (lN 10)]) (n := 3) (k_Mo_isIn l g vwCl (tyM cI cJ cZ) (moW b cI cJ cZ 0 mn mv mg mk mo mu md ms mb mc m1 m2 m3 m4 we ud my ea od oo dn va ho wt cm co te tm gs gl rs rg rp rt) d (lN 1) (lN 10) ) hx hb hml hown hT hN tw_737 tw_738 tw_9 tw_739 (by decide +kernel) rfl rfl ⟨Nat.le_of_ble_eq_true rfl, Nat.le_of_ble_eq_true rfl⟩ ⟨Nat.zero_le _, Nat.zero_le _⟩ hK hP hD hS hA rfl hl rfl (Nat.le_of_ble_eq_true rfl) d_Mo_common_34 (fun H locs hP hD hS => ?_)
        refine my_if_eq_b (tgt := 50) hx hb d_Mo_common_37 (by decide) (fun c_37 => ?_) (fun c_37 => ?_)
        · -- 37: taken
          refine lv_bipush (v := (-2)) hx hb d_Mo_common_50 (by decide) ?_
          refine hret _ _ _ _ _ (by rw [if_neg (by intro hh; first | exact absurd (hh.1.symm.trans c_10) (by decide) | exact absurd (hh.2.1.symm.trans c_18) (by decide) | exact hh.2.2.1 c_25 | exact absurd (hh.2.2.2.1.symm.trans c_37) (by decide) | exact absurd (hh.2.2.2.2.1.symm.trans c_47) (by decide) | exact hh.2.2.2.2.2 c_58)]; exact hP) (by rw [if_neg (by intro hh; first | exact absurd (hh.1.symm.trans c_10) (by decide) | exact absurd (hh.2.1.symm.trans c_18) (by decide) | exact hh.2.2.1 c_25 | exact absurd (hh.2.2.2.1.symm.trans c_37) (by decide) | exact absurd (hh.2.2.2.2.1.symm.trans c_47) (by decide) | exact hh.2.2.2.2.2 c_58)]; exact hD) hS d_Mo_common_52 ?_
          rw [mcoR, if_neg (by simp [c_10, c_18]), if_pos (by first | exact Or.inl c_25 | exact Or.inr (Or.inl c_37) | exact Or.inr (Or.inr c_47))]
        · -- 37: not taken
          refine lv_lload_n hx hb d_Mo_common_40 rfl (lv_at hl 3 rfl) ?_
          refine lv_lconst (v := (lN 0)) hx hb d_Mo_common_41 (by decide) ?_
          refine lv_lload hx hb d_Mo_common_42 (lv_at hl 4 rfl) ?_
          refine my_S_i (As := [.long u, .long (lN 0), .long d]) (n := 3) (k_Mo_isIn l g vwCl (tyM cI cJ cZ) (moW b cI cJ cZ 0 mn mv mg mk mo mu md ms mb mc m1 m2 m3 m4 we ud my ea od oo dn va ho wt cm co te tm gs gl rs rg rp rt) u (lN 0) d ) hx hb hml hown hT hN tw_737 tw_738 tw_9 tw_739 (by decide +kernel) rfl rfl ⟨Nat.le_of_ble_eq_true rfl, Nat.le_of_ble_eq_true rfl⟩ ⟨Nat.zero_le _, Nat.zero_le _⟩ hK hP hD hS hA rfl hl rfl (Nat.le_of_ble_eq_true rfl) d_Mo_common_44 (fun H locs hP hD hS => ?_)
          refine my_if_ne_b (tgt := 53) hx hb d_Mo_common_47 (by decide) (fun c_47 => ?_) (fun c_47 => ?_)
          · -- 47: taken
            refine lv_aload_n hx hb d_Mo_common_53 rfl (lv_at hl 0 rfl) ?_
            refine va_get (D := g) (ci := 8) (v := .int (nI mc)) (C := R_Mo) (T := F_Mo) (N := 35) hx hb hT i_Mo hown hK hP 0 rfl rfl 10 (by decide) (hT _ tw_631) (fun _ h9 => h9) rfl d_Mo_common_54 ?_
            refine lv_iconst (v := (nI 4)) hx hb d_Mo_common_57 (by decide) ?_
            refine my_icmp_ne (tgt := 64) (a := mc) (b := 4) hx hb d_Mo_common_58 (by decide) (by omega) (by omega) (fun c_58 => ?_) (fun c_58 => ?_)
            · -- 58: taken
              obtain ⟨x1, hx1, hx2, rfl⟩ := miE_nat hmn c_10
              obtain ⟨y1, hy1, hy2, rfl⟩ := miE_nat hmn c_18
              obtain ⟨d1, hd1, hd2, rfl⟩ := isD_nat c_37
              obtain ⟨u1, hu1, rfl⟩ := isI_u (by omega) c_47
              have hkc : (nI x1).toNatClampNeg = x1 := nI_clamp (by omega)
              have hkc2 : (nI y1).toNatClampNeg = y1 := nI_clamp (by omega)
              have hkc3 : lnat (lN d1) = d1 := lnat_lN (by omega)
              have hkc4 : lnat (lN u1) = u1 := lnat_lN (by omega)
              simp only [hkc, hkc2, hkc3, hkc4] at hret
              refine lv_aload_n hx hb d_Mo_common_64 rfl (lv_at hl 0 rfl) ?_
              refine va_get (D := g) (ci := 8) (v := .ref (b 7)) (C := R_Mo) (T := F_Mo) (N := 35) hx hb hT i_Mo hown hK hP 0 rfl rfl 11 (by decide) (hT _ tw_632) (fun _ h9 => h9) rfl d_Mo_common_65 ?_
              refine lv_aload_n hx hb d_Mo_common_68 rfl (lv_at hl 0 rfl) ?_
              refine va_get (D := g) (ci := 8) (v := .int (nI mc)) (C := R_Mo) (T := F_Mo) (N := 35) hx hb hT i_Mo hown hK hP 0 rfl rfl 10 (by decide) (hT _ tw_631) (fun _ h9 => h9) rfl d_Mo_common_69 ?_
              refine lv_iload_n hx hb d_Mo_common_72 rfl (lv_at hl 1 rfl) ?_
              refine my_iast (i := mc) hx hb hK hP hD hS 7 0 rfl rfl (by omega) (by decide) (my_upN _ _ _) (w' := (moW b cI cJ cZ 0 mn mv mg mk mo mu md ms mb mc (va_up m1 mc x1) m2 m3 m4 we ud my ea od oo dn va ho wt cm co te tm gs gl rs rg rp rt)) rfl d_Mo_common_73 (fun H locs hP hD hS => ?_)
              refine lv_aload_n hx hb d_Mo_common_74 rfl (lv_at hl 0 rfl) ?_
              refine va_get (D := g) (ci := 8) (v := .ref (b 8)) (C := R_Mo) (T := F_Mo) (N := 35) hx hb hT i_Mo hown hK hP 0 rfl rfl 12 (by decide) (hT _ tw_633) (fun _ h9 => h9) rfl d_Mo_common_75 ?_
              refine lv_aload_n hx hb d_Mo_common_78 rfl (lv_at hl 0 rfl) ?_
              refine va_get (D := g) (ci := 8) (v := .int (nI mc)) (C := R_Mo) (T := F_Mo) (N := 35) hx hb hT i_Mo hown hK hP 0 rfl rfl 10 (by decide) (hT _ tw_631) (fun _ h9 => h9) rfl d_Mo_common_79 ?_
              refine lv_iload_n hx hb d_Mo_common_82 rfl (lv_at hl 2 rfl) ?_
              refine my_iast (i := mc) hx hb hK hP hD hS 8 0 rfl rfl (by omega) (by decide) (my_upN _ _ _) (w' := (moW b cI cJ cZ 0 mn mv mg mk mo mu md ms mb mc (va_up m1 mc x1) (va_up m2 mc y1) m3 m4 we ud my ea od oo dn va ho wt cm co te tm gs gl rs rg rp rt)) rfl d_Mo_common_83 (fun H locs hP hD hS => ?_)
              refine lv_aload_n hx hb d_Mo_common_84 rfl (lv_at hl 0 rfl) ?_
              refine va_get (D := g) (ci := 8) (v := .ref (b 9)) (C := R_Mo) (T := F_Mo) (N := 35) hx hb hT i_Mo hown hK hP 0 rfl rfl 13 (by decide) (hT _ tw_634) (fun _ h9 => h9) rfl d_Mo_common_85 ?_
              refine lv_aload_n hx hb d_Mo_common_88 rfl (lv_at hl 0 rfl) ?_
              refine va_get (D := g) (ci := 8) (v := .int (nI mc)) (C := R_Mo) (T := F_Mo) (N := 35) hx hb hT i_Mo hown hK hP 0 rfl rfl 10 (by decide) (hT _ tw_631) (fun _ h9 => h9) rfl d_Mo_common_89 ?_
              refine lv_lload_n hx hb d_Mo_common_92 rfl (lv_at hl 3 rfl) ?_
              refine lv_l2i (v := nI u1) hx hb d_Mo_common_93 (lN_i _) ?_
              refine my_iast (i := mc) hx hb hK hP hD hS 9 0 rfl rfl (by omega) (by decide) (my_upN _ _ _) (w' := (moW b cI cJ cZ 0 mn mv mg mk mo mu md ms mb mc (va_up m1 mc x1) (va_up m2 mc y1) (va_up m3 mc u1) m4 we ud my ea od oo dn va ho wt cm co te tm gs gl rs rg rp rt)) rfl d_Mo_common_94 (fun H locs hP hD hS => ?_)
              refine lv_aload_n hx hb d_Mo_common_95 rfl (lv_at hl 0 rfl) ?_
              refine va_get (D := g) (ci := 8) (v := .ref (b 10)) (C := R_Mo) (T := F_Mo) (N := 35) hx hb hT i_Mo hown hK hP 0 rfl rfl 14 (by decide) (hT _ tw_635) (fun _ h9 => h9) rfl d_Mo_common_96 ?_
              refine lv_aload_n hx hb d_Mo_common_99 rfl (lv_at hl 0 rfl) ?_
              refine va_get (D := g) (ci := 8) (v := .int (nI mc)) (C := R_Mo) (T := F_Mo) (N := 35) hx hb hT i_Mo hown hK hP 0 rfl rfl 10 (by decide) (hT _ tw_631) (fun _ h9 => h9) rfl d_Mo_common_100 ?_
              refine lv_lload hx hb d_Mo_common_103 (lv_at hl 4 rfl) ?_
              refine lv_l2i (v := nI d1) hx hb d_Mo_common_105 (lN_i _) ?_
              refine my_iast (i := mc) hx hb hK hP hD hS 10 0 rfl rfl (by omega) (by decide) (my_upN _ _ _) (w' := (moW b cI cJ cZ 0 mn mv mg mk mo mu md ms mb mc (va_up m1 mc x1) (va_up m2 mc y1) (va_up m3 mc u1) (va_up m4 mc d1) we ud my ea od oo dn va ho wt cm co te tm gs gl rs rg rp rt)) rfl d_Mo_common_106 (fun H locs hP hD hS => ?_)
              refine lv_aload_n hx hb d_Mo_common_107 rfl (lv_at hl 0 rfl) ?_
              refine lv_dup hx hb d_Mo_common_108 rfl ?_
              refine va_get (D := g) (ci := 8) (v := .int (nI mc)) (C := R_Mo) (T := F_Mo) (N := 35) hx hb hT i_Mo hown hK hP 0 rfl rfl 10 (by decide) (hT _ tw_631) (fun _ h9 => h9) rfl d_Mo_common_109 ?_
              refine lv_iconst (v := (nI 1)) hx hb d_Mo_common_112 (by decide) ?_
              refine lv_iadd hx hb d_Mo_common_113 ?_
              refine my_ei (nI_add mc 1) ?_
              refine va_put (D := g) (ci := 8) (v := .int (nI (mc + 1))) (ty := .int) (C := R_Mo) (T := F_Mo) (N := 35) hx hb hT i_Mo t_Mo t_Mo_ok n_Mo hown hK hP hD hS 0 rfl rfl 10 (by decide) (hT _ tw_631) (fun _ h9 => h9) rfl (by decide +kernel) rfl rfl (Nat.le_of_ble_eq_true rfl) d_Mo_common_114 (fun H locs hP hD hS => ?_)
              have hP : va_P g vwCl (moW b cI cJ cZ 0 mn mv mg mk mo mu md ms mb (mc + 1) (va_up m1 mc x1) (va_up m2 mc y1) (va_up m3 mc u1) (va_up m4 mc d1) we ud my ea od oo dn va ho wt cm co te tm gs gl rs rg rp rt) H := hP
              have hD : va_D A (moW b cI cJ cZ 0 mn mv mg mk mo mu md ms mb (mc + 1) (va_up m1 mc x1) (va_up m2 mc y1) (va_up m3 mc u1) (va_up m4 mc d1) we ud my ea od oo dn va ho wt cm co te tm gs gl rs rg rp rt) := hD
              refine lv_aload_n hx hb d_Mo_common_117 rfl (lv_at hl 0 rfl) ?_
              refine va_get (D := g) (ci := 8) (v := .int (nI (mc + 1))) (C := R_Mo) (T := F_Mo) (N := 35) hx hb hT i_Mo hown hK hP 0 rfl rfl 10 (by decide) (hT _ tw_631) (fun _ h9 => h9) rfl d_Mo_common_118 ?_
              refine hret _ _ _ _ _ (by rw [if_pos ⟨c_10, c_18, c_25, c_37, c_47, c_58⟩]; exact hP) (by rw [if_pos ⟨c_10, c_18, c_25, c_37, c_47, c_58⟩]; exact hD) hS d_Mo_common_121 ?_
              rw [mcoR, if_neg (by simp [c_10, c_18]), if_neg (by intro hh; rcases hh with hh | hh | hh; exact c_25 hh; exact absurd (hh.symm.trans c_37) (by decide); exact absurd (hh.symm.trans c_47) (by decide)), if_neg c_58]
            · -- 58: not taken
              refine lv_bipush (v := (-4)) hx hb d_Mo_common_61 (by decide) ?_
              refine hret _ _ _ _ _ (by rw [if_neg (by intro hh; first | exact absurd (hh.1.symm.trans c_10) (by decide) | exact absurd (hh.2.1.symm.trans c_18) (by decide) | exact hh.2.2.1 c_25 | exact absurd (hh.2.2.2.1.symm.trans c_37) (by decide) | exact absurd (hh.2.2.2.2.1.symm.trans c_47) (by decide) | exact hh.2.2.2.2.2 c_58)]; exact hP) (by rw [if_neg (by intro hh; first | exact absurd (hh.1.symm.trans c_10) (by decide) | exact absurd (hh.2.1.symm.trans c_18) (by decide) | exact hh.2.2.1 c_25 | exact absurd (hh.2.2.2.1.symm.trans c_37) (by decide) | exact absurd (hh.2.2.2.2.1.symm.trans c_47) (by decide) | exact hh.2.2.2.2.2 c_58)]; exact hD) hS d_Mo_common_63 ?_
              rw [mcoR, if_neg (by simp [c_10, c_18]), if_neg (by intro hh; rcases hh with hh | hh | hh; exact c_25 hh; exact absurd (hh.symm.trans c_37) (by decide); exact absurd (hh.symm.trans c_47) (by decide)), if_pos c_58]
          · -- 47: not taken
            refine lv_bipush (v := (-2)) hx hb d_Mo_common_50 (by decide) ?_
            refine hret _ _ _ _ _ (by rw [if_neg (by intro hh; first | exact absurd (hh.1.symm.trans c_10) (by decide) | exact absurd (hh.2.1.symm.trans c_18) (by decide) | exact hh.2.2.1 c_25 | exact absurd (hh.2.2.2.1.symm.trans c_37) (by decide) | exact absurd (hh.2.2.2.2.1.symm.trans c_47) (by decide) | exact hh.2.2.2.2.2 c_58)]; exact hP) (by rw [if_neg (by intro hh; first | exact absurd (hh.1.symm.trans c_10) (by decide) | exact absurd (hh.2.1.symm.trans c_18) (by decide) | exact hh.2.2.1 c_25 | exact absurd (hh.2.2.2.1.symm.trans c_37) (by decide) | exact absurd (hh.2.2.2.2.1.symm.trans c_47) (by decide) | exact hh.2.2.2.2.2 c_58)]; exact hD) hS d_Mo_common_52 ?_
            rw [mcoR, if_neg (by simp [c_10, c_18]), if_pos (by first | exact Or.inl c_25 | exact Or.inr (Or.inl c_37) | exact Or.inr (Or.inr c_47))]
    · -- 18: not taken
      refine lv_iconst (v := (-1)) hx hb d_Mo_common_21 (by decide) ?_
      refine hret _ _ _ _ _ (by rw [if_neg (by intro hh; first | exact absurd (hh.1.symm.trans c_10) (by decide) | exact absurd (hh.2.1.symm.trans c_18) (by decide) | exact hh.2.2.1 c_25 | exact absurd (hh.2.2.2.1.symm.trans c_37) (by decide) | exact absurd (hh.2.2.2.2.1.symm.trans c_47) (by decide) | exact hh.2.2.2.2.2 c_58)]; exact hP) (by rw [if_neg (by intro hh; first | exact absurd (hh.1.symm.trans c_10) (by decide) | exact absurd (hh.2.1.symm.trans c_18) (by decide) | exact hh.2.2.1 c_25 | exact absurd (hh.2.2.2.1.symm.trans c_37) (by decide) | exact absurd (hh.2.2.2.2.1.symm.trans c_47) (by decide) | exact hh.2.2.2.2.2 c_58)]; exact hD) hS d_Mo_common_22 ?_
      rw [mcoR, if_pos (by first | exact Or.inl c_10 | exact Or.inr c_18)]
set_option maxHeartbeats 4000000 in
set_option maxRecDepth 100000 in
theorem k_Mo_bit (l : Launch) (g : va_G) (b : Nat → Nat) (cI cJ cZ : ClassId) (f0 : Nat) (mn : Nat) (mv : Nat) (mg : Nat) (mk : Nat → Nat) (mo : Nat → Nat) (mu : Nat → Nat) (md : Nat → Nat) (ms : Nat → Nat) (mb : Nat → Nat) (mc : Nat) (m1 : Nat → Nat) (m2 : Nat → Nat) (m3 : Nat → Nat) (m4 : Nat → Nat) (we : Bool) (ud : Nat → Bool) (my : Nat) (ea : Nat → Nat) (od : Nat) (oo : Nat → Nat) (dn : Nat → Bool) (va : Nat → Nat) (ho : Nat → Bool) (wt : Nat → Nat) (cm : Nat) (co : Nat → Nat) (te : Nat → Nat) (tm : Nat) (gs : Nat) (gl : Nat → Nat) (rs : Nat) (rg : Nat → Nat) (rp : Nat → Nat) (rt : Nat → Nat) (i : Nat) (hi : i < my) (hmy : my ≤ 12) : ct_i l g vwCl (tyM cI cJ cZ) y_Mo_bit c_Mo_bit 2 (some .int) ({ frames := 0, cells := 0, slots := 0, locals := 0 } : Room) [.ref (b 0), .int (nI i)] (moW b cI cJ cZ f0 mn mv mg mk mo mu md ms mb mc m1 m2 m3 m4 we ud my ea od oo dn va ho wt cm co te tm gs gl rs rg rp rt) (moW b cI cJ cZ f0 mn mv mg mk mo mu md ms mb mc m1 m2 m3 m4 we ud my ea od oo dn va ho wt cm co te tm gs gl rs rg rp rt) (nI (2 ^ (my - 1 - i))) := by
  refine ct_i.intro (by decide) (Nat.le_of_ble_eq_true rfl) ?_
  intro p e s m args below meth c Q A ls hx hb hml hT hown hA hK hN hret hP hD hS hl
  have hown : s.vm.findClass R_Mo = some m.cls := hown
  have hl : lv_has ls 2 [(0, .ref (b 0)), (1, .int (nI i))] := hl
  refine lv_iconst (v := (nI 1)) hx hb d_Mo_bit_0 (by decide) ?_
  refine lv_aload_n hx hb d_Mo_bit_1 rfl (lv_at hl 0 rfl) ?_
  refine va_get (D := g) (ci := 8) (v := .int (nI my)) (C := R_Mo) (T := F_Mo) (N := 35) hx hb hT i_Mo hown hK hP 0 rfl rfl 17 (by decide) (hT _ tw_638) (fun _ h9 => h9) rfl d_Mo_bit_2 ?_
  refine lv_iconst (v := (nI 1)) hx hb d_Mo_bit_5 (by decide) ?_
  refine lv_isub hx hb d_Mo_bit_6 ?_
  refine my_ei (pk_sub (a := my) (b := 1) (by omega)) ?_
  refine lv_iload_n hx hb d_Mo_bit_7 rfl (lv_at hl 1 rfl) ?_
  refine lv_isub hx hb d_Mo_bit_8 ?_
  refine my_ei (pk_sub (a := my - 1) (b := i) (by omega)) ?_
  refine lv_ishl hx hb d_Mo_bit_9 ?_
  refine my_ei (nx_shl1 ((my - 1) - i) (by omega)) ?_
  refine hret _ _ _ _ _ hP hD hS d_Mo_bit_10 ?_
  rfl
set_option maxHeartbeats 4000000 in
set_option maxRecDepth 100000 in
theorem k_Mo_bitsOf (l : Launch) (g : va_G) (b : Nat → Nat) (cI cJ cZ : ClassId) (f0 : Nat) (mn : Nat) (mv : Nat) (mg : Nat) (mk : Nat → Nat) (mo : Nat → Nat) (mu : Nat → Nat) (md : Nat → Nat) (ms : Nat → Nat) (mb : Nat → Nat) (mc : Nat) (m1 : Nat → Nat) (m2 : Nat → Nat) (m3 : Nat → Nat) (m4 : Nat → Nat) (we : Bool) (ud : Nat → Bool) (my : Nat) (ea : Nat → Nat) (od : Nat) (oo : Nat → Nat) (dn : Nat → Bool) (va : Nat → Nat) (ho : Nat → Bool) (wt : Nat → Nat) (cm : Nat) (co : Nat → Nat) (te : Nat → Nat) (tm : Nat) (gs : Nat) (gl : Nat → Nat) (rs : Nat) (rg : Nat → Nat) (rp : Nat → Nat) (rt : Nat → Nat) (x : Nat) (hx1 : x ≤ 32) (hmy : my ≤ 12) (hea : ∀ j, ea j ≤ 32) : ct_i l g vwCl (tyM cI cJ cZ) y_Mo_bitsOf c_Mo_bitsOf 4 (some .int) ({ frames := 1, cells := 0, slots := 0, locals := 21 } : Room) [.ref (b 0), .int (nI x)] (moW b cI cJ cZ f0 mn mv mg mk mo mu md ms mb mc m1 m2 m3 m4 we ud my ea od oo dn va ho wt cm co te tm gs gl rs rg rp rt) (moW b cI cJ cZ f0 mn mv mg mk mo mu md ms mb mc m1 m2 m3 m4 we ud my ea od oo dn va ho wt cm co te tm gs gl rs rg rp rt) (nI (biF ea my x my)) := by
  refine ct_i.intro (by decide) (Nat.le_of_ble_eq_true rfl) ?_
  intro p e s m args below meth c Q A ls hx hb hml hT hown hA hK hN hret hP hD hS hl
  have hown : s.vm.findClass R_Mo = some m.cls := hown
  have hl : lv_has ls 4 [(0, .ref (b 0)), (1, .int (nI x))] := hl
  refine lv_iconst (v := (nI 0)) hx hb d_Mo_bitsOf_0 (by decide) ?_
  refine lv_istore_n (lv' := [(2, .int (nI 0)), (0, .ref (b 0)), (1, .int (nI x))]) hx hb d_Mo_bitsOf_1 rfl hl (by decide) rfl (fun ls hl => ?_)
  refine lv_iconst (v := (nI 0)) hx hb d_Mo_bitsOf_2 (by decide) ?_
  refine lv_istore_n (lv' := [(3, .int (nI 0)), (2, .int (nI 0)), (0, .ref (b 0)), (1, .int (nI x))]) hx hb d_Mo_bitsOf_3 rfl hl (by decide) rfl (fun ls hl => ?_)
  have lp_4 : ∀ (k : Nat) (i : Nat) (f : Nat) (H : Heap) (locs : List Loc) (ls : Array Slot), (my < i + k) → (i ≤ my) → (f = biF ea my x i) → va_P g vwCl (moW b cI cJ cZ f0 mn mv mg mk mo mu md ms mb mc m1 m2 m3 m4 we ud my ea od oo dn va ho wt cm co te tm gs gl rs rg rp rt) H → va_D A (moW b cI cJ cZ f0 mn mv mg mk mo mu md ms mb mc m1 m2 m3 m4 we ud my ea od oo dn va ho wt cm co te tm gs gl rs rg rp rt) → va_S A s.heap H locs → lv_has ls 4 [(0, .ref (b 0)), (1, .int (nI x)), (2, .int (nI f)), (3, .int (nI i))] → W p l e ({ frames := 1, cells := 0, slots := 0, locals := 21 } : Room) s m args below meth c H locs 0 0 Q (F0 m 4 ls []) := by
    intro k
    induction k with
    | zero =>
      intro i f H locs ls hk hi hf hP hD hS hl
      exfalso
      omega
    | succ k ih_4 =>
      intro i f H locs ls hk hi hf hP hD hS hl
      refine lv_iload_n hx hb d_Mo_bitsOf_4 rfl (lv_at hl 3 rfl) ?_
      refine lv_aload_n hx hb d_Mo_bitsOf_5 rfl (lv_at hl 0 rfl) ?_
      refine va_get (D := g) (ci := 8) (v := .int (nI my)) (C := R_Mo) (T := F_Mo) (N := 35) hx hb hT i_Mo hown hK hP 0 rfl rfl 17 (by decide) (hT _ tw_638) (fun _ h9 => h9) rfl d_Mo_bitsOf_6 ?_
      refine my_icmp_ge (tgt := 40) (a := i) (b := my) hx hb d_Mo_bitsOf_9 (by decide) (by omega) (by omega) (fun c_9 => ?_) (fun c_9 => ?_)
      · -- 9: taken
        refine lv_iload_n hx hb d_Mo_bitsOf_40 rfl (lv_at hl 2 rfl) ?_
        refine hret _ _ _ _ _ hP hD hS d_Mo_bitsOf_41 ?_
        rw [hf, show i = my by omega]
      · -- 9: not taken
        refine lv_aload_n hx hb d_Mo_bitsOf_12 rfl (lv_at hl 0 rfl) ?_
        refine va_get (D := g) (ci := 8) (v := .ref (b 12)) (C := R_Mo) (T := F_Mo) (N := 35) hx hb hT i_Mo hown hK hP 0 rfl rfl 18 (by decide) (hT _ tw_639) (fun _ h9 => h9) rfl d_Mo_bitsOf_13 ?_
        refine lv_iload_n hx hb d_Mo_bitsOf_16 rfl (lv_at hl 3 rfl) ?_
        refine my_iald (v := (nI (ea i))) (i := i) hx hb hK hP 12 0 rfl rfl (by omega) (by decide) rfl d_Mo_bitsOf_17 ?_
        refine lv_iload_n hx hb d_Mo_bitsOf_18 rfl (lv_at hl 1 rfl) ?_
        have q1 := hea i
        refine my_icmp_ne (tgt := 32) (a := ea i) (b := x) hx hb d_Mo_bitsOf_19 (by decide) (by omega) (by omega) (fun c_19 => ?_) (fun c_19 => ?_)
        · -- 19: taken
          refine lv_iload_n hx hb d_Mo_bitsOf_32 rfl (lv_at hl 2 rfl) ?_
          refine lv_istore_n (lv' := [(2, .int (nI f)), (0, .ref (b 0)), (1, .int (nI x)), (3, .int (nI i))]) hx hb d_Mo_bitsOf_33 rfl hl (by decide) rfl (fun ls hl => ?_)
          refine lv_iinc (v := (nI (i + 1))) (lv' := [(3, .int (nI (i + 1))), (2, .int (nI f)), (0, .ref (b 0)), (1, .int (nI x))]) hx hb d_Mo_bitsOf_34 hl (k := 3) rfl (nI_1 i) (by decide) rfl (fun ls hl => ?_)
          refine lv_goto (tgt := 4) hx hb d_Mo_bitsOf_37 (by decide) ?_
          refine ih_4 _ _ _ _ _ ?_ ?_ ?_ hP hD hS (lv_sub hl [2, 3, 1, 0] rfl)
          · omega
          · omega
          · rw [hf]; simp [biF, c_19]
        · -- 19: not taken
          refine lv_iload_n hx hb d_Mo_bitsOf_22 rfl (lv_at hl 2 rfl) ?_
          refine lv_aload_n hx hb d_Mo_bitsOf_23 rfl (lv_at hl 0 rfl) ?_
          refine lv_iload_n hx hb d_Mo_bitsOf_24 rfl (lv_at hl 3 rfl) ?_
          refine my_V_i (q0 := 0) (ci := 8) (C := R_Mo) (As := [.int (nI i)]) (n := 1) (k_Mo_bit l g b cI cJ cZ f0 mn mv mg mk mo mu md ms mb mc m1 m2 m3 m4 we ud my ea od oo dn va ho wt cm co te tm gs gl rs rg rp rt i (by omega) hmy) hx hb hml hown hT hN tw_773 tw_775 tp_21 tw_9 tw_776 (by decide +kernel) rfl rfl ⟨Nat.le_of_ble_eq_true rfl, Nat.le_of_ble_eq_true rfl⟩ ⟨Nat.zero_le _, Nat.zero_le _⟩ hK hP hD hS hA rfl rfl rfl hl rfl (Nat.le_of_ble_eq_true rfl) d_Mo_bitsOf_25 (fun H locs hP hD hS => ?_)
          refine lv_ior hx hb d_Mo_bitsOf_28 ?_
          refine my_ei (nx_or f (2 ^ (my - 1 - i))) ?_
          refine lv_goto (tgt := 33) hx hb d_Mo_bitsOf_29 (by decide) ?_
          refine lv_istore_n (lv' := [(2, .int (nI (f ||| (2 ^ (my - 1 - i))))), (0, .ref (b 0)), (1, .int (nI x)), (3, .int (nI i))]) hx hb d_Mo_bitsOf_33 rfl hl (by decide) rfl (fun ls hl => ?_)
          refine lv_iinc (v := (nI (i + 1))) (lv' := [(3, .int (nI (i + 1))), (2, .int (nI (f ||| (2 ^ (my - 1 - i))))), (0, .ref (b 0)), (1, .int (nI x))]) hx hb d_Mo_bitsOf_34 hl (k := 3) rfl (nI_1 i) (by decide) rfl (fun ls hl => ?_)
          refine lv_goto (tgt := 4) hx hb d_Mo_bitsOf_37 (by decide) ?_
          refine ih_4 _ _ _ _ _ ?_ ?_ ?_ hP hD hS (lv_sub hl [2, 3, 1, 0] rfl)
          · omega
          · omega
          · rw [hf]; simp [biF, c_19]
  refine lp_4 (my + 1) _ _ _ _ _ ?_ ?_ ?_ hP hD hS (lv_sub hl [2, 3, 1, 0] rfl)
  · omega
  · omega
  · rfl
set_option maxHeartbeats 4000000 in
set_option maxRecDepth 100000 in
theorem k_Mo_isMinimal (l : Launch) (g : va_G) (b : Nat → Nat) (cI cJ cZ : ClassId) (f0 : Nat) (mn : Nat) (mv : Nat) (mg : Nat) (mk : Nat → Nat) (mo : Nat → Nat) (mu : Nat → Nat) (md : Nat → Nat) (ms : Nat → Nat) (mb : Nat → Nat) (mc : Nat) (m1 : Nat → Nat) (m2 : Nat → Nat) (m3 : Nat → Nat) (m4 : Nat → Nat) (we : Bool) (ud : Nat → Bool) (my : Nat) (ea : Nat → Nat) (od : Nat) (oo : Nat → Nat) (dn : Nat → Bool) (va : Nat → Nat) (ho : Nat → Bool) (wt : Nat → Nat) (cm : Nat) (co : Nat → Nat) (te : Nat → Nat) (tm : Nat) (gs : Nat) (gl : Nat → Nat) (rs : Nat) (rg : Nat → Nat) (rp : Nat → Nat) (rt : Nat → Nat) (s1 : Nat) (hs1 : s1 < 4096) (hmy : my ≤ 12) : ct_i l g vwCl (tyM cI cJ cZ) y_Mo_isMinimal c_Mo_isMinimal 4 (some .boolean) ({ frames := 1, cells := 0, slots := 0, locals := 21 } : Room) [.ref (b 0), .int (nI s1)] (moW b cI cJ cZ f0 mn mv mg mk mo mu md ms mb mc m1 m2 m3 m4 we ud my ea od oo dn va ho wt cm co te tm gs gl rs rg rp rt) (moW b cI cJ cZ f0 mn mv mg mk mo mu md ms mb mc m1 m2 m3 m4 we ud my ea od oo dn va ho wt cm co te tm gs gl rs rg rp rt) (b2 (mmF ho my s1 my)) := by
  refine ct_i.introZ (by decide) (Nat.le_of_ble_eq_true rfl) ?_
  intro p e s m args below meth c Q A ls hx hb hml hT hown hA hK hN hret hP hD hS hl
  have hown : s.vm.findClass R_Mo = some m.cls := hown
  have hl : lv_has ls 4 [(0, .ref (b 0)), (1, .int (nI s1))] := hl
  refine lv_aload_n hx hb d_Mo_isMinimal_0 rfl (lv_at hl 0 rfl) ?_
  refine va_get (D := g) (ci := 8) (v := .ref (b 16)) (C := R_Mo) (T := F_Mo) (N := 35) hx hb hT i_Mo hown hK hP 0 rfl rfl 23 (by decide) (hT _ tw_644) (fun _ h9 => h9) rfl d_Mo_isMinimal_1 ?_
  refine lv_iload_n hx hb d_Mo_isMinimal_4 rfl (lv_at hl 1 rfl) ?_
  refine my_zald (v := (b2 (ho s1))) (i := s1) hx hb hK hP 16 2 rfl rfl (by omega) (by decide) rfl d_Mo_isMinimal_5 ?_
  refine lv_istore_n (lv' := [(2, .int (b2 (ho s1))), (0, .ref (b 0)), (1, .int (nI s1))]) hx hb d_Mo_isMinimal_6 rfl hl (by decide) rfl (fun ls hl => ?_)
  refine lv_iconst (v := (nI 0)) hx hb d_Mo_isMinimal_7 (by decide) ?_
  refine lv_istore_n (lv' := [(3, .int (nI 0)), (2, .int (b2 (ho s1))), (0, .ref (b 0)), (1, .int (nI s1))]) hx hb d_Mo_isMinimal_8 rfl hl (by decide) rfl (fun ls hl => ?_)
  have lp_9 : ∀ (k : Nat) (i : Nat) (r : Bool) (H : Heap) (locs : List Loc) (ls : Array Slot), (my < i + k) → (i ≤ my) → (r = mmF ho my s1 i) → va_P g vwCl (moW b cI cJ cZ f0 mn mv mg mk mo mu md ms mb mc m1 m2 m3 m4 we ud my ea od oo dn va ho wt cm co te tm gs gl rs rg rp rt) H → va_D A (moW b cI cJ cZ f0 mn mv mg mk mo mu md ms mb mc m1 m2 m3 m4 we ud my ea od oo dn va ho wt cm co te tm gs gl rs rg rp rt) → va_S A s.heap H locs → lv_has ls 4 [(0, .ref (b 0)), (1, .int (nI s1)), (2, .int (b2 r)), (3, .int (nI i))] → W p l e ({ frames := 1, cells := 0, slots := 0, locals := 21 } : Room) s m args below meth c H locs 0 0 Q (F0 m 9 ls []) := by
    intro k
    induction k with
    | zero =>
      intro i r H locs ls hk hi hf hP hD hS hl
      exfalso
      omega
    | succ k ih_9 =>
      intro i r H locs ls hk hi hf hP hD hS hl
      refine lv_iload_n hx hb d_Mo_isMinimal_9 rfl (lv_at hl 3 rfl) ?_
      refine lv_aload_n hx hb d_Mo_isMinimal_10 rfl (lv_at hl 0 rfl) ?_
      refine va_get (D := g) (ci := 8) (v := .int (nI my)) (C := R_Mo) (T := F_Mo) (N := 35) hx hb hT i_Mo hown hK hP 0 rfl rfl 17 (by decide) (hT _ tw_638) (fun _ h9 => h9) rfl d_Mo_isMinimal_11 ?_
      refine my_icmp_ge (tgt := 58) (a := i) (b := my) hx hb d_Mo_isMinimal_14 (by decide) (by omega) (by omega) (fun c_14 => ?_) (fun c_14 => ?_)
      · -- 14: taken
        refine lv_iload_n hx hb d_Mo_isMinimal_58 rfl (lv_at hl 2 rfl) ?_
        refine hret _ _ _ _ _ hP hD hS d_Mo_isMinimal_59 ?_
        exact congrArg b2 (by rw [hf, show i = my by omega])
      · -- 14: not taken
        refine lv_iload_n hx hb d_Mo_isMinimal_17 rfl (lv_at hl 2 rfl) ?_
        refine my_if_eq_b (tgt := 50) hx hb d_Mo_isMinimal_18 (by decide) (fun c_18 => ?_) (fun c_18 => ?_)
        · -- 18: taken
          refine lv_iconst (v := (nI 0)) hx hb d_Mo_isMinimal_50 (by decide) ?_
          refine lv_istore_n (lv' := [(2, .int (nI 0)), (0, .ref (b 0)), (1, .int (nI s1)), (3, .int (nI i))]) hx hb d_Mo_isMinimal_51 rfl hl (by decide) rfl (fun ls hl => ?_)
          refine lv_iinc (v := (nI (i + 1))) (lv' := [(3, .int (nI (i + 1))), (2, .int (nI 0)), (0, .ref (b 0)), (1, .int (nI s1))]) hx hb d_Mo_isMinimal_52 hl (k := 3) rfl (nI_1 i) (by decide) rfl (fun ls hl => ?_)
          refine lv_goto (tgt := 9) hx hb d_Mo_isMinimal_55 (by decide) ?_
          refine ih_9 _ false _ _ _ ?_ ?_ ?_ hP hD hS (lv_sub hl [2, 3, 1, 0] rfl)
          · omega
          · omega
          · have e1 := hf.symm.trans c_18
            simp [mmF, e1, ]
        · -- 18: not taken
          refine lv_iload_n hx hb d_Mo_isMinimal_21 rfl (lv_at hl 1 rfl) ?_
          refine lv_aload_n hx hb d_Mo_isMinimal_22 rfl (lv_at hl 0 rfl) ?_
          refine lv_iload_n hx hb d_Mo_isMinimal_23 rfl (lv_at hl 3 rfl) ?_
          refine my_V_i (q0 := 0) (ci := 8) (C := R_Mo) (As := [.int (nI i)]) (n := 1) (k_Mo_bit l g b cI cJ cZ f0 mn mv mg mk mo mu md ms mb mc m1 m2 m3 m4 we ud my ea od oo dn va ho wt cm co te tm gs gl rs rg rp rt i (by omega) hmy) hx hb hml hown hT hN tw_773 tw_775 tp_21 tw_9 tw_776 (by decide +kernel) rfl rfl ⟨Nat.le_of_ble_eq_true rfl, Nat.le_of_ble_eq_true rfl⟩ ⟨Nat.zero_le _, Nat.zero_le _⟩ hK hP hD hS hA rfl rfl rfl hl rfl (Nat.le_of_ble_eq_true rfl) d_Mo_isMinimal_24 (fun H locs hP hD hS => ?_)
          refine lv_iand hx hb d_Mo_isMinimal_27 ?_
          refine my_ei (nx_and s1 (2 ^ (my - 1 - i))) ?_
          have q2 : s1 &&& 2 ^ (my - 1 - i) < 4096 := Nat.lt_of_le_of_lt Nat.and_le_left hs1
          refine my_if_eq (tgt := 46) (a := s1 &&& (2 ^ (my - 1 - i))) hx hb d_Mo_isMinimal_28 (by decide) (by omega) (fun c_28 => ?_) (fun c_28 => ?_)
          · -- 28: taken
            refine lv_iconst (v := (nI 1)) hx hb d_Mo_isMinimal_46 (by decide) ?_
            refine lv_goto (tgt := 51) hx hb d_Mo_isMinimal_47 (by decide) ?_
            refine lv_istore_n (lv' := [(2, .int (nI 1)), (0, .ref (b 0)), (1, .int (nI s1)), (3, .int (nI i))]) hx hb d_Mo_isMinimal_51 rfl hl (by decide) rfl (fun ls hl => ?_)
            refine lv_iinc (v := (nI (i + 1))) (lv' := [(3, .int (nI (i + 1))), (2, .int (nI 1)), (0, .ref (b 0)), (1, .int (nI s1))]) hx hb d_Mo_isMinimal_52 hl (k := 3) rfl (nI_1 i) (by decide) rfl (fun ls hl => ?_)
            refine lv_goto (tgt := 9) hx hb d_Mo_isMinimal_55 (by decide) ?_
            refine ih_9 _ true _ _ _ ?_ ?_ ?_ hP hD hS (lv_sub hl [2, 3, 1, 0] rfl)
            · omega
            · omega
            · have e1 := hf.symm.trans c_18
              simp [mmF, e1, c_28]
          · -- 28: not taken
            refine lv_aload_n hx hb d_Mo_isMinimal_31 rfl (lv_at hl 0 rfl) ?_
            refine va_get (D := g) (ci := 8) (v := .ref (b 16)) (C := R_Mo) (T := F_Mo) (N := 35) hx hb hT i_Mo hown hK hP 0 rfl rfl 23 (by decide) (hT _ tw_644) (fun _ h9 => h9) rfl d_Mo_isMinimal_32 ?_
            refine lv_iload_n hx hb d_Mo_isMinimal_35 rfl (lv_at hl 1 rfl) ?_
            refine lv_aload_n hx hb d_Mo_isMinimal_36 rfl (lv_at hl 0 rfl) ?_
            refine lv_iload_n hx hb d_Mo_isMinimal_37 rfl (lv_at hl 3 rfl) ?_
            refine my_V_i (q0 := 0) (ci := 8) (C := R_Mo) (As := [.int (nI i)]) (n := 1) (k_Mo_bit l g b cI cJ cZ f0 mn mv mg mk mo mu md ms mb mc m1 m2 m3 m4 we ud my ea od oo dn va ho wt cm co te tm gs gl rs rg rp rt i (by omega) hmy) hx hb hml hown hT hN tw_773 tw_775 tp_21 tw_9 tw_776 (by decide +kernel) rfl rfl ⟨Nat.le_of_ble_eq_true rfl, Nat.le_of_ble_eq_true rfl⟩ ⟨Nat.zero_le _, Nat.zero_le _⟩ hK hP hD hS hA rfl rfl rfl hl rfl (Nat.le_of_ble_eq_true rfl) d_Mo_isMinimal_38 (fun H locs hP hD hS => ?_)
            refine lv_ixor hx hb d_Mo_isMinimal_41 ?_
            refine my_ei (nx_xor s1 (2 ^ (my - 1 - i))) ?_
            have q3 : s1 ^^^ 2 ^ (my - 1 - i) < 4096 := Nat.xor_lt_two_pow (n := 12) hs1 (Nat.pow_lt_pow_right (by decide) (by omega))
            refine my_zald (v := (b2 (ho (s1 ^^^ (2 ^ (my - 1 - i)))))) (i := s1 ^^^ (2 ^ (my - 1 - i))) hx hb hK hP 16 2 rfl rfl (by omega) (by decide) rfl d_Mo_isMinimal_42 ?_
            refine my_if_ne_b (tgt := 50) hx hb d_Mo_isMinimal_43 (by decide) (fun c_43 => ?_) (fun c_43 => ?_)
            · -- 43: taken
              refine lv_iconst (v := (nI 0)) hx hb d_Mo_isMinimal_50 (by decide) ?_
              refine lv_istore_n (lv' := [(2, .int (nI 0)), (0, .ref (b 0)), (1, .int (nI s1)), (3, .int (nI i))]) hx hb d_Mo_isMinimal_51 rfl hl (by decide) rfl (fun ls hl => ?_)
              refine lv_iinc (v := (nI (i + 1))) (lv' := [(3, .int (nI (i + 1))), (2, .int (nI 0)), (0, .ref (b 0)), (1, .int (nI s1))]) hx hb d_Mo_isMinimal_52 hl (k := 3) rfl (nI_1 i) (by decide) rfl (fun ls hl => ?_)
              refine lv_goto (tgt := 9) hx hb d_Mo_isMinimal_55 (by decide) ?_
              refine ih_9 _ false _ _ _ ?_ ?_ ?_ hP hD hS (lv_sub hl [2, 3, 1, 0] rfl)
              · omega
              · omega
              · have e1 := hf.symm.trans c_18
                simp [mmF, e1, show ¬ s1 &&& 2 ^ (my - 1 - i) = 0 by omega, c_43]
            · -- 43: not taken
              refine lv_iconst (v := (nI 1)) hx hb d_Mo_isMinimal_46 (by decide) ?_
              refine lv_goto (tgt := 51) hx hb d_Mo_isMinimal_47 (by decide) ?_
              refine lv_istore_n (lv' := [(2, .int (nI 1)), (0, .ref (b 0)), (1, .int (nI s1)), (3, .int (nI i))]) hx hb d_Mo_isMinimal_51 rfl hl (by decide) rfl (fun ls hl => ?_)
              refine lv_iinc (v := (nI (i + 1))) (lv' := [(3, .int (nI (i + 1))), (2, .int (nI 1)), (0, .ref (b 0)), (1, .int (nI s1))]) hx hb d_Mo_isMinimal_52 hl (k := 3) rfl (nI_1 i) (by decide) rfl (fun ls hl => ?_)
              refine lv_goto (tgt := 9) hx hb d_Mo_isMinimal_55 (by decide) ?_
              refine ih_9 _ true _ _ _ ?_ ?_ ?_ hP hD hS (lv_sub hl [2, 3, 1, 0] rfl)
              · omega
              · omega
              · have e1 := hf.symm.trans c_18
                simp [mmF, e1, show ¬ s1 &&& 2 ^ (my - 1 - i) = 0 by omega, c_43]
  refine lp_9 (my + 1) _ (ho s1) _ _ _ ?_ ?_ ?_ hP hD hS (lv_sub hl [2, 3, 1, 0] rfl)
  · omega
  · omega
  · rfl
set_option maxHeartbeats 4000000 in
set_option maxRecDepth 100000 in
theorem k_Mo_isReady (l : Launch) (g : va_G) (b : Nat → Nat) (cI cJ cZ : ClassId) (f0 : Nat) (mn : Nat) (mv : Nat) (mg : Nat) (mk : Nat → Nat) (mo : Nat → Nat) (mu : Nat → Nat) (md : Nat → Nat) (ms : Nat → Nat) (mb : Nat → Nat) (mc : Nat) (m1 : Nat → Nat) (m2 : Nat → Nat) (m3 : Nat → Nat) (m4 : Nat → Nat) (we : Bool) (ud : Nat → Bool) (my : Nat) (ea : Nat → Nat) (od : Nat) (oo : Nat → Nat) (dn : Nat → Bool) (va : Nat → Nat) (ho : Nat → Bool) (wt : Nat → Nat) (cm : Nat) (co : Nat → Nat) (te : Nat → Nat) (tm : Nat) (gs : Nat) (gl : Nat → Nat) (rs : Nat) (rg : Nat → Nat) (rp : Nat → Nat) (rt : Nat → Nat) (x : Nat) (hx1 : x ≤ 32) (hms : ∀ j, ms j ≤ 10) (hmb : ∀ j, mb j ≤ 32) : ct_i l g vwCl (tyM cI cJ cZ) y_Mo_isReady c_Mo_isReady 4 (some .boolean) ({ frames := 0, cells := 0, slots := 0, locals := 0 } : Room) [.ref (b 0), .int (nI x)] (moW b cI cJ cZ f0 mn mv mg mk mo mu md ms mb mc m1 m2 m3 m4 we ud my ea od oo dn va ho wt cm co te tm gs gl rs rg rp rt) (moW b cI cJ cZ f0 mn mv mg mk mo mu md ms mb mc m1 m2 m3 m4 we ud my ea od oo dn va ho wt cm co te tm gs gl rs rg rp rt) (b2 (rdF dn mb x (ms x))) := by
  refine ct_i.introZ (by decide) (Nat.le_of_ble_eq_true rfl) ?_
  intro p e s m args below meth c Q A ls hx hb hml hT hown hA hK hN hret hP hD hS hl
  have hown : s.vm.findClass R_Mo = some m.cls := hown
  have hl : lv_has ls 4 [(0, .ref (b 0)), (1, .int (nI x))] := hl
  have q1 := hms x
  refine lv_iconst (v := (nI 1)) hx hb d_Mo_isReady_0 (by decide) ?_
  refine lv_istore_n (lv' := [(2, .int (nI 1)), (0, .ref (b 0)), (1, .int (nI x))]) hx hb d_Mo_isReady_1 rfl hl (by decide) rfl (fun ls hl => ?_)
  refine lv_iconst (v := (nI 0)) hx hb d_Mo_isReady_2 (by decide) ?_
  refine lv_istore_n (lv' := [(3, .int (nI 0)), (2, .int (nI 1)), (0, .ref (b 0)), (1, .int (nI x))]) hx hb d_Mo_isReady_3 rfl hl (by decide) rfl (fun ls hl => ?_)
  have lp_4 : ∀ (k : Nat) (i : Nat) (r : Bool) (H : Heap) (locs : List Loc) (ls : Array Slot), (ms x < i + k) → (i ≤ ms x) → (r = rdF dn mb x i) → va_P g vwCl (moW b cI cJ cZ f0 mn mv mg mk mo mu md ms mb mc m1 m2 m3 m4 we ud my ea od oo dn va ho wt cm co te tm gs gl rs rg rp rt) H → va_D A (moW b cI cJ cZ f0 mn mv mg mk mo mu md ms mb mc m1 m2 m3 m4 we ud my ea od oo dn va ho wt cm co te tm gs gl rs rg rp rt) → va_S A s.heap H locs → lv_has ls 4 [(0, .ref (b 0)), (1, .int (nI x)), (2, .int (b2 r)), (3, .int (nI i))] → W p l e ({ frames := 0, cells := 0, slots := 0, locals := 0 } : Room) s m args below meth c H locs 0 0 Q (F0 m 4 ls []) := by
    intro k
    induction k with
    | zero =>
      intro i r H locs ls hk hi hf hP hD hS hl
      exfalso
      omega
    | succ k ih_4 =>
      intro i r H locs ls hk hi hf hP hD hS hl
      refine lv_iload_n hx hb d_Mo_isReady_4 rfl (lv_at hl 3 rfl) ?_
      refine lv_aload_n hx hb d_Mo_isReady_5 rfl (lv_at hl 0 rfl) ?_
      refine va_get (D := g) (ci := 8) (v := .ref (b 5)) (C := R_Mo) (T := F_Mo) (N := 35) hx hb hT i_Mo hown hK hP 0 rfl rfl 8 (by decide) (hT _ tw_629) (fun _ h9 => h9) rfl d_Mo_isReady_6 ?_
      refine lv_iload_n hx hb d_Mo_isReady_9 rfl (lv_at hl 1 rfl) ?_
      refine my_iald (v := (nI (ms x))) (i := x) hx hb hK hP 5 0 rfl rfl (by omega) (by decide) rfl d_Mo_isReady_10 ?_
      refine my_icmp_ge (tgt := 49) (a := i) (b := ms x) hx hb d_Mo_isReady_11 (by decide) (by omega) (by omega) (fun c_11 => ?_) (fun c_11 => ?_)
      · -- 11: taken
        refine lv_iload_n hx hb d_Mo_isReady_49 rfl (lv_at hl 2 rfl) ?_
        refine hret _ _ _ _ _ hP hD hS d_Mo_isReady_50 ?_
        exact congrArg b2 (by rw [hf, show i = ms x by omega])
      · -- 11: not taken
        refine lv_iload_n hx hb d_Mo_isReady_14 rfl (lv_at hl 2 rfl) ?_
        refine my_if_eq_b (tgt := 41) hx hb d_Mo_isReady_15 (by decide) (fun c_15 => ?_) (fun c_15 => ?_)
        · -- 15: taken
          refine lv_iconst (v := (nI 0)) hx hb d_Mo_isReady_41 (by decide) ?_
          refine lv_istore_n (lv' := [(2, .int (nI 0)), (0, .ref (b 0)), (1, .int (nI x)), (3, .int (nI i))]) hx hb d_Mo_isReady_42 rfl hl (by decide) rfl (fun ls hl => ?_)
          refine lv_iinc (v := (nI (i + 1))) (lv' := [(3, .int (nI (i + 1))), (2, .int (nI 0)), (0, .ref (b 0)), (1, .int (nI x))]) hx hb d_Mo_isReady_43 hl (k := 3) rfl (nI_1 i) (by decide) rfl (fun ls hl => ?_)
          refine lv_goto (tgt := 4) hx hb d_Mo_isReady_46 (by decide) ?_
          refine ih_4 _ false _ _ _ ?_ ?_ ?_ hP hD hS (lv_sub hl [2, 3, 1, 0] rfl)
          · omega
          · omega
          · have e1 := hf.symm.trans c_15
            simp [rdF, e1]
        · -- 15: not taken
          refine lv_aload_n hx hb d_Mo_isReady_18 rfl (lv_at hl 0 rfl) ?_
          refine va_get (D := g) (ci := 8) (v := .ref (b 14)) (C := R_Mo) (T := F_Mo) (N := 35) hx hb hT i_Mo hown hK hP 0 rfl rfl 21 (by decide) (hT _ tw_642) (fun _ h9 => h9) rfl d_Mo_isReady_19 ?_
          refine lv_aload_n hx hb d_Mo_isReady_22 rfl (lv_at hl 0 rfl) ?_
          refine va_get (D := g) (ci := 8) (v := .ref (b 6)) (C := R_Mo) (T := F_Mo) (N := 35) hx hb hT i_Mo hown hK hP 0 rfl rfl 9 (by decide) (hT _ tw_630) (fun _ h9 => h9) rfl d_Mo_isReady_23 ?_
          refine lv_bipush (v := (nI 10)) hx hb d_Mo_isReady_26 (by decide) ?_
          refine lv_iload_n hx hb d_Mo_isReady_28 rfl (lv_at hl 1 rfl) ?_
          refine lv_imul hx hb d_Mo_isReady_29 ?_
          refine my_ei (pk_mul 10 x) ?_
          refine lv_iload_n hx hb d_Mo_isReady_30 rfl (lv_at hl 3 rfl) ?_
          refine lv_iadd hx hb d_Mo_isReady_31 ?_
          refine my_ei (nI_add (10 * x) i) ?_
          refine my_iald (v := (nI (mb ((10 * x) + i)))) (i := (10 * x) + i) hx hb hK hP 6 0 rfl rfl (by omega) (by decide) rfl d_Mo_isReady_32 ?_
          have q2 := hmb (10 * x + i)
          refine my_zald (v := (b2 (dn (mb ((10 * x) + i))))) (i := mb ((10 * x) + i)) hx hb hK hP 14 2 rfl rfl (by omega) (by decide) rfl d_Mo_isReady_33 ?_
          refine my_if_eq_b (tgt := 41) hx hb d_Mo_isReady_34 (by decide) (fun c_34 => ?_) (fun c_34 => ?_)
          · -- 34: taken
            refine lv_iconst (v := (nI 0)) hx hb d_Mo_isReady_41 (by decide) ?_
            refine lv_istore_n (lv' := [(2, .int (nI 0)), (0, .ref (b 0)), (1, .int (nI x)), (3, .int (nI i))]) hx hb d_Mo_isReady_42 rfl hl (by decide) rfl (fun ls hl => ?_)
            refine lv_iinc (v := (nI (i + 1))) (lv' := [(3, .int (nI (i + 1))), (2, .int (nI 0)), (0, .ref (b 0)), (1, .int (nI x))]) hx hb d_Mo_isReady_43 hl (k := 3) rfl (nI_1 i) (by decide) rfl (fun ls hl => ?_)
            refine lv_goto (tgt := 4) hx hb d_Mo_isReady_46 (by decide) ?_
            refine ih_4 _ false _ _ _ ?_ ?_ ?_ hP hD hS (lv_sub hl [2, 3, 1, 0] rfl)
            · omega
            · omega
            · have e1 := hf.symm.trans c_15
              simp [rdF, e1, c_34]
          · -- 34: not taken
            refine lv_iconst (v := (nI 1)) hx hb d_Mo_isReady_37 (by decide) ?_
            refine lv_goto (tgt := 42) hx hb d_Mo_isReady_38 (by decide) ?_
            refine lv_istore_n (lv' := [(2, .int (nI 1)), (0, .ref (b 0)), (1, .int (nI x)), (3, .int (nI i))]) hx hb d_Mo_isReady_42 rfl hl (by decide) rfl (fun ls hl => ?_)
            refine lv_iinc (v := (nI (i + 1))) (lv' := [(3, .int (nI (i + 1))), (2, .int (nI 1)), (0, .ref (b 0)), (1, .int (nI x))]) hx hb d_Mo_isReady_43 hl (k := 3) rfl (nI_1 i) (by decide) rfl (fun ls hl => ?_)
            refine lv_goto (tgt := 4) hx hb d_Mo_isReady_46 (by decide) ?_
            refine ih_4 _ true _ _ _ ?_ ?_ ?_ hP hD hS (lv_sub hl [2, 3, 1, 0] rfl)
            · omega
            · omega
            · have e1 := hf.symm.trans c_15
              simp [rdF, e1, c_34]
  refine lp_4 (ms x + 1) _ true _ _ _ ?_ ?_ ?_ hP hD hS (lv_sub hl [2, 3, 1, 0] rfl)
  · omega
  · omega
  · rfl
set_option maxHeartbeats 4000000 in
set_option maxRecDepth 100000 in
theorem k_Mo_boundOfEvent (l : Launch) (g : va_G) (b : Nat → Nat) (cI cJ cZ : ClassId) (f0 : Nat) (mn : Nat) (mv : Nat) (mg : Nat) (mk : Nat → Nat) (mo : Nat → Nat) (mu : Nat → Nat) (md : Nat → Nat) (ms : Nat → Nat) (mb : Nat → Nat) (mc : Nat) (m1 : Nat → Nat) (m2 : Nat → Nat) (m3 : Nat → Nat) (m4 : Nat → Nat) (we : Bool) (ud : Nat → Bool) (my : Nat) (ea : Nat → Nat) (od : Nat) (oo : Nat → Nat) (dn : Nat → Bool) (va : Nat → Nat) (ho : Nat → Bool) (wt : Nat → Nat) (cm : Nat) (co : Nat → Nat) (te : Nat → Nat) (tm : Nat) (gs : Nat) (gl : Nat → Nat) (rs : Nat) (rg : Nat → Nat) (rp : Nat → Nat) (rt : Nat → Nat) (x : Nat) (hx1 : x ≤ 32) (hmc : mc ≤ 4) (hmu : ∀ j, mu j ≤ 10) (hmd0 : 0 < md x) (hmd : ∀ j, md j ≤ 10) (hm1 : ∀ j, m1 j ≤ 32) (hm2 : ∀ j, m2 j ≤ 32) (hm3 : ∀ j, m3 j ≤ 10) (hm4 : ∀ j, m4 j ≤ 10) (hm40 : ∀ j, j < mc → 0 < m4 j) : ct_i l g vwCl (tyM cI cJ cZ) y_Mo_boundOfEvent c_Mo_boundOfEvent 4 (some .int) ({ frames := 0, cells := 0, slots := 0, locals := 0 } : Room) [.ref (b 0), .int (nI x)] (moW b cI cJ cZ f0 mn mv mg mk mo mu md ms mb mc m1 m2 m3 m4 we ud my ea od oo dn va ho wt cm co te tm gs gl rs rg rp rt) (moW b cI cJ cZ f0 mn mv mg mk mo mu md ms mb mc m1 m2 m3 m4 we ud my ea od oo dn va ho wt cm co te tm gs gl rs rg rp rt) (nI (if boF mu md m1 m2 m3 m4 x mc < 2520 then boF mu md m1 m2 m3 m4 x mc else 2520)) := by
  refine ct_i.intro (by decide) (Nat.le_of_ble_eq_true rfl) ?_
  intro p e s m args below meth c Q A ls hx hb hml hT hown hA hK hN hret hP hD hS hl
  have hown : s.vm.findClass R_Mo = some m.cls := hown
  have hl : lv_has ls 4 [(0, .ref (b 0)), (1, .int (nI x))] := hl
  have q1 := hmu x; have q2 := hmd x
  refine lv_aload_n hx hb d_Mo_boundOfEvent_0 rfl (lv_at hl 0 rfl) ?_
  refine va_get (D := g) (ci := 8) (v := .ref (b 3)) (C := R_Mo) (T := F_Mo) (N := 35) hx hb hT i_Mo hown hK hP 0 rfl rfl 6 (by decide) (hT _ tw_627) (fun _ h9 => h9) rfl d_Mo_boundOfEvent_1 ?_
  refine lv_iload_n hx hb d_Mo_boundOfEvent_4 rfl (lv_at hl 1 rfl) ?_
  refine my_iald (v := (nI (mu x))) (i := x) hx hb hK hP 3 0 rfl rfl (by omega) (by decide) rfl d_Mo_boundOfEvent_5 ?_
  refine lv_sipush (v := (nI 2520)) hx hb d_Mo_boundOfEvent_6 (by decide) ?_
  refine lv_aload_n hx hb d_Mo_boundOfEvent_9 rfl (lv_at hl 0 rfl) ?_
  refine va_get (D := g) (ci := 8) (v := .ref (b 4)) (C := R_Mo) (T := F_Mo) (N := 35) hx hb hT i_Mo hown hK hP 0 rfl rfl 7 (by decide) (hT _ tw_628) (fun _ h9 => h9) rfl d_Mo_boundOfEvent_10 ?_
  refine lv_iload_n hx hb d_Mo_boundOfEvent_13 rfl (lv_at hl 1 rfl) ?_
  refine my_iald (v := (nI (md x))) (i := x) hx hb hK hP 4 0 rfl rfl (by omega) (by decide) rfl d_Mo_boundOfEvent_14 ?_
  refine my_idiv (a := 2520) (b := md x) hx hb d_Mo_boundOfEvent_15 (by omega) (by omega) (by omega) ?_
  refine lv_imul hx hb d_Mo_boundOfEvent_16 ?_
  refine my_ei (pk_mul (mu x) (2520 / (md x))) ?_
  refine lv_istore_n (lv' := [(2, .int (nI ((mu x) * (2520 / (md x))))), (0, .ref (b 0)), (1, .int (nI x))]) hx hb d_Mo_boundOfEvent_17 rfl hl (by decide) rfl (fun ls hl => ?_)
  refine lv_iconst (v := (nI 0)) hx hb d_Mo_boundOfEvent_18 (by decide) ?_
  refine lv_istore_n (lv' := [(3, .int (nI 0)), (2, .int (nI ((mu x) * (2520 / (md x))))), (0, .ref (b 0)), (1, .int (nI x))]) hx hb d_Mo_boundOfEvent_19 rfl hl (by decide) rfl (fun ls hl => ?_)
  have lp_20 : ∀ (k : Nat) (i : Nat) (f : Nat) (H : Heap) (locs : List Loc) (ls : Array Slot), (mc < i + k) → (i ≤ mc) → (f = boF mu md m1 m2 m3 m4 x i) → va_P g vwCl (moW b cI cJ cZ f0 mn mv mg mk mo mu md ms mb mc m1 m2 m3 m4 we ud my ea od oo dn va ho wt cm co te tm gs gl rs rg rp rt) H → va_D A (moW b cI cJ cZ f0 mn mv mg mk mo mu md ms mb mc m1 m2 m3 m4 we ud my ea od oo dn va ho wt cm co te tm gs gl rs rg rp rt) → va_S A s.heap H locs → lv_has ls 4 [(0, .ref (b 0)), (1, .int (nI x)), (2, .int (nI f)), (3, .int (nI i))] → W p l e ({ frames := 0, cells := 0, slots := 0, locals := 0 } : Room) s m args below meth c H locs 0 0 Q (F0 m 20 ls []) := by
    intro k
    induction k with
    | zero =>
      intro i f H locs ls hk hi hf hP hD hS hl
      exfalso
      omega
    | succ k ih_20 =>
      intro i f H locs ls hk hi hf hP hD hS hl
      refine lv_iload_n hx hb d_Mo_boundOfEvent_20 rfl (lv_at hl 3 rfl) ?_
      refine lv_aload_n hx hb d_Mo_boundOfEvent_21 rfl (lv_at hl 0 rfl) ?_
      refine va_get (D := g) (ci := 8) (v := .int (nI mc)) (C := R_Mo) (T := F_Mo) (N := 35) hx hb hT i_Mo hown hK hP 0 rfl rfl 10 (by decide) (hT _ tw_631) (fun _ h9 => h9) rfl d_Mo_boundOfEvent_22 ?_
      refine my_icmp_ge (tgt := 74) (a := i) (b := mc) hx hb d_Mo_boundOfEvent_25 (by decide) (by omega) (by omega) (fun c_25 => ?_) (fun c_25 => ?_)
      · -- 25: taken
        have q8 := boF_le (md := md) (m1 := m1) (m2 := m2) (m4 := m4) (hmu x) hm3 i
        have e9 : boF mu md m1 m2 m3 m4 x mc = f := by rw [hf, show i = mc by omega]
        refine lv_iload_n hx hb d_Mo_boundOfEvent_74 rfl (lv_at hl 2 rfl) ?_
        refine lv_sipush (v := (nI 2520)) hx hb d_Mo_boundOfEvent_75 (by decide) ?_
        refine my_icmp_ge (tgt := 85) (a := f) (b := 2520) hx hb d_Mo_boundOfEvent_78 (by decide) (by omega) (by omega) (fun c_78 => ?_) (fun c_78 => ?_)
        · -- 78: taken
          refine lv_sipush (v := (nI 2520)) hx hb d_Mo_boundOfEvent_85 (by decide) ?_
          refine hret _ _ _ _ _ hP hD hS d_Mo_boundOfEvent_88 ?_
          exact congrArg nI (by rw [e9, if_neg (by omega)])
        · -- 78: not taken
          refine lv_iload_n hx hb d_Mo_boundOfEvent_81 rfl (lv_at hl 2 rfl) ?_
          refine lv_goto (tgt := 88) hx hb d_Mo_boundOfEvent_82 (by decide) ?_
          refine hret _ _ _ _ _ hP hD hS d_Mo_boundOfEvent_88 ?_
          exact congrArg nI (by rw [e9, if_pos (by omega)])
      · -- 25: not taken
        have q3 := hm1 i; have q4 := hm2 i; have q5 := hm3 i; have q6 := hm4 i; have q7 := hm40 i c_25
        refine lv_aload_n hx hb d_Mo_boundOfEvent_28 rfl (lv_at hl 0 rfl) ?_
        refine va_get (D := g) (ci := 8) (v := .ref (b 7)) (C := R_Mo) (T := F_Mo) (N := 35) hx hb hT i_Mo hown hK hP 0 rfl rfl 11 (by decide) (hT _ tw_632) (fun _ h9 => h9) rfl d_Mo_boundOfEvent_29 ?_
        refine lv_iload_n hx hb d_Mo_boundOfEvent_32 rfl (lv_at hl 3 rfl) ?_
        refine my_iald (v := (nI (m1 i))) (i := i) hx hb hK hP 7 0 rfl rfl (by omega) (by decide) rfl d_Mo_boundOfEvent_33 ?_
        refine lv_iload_n hx hb d_Mo_boundOfEvent_34 rfl (lv_at hl 1 rfl) ?_
        refine my_icmp_eq (tgt := 48) (a := m1 i) (b := x) hx hb d_Mo_boundOfEvent_35 (by decide) (by omega) (by omega) (fun c_35 => ?_) (fun c_35 => ?_)
        · -- 35: taken
          refine lv_iload_n hx hb d_Mo_boundOfEvent_48 rfl (lv_at hl 2 rfl) ?_
          refine lv_aload_n hx hb d_Mo_boundOfEvent_49 rfl (lv_at hl 0 rfl) ?_
          refine va_get (D := g) (ci := 8) (v := .ref (b 9)) (C := R_Mo) (T := F_Mo) (N := 35) hx hb hT i_Mo hown hK hP 0 rfl rfl 13 (by decide) (hT _ tw_634) (fun _ h9 => h9) rfl d_Mo_boundOfEvent_50 ?_
          refine lv_iload_n hx hb d_Mo_boundOfEvent_53 rfl (lv_at hl 3 rfl) ?_
          refine my_iald (v := (nI (m3 i))) (i := i) hx hb hK hP 9 0 rfl rfl (by omega) (by decide) rfl d_Mo_boundOfEvent_54 ?_
          refine lv_sipush (v := (nI 2520)) hx hb d_Mo_boundOfEvent_55 (by decide) ?_
          refine lv_aload_n hx hb d_Mo_boundOfEvent_58 rfl (lv_at hl 0 rfl) ?_
          refine va_get (D := g) (ci := 8) (v := .ref (b 10)) (C := R_Mo) (T := F_Mo) (N := 35) hx hb hT i_Mo hown hK hP 0 rfl rfl 14 (by decide) (hT _ tw_635) (fun _ h9 => h9) rfl d_Mo_boundOfEvent_59 ?_
          refine lv_iload_n hx hb d_Mo_boundOfEvent_62 rfl (lv_at hl 3 rfl) ?_
          refine my_iald (v := (nI (m4 i))) (i := i) hx hb hK hP 10 0 rfl rfl (by omega) (by decide) rfl d_Mo_boundOfEvent_63 ?_
          refine my_idiv (a := 2520) (b := m4 i) hx hb d_Mo_boundOfEvent_64 (by omega) (by omega) (by omega) ?_
          refine lv_imul hx hb d_Mo_boundOfEvent_65 ?_
          refine my_ei (pk_mul (m3 i) (2520 / (m4 i))) ?_
          refine lv_iadd hx hb d_Mo_boundOfEvent_66 ?_
          refine my_ei (nI_add f ((m3 i) * (2520 / (m4 i)))) ?_
          refine lv_istore_n (lv' := [(2, .int (nI (f + ((m3 i) * (2520 / (m4 i)))))), (0, .ref (b 0)), (1, .int (nI x)), (3, .int (nI i))]) hx hb d_Mo_boundOfEvent_67 rfl hl (by decide) rfl (fun ls hl => ?_)
          refine lv_iinc (v := (nI (i + 1))) (lv' := [(3, .int (nI (i + 1))), (2, .int (nI (f + ((m3 i) * (2520 / (m4 i)))))), (0, .ref (b 0)), (1, .int (nI x))]) hx hb d_Mo_boundOfEvent_68 hl (k := 3) rfl (nI_1 i) (by decide) rfl (fun ls hl => ?_)
          refine lv_goto (tgt := 20) hx hb d_Mo_boundOfEvent_71 (by decide) ?_
          refine ih_20 _ _ _ _ _ ?_ ?_ ?_ hP hD hS (lv_sub hl [2, 3, 1, 0] rfl)
          · omega
          · omega
          · rw [hf]
            show _ = boF mu md m1 m2 m3 m4 x i + _
            rw [if_pos (by first | exact Or.inl c_35 | exact Or.inr c_45)]
        · -- 35: not taken
          refine lv_aload_n hx hb d_Mo_boundOfEvent_38 rfl (lv_at hl 0 rfl) ?_
          refine va_get (D := g) (ci := 8) (v := .ref (b 8)) (C := R_Mo) (T := F_Mo) (N := 35) hx hb hT i_Mo hown hK hP 0 rfl rfl 12 (by decide) (hT _ tw_633) (fun _ h9 => h9) rfl d_Mo_boundOfEvent_39 ?_
          refine lv_iload_n hx hb d_Mo_boundOfEvent_42 rfl (lv_at hl 3 rfl) ?_
          refine my_iald (v := (nI (m2 i))) (i := i) hx hb hK hP 8 0 rfl rfl (by omega) (by decide) rfl d_Mo_boundOfEvent_43 ?_
          refine lv_iload_n hx hb d_Mo_boundOfEvent_44 rfl (lv_at hl 1 rfl) ?_
          refine my_icmp_ne (tgt := 68) (a := m2 i) (b := x) hx hb d_Mo_boundOfEvent_45 (by decide) (by omega) (by omega) (fun c_45 => ?_) (fun c_45 => ?_)
          · -- 45: taken
            refine lv_iinc (v := (nI (i + 1))) (lv' := [(3, .int (nI (i + 1))), (0, .ref (b 0)), (1, .int (nI x)), (2, .int (nI f))]) hx hb d_Mo_boundOfEvent_68 hl (k := 3) rfl (nI_1 i) (by decide) rfl (fun ls hl => ?_)
            refine lv_goto (tgt := 20) hx hb d_Mo_boundOfEvent_71 (by decide) ?_
            refine ih_20 _ _ _ _ _ ?_ ?_ ?_ hP hD hS (lv_sub hl [1, 2, 3, 0] rfl)
            · omega
            · omega
            · rw [hf]
              show _ = boF mu md m1 m2 m3 m4 x i + _
              rw [if_neg (by intro hh; rcases hh with hh | hh; exact c_35 hh; exact c_45 hh)]; rfl
          · -- 45: not taken
            refine lv_iload_n hx hb d_Mo_boundOfEvent_48 rfl (lv_at hl 2 rfl) ?_
            refine lv_aload_n hx hb d_Mo_boundOfEvent_49 rfl (lv_at hl 0 rfl) ?_
            refine va_get (D := g) (ci := 8) (v := .ref (b 9)) (C := R_Mo) (T := F_Mo) (N := 35) hx hb hT i_Mo hown hK hP 0 rfl rfl 13 (by decide) (hT _ tw_634) (fun _ h9 => h9) rfl d_Mo_boundOfEvent_50 ?_
            refine lv_iload_n hx hb d_Mo_boundOfEvent_53 rfl (lv_at hl 3 rfl) ?_
            refine my_iald (v := (nI (m3 i))) (i := i) hx hb hK hP 9 0 rfl rfl (by omega) (by decide) rfl d_Mo_boundOfEvent_54 ?_
            refine lv_sipush (v := (nI 2520)) hx hb d_Mo_boundOfEvent_55 (by decide) ?_
            refine lv_aload_n hx hb d_Mo_boundOfEvent_58 rfl (lv_at hl 0 rfl) ?_
            refine va_get (D := g) (ci := 8) (v := .ref (b 10)) (C := R_Mo) (T := F_Mo) (N := 35) hx hb hT i_Mo hown hK hP 0 rfl rfl 14 (by decide) (hT _ tw_635) (fun _ h9 => h9) rfl d_Mo_boundOfEvent_59 ?_
            refine lv_iload_n hx hb d_Mo_boundOfEvent_62 rfl (lv_at hl 3 rfl) ?_
            refine my_iald (v := (nI (m4 i))) (i := i) hx hb hK hP 10 0 rfl rfl (by omega) (by decide) rfl d_Mo_boundOfEvent_63 ?_
            refine my_idiv (a := 2520) (b := m4 i) hx hb d_Mo_boundOfEvent_64 (by omega) (by omega) (by omega) ?_
            refine lv_imul hx hb d_Mo_boundOfEvent_65 ?_
            refine my_ei (pk_mul (m3 i) (2520 / (m4 i))) ?_
            refine lv_iadd hx hb d_Mo_boundOfEvent_66 ?_
            refine my_ei (nI_add f ((m3 i) * (2520 / (m4 i)))) ?_
            refine lv_istore_n (lv' := [(2, .int (nI (f + ((m3 i) * (2520 / (m4 i)))))), (0, .ref (b 0)), (1, .int (nI x)), (3, .int (nI i))]) hx hb d_Mo_boundOfEvent_67 rfl hl (by decide) rfl (fun ls hl => ?_)
            refine lv_iinc (v := (nI (i + 1))) (lv' := [(3, .int (nI (i + 1))), (2, .int (nI (f + ((m3 i) * (2520 / (m4 i)))))), (0, .ref (b 0)), (1, .int (nI x))]) hx hb d_Mo_boundOfEvent_68 hl (k := 3) rfl (nI_1 i) (by decide) rfl (fun ls hl => ?_)
            refine lv_goto (tgt := 20) hx hb d_Mo_boundOfEvent_71 (by decide) ?_
            refine ih_20 _ _ _ _ _ ?_ ?_ ?_ hP hD hS (lv_sub hl [2, 3, 1, 0] rfl)
            · omega
            · omega
            · rw [hf]
              show _ = boF mu md m1 m2 m3 m4 x i + _
              rw [if_pos (by first | exact Or.inl c_35 | exact Or.inr c_45)]
  refine lp_20 (mc + 1) _ _ _ _ _ ?_ ?_ ?_ hP hD hS (lv_sub hl [2, 3, 1, 0] rfl)
  · omega
  · omega
  · rfl
set_option maxHeartbeats 4000000 in
set_option maxRecDepth 100000 in
theorem k_Mo_cut (l : Launch) (g : va_G) (b : Nat → Nat) (cI cJ cZ : ClassId) (f0 : Nat) (mn : Nat) (mv : Nat) (mg : Nat) (mk : Nat → Nat) (mo : Nat → Nat) (mu : Nat → Nat) (md : Nat → Nat) (ms : Nat → Nat) (mb : Nat → Nat) (mc : Nat) (m1 : Nat → Nat) (m2 : Nat → Nat) (m3 : Nat → Nat) (m4 : Nat → Nat) (we : Bool) (ud : Nat → Bool) (my : Nat) (ea : Nat → Nat) (od : Nat) (oo : Nat → Nat) (dn : Nat → Bool) (va : Nat → Nat) (ho : Nat → Bool) (wt : Nat → Nat) (cm : Nat) (co : Nat → Nat) (te : Nat → Nat) (tm : Nat) (gs : Nat) (gl : Nat → Nat) (rs : Nat) (rg : Nat → Nat) (rp : Nat → Nat) (rt : Nat → Nat) (x : Int32) (y : Int32) (hcm : cm ≤ 4096) (htm : tm ≤ 12) (hco : ∀ j, co j < 4096) : ct_i l g vwCl (tyM cI cJ cZ) y_Mo_cut c_Mo_cut 5 (some .int) ({ frames := 1, cells := 0, slots := 0, locals := 25 } : Room) [.ref (b 0), .int x, .int y] (moW b cI cJ cZ f0 mn mv mg mk mo mu md ms mb mc m1 m2 m3 m4 we ud my ea od oo dn va ho wt cm co te tm gs gl rs rg rp rt) (moW b cI cJ cZ 0 mn mv mg mk mo mu md ms mb mc m1 m2 m3 m4 we ud my ea od oo dn va ho wt cm co te tm gs gl rs rg rp rt) (mcuR cm co tm te x y) := by
  refine ct_i.intro (by decide) (Nat.le_of_ble_eq_true rfl) ?_
  intro p e s m args below meth c Q A ls hx hb hml hT hown hA hK hN hret hP hD hS hl
  have hown : s.vm.findClass R_Mo = some m.cls := hown
  have hl : lv_has ls 5 [(0, .ref (b 0)), (1, .int x), (2, .int y)] := hl
  refine lv_aload_n hx hb d_Mo_cut_0 rfl (lv_at hl 0 rfl) ?_
  refine lv_iconst (v := (nI 0)) hx hb d_Mo_cut_1 (by decide) ?_
  refine va_put (D := g) (ci := 8) (v := .int (nI 0)) (ty := .int) (C := R_Mo) (T := F_Mo) (N := 35) hx hb hT i_Mo t_Mo t_Mo_ok n_Mo hown hK hP hD hS 0 rfl rfl 0 (by decide) (hT _ tw_621) (fun _ h9 => h9) rfl (by decide +kernel) rfl rfl (Nat.le_of_ble_eq_true rfl) d_Mo_cut_2 (fun H locs hP hD hS => ?_)
  have hP : va_P g vwCl (moW b cI cJ cZ 0 mn mv mg mk mo mu md ms mb mc m1 m2 m3 m4 we ud my ea od oo dn va ho wt cm co te tm gs gl rs rg rp rt) H := hP
  have hD : va_D A (moW b cI cJ cZ 0 mn mv mg mk mo mu md ms mb mc m1 m2 m3 m4 we ud my ea od oo dn va ho wt cm co te tm gs gl rs rg rp rt) := hD
  refine lv_iload_n hx hb d_Mo_cut_5 rfl (lv_at hl 1 rfl) ?_
  refine lv_i2l (v := x.toInt64) hx hb d_Mo_cut_6 rfl ?_
  refine lv_lconst (v := (lN 0)) hx hb d_Mo_cut_7 (by decide) ?_
  refine lv_aload_n hx hb d_Mo_cut_8 rfl (lv_at hl 0 rfl) ?_
  refine va_get (D := g) (ci := 8) (v := .int (nI cm)) (C := R_Mo) (T := F_Mo) (N := 35) hx hb hT i_Mo hown hK hP 0 rfl rfl 25 (by decide) (hT _ tw_646) (fun _ h9 => h9) rfl d_Mo_cut_9 ?_
  refine lv_iconst (v := (nI 1)) hx hb d_Mo_cut_12 (by decide) ?_
  refine lv_isub hx hb d_Mo_cut_13 ?_
  refine lv_i2l (v := ((nI cm) - (nI 1)).toInt64) hx hb d_Mo_cut_14 rfl ?_
  refine my_S_i (As := [.long x.toInt64, .long (lN 0), .long (((nI cm) - (nI 1)).toInt64)]) (n := 3) (k_Mo_isIn l g vwCl (tyM cI cJ cZ) (moW b cI cJ cZ 0 mn mv mg mk mo mu md ms mb mc m1 m2 m3 m4 we ud my ea od oo dn va ho wt cm co te tm gs gl rs rg rp rt) x.toInt64 (lN 0) (((nI cm) - (nI 1)).toInt64) ) hx hb hml hown hT hN tw_737 tw_738 tw_9 tw_739 (by decide +kernel) rfl rfl ⟨Nat.le_of_ble_eq_true rfl, Nat.le_of_ble_eq_true rfl⟩ ⟨Nat.zero_le _, Nat.zero_le _⟩ hK hP hD hS hA rfl hl rfl (Nat.le_of_ble_eq_true rfl) d_Mo_cut_15 (fun H locs hP hD hS => ?_)
  refine my_if_ne_b (tgt := 23) hx hb d_Mo_cut_18 (by decide) (fun c_18 => ?_) (fun c_18 => ?_)
  · -- 18: taken
    obtain ⟨x1, hx1, hx2, rfl⟩ := cut_nat hcm c_18
    have hkc : (nI x1).toNatClampNeg = x1 := nI_clamp (by omega)
    refine lv_iconst (v := (nI 0)) hx hb d_Mo_cut_23 (by decide) ?_
    refine lv_istore_n (lv' := [(3, .int (nI 0)), (0, .ref (b 0)), (1, .int (nI x1)), (2, .int y)]) hx hb d_Mo_cut_24 rfl hl (by decide) rfl (fun ls hl => ?_)
    refine lv_iconst (v := (nI 0)) hx hb d_Mo_cut_25 (by decide) ?_
    refine lv_istore (lv' := [(4, .int (nI 0)), (3, .int (nI 0)), (0, .ref (b 0)), (1, .int (nI x1)), (2, .int y)]) hx hb d_Mo_cut_26 hl (by decide) rfl (fun ls hl => ?_)
    have lp_28 : ∀ (k : Nat) (e1 : Nat) (f : Nat) (n : Nat) (H : Heap) (locs : List Loc) (ls : Array Slot), (tm < e1 + k) → (e1 + f = tm) → (cuL (co x1) tm te y f e1 n = cuL (co x1) tm te y tm 0 0) → va_P g vwCl (moW b cI cJ cZ 0 mn mv mg mk mo mu md ms mb mc m1 m2 m3 m4 we ud my ea od oo dn va ho wt cm co te tm gs gl rs rg rp rt) H → va_D A (moW b cI cJ cZ 0 mn mv mg mk mo mu md ms mb mc m1 m2 m3 m4 we ud my ea od oo dn va ho wt cm co te tm gs gl rs rg rp rt) → va_S A s.heap H locs → lv_has ls 5 [(0, .ref (b 0)), (1, .int (nI x1)), (2, .int y), (3, .int (nI n)), (4, .int (nI e1))] → W p l e ({ frames := 1, cells := 0, slots := 0, locals := 25 } : Room) s m args below meth c H locs 0 0 Q (F0 m 28 ls []) := by
      intro k
      induction k with
      | zero =>
        intro e1 f n H locs ls hk hj hf hP hD hS hl
        exfalso
        omega
      | succ k ih_28 =>
        intro e1 f n H locs ls hk hj hf hP hD hS hl
        refine lv_iload hx hb d_Mo_cut_28 (lv_at hl 4 rfl) ?_
        refine lv_aload_n hx hb d_Mo_cut_30 rfl (lv_at hl 0 rfl) ?_
        refine va_get (D := g) (ci := 8) (v := .int (nI tm)) (C := R_Mo) (T := F_Mo) (N := 35) hx hb hT i_Mo hown hK hP 0 rfl rfl 28 (by decide) (hT _ tw_649) (fun _ h9 => h9) rfl d_Mo_cut_31 ?_
        refine my_icmp_ge (tgt := 81) (a := e1) (b := tm) hx hb d_Mo_cut_34 (by decide) (by omega) (by omega) (fun c_34 => ?_) (fun c_34 => ?_)
        · -- 34: taken
          have f0 : f = 0 := by omega
          subst f0
          refine lv_iconst (v := (nI 0)) hx hb d_Mo_cut_81 (by decide) ?_
          refine hret _ _ _ _ _ hP hD hS d_Mo_cut_82 ?_
          rw [mcuR, if_neg (by simp [c_18]), hkc, ← hf]; rfl
        · -- 34: not taken
          obtain ⟨f, rfl⟩ : ∃ q, f = q + 1 := ⟨f - 1, by omega⟩
          refine lv_aload_n hx hb d_Mo_cut_37 rfl (lv_at hl 0 rfl) ?_
          refine va_get (D := g) (ci := 8) (v := .ref (b 18)) (C := R_Mo) (T := F_Mo) (N := 35) hx hb hT i_Mo hown hK hP 0 rfl rfl 26 (by decide) (hT _ tw_647) (fun _ h9 => h9) rfl d_Mo_cut_38 ?_
          have q6 := hco x1
          refine lv_iload_n hx hb d_Mo_cut_41 rfl (lv_at hl 1 rfl) ?_
          refine my_iald (v := (nI (co x1))) (i := x1) hx hb hK hP 18 0 rfl rfl (by omega) (by decide) rfl d_Mo_cut_42 ?_
          refine lv_aload_n hx hb d_Mo_cut_43 rfl (lv_at hl 0 rfl) ?_
          refine va_get (D := g) (ci := 8) (v := .int (nI tm)) (C := R_Mo) (T := F_Mo) (N := 35) hx hb hT i_Mo hown hK hP 0 rfl rfl 28 (by decide) (hT _ tw_649) (fun _ h9 => h9) rfl d_Mo_cut_44 ?_
          refine lv_iconst (v := (nI 1)) hx hb d_Mo_cut_47 (by decide) ?_
          refine lv_isub hx hb d_Mo_cut_48 ?_
          refine my_ei (pk_sub (a := tm) (b := 1) (by omega)) ?_
          refine lv_iload hx hb d_Mo_cut_49 (lv_at hl 4 rfl) ?_
          refine lv_isub hx hb d_Mo_cut_51 ?_
          refine my_ei (pk_sub (a := tm - 1) (b := e1) (by omega)) ?_
          refine lv_ishr hx hb d_Mo_cut_52 ?_
          refine my_ei (pk_shrN (n := co x1) (by omega) _ ((tm - 1) - e1) (s_l ((tm - 1) - e1) (by omega))) ?_
          refine lv_iconst (v := (nI 1)) hx hb d_Mo_cut_53 (by decide) ?_
          refine lv_iand hx hb d_Mo_cut_54 ?_
          refine my_ei (nx_and ((co x1) / 2 ^ ((tm - 1) - e1)) 1) ?_
          refine lv_iconst (v := (nI 1)) hx hb d_Mo_cut_55 (by decide) ?_
          have q5 : co x1 / 2 ^ (tm - 1 - e1) &&& 1 ≤ 1 := Nat.and_le_right
          refine my_icmp_ne (tgt := 75) (a := ((co x1) / 2 ^ ((tm - 1) - e1)) &&& 1) (b := 1) hx hb d_Mo_cut_56 (by decide) (by omega) (by omega) (fun c_56 => ?_) (fun c_56 => ?_)
          · -- 56: taken
            refine lv_iinc (v := (nI (e1 + 1))) (lv' := [(4, .int (nI (e1 + 1))), (0, .ref (b 0)), (1, .int (nI x1)), (2, .int y), (3, .int (nI n))]) hx hb d_Mo_cut_75 hl (k := 4) rfl (nI_1 e1) (by decide) rfl (fun ls hl => ?_)
            refine lv_goto (tgt := 28) hx hb d_Mo_cut_78 (by decide) ?_
            refine ih_28 _ f _ _ _ _ ?_ ?_ ?_ hP hD hS (lv_sub hl [1, 2, 3, 4, 0] rfl)
            · omega
            · omega
            · rw [← hf]; exact (if_neg c_56).symm
          · -- 56: not taken
            refine lv_iload_n hx hb d_Mo_cut_59 rfl (lv_at hl 3 rfl) ?_
            refine lv_iload_n hx hb d_Mo_cut_60 rfl (lv_at hl 2 rfl) ?_
            refine lv_icmp_ne (tgt := 72) hx hb d_Mo_cut_61 (by decide) (fun c_61 => ?_) (fun c_61 => ?_)
            · -- 61: taken
              refine lv_iinc (v := (nI (n + 1))) (lv' := [(3, .int (nI (n + 1))), (0, .ref (b 0)), (1, .int (nI x1)), (2, .int y), (4, .int (nI e1))]) hx hb d_Mo_cut_72 hl (k := 3) rfl (nI_1 n) (by decide) rfl (fun ls hl => ?_)
              refine lv_iinc (v := (nI (e1 + 1))) (lv' := [(4, .int (nI (e1 + 1))), (3, .int (nI (n + 1))), (0, .ref (b 0)), (1, .int (nI x1)), (2, .int y)]) hx hb d_Mo_cut_75 hl (k := 4) rfl (nI_1 e1) (by decide) rfl (fun ls hl => ?_)
              refine lv_goto (tgt := 28) hx hb d_Mo_cut_78 (by decide) ?_
              refine ih_28 _ f _ _ _ _ ?_ ?_ ?_ hP hD hS (lv_sub hl [2, 3, 4, 1, 0] rfl)
              · omega
              · omega
              · rw [← hf]; exact ((if_pos c_56).trans (if_neg c_61)).symm
            · -- 61: not taken
              refine lv_aload_n hx hb d_Mo_cut_64 rfl (lv_at hl 0 rfl) ?_
              refine va_get (D := g) (ci := 8) (v := .ref (b 19)) (C := R_Mo) (T := F_Mo) (N := 35) hx hb hT i_Mo hown hK hP 0 rfl rfl 27 (by decide) (hT _ tw_648) (fun _ h9 => h9) rfl d_Mo_cut_65 ?_
              refine lv_iload hx hb d_Mo_cut_68 (lv_at hl 4 rfl) ?_
              refine my_iald (v := (nI (te e1))) (i := e1) hx hb hK hP 19 0 rfl rfl (by omega) (by decide) rfl d_Mo_cut_70 ?_
              refine hret _ _ _ _ _ hP hD hS d_Mo_cut_71 ?_
              rw [mcuR, if_neg (by simp [c_18]), hkc, ← hf]; exact ((if_pos c_56).trans (if_pos c_61)).symm
    refine lp_28 (tm + 1) 0 tm 0 _ _ _ ?_ ?_ ?_ hP hD hS (lv_sub hl [2, 3, 4, 1, 0] rfl)
    · omega
    · omega
    · rfl
  · -- 18: not taken
    refine lv_iconst (v := (nI 0)) hx hb d_Mo_cut_21 (by decide) ?_
    refine hret _ _ _ _ _ hP hD hS d_Mo_cut_22 ?_
    rw [mcuR, if_pos c_18]; rfl
