def hR (gg gp gt : Nat → Nat) (x y z : Nat) : Nat → Bool
  | 0 => false
  | i + 1 => hR gg gp gt x y z i || (decide (gg i = x) && decide (gp i = y) && decide (gt i = z))
theorem hR_t {gg gp gt : Nat → Nat} {x y z i : Nat} : ∀ n, i < n → gg i = x → gp i = y → gt i = z → hR gg gp gt x y z n = true
  | 0, h, _, _, _ => by omega
  | n + 1, h, h1, h2, h3 => by
    show (hR gg gp gt x y z n || _) = true
    rcases Nat.lt_or_ge i n with q | q
    · rw [hR_t n q h1 h2 h3]; rfl
    · have : i = n := by omega
      subst this
      simp [h1, h2, h3]
def rP (gp : Nat → Nat) (x : Int32) : Nat → Nat
  | 0 => 0
  | i + 1 => rP gp x i + (if nI (gp i) = x then 1 else 0)
def tP (gp gt : Nat → Nat) (x : Int32) : Nat → Nat
  | 0 => 0
  | i + 1 => tP gp gt x i + (if nI (gp i) = x ∧ 0 < gt i then 1 else 0)
theorem rP_le (gp : Nat → Nat) (x : Int32) (i : Nat) : rP gp x i ≤ i := by
  induction i with
  | zero => exact Nat.le_refl _
  | succ i ih => show rP gp x i + _ ≤ i + 1; split <;> omega
theorem tP_le (gp gt : Nat → Nat) (x : Int32) (i : Nat) : tP gp gt x i ≤ rP gp x i := by
  induction i with
  | zero => exact Nat.le_refl _
  | succ i ih =>
    show tP gp gt x i + (if nI (gp i) = x ∧ 0 < gt i then 1 else 0) ≤ rP gp x i + (if nI (gp i) = x then 1 else 0)
    by_cases h : nI (gp i) = x
    · by_cases h2 : 0 < gt i
      · simp only [h, h2, and_self, if_true]; omega
      · simp only [h, h2, and_false, if_true, if_false]; omega
    · simp only [h, false_and, if_false]; omega
/-- a row of the goal with a test -/
def hT0 (gg gt : Nat → Nat) (x : Nat) : Nat → Bool
  | 0 => false
  | i + 1 => hT0 gg gt x i || (decide (gg i = x) && decide (0 < gt i))
theorem hT0_t {gg gt : Nat → Nat} {x i : Nat} : ∀ n, i < n → gg i = x → 0 < gt i → hT0 gg gt x n = true
  | 0, h, _, _ => by omega
  | n + 1, h, h1, h2 => by
    show (hT0 gg gt x n || _) = true
    rcases Nat.lt_or_ge i n with q | q
    · rw [hT0_t n q h1 h2]; rfl
    · have : i = n := by omega
      subst this
      simp [h1, h2]
def gOp (gk gg gt : Nat → Nat) (gr x : Nat) : Bool := decide (0 < gk x) && !(hT0 gg gt x gr)
def pOp (gp gt : Nat → Nat) (gr y : Nat) : Bool := decide (0 < rP gp (nI y) gr) && decide (tP gp gt (nI y) gr = 0)
/-- the left-th from j on that is open: its number (0: none), what is left -/
def fL (op : Nat → Bool) : Nat → Nat → Nat → Nat × Nat
  | 0, _, left => (0, left)
  | f + 1, j, left => if op j = true then (if left = 0 then (j, 0) else fL op f (j + 1) (left - 1)) else fL op f (j + 1) left
def fO (op1 op2 : Nat → Bool) (gc n : Nat) : Int32 :=
  if (fL op1 gc 1 n).1 = 0 then (if (fL op2 50 1 (fL op1 gc 1 n).2).1 = 0 then 0 else -(nI (fL op2 50 1 (fL op1 gc 1 n).2).1)) else nI (fL op1 gc 1 n).1
theorem fL_le (op : Nat → Bool) : ∀ f j left, (fL op f j left).2 ≤ left
  | 0, j, left => Nat.le_refl _
  | f + 1, j, left => by
    show (if op j = true then (if left = 0 then (j, 0) else fL op f (j + 1) (left - 1)) else fL op f (j + 1) left).2 ≤ left
    split
    · split
      · exact Nat.zero_le _
      · have := fL_le op f (j + 1) (left - 1); omega
    · exact fL_le op f (j + 1) left
set_option maxHeartbeats 4000000 in
set_option maxRecDepth 100000 in
theorem k_Go_add (l : Launch) (g : va_G) (a rB rT : Nat → Nat) (cI cJ cII cJJ : ClassId) (nc : Nat) (nv : Nat) (ng : Nat) (kd : Nat → Int32) (vo : Nat → Nat) (nu : Nat → Nat) (nd : Nat → Nat) (en : Nat → Nat) (br : Nat → Nat → Nat) (bc : Nat → Nat) (un : Nat → Nat) (eu : Nat → Nat) (li : Nat → Nat) (tb : Nat → Nat → Int64) (cc0 : Nat) (cp : Nat → Nat) (cu : Nat → Nat) (cd : Nat → Nat) (tc : Nat) (ts : Nat → Nat) (tf : Nat → Nat) (ox : Bool) (ow : Nat → Nat) (ob : Nat → Nat) (ra : Nat) (rb : Nat) (gc : Nat) (gr : Nat) (gk : Nat → Nat) (gg : Nat → Nat) (gp : Nat → Nat) (gt : Nat → Nat) (sa : Nat) (sb : Nat) (x : Nat) (hc : gc < 30) : ct_i l g vwCl (tyS cI cJ cII cJJ) y_Go_add c_Go_add 2 (some .int) ({ frames := 0, cells := 0, slots := 0, locals := 0 } : Room) [.ref (a 6), .int (nI x)] (stW a rB rT cI cJ cII cJJ nc nv ng kd vo nu nd en br bc un eu li tb cc0 cp cu cd tc ts tf ox ow ob ra rb gc gr gk gg gp gt sa sb) (stW a rB rT cI cJ cII cJJ nc nv ng kd vo nu nd en br bc un eu li tb cc0 cp cu cd tc ts tf ox ow ob ra rb (gc + 1) gr (va_up gk (gc + 1) x) gg gp gt sa sb) (nI (gc + 1)) := by
  refine ct_i.intro (by decide) (Nat.le_of_ble_eq_true rfl) ?_
  intro p e s m args below meth c Q A ls hx hb hml hT hown hA hK hN hret hP hD hS hl
  have hown : s.vm.findClass R_Go = some m.cls := hown
  have hl : lv_has ls 2 [(0, .ref (a 6)), (1, .int (nI x))] := hl
  refine lv_aload_n hx hb d_Go_add_0 rfl (lv_at hl 0 rfl) ?_
  refine lv_dup hx hb d_Go_add_1 rfl ?_
  refine va_get (D := g) (ci := 6) (v := .int (nI gc)) (C := R_Go) (T := F_Go) (N := 6) hx hb hT i_Go hown hK hP 6 rfl rfl 0 (by decide) (hT _ tw_200) (fun _ h9 => h9) rfl d_Go_add_2 ?_
  refine lv_iconst (v := (nI 1)) hx hb d_Go_add_5 (by decide) ?_
  refine lv_iadd hx hb d_Go_add_6 ?_
  refine my_ei (nI_add gc 1) ?_
  refine va_put (D := g) (ci := 6) (v := .int (nI (gc + 1))) (ty := .int) (C := R_Go) (T := F_Go) (N := 6) hx hb hT i_Go t_Go t_Go_ok n_Go hown hK hP hD hS 6 rfl rfl 0 (by decide) (hT _ tw_200) (fun _ h9 => h9) rfl (by decide +kernel) rfl rfl (Nat.le_of_ble_eq_true rfl) d_Go_add_7 (fun H locs hP hD hS => ?_)
  have hP : va_P g vwCl (stW a rB rT cI cJ cII cJJ nc nv ng kd vo nu nd en br bc un eu li tb cc0 cp cu cd tc ts tf ox ow ob ra rb (gc + 1) gr gk gg gp gt sa sb) H := hP
  have hD : va_D A (stW a rB rT cI cJ cII cJJ nc nv ng kd vo nu nd en br bc un eu li tb cc0 cp cu cd tc ts tf ox ow ob ra rb (gc + 1) gr gk gg gp gt sa sb) := hD
  refine lv_aload_n hx hb d_Go_add_10 rfl (lv_at hl 0 rfl) ?_
  refine va_get (D := g) (ci := 6) (v := .ref (a 27)) (C := R_Go) (T := F_Go) (N := 6) hx hb hT i_Go hown hK hP 6 rfl rfl 2 (by decide) (hT _ tw_204) (fun _ h9 => h9) rfl d_Go_add_11 ?_
  refine lv_aload_n hx hb d_Go_add_14 rfl (lv_at hl 0 rfl) ?_
  refine va_get (D := g) (ci := 6) (v := .int (nI (gc + 1))) (C := R_Go) (T := F_Go) (N := 6) hx hb hT i_Go hown hK hP 6 rfl rfl 0 (by decide) (hT _ tw_200) (fun _ h9 => h9) rfl d_Go_add_15 ?_
  refine lv_iload_n hx hb d_Go_add_18 rfl (lv_at hl 1 rfl) ?_
  refine my_iast (i := gc + 1) hx hb hK hP hD hS 27 0 rfl rfl (by omega) (by decide) (my_upN _ _ _) (w' := (stW a rB rT cI cJ cII cJJ nc nv ng kd vo nu nd en br bc un eu li tb cc0 cp cu cd tc ts tf ox ow ob ra rb (gc + 1) gr (va_up gk (gc + 1) x) gg gp gt sa sb)) rfl d_Go_add_19 (fun H locs hP hD hS => ?_)
  refine lv_aload_n hx hb d_Go_add_20 rfl (lv_at hl 0 rfl) ?_
  refine va_get (D := g) (ci := 6) (v := .int (nI (gc + 1))) (C := R_Go) (T := F_Go) (N := 6) hx hb hT i_Go hown hK hP 6 rfl rfl 0 (by decide) (hT _ tw_200) (fun _ h9 => h9) rfl d_Go_add_21 ?_
  refine hret _ _ _ _ _ hP hD hS d_Go_add_24 ?_
  rfl
set_option maxHeartbeats 4000000 in
set_option maxRecDepth 100000 in
theorem k_Go_addRow (l : Launch) (g : va_G) (a rB rT : Nat → Nat) (cI cJ cII cJJ : ClassId) (nc : Nat) (nv : Nat) (ng : Nat) (kd : Nat → Int32) (vo : Nat → Nat) (nu : Nat → Nat) (nd : Nat → Nat) (en : Nat → Nat) (br : Nat → Nat → Nat) (bc : Nat → Nat) (un : Nat → Nat) (eu : Nat → Nat) (li : Nat → Nat) (tb : Nat → Nat → Int64) (cc0 : Nat) (cp : Nat → Nat) (cu : Nat → Nat) (cd : Nat → Nat) (tc : Nat) (ts : Nat → Nat) (tf : Nat → Nat) (ox : Bool) (ow : Nat → Nat) (ob : Nat → Nat) (ra : Nat) (rb : Nat) (gc : Nat) (gr : Nat) (gk : Nat → Nat) (gg : Nat → Nat) (gp : Nat → Nat) (gt : Nat → Nat) (sa : Nat) (sb : Nat) (x : Nat) (y : Nat) (z : Nat) (hr : gr < 100) : ct_i l g vwCl (tyS cI cJ cII cJJ) y_Go_addRow c_Go_addRow 4 (some .int) ({ frames := 0, cells := 0, slots := 0, locals := 0 } : Room) [.ref (a 6), .int (nI x), .int (nI y), .int (nI z)] (stW a rB rT cI cJ cII cJJ nc nv ng kd vo nu nd en br bc un eu li tb cc0 cp cu cd tc ts tf ox ow ob ra rb gc gr gk gg gp gt sa sb) (stW a rB rT cI cJ cII cJJ nc nv ng kd vo nu nd en br bc un eu li tb cc0 cp cu cd tc ts tf ox ow ob ra rb gc (gr + 1) gk (va_up gg gr x) (va_up gp gr y) (va_up gt gr z) sa sb) (nI (gr + 1)) := by
  refine ct_i.intro (by decide) (Nat.le_of_ble_eq_true rfl) ?_
  intro p e s m args below meth c Q A ls hx hb hml hT hown hA hK hN hret hP hD hS hl
  have hown : s.vm.findClass R_Go = some m.cls := hown
  have hl : lv_has ls 4 [(0, .ref (a 6)), (1, .int (nI x)), (2, .int (nI y)), (3, .int (nI z))] := hl
  refine lv_aload_n hx hb d_Go_addRow_0 rfl (lv_at hl 0 rfl) ?_
  refine va_get (D := g) (ci := 6) (v := .ref (a 28)) (C := R_Go) (T := F_Go) (N := 6) hx hb hT i_Go hown hK hP 6 rfl rfl 3 (by decide) (hT _ tw_205) (fun _ h9 => h9) rfl d_Go_addRow_1 ?_
  refine lv_aload_n hx hb d_Go_addRow_4 rfl (lv_at hl 0 rfl) ?_
  refine va_get (D := g) (ci := 6) (v := .int (nI gr)) (C := R_Go) (T := F_Go) (N := 6) hx hb hT i_Go hown hK hP 6 rfl rfl 1 (by decide) (hT _ tw_202) (fun _ h9 => h9) rfl d_Go_addRow_5 ?_
  refine lv_iload_n hx hb d_Go_addRow_8 rfl (lv_at hl 1 rfl) ?_
  refine my_iast (i := gr) hx hb hK hP hD hS 28 0 rfl rfl (by omega) (by decide) (my_upN _ _ _) (w' := (stW a rB rT cI cJ cII cJJ nc nv ng kd vo nu nd en br bc un eu li tb cc0 cp cu cd tc ts tf ox ow ob ra rb gc gr gk (va_up gg gr x) gp gt sa sb)) rfl d_Go_addRow_9 (fun H locs hP hD hS => ?_)
  refine lv_aload_n hx hb d_Go_addRow_10 rfl (lv_at hl 0 rfl) ?_
  refine va_get (D := g) (ci := 6) (v := .ref (a 29)) (C := R_Go) (T := F_Go) (N := 6) hx hb hT i_Go hown hK hP 6 rfl rfl 4 (by decide) (hT _ tw_206) (fun _ h9 => h9) rfl d_Go_addRow_11 ?_
  refine lv_aload_n hx hb d_Go_addRow_14 rfl (lv_at hl 0 rfl) ?_
  refine va_get (D := g) (ci := 6) (v := .int (nI gr)) (C := R_Go) (T := F_Go) (N := 6) hx hb hT i_Go hown hK hP 6 rfl rfl 1 (by decide) (hT _ tw_202) (fun _ h9 => h9) rfl d_Go_addRow_15 ?_
  refine lv_iload_n hx hb d_Go_addRow_18 rfl (lv_at hl 2 rfl) ?_
  refine my_iast (i := gr) hx hb hK hP hD hS 29 0 rfl rfl (by omega) (by decide) (my_upN _ _ _) (w' := (stW a rB rT cI cJ cII cJJ nc nv ng kd vo nu nd en br bc un eu li tb cc0 cp cu cd tc ts tf ox ow ob ra rb gc gr gk (va_up gg gr x) (va_up gp gr y) gt sa sb)) rfl d_Go_addRow_19 (fun H locs hP hD hS => ?_)
  refine lv_aload_n hx hb d_Go_addRow_20 rfl (lv_at hl 0 rfl) ?_
  refine va_get (D := g) (ci := 6) (v := .ref (a 30)) (C := R_Go) (T := F_Go) (N := 6) hx hb hT i_Go hown hK hP 6 rfl rfl 5 (by decide) (hT _ tw_207) (fun _ h9 => h9) rfl d_Go_addRow_21 ?_
  refine lv_aload_n hx hb d_Go_addRow_24 rfl (lv_at hl 0 rfl) ?_
  refine va_get (D := g) (ci := 6) (v := .int (nI gr)) (C := R_Go) (T := F_Go) (N := 6) hx hb hT i_Go hown hK hP 6 rfl rfl 1 (by decide) (hT _ tw_202) (fun _ h9 => h9) rfl d_Go_addRow_25 ?_
  refine lv_iload_n hx hb d_Go_addRow_28 rfl (lv_at hl 3 rfl) ?_
  refine my_iast (i := gr) hx hb hK hP hD hS 30 0 rfl rfl (by omega) (by decide) (my_upN _ _ _) (w' := (stW a rB rT cI cJ cII cJJ nc nv ng kd vo nu nd en br bc un eu li tb cc0 cp cu cd tc ts tf ox ow ob ra rb gc gr gk (va_up gg gr x) (va_up gp gr y) (va_up gt gr z) sa sb)) rfl d_Go_addRow_29 (fun H locs hP hD hS => ?_)
  refine lv_aload_n hx hb d_Go_addRow_30 rfl (lv_at hl 0 rfl) ?_
  refine lv_dup hx hb d_Go_addRow_31 rfl ?_
  refine va_get (D := g) (ci := 6) (v := .int (nI gr)) (C := R_Go) (T := F_Go) (N := 6) hx hb hT i_Go hown hK hP 6 rfl rfl 1 (by decide) (hT _ tw_202) (fun _ h9 => h9) rfl d_Go_addRow_32 ?_
  refine lv_iconst (v := (nI 1)) hx hb d_Go_addRow_35 (by decide) ?_
  refine lv_iadd hx hb d_Go_addRow_36 ?_
  refine my_ei (nI_add gr 1) ?_
  refine va_put (D := g) (ci := 6) (v := .int (nI (gr + 1))) (ty := .int) (C := R_Go) (T := F_Go) (N := 6) hx hb hT i_Go t_Go t_Go_ok n_Go hown hK hP hD hS 6 rfl rfl 1 (by decide) (hT _ tw_202) (fun _ h9 => h9) rfl (by decide +kernel) rfl rfl (Nat.le_of_ble_eq_true rfl) d_Go_addRow_37 (fun H locs hP hD hS => ?_)
  have hP : va_P g vwCl (stW a rB rT cI cJ cII cJJ nc nv ng kd vo nu nd en br bc un eu li tb cc0 cp cu cd tc ts tf ox ow ob ra rb gc (gr + 1) gk (va_up gg gr x) (va_up gp gr y) (va_up gt gr z) sa sb) H := hP
  have hD : va_D A (stW a rB rT cI cJ cII cJJ nc nv ng kd vo nu nd en br bc un eu li tb cc0 cp cu cd tc ts tf ox ow ob ra rb gc (gr + 1) gk (va_up gg gr x) (va_up gp gr y) (va_up gt gr z) sa sb) := hD
  refine lv_aload_n hx hb d_Go_addRow_40 rfl (lv_at hl 0 rfl) ?_
  refine va_get (D := g) (ci := 6) (v := .int (nI (gr + 1))) (C := R_Go) (T := F_Go) (N := 6) hx hb hT i_Go hown hK hP 6 rfl rfl 1 (by decide) (hT _ tw_202) (fun _ h9 => h9) rfl d_Go_addRow_41 ?_
  refine hret _ _ _ _ _ hP hD hS d_Go_addRow_44 ?_
  rfl
set_option maxHeartbeats 4000000 in
set_option maxRecDepth 100000 in
theorem k_Go_hasRow (l : Launch) (g : va_G) (a rB rT : Nat → Nat) (cI cJ cII cJJ : ClassId) (nc : Nat) (nv : Nat) (ng : Nat) (kd : Nat → Int32) (vo : Nat → Nat) (nu : Nat → Nat) (nd : Nat → Nat) (en : Nat → Nat) (br : Nat → Nat → Nat) (bc : Nat → Nat) (un : Nat → Nat) (eu : Nat → Nat) (li : Nat → Nat) (tb : Nat → Nat → Int64) (cc0 : Nat) (cp : Nat → Nat) (cu : Nat → Nat) (cd : Nat → Nat) (tc : Nat) (ts : Nat → Nat) (tf : Nat → Nat) (ox : Bool) (ow : Nat → Nat) (ob : Nat → Nat) (ra : Nat) (rb : Nat) (gc : Nat) (gr : Nat) (gk : Nat → Nat) (gg : Nat → Nat) (gp : Nat → Nat) (gt : Nat → Nat) (sa : Nat) (sb : Nat) (x : Nat) (y : Nat) (z : Nat) (hr : gr ≤ 100) (hx1 : x < 1000) (hy1 : y < 1000) (hz1 : z < 1000) (hgg : ∀ j, gg j < 1000) (hgp : ∀ j, gp j < 1000) (hgt : ∀ j, gt j < 1000) : ct_i l g vwCl (tyS cI cJ cII cJJ) y_Go_hasRow c_Go_hasRow 5 (some .boolean) ({ frames := 0, cells := 0, slots := 0, locals := 0 } : Room) [.ref (a 6), .int (nI x), .int (nI y), .int (nI z)] (stW a rB rT cI cJ cII cJJ nc nv ng kd vo nu nd en br bc un eu li tb cc0 cp cu cd tc ts tf ox ow ob ra rb gc gr gk gg gp gt sa sb) (stW a rB rT cI cJ cII cJJ nc nv ng kd vo nu nd en br bc un eu li tb cc0 cp cu cd tc ts tf ox ow ob ra rb gc gr gk gg gp gt sa sb) (b2 (hR gg gp gt x y z gr)) := by
  refine ct_i.introZ (by decide) (Nat.le_of_ble_eq_true rfl) ?_
  intro p e s m args below meth c Q A ls hx hb hml hT hown hA hK hN hret hP hD hS hl
  have hown : s.vm.findClass R_Go = some m.cls := hown
  have hl : lv_has ls 5 [(0, .ref (a 6)), (1, .int (nI x)), (2, .int (nI y)), (3, .int (nI z))] := hl
  refine lv_iconst (v := (nI 0)) hx hb d_Go_hasRow_0 (by decide) ?_
  refine lv_istore (lv' := [(4, .int (nI 0)), (0, .ref (a 6)), (1, .int (nI x)), (2, .int (nI y)), (3, .int (nI z))]) hx hb d_Go_hasRow_1 hl (by decide) rfl (fun ls hl => ?_)
  have lp_3 : ∀ (k : Nat) (i : Nat) (H : Heap) (locs : List Loc) (ls : Array Slot), (gr < i + k) → (i ≤ gr) → (hR gg gp gt x y z i = false) → va_P g vwCl (stW a rB rT cI cJ cII cJJ nc nv ng kd vo nu nd en br bc un eu li tb cc0 cp cu cd tc ts tf ox ow ob ra rb gc gr gk gg gp gt sa sb) H → va_D A (stW a rB rT cI cJ cII cJJ nc nv ng kd vo nu nd en br bc un eu li tb cc0 cp cu cd tc ts tf ox ow ob ra rb gc gr gk gg gp gt sa sb) → va_S A s.heap H locs → lv_has ls 5 [(0, .ref (a 6)), (1, .int (nI x)), (2, .int (nI y)), (3, .int (nI z)), (4, .int (nI i))] → W p l e ({ frames := 0, cells := 0, slots := 0, locals := 0 } : Room) s m args below meth c H locs 0 0 Q (F0 m 3 ls []) := by
    intro k
    induction k with
    | zero =>
      intro i H locs ls hk hi hf hP hD hS hl
      exfalso
      omega
    | succ k ih_3 =>
      intro i H locs ls hk hi hf hP hD hS hl
      refine lv_iload hx hb d_Go_hasRow_3 (lv_at hl 4 rfl) ?_
      refine lv_aload_n hx hb d_Go_hasRow_5 rfl (lv_at hl 0 rfl) ?_
      refine va_get (D := g) (ci := 6) (v := .int (nI gr)) (C := R_Go) (T := F_Go) (N := 6) hx hb hT i_Go hown hK hP 6 rfl rfl 1 (by decide) (hT _ tw_202) (fun _ h9 => h9) rfl d_Go_hasRow_6 ?_
      refine my_icmp_ge (tgt := 53) (a := i) (b := gr) hx hb d_Go_hasRow_9 (by decide) (by omega) (by omega) (fun c_9 => ?_) (fun c_9 => ?_)
      · -- 9: taken
        refine lv_iconst (v := (nI 0)) hx hb d_Go_hasRow_53 (by decide) ?_
        refine hret _ _ _ _ _ hP hD hS d_Go_hasRow_54 ?_
        exact b2F (by rw [← hf, show i = gr by omega])
      · -- 9: not taken
        have q1 := hgg i; have q2 := hgp i; have q3 := hgt i
        refine lv_aload_n hx hb d_Go_hasRow_12 rfl (lv_at hl 0 rfl) ?_
        refine va_get (D := g) (ci := 6) (v := .ref (a 28)) (C := R_Go) (T := F_Go) (N := 6) hx hb hT i_Go hown hK hP 6 rfl rfl 3 (by decide) (hT _ tw_205) (fun _ h9 => h9) rfl d_Go_hasRow_13 ?_
        refine lv_iload hx hb d_Go_hasRow_16 (lv_at hl 4 rfl) ?_
        refine my_iald (v := (nI (gg i))) (i := i) hx hb hK hP 28 0 rfl rfl (by omega) (by decide) rfl d_Go_hasRow_18 ?_
        refine lv_iload_n hx hb d_Go_hasRow_19 rfl (lv_at hl 1 rfl) ?_
        refine my_icmp_ne (tgt := 47) (a := gg i) (b := x) hx hb d_Go_hasRow_20 (by decide) (by omega) (by omega) (fun c_20 => ?_) (fun c_20 => ?_)
        · -- 20: taken
          refine lv_iinc (v := (nI (i + 1))) (lv' := [(4, .int (nI (i + 1))), (0, .ref (a 6)), (1, .int (nI x)), (2, .int (nI y)), (3, .int (nI z))]) hx hb d_Go_hasRow_47 hl (k := 4) rfl (nI_1 i) (by decide) rfl (fun ls hl => ?_)
          refine lv_goto (tgt := 3) hx hb d_Go_hasRow_50 (by decide) ?_
          refine ih_3 _ _ _ _ ?_ ?_ ?_ hP hD hS (lv_sub hl [1, 2, 3, 4, 0] rfl)
          · omega
          · omega
          · simp [hR, hf, c_20]
        · -- 20: not taken
          refine lv_aload_n hx hb d_Go_hasRow_23 rfl (lv_at hl 0 rfl) ?_
          refine va_get (D := g) (ci := 6) (v := .ref (a 29)) (C := R_Go) (T := F_Go) (N := 6) hx hb hT i_Go hown hK hP 6 rfl rfl 4 (by decide) (hT _ tw_206) (fun _ h9 => h9) rfl d_Go_hasRow_24 ?_
          refine lv_iload hx hb d_Go_hasRow_27 (lv_at hl 4 rfl) ?_
          refine my_iald (v := (nI (gp i))) (i := i) hx hb hK hP 29 0 rfl rfl (by omega) (by decide) rfl d_Go_hasRow_29 ?_
          refine lv_iload_n hx hb d_Go_hasRow_30 rfl (lv_at hl 2 rfl) ?_
          refine my_icmp_ne (tgt := 47) (a := gp i) (b := y) hx hb d_Go_hasRow_31 (by decide) (by omega) (by omega) (fun c_31 => ?_) (fun c_31 => ?_)
          · -- 31: taken
            refine lv_iinc (v := (nI (i + 1))) (lv' := [(4, .int (nI (i + 1))), (0, .ref (a 6)), (1, .int (nI x)), (2, .int (nI y)), (3, .int (nI z))]) hx hb d_Go_hasRow_47 hl (k := 4) rfl (nI_1 i) (by decide) rfl (fun ls hl => ?_)
            refine lv_goto (tgt := 3) hx hb d_Go_hasRow_50 (by decide) ?_
            refine ih_3 _ _ _ _ ?_ ?_ ?_ hP hD hS (lv_sub hl [1, 2, 3, 4, 0] rfl)
            · omega
            · omega
            · simp [hR, hf, c_20, c_31]
          · -- 31: not taken
            refine lv_aload_n hx hb d_Go_hasRow_34 rfl (lv_at hl 0 rfl) ?_
            refine va_get (D := g) (ci := 6) (v := .ref (a 30)) (C := R_Go) (T := F_Go) (N := 6) hx hb hT i_Go hown hK hP 6 rfl rfl 5 (by decide) (hT _ tw_207) (fun _ h9 => h9) rfl d_Go_hasRow_35 ?_
            refine lv_iload hx hb d_Go_hasRow_38 (lv_at hl 4 rfl) ?_
            refine my_iald (v := (nI (gt i))) (i := i) hx hb hK hP 30 0 rfl rfl (by omega) (by decide) rfl d_Go_hasRow_40 ?_
            refine lv_iload_n hx hb d_Go_hasRow_41 rfl (lv_at hl 3 rfl) ?_
            refine my_icmp_ne (tgt := 47) (a := gt i) (b := z) hx hb d_Go_hasRow_42 (by decide) (by omega) (by omega) (fun c_42 => ?_) (fun c_42 => ?_)
            · -- 42: taken
              refine lv_iinc (v := (nI (i + 1))) (lv' := [(4, .int (nI (i + 1))), (0, .ref (a 6)), (1, .int (nI x)), (2, .int (nI y)), (3, .int (nI z))]) hx hb d_Go_hasRow_47 hl (k := 4) rfl (nI_1 i) (by decide) rfl (fun ls hl => ?_)
              refine lv_goto (tgt := 3) hx hb d_Go_hasRow_50 (by decide) ?_
              refine ih_3 _ _ _ _ ?_ ?_ ?_ hP hD hS (lv_sub hl [1, 2, 3, 4, 0] rfl)
              · omega
              · omega
              · simp [hR, hf, c_20, c_31, c_42]
            · -- 42: not taken
              refine lv_iconst (v := (nI 1)) hx hb d_Go_hasRow_45 (by decide) ?_
              refine hret _ _ _ _ _ hP hD hS d_Go_hasRow_46 ?_
              exact b2T (hR_t gr (by omega) c_20 c_31 c_42)
  refine lp_3 (gr + 1) _ _ _ _ ?_ ?_ ?_ hP hD hS (lv_sub hl [1, 2, 3, 4, 0] rfl)
  · omega
  · omega
  · rfl
set_option maxHeartbeats 4000000 in
set_option maxRecDepth 100000 in
theorem k_Go_rowsOfPart (l : Launch) (g : va_G) (a rB rT : Nat → Nat) (cI cJ cII cJJ : ClassId) (nc : Nat) (nv : Nat) (ng : Nat) (kd : Nat → Int32) (vo : Nat → Nat) (nu : Nat → Nat) (nd : Nat → Nat) (en : Nat → Nat) (br : Nat → Nat → Nat) (bc : Nat → Nat) (un : Nat → Nat) (eu : Nat → Nat) (li : Nat → Nat) (tb : Nat → Nat → Int64) (cc0 : Nat) (cp : Nat → Nat) (cu : Nat → Nat) (cd : Nat → Nat) (tc : Nat) (ts : Nat → Nat) (tf : Nat → Nat) (ox : Bool) (ow : Nat → Nat) (ob : Nat → Nat) (ra : Nat) (rb : Nat) (gc : Nat) (gr : Nat) (gk : Nat → Nat) (gg : Nat → Nat) (gp : Nat → Nat) (gt : Nat → Nat) (sa : Nat) (sb : Nat) (x : Int32) (hr : gr ≤ 100) : ct_i l g vwCl (tyS cI cJ cII cJJ) y_Go_rowsOfPart c_Go_rowsOfPart 4 (some .int) ({ frames := 0, cells := 0, slots := 0, locals := 0 } : Room) [.ref (a 6), .int x] (stW a rB rT cI cJ cII cJJ nc nv ng kd vo nu nd en br bc un eu li tb cc0 cp cu cd tc ts tf ox ow ob ra rb gc gr gk gg gp gt sa sb) (stW a rB rT cI cJ cII cJJ nc nv ng kd vo nu nd en br bc un eu li tb cc0 cp cu cd tc ts tf ox ow ob ra rb gc gr gk gg gp gt sa sb) (nI (rP gp x gr)) := by
  refine ct_i.intro (by decide) (Nat.le_of_ble_eq_true rfl) ?_
  intro p e s m args below meth c Q A ls hx hb hml hT hown hA hK hN hret hP hD hS hl
  have hown : s.vm.findClass R_Go = some m.cls := hown
  have hl : lv_has ls 4 [(0, .ref (a 6)), (1, .int x)] := hl
  refine lv_iconst (v := (nI 0)) hx hb d_Go_rowsOfPart_0 (by decide) ?_
  refine lv_istore_n (lv' := [(2, .int (nI 0)), (0, .ref (a 6)), (1, .int x)]) hx hb d_Go_rowsOfPart_1 rfl hl (by decide) rfl (fun ls hl => ?_)
  refine lv_iconst (v := (nI 0)) hx hb d_Go_rowsOfPart_2 (by decide) ?_
  refine lv_istore_n (lv' := [(3, .int (nI 0)), (2, .int (nI 0)), (0, .ref (a 6)), (1, .int x)]) hx hb d_Go_rowsOfPart_3 rfl hl (by decide) rfl (fun ls hl => ?_)
  have lp_4 : ∀ (k : Nat) (i : Nat) (f : Nat) (H : Heap) (locs : List Loc) (ls : Array Slot), (gr < i + k) → (i ≤ gr) → (f = rP gp x i) → va_P g vwCl (stW a rB rT cI cJ cII cJJ nc nv ng kd vo nu nd en br bc un eu li tb cc0 cp cu cd tc ts tf ox ow ob ra rb gc gr gk gg gp gt sa sb) H → va_D A (stW a rB rT cI cJ cII cJJ nc nv ng kd vo nu nd en br bc un eu li tb cc0 cp cu cd tc ts tf ox ow ob ra rb gc gr gk gg gp gt sa sb) → va_S A s.heap H locs → lv_has ls 4 [(0, .ref (a 6)), (1, .int x), (2, .int (nI f)), (3, .int (nI i))] → W p l e ({ frames := 0, cells := 0, slots := 0, locals := 0 } : Room) s m args below meth c H locs 0 0 Q (F0 m 4 ls []) := by
    intro k
    induction k with
    | zero =>
      intro i f H locs ls hk hi hf hP hD hS hl
      exfalso
      omega
    | succ k ih_4 =>
      intro i f H locs ls hk hi hf hP hD hS hl
      refine lv_iload_n hx hb d_Go_rowsOfPart_4 rfl (lv_at hl 3 rfl) ?_
      refine lv_aload_n hx hb d_Go_rowsOfPart_5 rfl (lv_at hl 0 rfl) ?_
      refine va_get (D := g) (ci := 6) (v := .int (nI gr)) (C := R_Go) (T := F_Go) (N := 6) hx hb hT i_Go hown hK hP 6 rfl rfl 1 (by decide) (hT _ tw_202) (fun _ h9 => h9) rfl d_Go_rowsOfPart_6 ?_
      refine my_icmp_ge (tgt := 31) (a := i) (b := gr) hx hb d_Go_rowsOfPart_9 (by decide) (by omega) (by omega) (fun c_9 => ?_) (fun c_9 => ?_)
      · -- 9: taken
        refine lv_iload_n hx hb d_Go_rowsOfPart_31 rfl (lv_at hl 2 rfl) ?_
        refine hret _ _ _ _ _ hP hD hS d_Go_rowsOfPart_32 ?_
        rw [hf, show i = gr by omega]
      · -- 9: not taken
        refine lv_aload_n hx hb d_Go_rowsOfPart_12 rfl (lv_at hl 0 rfl) ?_
        refine va_get (D := g) (ci := 6) (v := .ref (a 29)) (C := R_Go) (T := F_Go) (N := 6) hx hb hT i_Go hown hK hP 6 rfl rfl 4 (by decide) (hT _ tw_206) (fun _ h9 => h9) rfl d_Go_rowsOfPart_13 ?_
        refine lv_iload_n hx hb d_Go_rowsOfPart_16 rfl (lv_at hl 3 rfl) ?_
        refine my_iald (v := (nI (gp i))) (i := i) hx hb hK hP 29 0 rfl rfl (by omega) (by decide) rfl d_Go_rowsOfPart_17 ?_
        refine lv_iload_n hx hb d_Go_rowsOfPart_18 rfl (lv_at hl 1 rfl) ?_
        refine lv_icmp_ne (tgt := 25) hx hb d_Go_rowsOfPart_19 (by decide) (fun c_19 => ?_) (fun c_19 => ?_)
        · -- 19: taken
          refine lv_iinc (v := (nI (i + 1))) (lv' := [(3, .int (nI (i + 1))), (0, .ref (a 6)), (1, .int x), (2, .int (nI f))]) hx hb d_Go_rowsOfPart_25 hl (k := 3) rfl (nI_1 i) (by decide) rfl (fun ls hl => ?_)
          refine lv_goto (tgt := 4) hx hb d_Go_rowsOfPart_28 (by decide) ?_
          refine ih_4 _ _ _ _ _ ?_ ?_ ?_ hP hD hS (lv_sub hl [1, 2, 3, 0] rfl)
          · omega
          · omega
          · rw [hf]; simp [rP, c_19]
        · -- 19: not taken
          refine lv_iinc (v := (nI (f + 1))) (lv' := [(2, .int (nI (f + 1))), (0, .ref (a 6)), (1, .int x), (3, .int (nI i))]) hx hb d_Go_rowsOfPart_22 hl (k := 2) rfl (nI_1 f) (by decide) rfl (fun ls hl => ?_)
          refine lv_iinc (v := (nI (i + 1))) (lv' := [(3, .int (nI (i + 1))), (2, .int (nI (f + 1))), (0, .ref (a 6)), (1, .int x)]) hx hb d_Go_rowsOfPart_25 hl (k := 3) rfl (nI_1 i) (by decide) rfl (fun ls hl => ?_)
          refine lv_goto (tgt := 4) hx hb d_Go_rowsOfPart_28 (by decide) ?_
          refine ih_4 _ _ _ _ _ ?_ ?_ ?_ hP hD hS (lv_sub hl [2, 3, 1, 0] rfl)
          · omega
          · omega
          · rw [hf]; simp [rP, c_19]
  refine lp_4 (gr + 1) _ _ _ _ _ ?_ ?_ ?_ hP hD hS (lv_sub hl [2, 3, 1, 0] rfl)
  · omega
  · omega
  · rfl
set_option maxHeartbeats 4000000 in
set_option maxRecDepth 100000 in
theorem k_Go_testedRowsOfPart (l : Launch) (g : va_G) (a rB rT : Nat → Nat) (cI cJ cII cJJ : ClassId) (nc : Nat) (nv : Nat) (ng : Nat) (kd : Nat → Int32) (vo : Nat → Nat) (nu : Nat → Nat) (nd : Nat → Nat) (en : Nat → Nat) (br : Nat → Nat → Nat) (bc : Nat → Nat) (un : Nat → Nat) (eu : Nat → Nat) (li : Nat → Nat) (tb : Nat → Nat → Int64) (cc0 : Nat) (cp : Nat → Nat) (cu : Nat → Nat) (cd : Nat → Nat) (tc : Nat) (ts : Nat → Nat) (tf : Nat → Nat) (ox : Bool) (ow : Nat → Nat) (ob : Nat → Nat) (ra : Nat) (rb : Nat) (gc : Nat) (gr : Nat) (gk : Nat → Nat) (gg : Nat → Nat) (gp : Nat → Nat) (gt : Nat → Nat) (sa : Nat) (sb : Nat) (x : Int32) (hr : gr ≤ 100) (hgt : ∀ j, gt j < 1000) : ct_i l g vwCl (tyS cI cJ cII cJJ) y_Go_testedRowsOfPart c_Go_testedRowsOfPart 4 (some .int) ({ frames := 0, cells := 0, slots := 0, locals := 0 } : Room) [.ref (a 6), .int x] (stW a rB rT cI cJ cII cJJ nc nv ng kd vo nu nd en br bc un eu li tb cc0 cp cu cd tc ts tf ox ow ob ra rb gc gr gk gg gp gt sa sb) (stW a rB rT cI cJ cII cJJ nc nv ng kd vo nu nd en br bc un eu li tb cc0 cp cu cd tc ts tf ox ow ob ra rb gc gr gk gg gp gt sa sb) (nI (tP gp gt x gr)) := by
  refine ct_i.intro (by decide) (Nat.le_of_ble_eq_true rfl) ?_
  intro p e s m args below meth c Q A ls hx hb hml hT hown hA hK hN hret hP hD hS hl
  have hown : s.vm.findClass R_Go = some m.cls := hown
  have hl : lv_has ls 4 [(0, .ref (a 6)), (1, .int x)] := hl
  refine lv_iconst (v := (nI 0)) hx hb d_Go_testedRowsOfPart_0 (by decide) ?_
  refine lv_istore_n (lv' := [(2, .int (nI 0)), (0, .ref (a 6)), (1, .int x)]) hx hb d_Go_testedRowsOfPart_1 rfl hl (by decide) rfl (fun ls hl => ?_)
  refine lv_iconst (v := (nI 0)) hx hb d_Go_testedRowsOfPart_2 (by decide) ?_
  refine lv_istore_n (lv' := [(3, .int (nI 0)), (2, .int (nI 0)), (0, .ref (a 6)), (1, .int x)]) hx hb d_Go_testedRowsOfPart_3 rfl hl (by decide) rfl (fun ls hl => ?_)
  have lp_4 : ∀ (k : Nat) (i : Nat) (f : Nat) (H : Heap) (locs : List Loc) (ls : Array Slot), (gr < i + k) → (i ≤ gr) → (f = tP gp gt x i) → va_P g vwCl (stW a rB rT cI cJ cII cJJ nc nv ng kd vo nu nd en br bc un eu li tb cc0 cp cu cd tc ts tf ox ow ob ra rb gc gr gk gg gp gt sa sb) H → va_D A (stW a rB rT cI cJ cII cJJ nc nv ng kd vo nu nd en br bc un eu li tb cc0 cp cu cd tc ts tf ox ow ob ra rb gc gr gk gg gp gt sa sb) → va_S A s.heap H locs → lv_has ls 4 [(0, .ref (a 6)), (1, .int x), (2, .int (nI f)), (3, .int (nI i))] → W p l e ({ frames := 0, cells := 0, slots := 0, locals := 0 } : Room) s m args below meth c H locs 0 0 Q (F0 m 4 ls []) := by
    intro k
    induction k with
    | zero =>
      intro i f H locs ls hk hi hf hP hD hS hl
      exfalso
      omega
    | succ k ih_4 =>
      intro i f H locs ls hk hi hf hP hD hS hl
      refine lv_iload_n hx hb d_Go_testedRowsOfPart_4 rfl (lv_at hl 3 rfl) ?_
      refine lv_aload_n hx hb d_Go_testedRowsOfPart_5 rfl (lv_at hl 0 rfl) ?_
      refine va_get (D := g) (ci := 6) (v := .int (nI gr)) (C := R_Go) (T := F_Go) (N := 6) hx hb hT i_Go hown hK hP 6 rfl rfl 1 (by decide) (hT _ tw_202) (fun _ h9 => h9) rfl d_Go_testedRowsOfPart_6 ?_
      refine my_icmp_ge (tgt := 40) (a := i) (b := gr) hx hb d_Go_testedRowsOfPart_9 (by decide) (by omega) (by omega) (fun c_9 => ?_) (fun c_9 => ?_)
      · -- 9: taken
        refine lv_iload_n hx hb d_Go_testedRowsOfPart_40 rfl (lv_at hl 2 rfl) ?_
        refine hret _ _ _ _ _ hP hD hS d_Go_testedRowsOfPart_41 ?_
        rw [hf, show i = gr by omega]
      · -- 9: not taken
        have q3 := hgt i
        refine lv_aload_n hx hb d_Go_testedRowsOfPart_12 rfl (lv_at hl 0 rfl) ?_
        refine va_get (D := g) (ci := 6) (v := .ref (a 29)) (C := R_Go) (T := F_Go) (N := 6) hx hb hT i_Go hown hK hP 6 rfl rfl 4 (by decide) (hT _ tw_206) (fun _ h9 => h9) rfl d_Go_testedRowsOfPart_13 ?_
        refine lv_iload_n hx hb d_Go_testedRowsOfPart_16 rfl (lv_at hl 3 rfl) ?_
        refine my_iald (v := (nI (gp i))) (i := i) hx hb hK hP 29 0 rfl rfl (by omega) (by decide) rfl d_Go_testedRowsOfPart_17 ?_
        refine lv_iload_n hx hb d_Go_testedRowsOfPart_18 rfl (lv_at hl 1 rfl) ?_
        refine lv_icmp_ne (tgt := 34) hx hb d_Go_testedRowsOfPart_19 (by decide) (fun c_19 => ?_) (fun c_19 => ?_)
        · -- 19: taken
          refine lv_iinc (v := (nI (i + 1))) (lv' := [(3, .int (nI (i + 1))), (0, .ref (a 6)), (1, .int x), (2, .int (nI f))]) hx hb d_Go_testedRowsOfPart_34 hl (k := 3) rfl (nI_1 i) (by decide) rfl (fun ls hl => ?_)
          refine lv_goto (tgt := 4) hx hb d_Go_testedRowsOfPart_37 (by decide) ?_
          refine ih_4 _ _ _ _ _ ?_ ?_ ?_ hP hD hS (lv_sub hl [1, 2, 3, 0] rfl)
          · omega
          · omega
          · rw [hf]; simp [tP, c_19]
        · -- 19: not taken
          refine lv_aload_n hx hb d_Go_testedRowsOfPart_22 rfl (lv_at hl 0 rfl) ?_
          refine va_get (D := g) (ci := 6) (v := .ref (a 30)) (C := R_Go) (T := F_Go) (N := 6) hx hb hT i_Go hown hK hP 6 rfl rfl 5 (by decide) (hT _ tw_207) (fun _ h9 => h9) rfl d_Go_testedRowsOfPart_23 ?_
          refine lv_iload_n hx hb d_Go_testedRowsOfPart_26 rfl (lv_at hl 3 rfl) ?_
          refine my_iald (v := (nI (gt i))) (i := i) hx hb hK hP 30 0 rfl rfl (by omega) (by decide) rfl d_Go_testedRowsOfPart_27 ?_
          refine my_if_eq (tgt := 34) (a := gt i) hx hb d_Go_testedRowsOfPart_28 (by decide) (by omega) (fun c_28 => ?_) (fun c_28 => ?_)
          · -- 28: taken
            refine lv_iinc (v := (nI (i + 1))) (lv' := [(3, .int (nI (i + 1))), (0, .ref (a 6)), (1, .int x), (2, .int (nI f))]) hx hb d_Go_testedRowsOfPart_34 hl (k := 3) rfl (nI_1 i) (by decide) rfl (fun ls hl => ?_)
            refine lv_goto (tgt := 4) hx hb d_Go_testedRowsOfPart_37 (by decide) ?_
            refine ih_4 _ _ _ _ _ ?_ ?_ ?_ hP hD hS (lv_sub hl [1, 2, 3, 0] rfl)
            · omega
            · omega
            · rw [hf]; simp [tP, c_19, c_28]
          · -- 28: not taken
            refine lv_iinc (v := (nI (f + 1))) (lv' := [(2, .int (nI (f + 1))), (0, .ref (a 6)), (1, .int x), (3, .int (nI i))]) hx hb d_Go_testedRowsOfPart_31 hl (k := 2) rfl (nI_1 f) (by decide) rfl (fun ls hl => ?_)
            refine lv_iinc (v := (nI (i + 1))) (lv' := [(3, .int (nI (i + 1))), (2, .int (nI (f + 1))), (0, .ref (a 6)), (1, .int x)]) hx hb d_Go_testedRowsOfPart_34 hl (k := 3) rfl (nI_1 i) (by decide) rfl (fun ls hl => ?_)
            refine lv_goto (tgt := 4) hx hb d_Go_testedRowsOfPart_37 (by decide) ?_
            refine ih_4 _ _ _ _ _ ?_ ?_ ?_ hP hD hS (lv_sub hl [2, 3, 1, 0] rfl)
            · omega
            · omega
            · rw [hf]; simp [tP, c_19, c_28]
  refine lp_4 (gr + 1) _ _ _ _ _ ?_ ?_ ?_ hP hD hS (lv_sub hl [2, 3, 1, 0] rfl)
  · omega
  · omega
  · rfl
set_option maxHeartbeats 4000000 in
set_option maxRecDepth 100000 in
theorem k_Go_isGoalOpen (l : Launch) (g : va_G) (a rB rT : Nat → Nat) (cI cJ cII cJJ : ClassId) (nc : Nat) (nv : Nat) (ng : Nat) (kd : Nat → Int32) (vo : Nat → Nat) (nu : Nat → Nat) (nd : Nat → Nat) (en : Nat → Nat) (br : Nat → Nat → Nat) (bc : Nat → Nat) (un : Nat → Nat) (eu : Nat → Nat) (li : Nat → Nat) (tb : Nat → Nat → Int64) (cc0 : Nat) (cp : Nat → Nat) (cu : Nat → Nat) (cd : Nat → Nat) (tc : Nat) (ts : Nat → Nat) (tf : Nat → Nat) (ox : Bool) (ow : Nat → Nat) (ob : Nat → Nat) (ra : Nat) (rb : Nat) (gc : Nat) (gr : Nat) (gk : Nat → Nat) (gg : Nat → Nat) (gp : Nat → Nat) (gt : Nat → Nat) (sa : Nat) (sb : Nat) (x : Nat) (hx1 : x ≤ 30) (hr : gr ≤ 100) (hgk : ∀ j, gk j < 1000) (hgg : ∀ j, gg j < 1000) (hgt : ∀ j, gt j < 1000) : ct_i l g vwCl (tyS cI cJ cII cJJ) y_Go_isGoalOpen c_Go_isGoalOpen 3 (some .boolean) ({ frames := 0, cells := 0, slots := 0, locals := 0 } : Room) [.ref (a 6), .int (nI x)] (stW a rB rT cI cJ cII cJJ nc nv ng kd vo nu nd en br bc un eu li tb cc0 cp cu cd tc ts tf ox ow ob ra rb gc gr gk gg gp gt sa sb) (stW a rB rT cI cJ cII cJJ nc nv ng kd vo nu nd en br bc un eu li tb cc0 cp cu cd tc ts tf ox ow ob ra rb gc gr gk gg gp gt sa sb) (b2 (gOp gk gg gt gr x)) := by
  refine ct_i.introZ (by decide) (Nat.le_of_ble_eq_true rfl) ?_
  intro p e s m args below meth c Q A ls hx hb hml hT hown hA hK hN hret hP hD hS hl
  have hown : s.vm.findClass R_Go = some m.cls := hown
  have hl : lv_has ls 3 [(0, .ref (a 6)), (1, .int (nI x))] := hl
  refine lv_aload_n hx hb d_Go_isGoalOpen_0 rfl (lv_at hl 0 rfl) ?_
  refine va_get (D := g) (ci := 6) (v := .ref (a 27)) (C := R_Go) (T := F_Go) (N := 6) hx hb hT i_Go hown hK hP 6 rfl rfl 2 (by decide) (hT _ tw_204) (fun _ h9 => h9) rfl d_Go_isGoalOpen_1 ?_
  refine lv_iload_n hx hb d_Go_isGoalOpen_4 rfl (lv_at hl 1 rfl) ?_
  have q0 := hgk x
  refine my_iald (v := (nI (gk x))) (i := x) hx hb hK hP 27 0 rfl rfl (by omega) (by decide) rfl d_Go_isGoalOpen_5 ?_
  refine my_if_ne (tgt := 11) (a := gk x) hx hb d_Go_isGoalOpen_6 (by decide) (by omega) (fun c_6 => ?_) (fun c_6 => ?_)
  · -- 6: taken
    refine lv_iconst (v := (nI 0)) hx hb d_Go_isGoalOpen_11 (by decide) ?_
    refine lv_istore_n (lv' := [(2, .int (nI 0)), (0, .ref (a 6)), (1, .int (nI x))]) hx hb d_Go_isGoalOpen_12 rfl hl (by decide) rfl (fun ls hl => ?_)
    have lp_13 : ∀ (k : Nat) (i : Nat) (H : Heap) (locs : List Loc) (ls : Array Slot), (gr < i + k) → (i ≤ gr) → (hT0 gg gt x i = false) → va_P g vwCl (stW a rB rT cI cJ cII cJJ nc nv ng kd vo nu nd en br bc un eu li tb cc0 cp cu cd tc ts tf ox ow ob ra rb gc gr gk gg gp gt sa sb) H → va_D A (stW a rB rT cI cJ cII cJJ nc nv ng kd vo nu nd en br bc un eu li tb cc0 cp cu cd tc ts tf ox ow ob ra rb gc gr gk gg gp gt sa sb) → va_S A s.heap H locs → lv_has ls 3 [(0, .ref (a 6)), (1, .int (nI x)), (2, .int (nI i))] → W p l e ({ frames := 0, cells := 0, slots := 0, locals := 0 } : Room) s m args below meth c H locs 0 0 Q (F0 m 13 ls []) := by
      intro k
      induction k with
      | zero =>
        intro i H locs ls hk hi hf hP hD hS hl
        exfalso
        omega
      | succ k ih_13 =>
        intro i H locs ls hk hi hf hP hD hS hl
        refine lv_iload_n hx hb d_Go_isGoalOpen_13 rfl (lv_at hl 2 rfl) ?_
        refine lv_aload_n hx hb d_Go_isGoalOpen_14 rfl (lv_at hl 0 rfl) ?_
        refine va_get (D := g) (ci := 6) (v := .int (nI gr)) (C := R_Go) (T := F_Go) (N := 6) hx hb hT i_Go hown hK hP 6 rfl rfl 1 (by decide) (hT _ tw_202) (fun _ h9 => h9) rfl d_Go_isGoalOpen_15 ?_
        refine my_icmp_ge (tgt := 48) (a := i) (b := gr) hx hb d_Go_isGoalOpen_18 (by decide) (by omega) (by omega) (fun c_18 => ?_) (fun c_18 => ?_)
        · -- 18: taken
          refine lv_iconst (v := (nI 1)) hx hb d_Go_isGoalOpen_48 (by decide) ?_
          refine hret _ _ _ _ _ hP hD hS d_Go_isGoalOpen_49 ?_
          exact b2T (by have e : hT0 gg gt x gr = false := by rw [← hf, show i = gr by omega]
                        simp [gOp, c_6, e])
        · -- 18: not taken
          have q1 := hgg i; have q3 := hgt i
          refine lv_aload_n hx hb d_Go_isGoalOpen_21 rfl (lv_at hl 0 rfl) ?_
          refine va_get (D := g) (ci := 6) (v := .ref (a 28)) (C := R_Go) (T := F_Go) (N := 6) hx hb hT i_Go hown hK hP 6 rfl rfl 3 (by decide) (hT _ tw_205) (fun _ h9 => h9) rfl d_Go_isGoalOpen_22 ?_
          refine lv_iload_n hx hb d_Go_isGoalOpen_25 rfl (lv_at hl 2 rfl) ?_
          refine my_iald (v := (nI (gg i))) (i := i) hx hb hK hP 28 0 rfl rfl (by omega) (by decide) rfl d_Go_isGoalOpen_26 ?_
          refine lv_iload_n hx hb d_Go_isGoalOpen_27 rfl (lv_at hl 1 rfl) ?_
          refine my_icmp_ne (tgt := 42) (a := gg i) (b := x) hx hb d_Go_isGoalOpen_28 (by decide) (by omega) (by omega) (fun c_28 => ?_) (fun c_28 => ?_)
          · -- 28: taken
            refine lv_iinc (v := (nI (i + 1))) (lv' := [(2, .int (nI (i + 1))), (0, .ref (a 6)), (1, .int (nI x))]) hx hb d_Go_isGoalOpen_42 hl (k := 2) rfl (nI_1 i) (by decide) rfl (fun ls hl => ?_)
            refine lv_goto (tgt := 13) hx hb d_Go_isGoalOpen_45 (by decide) ?_
            refine ih_13 _ _ _ _ ?_ ?_ ?_ hP hD hS (lv_sub hl [1, 2, 0] rfl)
            · omega
            · omega
            · simp [hT0, hf, c_28]
          · -- 28: not taken
            refine lv_aload_n hx hb d_Go_isGoalOpen_31 rfl (lv_at hl 0 rfl) ?_
            refine va_get (D := g) (ci := 6) (v := .ref (a 30)) (C := R_Go) (T := F_Go) (N := 6) hx hb hT i_Go hown hK hP 6 rfl rfl 5 (by decide) (hT _ tw_207) (fun _ h9 => h9) rfl d_Go_isGoalOpen_32 ?_
            refine lv_iload_n hx hb d_Go_isGoalOpen_35 rfl (lv_at hl 2 rfl) ?_
            refine my_iald (v := (nI (gt i))) (i := i) hx hb hK hP 30 0 rfl rfl (by omega) (by decide) rfl d_Go_isGoalOpen_36 ?_
            refine my_if_eq (tgt := 42) (a := gt i) hx hb d_Go_isGoalOpen_37 (by decide) (by omega) (fun c_37 => ?_) (fun c_37 => ?_)
            · -- 37: taken
              refine lv_iinc (v := (nI (i + 1))) (lv' := [(2, .int (nI (i + 1))), (0, .ref (a 6)), (1, .int (nI x))]) hx hb d_Go_isGoalOpen_42 hl (k := 2) rfl (nI_1 i) (by decide) rfl (fun ls hl => ?_)
              refine lv_goto (tgt := 13) hx hb d_Go_isGoalOpen_45 (by decide) ?_
              refine ih_13 _ _ _ _ ?_ ?_ ?_ hP hD hS (lv_sub hl [1, 2, 0] rfl)
              · omega
              · omega
              · simp [hT0, hf, c_28, c_37]
            · -- 37: not taken
              refine lv_iconst (v := (nI 0)) hx hb d_Go_isGoalOpen_40 (by decide) ?_
              refine hret _ _ _ _ _ hP hD hS d_Go_isGoalOpen_41 ?_
              exact b2F (by simp [gOp, hT0_t gr (by omega) c_28 c_37])
    refine lp_13 (gr + 1) _ _ _ _ ?_ ?_ ?_ hP hD hS (lv_sub hl [1, 2, 0] rfl)
    · omega
    · omega
    · rfl
  · -- 6: not taken
    refine lv_iconst (v := (nI 0)) hx hb d_Go_isGoalOpen_9 (by decide) ?_
    refine hret _ _ _ _ _ hP hD hS d_Go_isGoalOpen_10 ?_
    exact b2F (by simp [gOp, c_6])
set_option maxHeartbeats 4000000 in
set_option maxRecDepth 100000 in
theorem k_Go_isPartOpen (l : Launch) (g : va_G) (a rB rT : Nat → Nat) (cI cJ cII cJJ : ClassId) (nc : Nat) (nv : Nat) (ng : Nat) (kd : Nat → Int32) (vo : Nat → Nat) (nu : Nat → Nat) (nd : Nat → Nat) (en : Nat → Nat) (br : Nat → Nat → Nat) (bc : Nat → Nat) (un : Nat → Nat) (eu : Nat → Nat) (li : Nat → Nat) (tb : Nat → Nat → Int64) (cc0 : Nat) (cp : Nat → Nat) (cu : Nat → Nat) (cd : Nat → Nat) (tc : Nat) (ts : Nat → Nat) (tf : Nat → Nat) (ox : Bool) (ow : Nat → Nat) (ob : Nat → Nat) (ra : Nat) (rb : Nat) (gc : Nat) (gr : Nat) (gk : Nat → Nat) (gg : Nat → Nat) (gp : Nat → Nat) (gt : Nat → Nat) (sa : Nat) (sb : Nat) (y : Nat) (hr : gr ≤ 100) (hgt : ∀ j, gt j < 1000) : ct_i l g vwCl (tyS cI cJ cII cJJ) y_Go_isPartOpen c_Go_isPartOpen 2 (some .boolean) ({ frames := 1, cells := 0, slots := 0, locals := 23 } : Room) [.ref (a 6), .int (nI y)] (stW a rB rT cI cJ cII cJJ nc nv ng kd vo nu nd en br bc un eu li tb cc0 cp cu cd tc ts tf ox ow ob ra rb gc gr gk gg gp gt sa sb) (stW a rB rT cI cJ cII cJJ nc nv ng kd vo nu nd en br bc un eu li tb cc0 cp cu cd tc ts tf ox ow ob ra rb gc gr gk gg gp gt sa sb) (b2 (pOp gp gt gr y)) := by
  refine ct_i.introZ (by decide) (Nat.le_of_ble_eq_true rfl) ?_
  intro p e s m args below meth c Q A ls hx hb hml hT hown hA hK hN hret hP hD hS hl
  have hown : s.vm.findClass R_Go = some m.cls := hown
  have hl : lv_has ls 2 [(0, .ref (a 6)), (1, .int (nI y))] := hl
  have q1 := rP_le gp (nI y) gr
  have q2 := tP_le gp gt (nI y) gr
  refine lv_aload_n hx hb d_Go_isPartOpen_0 rfl (lv_at hl 0 rfl) ?_
  refine lv_iload_n hx hb d_Go_isPartOpen_1 rfl (lv_at hl 1 rfl) ?_
  refine my_V_i (q0 := 6) (ci := 6) (C := R_Go) (As := [.int (nI y)]) (n := 1) (k_Go_rowsOfPart l g a rB rT cI cJ cII cJJ nc nv ng kd vo nu nd en br bc un eu li tb cc0 cp cu cd tc ts tf ox ow ob ra rb gc gr gk gg gp gt sa sb (nI y) (by omega)) hx hb hml hown hT hN tw_520 tw_521 tw_522 tw_8 tw_523 (by decide +kernel) rfl rfl ⟨Nat.le_of_ble_eq_true rfl, Nat.le_of_ble_eq_true rfl⟩ ⟨Nat.zero_le _, Nat.zero_le _⟩ hK hP hD hS hA rfl rfl rfl hl rfl (Nat.le_of_ble_eq_true rfl) d_Go_isPartOpen_2 (fun H locs hP hD hS => ?_)
  refine my_if_le (tgt := 20) (a := rP gp (nI y) gr) hx hb d_Go_isPartOpen_5 (by decide) (by omega) (fun c_5 => ?_) (fun c_5 => ?_)
  · -- 5: taken
    refine lv_iconst (v := (nI 0)) hx hb d_Go_isPartOpen_20 (by decide) ?_
    refine hret _ _ _ _ _ hP hD hS d_Go_isPartOpen_21 ?_
    exact b2F (by first | (simp [pOp, c_5]; done) | (simp [pOp, c_5]; omega))
  · -- 5: not taken
    refine lv_aload_n hx hb d_Go_isPartOpen_8 rfl (lv_at hl 0 rfl) ?_
    refine lv_iload_n hx hb d_Go_isPartOpen_9 rfl (lv_at hl 1 rfl) ?_
    refine my_V_i (q0 := 6) (ci := 6) (C := R_Go) (As := [.int (nI y)]) (n := 1) (k_Go_testedRowsOfPart l g a rB rT cI cJ cII cJJ nc nv ng kd vo nu nd en br bc un eu li tb cc0 cp cu cd tc ts tf ox ow ob ra rb gc gr gk gg gp gt sa sb (nI y) hr hgt) hx hb hml hown hT hN tw_524 tw_525 tw_526 tw_8 tw_527 (by decide +kernel) rfl rfl ⟨Nat.le_of_ble_eq_true rfl, Nat.le_of_ble_eq_true rfl⟩ ⟨Nat.zero_le _, Nat.zero_le _⟩ hK hP hD hS hA rfl rfl rfl hl rfl (Nat.le_of_ble_eq_true rfl) d_Go_isPartOpen_10 (fun H locs hP hD hS => ?_)
    refine my_if_ne (tgt := 20) (a := tP gp gt (nI y) gr) hx hb d_Go_isPartOpen_13 (by decide) (by omega) (fun c_13 => ?_) (fun c_13 => ?_)
    · -- 13: taken
      refine lv_iconst (v := (nI 0)) hx hb d_Go_isPartOpen_20 (by decide) ?_
      refine hret _ _ _ _ _ hP hD hS d_Go_isPartOpen_21 ?_
      exact b2F (by first | (simp [pOp, c_5, c_13]; done) | (simp [pOp, c_5, c_13]; omega))
    · -- 13: not taken
      refine lv_iconst (v := (nI 1)) hx hb d_Go_isPartOpen_16 (by decide) ?_
      refine lv_goto (tgt := 21) hx hb d_Go_isPartOpen_17 (by decide) ?_
      refine hret _ _ _ _ _ hP hD hS d_Go_isPartOpen_21 ?_
      exact b2T (by first | (simp [pOp, c_5, c_13]; done) | (simp [pOp, c_5, c_13]; omega))
set_option maxHeartbeats 4000000 in
set_option maxRecDepth 100000 in
theorem k_Go_findOpen (l : Launch) (g : va_G) (a rB rT : Nat → Nat) (cI cJ cII cJJ : ClassId) (nc : Nat) (nv : Nat) (ng : Nat) (kd : Nat → Int32) (vo : Nat → Nat) (nu : Nat → Nat) (nd : Nat → Nat) (en : Nat → Nat) (br : Nat → Nat → Nat) (bc : Nat → Nat) (un : Nat → Nat) (eu : Nat → Nat) (li : Nat → Nat) (tb : Nat → Nat → Int64) (cc0 : Nat) (cp : Nat → Nat) (cu : Nat → Nat) (cd : Nat → Nat) (tc : Nat) (ts : Nat → Nat) (tf : Nat → Nat) (ox : Bool) (ow : Nat → Nat) (ob : Nat → Nat) (ra : Nat) (rb : Nat) (gc : Nat) (gr : Nat) (gk : Nat → Nat) (gg : Nat → Nat) (gp : Nat → Nat) (gt : Nat → Nat) (sa : Nat) (sb : Nat) (n : Nat) (hn : n < 2 ^ 31) (hc : gc ≤ 30) (hr : gr ≤ 100) (hgk : ∀ j, gk j < 1000) (hgg : ∀ j, gg j < 1000) (hgt : ∀ j, gt j < 1000) : ct_i l g vwCl (tyS cI cJ cII cJJ) y_Go_findOpen c_Go_findOpen 4 (some .int) ({ frames := 2, cells := 0, slots := 0, locals := 44 } : Room) [.ref (a 6), .int (nI n)] (stW a rB rT cI cJ cII cJJ nc nv ng kd vo nu nd en br bc un eu li tb cc0 cp cu cd tc ts tf ox ow ob ra rb gc gr gk gg gp gt sa sb) (stW a rB rT cI cJ cII cJJ nc nv ng kd vo nu nd en br bc un eu li tb cc0 cp cu cd tc ts tf ox ow ob ra rb gc gr gk gg gp gt sa sb) (fO (gOp gk gg gt gr) (pOp gp gt gr) gc n) := by
  refine ct_i.intro (by decide) (Nat.le_of_ble_eq_true rfl) ?_
  intro p e s m args below meth c Q A ls hx hb hml hT hown hA hK hN hret hP hD hS hl
  have hown : s.vm.findClass R_Go = some m.cls := hown
  have hl : lv_has ls 4 [(0, .ref (a 6)), (1, .int (nI n))] := hl
  refine lv_iload_n hx hb d_Go_findOpen_0 rfl (lv_at hl 1 rfl) ?_
  refine lv_istore_n (lv' := [(2, .int (nI n)), (0, .ref (a 6)), (1, .int (nI n))]) hx hb d_Go_findOpen_1 rfl hl (by decide) rfl (fun ls hl => ?_)
  refine lv_iconst (v := (nI 1)) hx hb d_Go_findOpen_2 (by decide) ?_
  refine lv_istore_n (lv' := [(3, .int (nI 1)), (2, .int (nI n)), (0, .ref (a 6)), (1, .int (nI n))]) hx hb d_Go_findOpen_3 rfl hl (by decide) rfl (fun ls hl => ?_)
  have lp_4 : ∀ (k : Nat) (j : Nat) (f : Nat) (lf : Nat) (H : Heap) (locs : List Loc) (ls : Array Slot), (gc + 1 < j + k) → (j + f = gc + 1) → (1 ≤ j) → (lf < 2 ^ 31) → (fL (gOp gk gg gt gr) f j lf = fL (gOp gk gg gt gr) gc 1 n) → va_P g vwCl (stW a rB rT cI cJ cII cJJ nc nv ng kd vo nu nd en br bc un eu li tb cc0 cp cu cd tc ts tf ox ow ob ra rb gc gr gk gg gp gt sa sb) H → va_D A (stW a rB rT cI cJ cII cJJ nc nv ng kd vo nu nd en br bc un eu li tb cc0 cp cu cd tc ts tf ox ow ob ra rb gc gr gk gg gp gt sa sb) → va_S A s.heap H locs → lv_has ls 4 [(0, .ref (a 6)), (1, .int (nI n)), (2, .int (nI lf)), (3, .int (nI j))] → W p l e ({ frames := 2, cells := 0, slots := 0, locals := 44 } : Room) s m args below meth c H locs 0 0 Q (F0 m 4 ls []) := by
    intro k
    induction k with
    | zero =>
      intro j f lf H locs ls hk hj h1 hlf hf hP hD hS hl
      exfalso
      omega
    | succ k ih_4 =>
      intro j f lf H locs ls hk hj h1 hlf hf hP hD hS hl
      refine lv_iload_n hx hb d_Go_findOpen_4 rfl (lv_at hl 3 rfl) ?_
      refine lv_aload_n hx hb d_Go_findOpen_5 rfl (lv_at hl 0 rfl) ?_
      refine va_get (D := g) (ci := 6) (v := .int (nI gc)) (C := R_Go) (T := F_Go) (N := 6) hx hb hT i_Go hown hK hP 6 rfl rfl 0 (by decide) (hT _ tw_200) (fun _ h9 => h9) rfl d_Go_findOpen_6 ?_
      refine my_icmp_gt (tgt := 35) (a := j) (b := gc) hx hb d_Go_findOpen_9 (by decide) (by omega) (by omega) (fun c_9 => ?_) (fun c_9 => ?_)
      · -- 9: taken
        have f0 : f = 0 := by omega
        subst f0
        have hR1 : fL (gOp gk gg gt gr) gc 1 n = (0, lf) := hf.symm
        refine lv_iconst (v := (nI 1)) hx hb d_Go_findOpen_35 (by decide) ?_
        refine lv_istore_n (lv' := [(3, .int (nI 1)), (0, .ref (a 6)), (1, .int (nI n)), (2, .int (nI lf))]) hx hb d_Go_findOpen_36 rfl hl (by decide) rfl (fun ls hl => ?_)
        have lp_37 : ∀ (k : Nat) (j : Nat) (f : Nat) (lf : Nat) (H : Heap) (locs : List Loc) (ls : Array Slot), (51 < j + k) → (j + f = 51) → (1 ≤ j) → (lf < 2 ^ 31) → (fL (pOp gp gt gr) f j lf = fL (pOp gp gt gr) 50 1 (fL (gOp gk gg gt gr) gc 1 n).2) → va_P g vwCl (stW a rB rT cI cJ cII cJJ nc nv ng kd vo nu nd en br bc un eu li tb cc0 cp cu cd tc ts tf ox ow ob ra rb gc gr gk gg gp gt sa sb) H → va_D A (stW a rB rT cI cJ cII cJJ nc nv ng kd vo nu nd en br bc un eu li tb cc0 cp cu cd tc ts tf ox ow ob ra rb gc gr gk gg gp gt sa sb) → va_S A s.heap H locs → lv_has ls 4 [(0, .ref (a 6)), (1, .int (nI n)), (2, .int (nI lf)), (3, .int (nI j))] → W p l e ({ frames := 2, cells := 0, slots := 0, locals := 44 } : Room) s m args below meth c H locs 0 0 Q (F0 m 37 ls []) := by
          intro k
          induction k with
          | zero =>
            intro j f lf H locs ls hk hj h1 hlf hf2 hP hD hS hl
            exfalso
            omega
          | succ k ih_37 =>
            intro j f lf H locs ls hk hj h1 hlf hf2 hP hD hS hl
            refine lv_iload_n hx hb d_Go_findOpen_37 rfl (lv_at hl 3 rfl) ?_
            refine lv_bipush (v := (nI 50)) hx hb d_Go_findOpen_38 (by decide) ?_
            refine my_icmp_gt (tgt := 67) (a := j) (b := 50) hx hb d_Go_findOpen_40 (by decide) (by omega) (by omega) (fun c_40 => ?_) (fun c_40 => ?_)
            · -- 40: taken
              have f0 : f = 0 := by omega
              subst f0
              have hR2 : fL (pOp gp gt gr) 50 1 (fL (gOp gk gg gt gr) gc 1 n).2 = (0, lf) := hf2.symm
              refine lv_iconst (v := (nI 0)) hx hb d_Go_findOpen_67 (by decide) ?_
              refine hret _ _ _ _ _ hP hD hS d_Go_findOpen_68 ?_
              simp [fO, hR1]
              rw [hR1] at hR2
              simp [hR2]
              rfl
            · -- 40: not taken
              obtain ⟨f, rfl⟩ : ∃ q, f = q + 1 := ⟨f - 1, by omega⟩
              refine lv_aload_n hx hb d_Go_findOpen_43 rfl (lv_at hl 0 rfl) ?_
              refine lv_iload_n hx hb d_Go_findOpen_44 rfl (lv_at hl 3 rfl) ?_
              refine my_V_i (q0 := 6) (ci := 6) (C := R_Go) (As := [.int (nI j)]) (n := 1) (k_Go_isPartOpen l g a rB rT cI cJ cII cJJ nc nv ng kd vo nu nd en br bc un eu li tb cc0 cp cu cd tc ts tf ox ow ob ra rb gc gr gk gg gp gt sa sb j hr hgt) hx hb hml hown hT hN tw_516 tw_518 tp_14 tw_8 tw_519 (by decide +kernel) rfl rfl ⟨Nat.le_of_ble_eq_true rfl, Nat.le_of_ble_eq_true rfl⟩ ⟨Nat.zero_le _, Nat.zero_le _⟩ hK hP hD hS hA rfl rfl rfl hl rfl (Nat.le_of_ble_eq_true rfl) d_Go_findOpen_45 (fun H locs hP hD hS => ?_)
              refine my_if_eq_b (tgt := 61) hx hb d_Go_findOpen_48 (by decide) (fun c_48 => ?_) (fun c_48 => ?_)
              · -- 48: taken
                refine lv_iinc (v := (nI (j + 1))) (lv' := [(3, .int (nI (j + 1))), (0, .ref (a 6)), (1, .int (nI n)), (2, .int (nI lf))]) hx hb d_Go_findOpen_61 hl (k := 3) rfl (nI_1 j) (by decide) rfl (fun ls hl => ?_)
                refine lv_goto (tgt := 37) hx hb d_Go_findOpen_64 (by decide) ?_
                refine ih_37 _ f _ _ _ _ ?_ ?_ ?_ ?_ ?_ hP hD hS (lv_sub hl [1, 2, 3, 0] rfl)
                · omega
                · exact (show j + 1 + f = 51 by omega)
                · omega
                · omega
                · rw [← hf2]
                  simp [fL, c_48]
              · -- 48: not taken
                refine lv_iload_n hx hb d_Go_findOpen_51 rfl (lv_at hl 2 rfl) ?_
                refine my_if_ne (tgt := 58) (a := lf) hx hb d_Go_findOpen_52 (by decide) (by omega) (fun c_52 => ?_) (fun c_52 => ?_)
                · -- 52: taken
                  refine lv_iinc (v := (nI (lf - 1))) (lv' := [(2, .int (nI (lf - 1))), (0, .ref (a 6)), (1, .int (nI n)), (3, .int (nI j))]) hx hb d_Go_findOpen_58 hl (k := 2) rfl (sb_m1 (by omega)) (by decide) rfl (fun ls hl => ?_)
                  refine lv_iinc (v := (nI (j + 1))) (lv' := [(3, .int (nI (j + 1))), (2, .int (nI (lf - 1))), (0, .ref (a 6)), (1, .int (nI n))]) hx hb d_Go_findOpen_61 hl (k := 3) rfl (nI_1 j) (by decide) rfl (fun ls hl => ?_)
                  refine lv_goto (tgt := 37) hx hb d_Go_findOpen_64 (by decide) ?_
                  refine ih_37 _ f _ _ _ _ ?_ ?_ ?_ ?_ ?_ hP hD hS (lv_sub hl [2, 3, 1, 0] rfl)
                  · omega
                  · exact (show j + 1 + f = 51 by omega)
                  · omega
                  · omega
                  · rw [← hf2]
                    simp [fL, c_48, show lf ≠ 0 by omega]
                · -- 52: not taken
                  refine lv_iload_n hx hb d_Go_findOpen_55 rfl (lv_at hl 3 rfl) ?_
                  refine lv_ineg hx hb d_Go_findOpen_56 ?_
                  refine hret _ _ _ _ _ hP hD hS d_Go_findOpen_57 ?_
                  have hR2 : fL (pOp gp gt gr) 50 1 (fL (gOp gk gg gt gr) gc 1 n).2 = (j, 0) := by rw [← hf2]; simp [fL, c_48, show lf = 0 by omega]
                  simp [fO, hR1, hR2, show j ≠ 0 by omega]
                  simp [hR1] at hR2
                  simp [hR2, show j ≠ 0 by omega]
        refine lp_37 (52) 1 50 _ _ _ _ ?_ ?_ ?_ ?_ ?_ hP hD hS (lv_sub hl [1, 2, 3, 0] rfl)
        · omega
        · rfl
        · omega
        · omega
        · rw [hR1]
      · -- 9: not taken
        obtain ⟨f, rfl⟩ : ∃ q, f = q + 1 := ⟨f - 1, by omega⟩
        refine lv_aload_n hx hb d_Go_findOpen_12 rfl (lv_at hl 0 rfl) ?_
        refine lv_iload_n hx hb d_Go_findOpen_13 rfl (lv_at hl 3 rfl) ?_
        refine my_V_i (q0 := 6) (ci := 6) (C := R_Go) (As := [.int (nI j)]) (n := 1) (k_Go_isGoalOpen l g a rB rT cI cJ cII cJJ nc nv ng kd vo nu nd en br bc un eu li tb cc0 cp cu cd tc ts tf ox ow ob ra rb gc gr gk gg gp gt sa sb j (by omega) hr hgk hgg hgt) hx hb hml hown hT hN tw_512 tw_514 tp_13 tw_8 tw_515 (by decide +kernel) rfl rfl ⟨Nat.le_of_ble_eq_true rfl, Nat.le_of_ble_eq_true rfl⟩ ⟨Nat.zero_le _, Nat.zero_le _⟩ hK hP hD hS hA rfl rfl rfl hl rfl (Nat.le_of_ble_eq_true rfl) d_Go_findOpen_14 (fun H locs hP hD hS => ?_)
        refine my_if_eq_b (tgt := 29) hx hb d_Go_findOpen_17 (by decide) (fun c_17 => ?_) (fun c_17 => ?_)
        · -- 17: taken
          refine lv_iinc (v := (nI (j + 1))) (lv' := [(3, .int (nI (j + 1))), (0, .ref (a 6)), (1, .int (nI n)), (2, .int (nI lf))]) hx hb d_Go_findOpen_29 hl (k := 3) rfl (nI_1 j) (by decide) rfl (fun ls hl => ?_)
          refine lv_goto (tgt := 4) hx hb d_Go_findOpen_32 (by decide) ?_
          refine ih_4 _ f _ _ _ _ ?_ ?_ ?_ ?_ ?_ hP hD hS (lv_sub hl [1, 2, 3, 0] rfl)
          · omega
          · exact (show j + 1 + f = gc + 1 by omega)
          · omega
          · omega
          · rw [← hf]
            simp [fL, c_17]
        · -- 17: not taken
          refine lv_iload_n hx hb d_Go_findOpen_20 rfl (lv_at hl 2 rfl) ?_
          refine my_if_ne (tgt := 26) (a := lf) hx hb d_Go_findOpen_21 (by decide) (by omega) (fun c_21 => ?_) (fun c_21 => ?_)
          · -- 21: taken
            refine lv_iinc (v := (nI (lf - 1))) (lv' := [(2, .int (nI (lf - 1))), (0, .ref (a 6)), (1, .int (nI n)), (3, .int (nI j))]) hx hb d_Go_findOpen_26 hl (k := 2) rfl (sb_m1 (by omega)) (by decide) rfl (fun ls hl => ?_)
            refine lv_iinc (v := (nI (j + 1))) (lv' := [(3, .int (nI (j + 1))), (2, .int (nI (lf - 1))), (0, .ref (a 6)), (1, .int (nI n))]) hx hb d_Go_findOpen_29 hl (k := 3) rfl (nI_1 j) (by decide) rfl (fun ls hl => ?_)
            refine lv_goto (tgt := 4) hx hb d_Go_findOpen_32 (by decide) ?_
            refine ih_4 _ f _ _ _ _ ?_ ?_ ?_ ?_ ?_ hP hD hS (lv_sub hl [2, 3, 1, 0] rfl)
            · omega
            · exact (show j + 1 + f = gc + 1 by omega)
            · omega
            · omega
            · rw [← hf]
              simp [fL, c_17, show lf ≠ 0 by omega]
          · -- 21: not taken
            refine lv_iload_n hx hb d_Go_findOpen_24 rfl (lv_at hl 3 rfl) ?_
            refine hret _ _ _ _ _ hP hD hS d_Go_findOpen_25 ?_
            have hR1 : fL (gOp gk gg gt gr) gc 1 n = (j, 0) := by rw [← hf]; simp [fL, c_17, show lf = 0 by omega]
            simp [fO, hR1, show j ≠ 0 by omega]
  refine lp_4 (gc + 2) 1 gc n _ _ _ ?_ ?_ ?_ ?_ ?_ hP hD hS (lv_sub hl [2, 3, 1, 0] rfl)
  · omega
  · exact Nat.add_comm 1 gc
  · omega
  · omega
  · rfl
