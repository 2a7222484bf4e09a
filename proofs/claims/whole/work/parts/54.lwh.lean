def R_law : String := "SafetyTreesLaw"
def lw_P (b : Addr) (xs : List Int32) (args : Array Value) (s : State) : Prop := args = #[.ref b] ∧ s.IntsAt b xs ∧ xs.length ≤ 3584 ∧ (Jvm.Cond.and given_1 narrow_1).before args s = true
def lw_Q (_ : Array Value) (s : State) (o : Outcome) (t : State) : Prop := o = .returned (some (.int 1)) ∧ Framed s o t [] 601024 7293034
def lw_Z (below : List Frame) (a : Array Value) (s : State) : State → Prop := fun t => ∃ o, t.status = .running ∧ Ended t below o ∧ lw_Q a s o t
/-- the law's own end, with 1 on the stack, nothing written that was there before, its room as the claim has it -/
theorem lw_ret {p : Program} {l : Launch} {e : Env} {s : State} {m : MethodId} {below : List Frame} {meth : Method} {c : Code} {b : Nat} (hx : p.tables.exec = Jvm.exec) (hb : c.code = code) (hr : meth.sig.returnType = ret) (hlocks : meth.locks = false) {pc : Nat} {H : Heap} {ls : Array Slot} (hdg : decode code pc = .ok (.ireturn, 1)) : W p l e room_1 s m #[Value.ref b] below meth c H [] 601024 7293034 (lw_Z below #[Value.ref b] s) (F0 m pc ls [.int 1]) := by
  intro T hT X
  obtain ⟨fs, hret, hrun, hended, hW, hframe⟩ := X.leave (v := some (.int 1)) (hlocks := hlocks) (fun h => by rw [hr] at h; cases h)
  have hmeth' : T.vm.method? m = some meth := X.method'
  refine ⟨T.setFrames fs, ?_, .returned (some (.int 1)), hrun, hended, rfl, ⟨_, rfl⟩, hW, hframe⟩
  jvm_step X.here [X.here.top, hx, hb, hdg, hmeth', hr, ret, narrow_b1]
  (try refine ⟨rfl, ?_⟩); (try refine ⟨rfl, ?_⟩)
  first | (intro acts; rw [hret _ acts rfl rfl rfl]) | rw [hret _ _ rfl rfl rfl]
  exact Steps.refl _
/-- what holds at the law's entry: the machine, the code, the tables' words (any of lw_tbl by 'hts w (by decide +kernel)'), the script of L ints xs at the cell b, what the Statement gives of the start (any of its parts by flat_of_before) -/
def lw_At (p : Program) (s : State) (m : MethodId) (meth : Method) (c : Code) (b L : Nat) (xs : Nat → Int32) : Prop :=
  p.tables.exec = Jvm.exec ∧ c.code = code ∧ meth.sig.returnType = ret ∧ c.maxLocals = 8 ∧ s.vm.findClass R_law = some m.cls ∧ (∀ w ∈ lw_tbl, w.before #[Value.ref b] s = true) ∧ va_X b L xs s s.heap ∧ b < s.heap.size ∧ meth.locks = false ∧ (Jvm.Cond.and given_1 narrow_1).before #[Value.ref b] s = true
theorem lw_arr {ty : FieldType} {args : Array Value} {s : State} (h : (Cond.arrayClass ty).before args s = true) (hr : ∀ c : ClassId, s.vm.findClass ("[" ++ ty.toString) = some c → va_RA s c ty) : ∃ c : ClassId, ArrOfT s c ty ∧ va_RA s c ty := by
  obtain ⟨c, k, comp, h1, h2, h3⟩ := Cond.arrayClass_spec h
  exact ⟨c, fun N z => ⟨(fun k h => by cases h), k, h2, comp, h3⟩, hr c h1⟩
theorem lw_arrA {ty : FieldType} {s : State} (h : va_AOA ty s) : ∃ c : ClassId, ArrOfT s c (.array ty) ∧ va_RA s c (.array ty) := by
  obtain ⟨comp, c, k, h0, -, h1, h2, h3⟩ := arrayOverA_spec h
  exact ⟨c, fun N z => ⟨(fun k h => by cases h), k, h1, comp, h2⟩, h3⟩
theorem lw_thr {b : Nat} {s : State} (hts : ∀ w ∈ lw_tbl, w.before #[Value.ref b] s = true) (hs : ∀ w ∈ flatC (Jvm.Cond.and given_1 narrow_1), w.before #[Value.ref b] s = true) : thr s := by
  intro w hw
  rcases List.mem_append.mp hw with q | q
  · have hin : w ∈ lw_tbl := by
      have : ∀ w ∈ thF, w ∈ tables_1 := by decide +kernel
      exact List.mem_append_right _ (this w q)
    have ho := (th_f1 w q).2
    have := Cond.onTables_vm (A := #[Value.ref b]) (A' := #[]) (U := s) (U' := s) s.vm w ho
    rw [State.setVm_self] at this
    rw [← this]
    exact hts w hin
  · rcases List.mem_append.mp q with q | q
    · have hin : w ∈ lw_tbl := by
        have : ∀ w ∈ thL, w ∈ tables_1 := by decide +kernel
        exact List.mem_append_right _ (this w q)
      have h2 := hts w hin
      simp only [thL, List.mem_cons, List.not_mem_nil, or_false] at q
      rcases q with rfl | rfl <;> exact h2
    · rcases List.mem_append.mp q with q | q
      · have hin : w ∈ flatC (Jvm.Cond.and given_1 narrow_1) := by
          have : ∀ w ∈ thZ, w ∈ flatC (Jvm.Cond.and given_1 narrow_1) := by decide +kernel
          exact this w q
        have h2 := hs w hin
        simp only [thZ, List.mem_cons, List.not_mem_nil, or_false] at q
        rcases q with rfl | rfl <;> exact h2
      · rw [List.mem_singleton] at q
        subst q
        exact hts thS (List.mem_append_right _ (List.mem_of_getElem? (i := 586) (by decide +kernel)))
theorem lw_pat {b : Nat} {s : State} (hT : ∀ w ∈ lw_tbl, w.before #[Value.ref b] s = true) (hs : ∀ w ∈ flatC (Jvm.Cond.and given_1 narrow_1), w.before #[Value.ref b] s = true) : ∃ tp : Nat, pat tp (fun q => s.heap.size ≤ q) s s.heap := by
  obtain ⟨t, h1, h2⟩ := va_Tof (args := #[Value.ref b]) (s := s) (tm := .static "SafetyTrees$Truth" "PATTERNS" "[J") (ty := .long) (N := 6) (f := fun j => .long (patV j)) (A := fun q => s.heap.size ≤ q) (by decide) (hs _ (by decide +kernel)) (va_eqt (hs _ (by decide +kernel))) (fun j hj => by
    rcases (show j = 0 ∨ j = 1 ∨ j = 2 ∨ j = 3 ∨ j = 4 ∨ j = 5 by omega) with rfl | rfl | rfl | rfl | rfl | rfl
    · exact va_eqtl (hs _ (by decide +kernel))
    · exact va_eqtl (hs _ (by decide +kernel))
    · exact va_eqtl (hs _ (by decide +kernel))
    · exact va_eqtl (hs _ (by decide +kernel))
    · exact va_eqtl (hs _ (by decide +kernel))
    · exact va_eqtl (hs _ (by decide +kernel))) (fun a h => Nat.not_le.mpr h)
  exact ⟨t, va_Zof (hT _ (List.mem_append_right _ (List.mem_of_getElem? (i := 268) (by decide +kernel)))) (hT (.initialized "SafetyTrees$Truth") (List.mem_append_right _ (List.mem_of_getElem? (i := 3) (by decide +kernel)))) h1 (fun a h => Nat.not_le.mpr h), h2⟩
def lwJ (l : Launch) (J : (Nat → Nat) → (Nat → Nat) → (Nat → Nat) → (Nat → Nat) → ClassId → ClassId → ClassId → ClassId → ClassId → va_W → va_W → Prop) : Prop :=
  (∀ (a rB rT bb : Nat → Nat) (cI cJ cII cJJ cZ : ClassId), lwSh (a 0) (bb 0) (J a rB rT bb cI cJ cII cJJ cZ)) ∧
  (∀ (g : va_G) (tp : Nat) (a rB rT bb : Nat → Nat) (cI cJ cII cJJ cZ : ClassId), lwAll l g cI cJ cII cJJ cZ tp (a 0) (bb 0) (J a rB rT bb cI cJ cII cJJ cZ)) ∧
  ∀ (a rB rT bb : Nat → Nat) (cI cJ cII cJJ cZ : ClassId), (J a rB rT bb cI cJ cII cJJ cZ) (stW a rB rT cI cJ cII cJJ 0 0 0 (fun _ => nI 0) (fun _ => 0) (fun _ => 0) (fun _ => 0) (fun _ => 0) (fun _ _ => 0) (fun _ => 0) (fun _ => 0) (fun _ => 0) (fun _ => 0) (fun _ _ => lN 0) 0 (fun _ => 0) (fun _ => 0) (fun _ => 0) 0 (fun _ => 0) (fun _ => 0) false (fun _ => 0) (fun _ => 0) 0 1 0 0 (fun _ => 0) (fun _ => 0) (fun _ => 0) (fun _ => 0) 0 1) (moW bb cI cJ cZ 0 0 0 0 (fun _ => 0) (fun _ => 0) (fun _ => 0) (fun _ => 0) (fun _ => 0) (fun _ => 0) 0 (fun _ => 0) (fun _ => 0) (fun _ => 0) (fun _ => 0) false (fun _ => false) 0 (fun _ => 0) 0 (fun _ => 0) (fun _ => false) (fun _ => 0) (fun _ => false) (fun _ => 0) 0 (fun _ => 0) (fun _ => 0) 0 0 (fun _ => 0) 0 (fun _ => 0) (fun _ => 0) (fun _ => 0))
set_option maxHeartbeats 8000000 in
set_option maxRecDepth 100000 in
theorem lw_start {p : Program} {e : Env} {s : State} {m : MethodId} {below : List Frame} {meth : Method} {c : Code} (l : Launch) {J : (Nat → Nat) → (Nat → Nat) → (Nat → Nat) → (Nat → Nat) → ClassId → ClassId → ClassId → ClassId → ClassId → va_W → va_W → Prop} (hJ : lwJ l J) {b L : Nat} {xs : Nat → Int32} (hL : L ≤ 3584) (C0 : lw_At p s m meth c b L xs) : W p l e room_1 s m #[Value.ref b] below meth c s.heap [] 0 0 (lw_Z below #[Value.ref b] s) (entryFrame m ([Value.ref b] : List Value).toArray 8) := by
  obtain ⟨hx, hb, hr, hml, hown, hts, hX, hbl, hlocks, hgv⟩ := id C0
  have hown : s.vm.findClass R_Lw = some m.cls := hown
  have hs := flat_of_before _ hgv
  have hT : ∀ w ∈ tblG, w.before #[Value.ref b] s = true := fun w h => hts w (List.mem_filter.mp h).1
  have hN : nst s := nst.of (fun w h => hts w (List.mem_append_right _ h))
  have hth : thr s := lw_thr hts hs
  have hC : wdC.before #[Value.ref b] s = true := hts _ (List.mem_append_right _ (List.mem_of_getElem? (i := 540) (by decide +kernel)))
  obtain ⟨tp, hZ⟩ := lw_pat hts hs
  have hO : aov s := ⟨va_AOA.of (hts _ (List.mem_append_right _ (List.mem_of_getElem? (i := 32) (by decide +kernel)))), va_AOA.of (hts _ (List.mem_append_right _ (List.mem_of_getElem? (i := 103) (by decide +kernel))))⟩
  have hA : ∀ q : Nat, s.heap.size ≤ q → (fun q : Nat => s.heap.size ≤ q) q := fun _ h => h
  obtain ⟨k0, iS0, hKn0⟩ := u_known (C := R_ST) (T := F_ST) (N := 7) (n := 7) hT i_ST (hT _ tw_18)
  obtain ⟨k1, iS1, hKn1⟩ := u_known (C := R_No) (T := F_No) (N := 13) (n := 13) hT i_No (hT _ tw_26)
  obtain ⟨k2, iS2, hKn2⟩ := u_known (C := R_Tr) (T := F_Tr) (N := 2) (n := 2) hT i_Tr (hT _ tw_97)
  obtain ⟨k3, iS3, hKn3⟩ := u_known (C := R_Ca) (T := F_Ca) (N := 4) (n := 4) hT i_Ca (hT _ tw_112)
  obtain ⟨k4, iS4, hKn4⟩ := u_known (C := R_Cu) (T := F_Cu) (N := 3) (n := 3) hT i_Cu (hT _ tw_136)
  obtain ⟨k5, iS5, hKn5⟩ := u_known (C := R_Od) (T := F_Od) (N := 7) (n := 7) hT i_Od (hT _ tw_152)
  obtain ⟨k6, iS6, hKn6⟩ := u_known (C := R_Go) (T := F_Go) (N := 6) (n := 6) hT i_Go (hT _ tw_195)
  obtain ⟨k7, iS7, hKn7⟩ := u_known (C := R_Fr) (T := F_Fr) (N := 2) (n := 2) hT i_Fr (hT _ tw_158)
  obtain ⟨k8, iS8, hKn8⟩ := u_known (C := R_Mo) (T := F_Mo) (N := 35) (n := 35) hT i_Mo (hT _ tw_616)
  obtain ⟨cI, aI, rI⟩ := lw_arr (hT _ tw_94) (fun _ h => h)
  obtain ⟨cJ, aJ, rJ⟩ := lw_arr (hT _ tw_95) (fun _ h => h)
  obtain ⟨cZ, aZ, rZ⟩ := lw_arr (hT _ tw_727) (fun _ h => h)
  obtain ⟨cII, aII, rII⟩ := lw_arrA hO.1
  obtain ⟨cJJ, aJJ, rJJ⟩ := lw_arrA hO.2
  obtain ⟨g, hKc⟩ : ∃ g : va_G, ∀ (k : Nat) (q : vw_C), vwCl[k]? = some q → u_Kn s q.1 q.2.1 q.2.2 (g.1 k) (g.2 k) := by
    refine ⟨(fun k => if k = 0 then k0 else if k = 1 then k1 else if k = 2 then k2 else if k = 3 then k3 else if k = 4 then k4 else if k = 5 then k5 else if k = 6 then k6 else if k = 7 then k7 else k8, fun k => if k = 0 then iS0 else if k = 1 then iS1 else if k = 2 then iS2 else if k = 3 then iS3 else if k = 4 then iS4 else if k = 5 then iS5 else if k = 6 then iS6 else if k = 7 then iS7 else iS8), ?_⟩
    intro k q hq
    match k, hq with
    | 0, hq => cases hq; exact hKn0
    | 1, hq => cases hq; exact hKn1
    | 2, hq => cases hq; exact hKn2
    | 3, hq => cases hq; exact hKn3
    | 4, hq => cases hq; exact hKn4
    | 5, hq => cases hq; exact hKn5
    | 6, hq => cases hq; exact hKn6
    | 7, hq => cases hq; exact hKn7
    | 8, hq => cases hq; exact hKn8
    | k + 9, hq => simp [vwCl] at hq
  have hKS : va_K g vwCl (tyS cI cJ cII cJJ) s := ⟨hKc, fun k q hq => by
    match k, hq with
    | 0, hq => cases hq; exact ⟨aI, rI⟩
    | 1, hq => cases hq; exact ⟨aJ, rJ⟩
    | 2, hq => cases hq; exact ⟨aII, rII⟩
    | 3, hq => cases hq; exact ⟨aJJ, rJJ⟩
    | k + 4, hq => simp [tyS] at hq⟩
  have hKM : va_K g vwCl (tyM cI cJ cZ) s := ⟨hKc, fun k q hq => by
    match k, hq with
    | 0, hq => cases hq; exact ⟨aI, rI⟩
    | 1, hq => cases hq; exact ⟨aJ, rJ⟩
    | 2, hq => cases hq; exact ⟨aZ, rZ⟩
    | k + 3, hq => simp [tyM] at hq⟩
  have cx : lwCx p s m c #[Value.ref b] g cI cJ cII cJJ cZ tp b L xs := ⟨hx, hb, hml, hown, hT, hN, hth, hC, hZ, hKS, hKM, hX, hbl, hL⟩
  have hS : va_S (fun q : Nat => s.heap.size ≤ q) s.heap s.heap [] := va_S.rf
  have hP : va_P g vwCl [] s.heap := fun k q h => by simp at h
  have hD : va_D (fun q : Nat => s.heap.size ≤ q) [] := ⟨fun i j p q h => by simp at h, fun k q h => by simp at h⟩
  have hl := lv_entry ([.ref b]) (n := 8) (Nat.le_of_ble_eq_true rfl)
  rw [lg_entry_eq]
  refine (fun key => key _ hl : (∀ ls : Array Slot, lv_has ls 8 [(0, .ref b)] → W p l e room_1 s m #[Value.ref b] below meth c s.heap [] 0 0 _ (F0 m 0 ls [])) → _) ?_
  intro ls hl
  refine va_new (ci := 0) (fs := [.null, .null, .null, .null, .null, .null, .null]) (C := R_ST) (T := F_ST) (N := 7) hx hb hT i_ST t_ST t_ST_ok hown (hT _ tw_17) (hT _ tw_18) (hT _ tw_1) hKS hP hD hS hA rfl (fun j hj => by rcases (show j = 0 ∨ j = 1 ∨ j = 2 ∨ j = 3 ∨ j = 4 ∨ j = 5 ∨ j = 6 by omega) with rfl | rfl | rfl | rfl | rfl | rfl | rfl <;> rfl) (Nat.le_of_ble_eq_true rfl) (Nat.le_of_ble_eq_true rfl) d_Lw_law_0 (fun q0 H hP hD hS => ?_)
  refine lv_dup hx hb d_Lw_law_3 rfl ?_
  refine my_I (As := []) (n := 0) (k_ST_init l g cI cJ cII cJJ q0) hx hb hml hown hT hN hO tw_19 tw_20 tw_1 tw_21 rfl (by decide +kernel) rfl rfl ⟨Nat.le_of_ble_eq_true rfl, Nat.le_of_ble_eq_true rfl⟩ ⟨Nat.le_of_ble_eq_true rfl, Nat.le_of_ble_eq_true rfl⟩ hKS hP hD hS hA rfl hl rfl (Nat.le_of_ble_eq_true rfl) d_Lw_law_4 (fun u4 H locs hP hD hS => ?_)
  refine lv_astore_n (lv' := [(1, .ref q0), (0, .ref b)]) hx hb d_Lw_law_7 rfl hl (by decide) rfl (fun ls hl => ?_)
  refine va_new (ci := 8) (fs := [.int 0, .int 0, .int 0, .int 0, .null, .null, .null, .null, .null, .null, .int 0, .null, .null, .null, .null, .int 0, .null, .int 0, .null, .int 0, .null, .null, .null, .null, .null, .int 0, .null, .null, .int 0, .int 0, .null, .int 0, .null, .null, .null]) (C := R_Mo) (T := F_Mo) (N := 35) hx hb hT i_Mo t_Mo t_Mo_ok hown (hT _ tw_615) (hT _ tw_616) (hT _ tw_9) hKM hP hD hS hA rfl (fun j hj => by rcases (show j = 0 ∨ j = 1 ∨ j = 2 ∨ j = 3 ∨ j = 4 ∨ j = 5 ∨ j = 6 ∨ j = 7 ∨ j = 8 ∨ j = 9 ∨ j = 10 ∨ j = 11 ∨ j = 12 ∨ j = 13 ∨ j = 14 ∨ j = 15 ∨ j = 16 ∨ j = 17 ∨ j = 18 ∨ j = 19 ∨ j = 20 ∨ j = 21 ∨ j = 22 ∨ j = 23 ∨ j = 24 ∨ j = 25 ∨ j = 26 ∨ j = 27 ∨ j = 28 ∨ j = 29 ∨ j = 30 ∨ j = 31 ∨ j = 32 ∨ j = 33 ∨ j = 34 by omega) with rfl | rfl | rfl | rfl | rfl | rfl | rfl | rfl | rfl | rfl | rfl | rfl | rfl | rfl | rfl | rfl | rfl | rfl | rfl | rfl | rfl | rfl | rfl | rfl | rfl | rfl | rfl | rfl | rfl | rfl | rfl | rfl | rfl | rfl | rfl <;> rfl) (Nat.le_of_ble_eq_true rfl) (Nat.le_of_ble_eq_true rfl) d_Lw_law_8 (fun q8 H hP hD hS => ?_)
  refine lv_dup hx hb d_Lw_law_11 rfl ?_
  refine my_I (As := []) (n := 0) (k_Mo_init l g cI cJ cZ q8) hx hb hml hown hT hN hO tw_617 tw_618 tw_9 tw_619 rfl (by decide +kernel) rfl rfl ⟨Nat.le_of_ble_eq_true rfl, Nat.le_of_ble_eq_true rfl⟩ ⟨Nat.le_of_ble_eq_true rfl, Nat.le_of_ble_eq_true rfl⟩ hKM hP hD hS hA rfl hl rfl (Nat.le_of_ble_eq_true rfl) d_Lw_law_12 (fun u12 H locs hP hD hS => ?_)
  refine lv_astore_n (lv' := [(2, .ref q8), (1, .ref q0), (0, .ref b)]) hx hb d_Lw_law_15 rfl hl (by decide) rfl (fun ls hl => ?_)
  refine lv_iconst (v := nI 1) hx hb d_Lw_law_16 (by decide) ?_
  refine my_newa (atype := .long) (N' := 1) (ty := .long) (a0 := (1, .inr (.inl (fun _ => lN 0)))) hx hb (hT _ tw_95) rfl hKS 1 rfl (fun _ h => h) hP hD hS hA (fun _ => rfl) (by decide) (by decide) (Nat.le_of_ble_eq_true rfl) (Nat.le_of_ble_eq_true rfl) d_Lw_law_17 (fun q17 H hP hD hS => ?_)
  refine lv_astore_n (lv' := [(3, .ref q17), (2, .ref q8), (1, .ref q0), (0, .ref b)]) hx hb d_Lw_law_19 rfl hl (by decide) rfl (fun ls hl => ?_)
  refine lv_iconst (v := nI 0) hx hb d_Lw_law_20 (by decide) ?_
  refine lv_istore (lv' := [(4, .int (nI 0)), (3, .ref q17), (2, .ref q8), (1, .ref q0), (0, .ref b)]) hx hb d_Lw_law_21 hl (by decide) rfl (fun ls hl => ?_)
  rw [List.nil_append, List.append_assoc] at hP hD
  refine lw_loop (a0 := q0) (b0 := q8) (o := q17) cx (hJ.1 (fun k => if k = 0 then q0 else u4.1 k) u4.2.1 u4.2.2 (fun k => if k = 0 then q8 else u12.1 k) cI cJ cII cJJ cZ) (hJ.2.1 g tp (fun k => if k = 0 then q0 else u4.1 k) u4.2.1 u4.2.2 (fun k => if k = 0 then q8 else u12.1 k) cI cJ cII cJJ cZ) ?_ 600 0 _ _ _ _ (fun _ => lN 0) H locs ls (by omega) (by decide) (Nat.le_of_ble_eq_true rfl) (Nat.le_of_ble_eq_true rfl) ⟨hJ.2.2 (fun k => if k = 0 then q0 else u4.1 k) u4.2.1 u4.2.2 (fun k => if k = 0 then q8 else u12.1 k) cI cJ cII cJJ cZ, hP, hD, hS, lv_sub hl [4, 3, 2, 1, 0] rfl⟩
  intro H locs ls cells slots h1 h2 hS
  refine va_forget hS.2.2 ?_
  exact W.widen h1 h2 (lw_ret hx hb hr hlocks d_Lw_law_818)
