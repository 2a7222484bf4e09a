/-- a method that writes nothing -/
def ct_p (l : Launch) (g : va_G) (cl : List vw_C) (tys : List (ClassId × FieldType)) (y : MethodName) (cc : ByteArray) (maxL : Nat) (ret : Option FieldType) (rm : Room) (av : List Value) (w0 : va_W) (r : Int32) : Prop :=
  ∀ sz : Nat, Met l y (Cond.code y cc maxL ret :: tblG) rm (va_Pc av (fun U => U.heap.size = sz ∧ va_P g cl w0 U.heap ∧ va_K g cl tys U ∧ va_D (fun _ => True) w0 ∧ nst U)) (va_Qi (fun (x : Int32) (_ : Unit) => x = r) (fun _ _ => True) (fun q => sz ≤ q)) 0 0 (fun q => sz ≤ q)
section MYT
variable {l : Launch} {g : va_G} {cl : List vw_C} {tys : List (ClassId × FieldType)} {y : MethodName} {rm : Room} {av : List Value} {w0 : va_W} {cc : ByteArray} {maxL : Nat}
theorem ct_p.intro {r : Int32} (hy : plainName y.cls = true) (hlen : (lg_sl av).length ≤ maxL)
    (body : ∀ (p : Program) (e : Env) (s : State) (m : MethodId) (args : Array Value) (below : List Frame) (meth : Method) (c : Code) (Q : State → Prop) (A B : Nat → Prop) (ls : Array Slot),
      p.tables.exec = Jvm.exec → c.code = cc → c.maxLocals = maxL → (∀ w ∈ tblG, w.before args s = true) → s.vm.findClass y.cls = some m.cls → (∀ q : Nat, s.heap.size ≤ q → A q) → va_K g cl tys s → nst s →
      (∀ (H : Heap) (locs : List Loc) (pc : Nat) (ls : Array Slot) (v : Int32), va_P g cl w0 H → va_D A w0 → va_S B s.heap H locs → decode cc pc = .ok (.ireturn, 1) → v = r → W p l e rm s m args below meth c H locs 0 0 Q (F0 m pc ls [.int v])) →
      va_P g cl w0 s.heap → va_D A w0 → va_S B s.heap s.heap [] → lv_has ls maxL (lv_args 0 av) → W p l e rm s m args below meth c s.heap [] 0 0 Q (F0 m 0 ls [])) : ct_p l g cl tys y cc maxL (some .int) rm av w0 r := by
  intro sz
  refine Met.ofW (cc := cc) (maxL := maxL) (ret := some .int) hy rfl ?_
  intro p e s m args below meth c s₁ B hml hv
  obtain ⟨rfl, hsz, hP, hK, hD0, hN⟩ := hv
  have hts0 := atoms_spec (ws := Cond.code y cc maxL _ :: tblG) B.pre
  have hts : ∀ w ∈ tblG, w.before av.toArray s = true := fun w h => hts0 w (List.mem_cons_of_mem _ h)
  have hown : s.vm.findClass y.cls = some m.cls := findClass_of_methodNamed B.named
  have hlocks := B.notSynchronized
  subst hsz
  have hD := hD0.self (sz := s.heap.size)
  have hl := lv_entry av (n := maxL) hlen
  rw [lg_entry_eq]
  refine body p e s m av.toArray below meth c _ (va_A w0 s.heap.size) (fun q => s.heap.size ≤ q) _ B.exec B.bytes hml hts hown (fun q h => Or.inr h) hK hN ?_ hP hD va_S.rf hl
  intro H locs pc ls v h1 h2 h3 h4 h5
  exact W.iret (v := v) B.exec B.bytes B.returns (fun t ht hW => ⟨⟨v, (), rfl, h5, trivial⟩, h3.F ht⟩) h3.2.2 h4
end MYT
section MYU
variable {p : Program} {l : Launch} {e : Env} {R : Room} {s : State} {m : MethodId} {args : Array Value} {below : List Frame} {meth : Method} {c : Code} {H : Heap} {locs : List Loc} {cells slots : Nat} {Q : State → Prop}
variable {cc : ByteArray} {pc : Nat} {ls : Array Slot} {rest st0 : List Value} {g : va_G} {cl : List vw_C} {tys : List (ClassId × FieldType)} {A : Nat → Prop} {w0 : va_W}
theorem my_VP {r : Int32} {y : MethodName} {bytes : ByteArray} {maxL nL n index q0 ci b : Nat} {ret : Option FieldType} {rm : Room} {own C : String} {As fs : List Value} {T : u_T} {nF : Nat} {lv : List (Nat × Value)} (hM : ct_p l g cl tys y bytes maxL ret rm (.ref b :: As) w0 r) (hx : p.tables.exec = Jvm.exec) (hb : c.code = cc) (hml : c.maxLocals = nL) (hown : s.vm.findClass own = some m.cls) (hT : ∀ w ∈ tblG, w.before args s = true) (hN : nst s) (k1 : Cond.methodLink own index y ∈ tblG) (k2 : Cond.instanceMethod y ∈ tblG) (k3 : Cond.selects C y y ∈ tblG) (k4 : Cond.initialized C ∈ tblG) (k5 : Cond.code y bytes maxL ret ∈ tblG) (hd : y.cls = C ∧ y.cls ≠ "java/lang/invoke/MethodHandle" ∧ y.cls ≠ "java/lang/invoke/VarHandle" ∧ (parseMethodDescriptor y.desc).map (fun d => d.parameters.length) = some n) (hrc : rm.cells = 0) (hrs : rm.slots = 0) (hR : rm.frames + 1 ≤ R.frames ∧ 8 + (maxL + 11) + rm.locals ≤ R.locals) (hf : cells ≤ R.cells ∧ slots ≤ R.slots)
    (hK : va_K g cl tys s) (hP : va_P g cl w0 H) (hD : va_D A w0) (hS : va_S (fun q => s.heap.size ≤ q) s.heap H locs) (hc : cl[ci]? = some (C, T, nF)) (he : w0[q0]? = some (b, .inr (ci, fs))) (hn : As.length = n) (hl : lv_has ls nL lv) (hst : st0 = As.reverse ++ .ref b :: rest) (hrm : (rest.map fun v => v.category).sum ≤ 8) (hdg : decode cc pc = .ok (.invokevirtual index, 3))
    (kk : ∀ (H1 : Heap) (locs1 : List Loc), va_P g cl w0 H1 → va_S (fun q => s.heap.size ≤ q) s.heap H1 locs1 → W p l e R s m args below meth c H1 locs1 cells slots Q (F0 m (pc + 3) ls (.int r :: rest))) : W p l e R s m args below meth c H locs cells slots Q (F0 m pc ls st0) := by
  refine va_calli (va_runV (As := As) (rest := rest) (n := n) ⟨hx, hb, hml, hown, hT⟩ (hM H.size) (cwV n hT (gApp (List.forall_mem_cons.mpr ⟨k1, List.forall_mem_cons.mpr ⟨k2, List.forall_mem_cons.mpr ⟨k3, List.forall_mem_cons.mpr ⟨k4, fun _ h => absurd h List.not_mem_nil⟩⟩⟩⟩) (gC k5)) rfl hrc hrs hd hR) (my_preV rfl hN hK hP hD hc he) rfl hn hl.1 hst (lv_room hrm) hdg hf) hS (fun q h1 h2 => absurd h2 (by omega)) (fun q h => Nat.le_trans hS.1 h) (fun r' u t H1 locs1 ht hvm hw hB hz hk hS1 => ?_)
  subst hw
  exact kk H1 locs1 (hP.kept (fun k x hx => hk x.1 ((hP k x hx).lt) (by have := (hP k x hx).lt; omega))) hS1
theorem my_ldcs {own text : String} {index : Nat} (hx : p.tables.exec = Jvm.exec) (hb : c.code = cc) (hown : s.vm.findClass own = some m.cls) (hs : (Cond.stringRef own index text).before args s = true) (hdg : decode cc pc = .ok (.ldc index, 2))
    (kk : ∀ q : Nat, W p l e R s m args below meth c H locs cells slots Q (F0 m (pc + 2) ls (.ref q :: rest))) : W p l e R s m args below meth c H locs cells slots Q (F0 m pc ls rest) := by
  obtain ⟨k, cf, i, a', hk, hcf, hcp, -, hr, hev⟩ := Cond.stringRef_spec hown hs
  intro T hT X
  obtain ⟨t, a1, b1⟩ := kk a' T hT X
  exact ⟨t, X.ldcString hx hown hs hev rfl (by rw [hb]; exact hdg) t a1, b1⟩
end MYU
/-- a method that throws a new ArithmeticException and changes nothing -/
def ct_T (l : Launch) (g : va_G) (cl : List vw_C) (tys : List (ClassId × FieldType)) (y : MethodName) (cc : ByteArray) (maxL : Nat) (ret : Option FieldType) (rm : Room) (av : List Value) (w0 : va_W) : Prop :=
  MetFree l y (headSpec (Cond.code y cc maxL ret :: tblG) rm) (va_Pc av (fun U => va_P g cl w0 U.heap ∧ va_K g cl tys U ∧ va_D (fun _ => True) w0 ∧ nst U ∧ thr U)) (fun _ _ _ _ _ => True)
    (fun _ st o t => ∃ (x : Nat) (ce : Cell), o = .threw x ∧ st.WarmedH t.vm ∧ st.sameButNew ({ t with vm := st.vm } : State) [] 1 6 ∧ t.heap[x]? = some ce ∧ st.vm.findClass s_AE = some ce.cls ∧ ce.vm = .none)
set_option maxHeartbeats 4000000 in
set_option maxRecDepth 100000 in
theorem k_Go_rowsOfPartP (l : Launch) (g : va_G) (a rB rT : Nat → Nat) (cI cJ cII cJJ : ClassId) (nc : Nat) (nv : Nat) (ng : Nat) (kd : Nat → Int32) (vo : Nat → Nat) (nu : Nat → Nat) (nd : Nat → Nat) (en : Nat → Nat) (br : Nat → Nat → Nat) (bc : Nat → Nat) (un : Nat → Nat) (eu : Nat → Nat) (li : Nat → Nat) (tb : Nat → Nat → Int64) (cc0 : Nat) (cp : Nat → Nat) (cu : Nat → Nat) (cd : Nat → Nat) (tc : Nat) (ts : Nat → Nat) (tf : Nat → Nat) (ox : Bool) (ow : Nat → Nat) (ob : Nat → Nat) (ra : Nat) (rb : Nat) (gc : Nat) (gr : Nat) (gk : Nat → Nat) (gg : Nat → Nat) (gp : Nat → Nat) (gt : Nat → Nat) (sa : Nat) (sb : Nat) (x : Int32) (hr : gr ≤ 100) : ct_p l g vwCl (tyS cI cJ cII cJJ) y_Go_rowsOfPart c_Go_rowsOfPart 4 (some .int) ({ frames := 0, cells := 0, slots := 0, locals := 0 } : Room) [.ref (a 6), .int x] (stW a rB rT cI cJ cII cJJ nc nv ng kd vo nu nd en br bc un eu li tb cc0 cp cu cd tc ts tf ox ow ob ra rb gc gr gk gg gp gt sa sb) (nI (rP gp x gr)) := by
  refine ct_p.intro (by decide) (Nat.le_of_ble_eq_true rfl) ?_
  intro p e s m args below meth c Q A B ls hx hb hml hT hown hA hK hN hret hP hD hS hl
  have hown : s.vm.findClass R_Go = some m.cls := hown
  have hl : lv_has ls 4 [(0, .ref (a 6)), (1, .int x)] := hl
  refine lv_iconst (v := (nI 0)) hx hb d_Go_rowsOfPart_0 (by decide) ?_
  refine lv_istore_n (lv' := [(2, .int (nI 0)), (0, .ref (a 6)), (1, .int x)]) hx hb d_Go_rowsOfPart_1 rfl hl (by decide) rfl (fun ls hl => ?_)
  refine lv_iconst (v := (nI 0)) hx hb d_Go_rowsOfPart_2 (by decide) ?_
  refine lv_istore_n (lv' := [(3, .int (nI 0)), (2, .int (nI 0)), (0, .ref (a 6)), (1, .int x)]) hx hb d_Go_rowsOfPart_3 rfl hl (by decide) rfl (fun ls hl => ?_)
  have lp_4 : ∀ (k : Nat) (i : Nat) (f : Nat) (H : Heap) (locs : List Loc) (ls : Array Slot), (gr < i + k) → (i ≤ gr) → (f = rP gp x i) → va_P g vwCl (stW a rB rT cI cJ cII cJJ nc nv ng kd vo nu nd en br bc un eu li tb cc0 cp cu cd tc ts tf ox ow ob ra rb gc gr gk gg gp gt sa sb) H → va_D A (stW a rB rT cI cJ cII cJJ nc nv ng kd vo nu nd en br bc un eu li tb cc0 cp cu cd tc ts tf ox ow ob ra rb gc gr gk gg gp gt sa sb) → va_S B s.heap H locs → lv_has ls 4 [(0, .ref (a 6)), (1, .int x), (2, .int (nI f)), (3, .int (nI i))] → W p l e ({ frames := 0, cells := 0, slots := 0, locals := 0 } : Room) s m args below meth c H locs 0 0 Q (F0 m 4 ls []) := by
    intro k
    induction k with
    | zero =>
      intro i f H locs ls hk hi hf hP hD hS hl
      exfalso
      omega
    | succ k ih_4 =>
      intro i f H locs ls hk hi hf hP hD hS hl
      refine lv_iload_n hx hb d_Go_rowsOfPart_4 rfl (lv_at hl 3 rfl) ?_
      refine lv_aload_n hx hb d_Go_rowsOfPart_5 rfl (lv_at hl 0 rfl) ?_
      refine va_get (D := g) (ci := 6) (v := .int (nI gr)) (C := R_Go) (T := F_Go) (N := 6) hx hb hT i_Go hown hK hP 6 rfl rfl 1 (by decide) (hT _ tw_202) (fun _ h9 => h9) rfl d_Go_rowsOfPart_6 ?_
      refine my_icmp_ge (tgt := 31) (a := i) (b := gr) hx hb d_Go_rowsOfPart_9 (by decide) (by omega) (by omega) (fun c_9 => ?_) (fun c_9 => ?_)
      · -- 9: taken
        refine lv_iload_n hx hb d_Go_rowsOfPart_31 rfl (lv_at hl 2 rfl) ?_
        refine hret _ _ _ _ _ hP hD hS d_Go_rowsOfPart_32 ?_
        rw [hf, show i = gr by omega]
      · -- 9: not taken
        refine lv_aload_n hx hb d_Go_rowsOfPart_12 rfl (lv_at hl 0 rfl) ?_
        refine va_get (D := g) (ci := 6) (v := .ref (a 29)) (C := R_Go) (T := F_Go) (N := 6) hx hb hT i_Go hown hK hP 6 rfl rfl 4 (by decide) (hT _ tw_206) (fun _ h9 => h9) rfl d_Go_rowsOfPart_13 ?_
        refine lv_iload_n hx hb d_Go_rowsOfPart_16 rfl (lv_at hl 3 rfl) ?_
        refine my_iald (v := (nI (gp i))) (i := i) hx hb hK hP 29 0 rfl rfl (by omega) (by decide) rfl d_Go_rowsOfPart_17 ?_
        refine lv_iload_n hx hb d_Go_rowsOfPart_18 rfl (lv_at hl 1 rfl) ?_
        refine lv_icmp_ne (tgt := 25) hx hb d_Go_rowsOfPart_19 (by decide) (fun c_19 => ?_) (fun c_19 => ?_)
        · -- 19: taken
          refine lv_iinc (v := (nI (i + 1))) (lv' := [(3, .int (nI (i + 1))), (0, .ref (a 6)), (1, .int x), (2, .int (nI f))]) hx hb d_Go_rowsOfPart_25 hl (k := 3) rfl (nI_1 i) (by decide) rfl (fun ls hl => ?_)
          refine lv_goto (tgt := 4) hx hb d_Go_rowsOfPart_28 (by decide) ?_
          refine ih_4 _ _ _ _ _ ?_ ?_ ?_ hP hD hS (lv_sub hl [1, 2, 3, 0] rfl)
          · omega
          · omega
          · rw [hf]; simp [rP, c_19]
        · -- 19: not taken
          refine lv_iinc (v := (nI (f + 1))) (lv' := [(2, .int (nI (f + 1))), (0, .ref (a 6)), (1, .int x), (3, .int (nI i))]) hx hb d_Go_rowsOfPart_22 hl (k := 2) rfl (nI_1 f) (by decide) rfl (fun ls hl => ?_)
          refine lv_iinc (v := (nI (i + 1))) (lv' := [(3, .int (nI (i + 1))), (2, .int (nI (f + 1))), (0, .ref (a 6)), (1, .int x)]) hx hb d_Go_rowsOfPart_25 hl (k := 3) rfl (nI_1 i) (by decide) rfl (fun ls hl => ?_)
          refine lv_goto (tgt := 4) hx hb d_Go_rowsOfPart_28 (by decide) ?_
          refine ih_4 _ _ _ _ _ ?_ ?_ ?_ hP hD hS (lv_sub hl [2, 3, 1, 0] rfl)
          · omega
          · omega
          · rw [hf]; simp [rP, c_19]
  refine lp_4 (gr + 1) _ _ _ _ _ ?_ ?_ ?_ hP hD hS (lv_sub hl [2, 3, 1, 0] rfl)
  · omega
  · omega
  · rfl
set_option maxHeartbeats 4000000 in
set_option maxRecDepth 100000 in
theorem k_ST_coverT (l : Launch) (hfl : l.flags = pinnedFlags ++ [noTraceFlag]) (g : va_G) (a rB rT : Nat → Nat) (cI cJ cII cJJ : ClassId) (nc : Nat) (nv : Nat) (ng : Nat) (kd : Nat → Int32) (vo : Nat → Nat) (nu : Nat → Nat) (nd : Nat → Nat) (en : Nat → Nat) (br : Nat → Nat → Nat) (bc : Nat → Nat) (un : Nat → Nat) (eu : Nat → Nat) (li : Nat → Nat) (tb : Nat → Nat → Int64) (cc0 : Nat) (cp : Nat → Nat) (cu : Nat → Nat) (cd : Nat → Nat) (tc : Nat) (ts : Nat → Nat) (tf : Nat → Nat) (ox : Bool) (ow : Nat → Nat) (ob : Nat → Nat) (ra : Nat) (rb : Nat) (gc : Nat) (gr : Nat) (gk : Nat → Nat) (gg : Nat → Nat) (gp : Nat → Nat) (gt : Nat → Nat) (sa : Nat) (sb : Nat) (x z : Int32) (hr : gr ≤ 100) (h0 : rP gp x gr = 0) : ct_T l g vwCl (tyS cI cJ cII cJJ) y_ST_cover c_ST_cover 4 (some .long) ({ frames := 6, cells := 1, slots := 6, locals := 120 } : Room) [.ref (a 0), .int x, .int z] (stW a rB rT cI cJ cII cJJ nc nv ng kd vo nu nd en br bc un eu li tb cc0 cp cu cd tc ts tf ox ow ob ra rb gc gr gk gg gp gt sa sb) := by
  refine MetFree.of_bodyS (code := c_ST_cover) (maxLocals := 4) (ret := some .long) (by decide) ?_ ?_
  · intro args s m h hn
    obtain ⟨meth, c, h1, h2, h3, h4, h5, h6, -, -⟩ := Cond.code_spec hn (atoms_spec (ws := Cond.code y_ST_cover c_ST_cover 4 (some .long) :: tblG) h _ List.mem_cons_self)
    exact ⟨meth, c, h1, h2, h3, h4, h5, h6⟩
  · intro p e s m args below meth c s₁ B hml hv _
    obtain ⟨rfl, hP, hK, hD0, hN, hth⟩ := hv
    have hh0 : s₁.heap = s.heap := by rw [B.state]; rfl
    have hts0 := atoms_spec (ws := Cond.code y_ST_cover c_ST_cover 4 (some .long) :: tblG) B.pre
    have hT : ∀ w ∈ tblG, w.before ([.ref (a 0), .int x, .int z] : List Value).toArray s = true := fun w h => hts0 w (List.mem_cons_of_mem _ h)
    have hown : s.vm.findClass R_ST = some m.cls := findClass_of_methodNamed B.named
    have hlocks := B.notSynchronized
    have hno := BodyLoose.noHandlers B (hts0 _ List.mem_cons_self)
    have htr := Launch.traces_off hfl B.admits
    have hx := B.exec
    have hb := B.bytes
    have hD := hD0.self (sz := s.heap.size)
    have hl := lv_entry [.ref (a 0), .int x, .int z] (n := 4) (Nat.le_of_ble_eq_true rfl)
    suffices K : W p l e ({ frames := 6, cells := 1, slots := 6, locals := 120 } : Room) s m ([.ref (a 0), .int x, .int z] : List Value).toArray below meth c s.heap [] 0 0 (fun t => ∃ o, t.status = .running ∧ Ended t below o ∧ ∃ (x : Nat) (ce : Cell), o = .threw x ∧ s.WarmedH t.vm ∧ s.sameButNew ({ t with vm := s.vm } : State) [] 1 6 ∧ t.heap[x]? = some ce ∧ s.vm.findClass s_AE = some ce.cls ∧ ce.vm = .none) (entryFrame m ([.ref (a 0), .int x, .int z] : List Value).toArray 4) by
      obtain ⟨t, a1, o, b1, b2, b3⟩ := K s₁ hh0 (Stand.of_body B)
      exact ⟨t, o, a1, b1, b2, b3⟩
    rw [lg_entry_eq]
    refine (fun key => key _ hl : (∀ ls : Array Slot, lv_has ls 4 [(0, .ref (a 0)), (1, .int x), (2, .int z)] → W p l e _ s m _ below meth c s.heap [] 0 0 _ (F0 m 0 ls [])) → _) ?_
    intro ls hl
    have hS : va_S (fun q => s.heap.size ≤ q) s.heap s.heap [] := va_S.rf
    refine lv_aload_n hx hb d_ST_cover_0 rfl (lv_at hl 0 rfl) ?_
    refine va_get (D := g) (ci := 0) (v := .ref (a 6)) (C := R_ST) (T := F_ST) (N := 7) hx hb hT i_ST hown hK hP 0 rfl rfl 5 (by decide) (hT _ tw_228) (fun _ h9 => h9) rfl d_ST_cover_1 ?_
    refine lv_iload_n hx hb d_ST_cover_4 rfl (lv_at hl 1 rfl) ?_
    refine my_VP (q0 := 6) (ci := 6) (C := R_Go) (As := [.int x]) (n := 1) (k_Go_rowsOfPartP l g a rB rT cI cJ cII cJJ nc nv ng kd vo nu nd en br bc un eu li tb cc0 cp cu cd tc ts tf ox ow ob ra rb gc gr gk gg gp gt sa sb x hr) hx hb hml hown hT hN tw_546 tw_521 tw_522 tw_8 tw_523 (by decide +kernel) rfl rfl ⟨Nat.le_of_ble_eq_true rfl, Nat.le_of_ble_eq_true rfl⟩ ⟨Nat.zero_le _, Nat.zero_le _⟩ hK hP hD hS rfl rfl rfl hl rfl (Nat.le_of_ble_eq_true rfl) d_ST_cover_5 (fun H locs hP hS => ?_)
    refine va_forget hS.2.2 ?_
    rw [h0]
    refine lv_istore_n (lv' := [(3, .int (nI 0)), (0, .ref (a 0)), (1, .int x), (2, .int z)]) hx hb d_ST_cover_8 rfl hl (by decide) rfl (fun ls hl => ?_)
    refine lv_iload_n hx hb d_ST_cover_9 rfl (lv_at hl 0 rfl) ?_
    refine lv_if_ne (tgt := 23) hx hb d_ST_cover_10 (by decide) (fun q => absurd rfl q) (fun _ => ?_)
    obtain ⟨cX, kX, hfX, hkX, -⟩ := Cond.instantiable_spec (hT _ tw_548)
    refine W.newcK (n := 6) (C := s_AE) hx hb hown (hT _ tw_547) (hT _ tw_548) (hT _ tw_16) rfl d_ST_cover_13 (Nat.le_of_ble_eq_true rfl) (Nat.le_of_ble_eq_true rfl) hfX rfl (fun H1 kC hkC e1 z1 o1 => ?_)
    refine lv_dup hx hb d_ST_cover_16 rfl ?_
    refine my_ldcs hx hb hown (hth thS (by decide)) d_ST_cover_17 (fun q1 => ?_)
    intro T hHT X
    obtain ⟨U, st, hrun, hend, hWm, hsame, ce, hce, own⟩ := Stand.ctorThrowS X hx htr (own := "SafetyTrees") (cls := s_AE) (names := s_chain) (ic := 186) hown (by decide) (by decide) (th_atoms hT hth) (fun q hq => absurd hq List.not_mem_nil) (a := H.size) hfX hkX (by rw [hHT]; cases hkX.symm.trans hkC; exact e1) hS.1 (msg := .ref q1) rfl (g := F0 m 19 ls [.ref q1, .ref H.size, .ref H.size]) rfl (hl.1.trans hml.symm) rfl rfl (rest := []) rfl (by rw [hb]; exact d_ST_cover_19) (by rw [hb]; exact d_ST_cover_22) (fun q hq => by rw [Array.isEmpty_iff] at hno; rw [hno] at hq; exact absurd hq List.not_mem_nil) (Nat.le_of_ble_eq_true rfl) (Nat.le_of_ble_eq_true rfl) hlocks
    exact ⟨U, st, .threw H.size, hrun, hend, H.size, ce, rfl, hWm, hsame, hce, own.cls, own.vm⟩
set_option maxHeartbeats 4000000 in
set_option maxRecDepth 100000 in
theorem k_ST_cover (l : Launch) (g : va_G) (a rB rT : Nat → Nat) (cI cJ cII cJJ : ClassId) (nc : Nat) (nv : Nat) (ng : Nat) (kd : Nat → Int32) (vo : Nat → Nat) (nu : Nat → Nat) (nd : Nat → Nat) (en : Nat → Nat) (br : Nat → Nat → Nat) (bc : Nat → Nat) (un : Nat → Nat) (eu : Nat → Nat) (li : Nat → Nat) (tb : Nat → Nat → Int64) (cc0 : Nat) (cp : Nat → Nat) (cu : Nat → Nat) (cd : Nat → Nat) (tc : Nat) (ts : Nat → Nat) (tf : Nat → Nat) (ox : Bool) (ow : Nat → Nat) (ob : Nat → Nat) (ra : Nat) (rb : Nat) (gc : Nat) (gr : Nat) (gk : Nat → Nat) (gg : Nat → Nat) (gp : Nat → Nat) (gt : Nat → Nat) (sa : Nat) (sb : Nat) (x : Int32) (z : Int32) (hr : gr ≤ 100) (hgt : ∀ j, gt j < 1000) (h0 : 0 < rP gp x gr) : ct_l l g vwCl (tyS cI cJ cII cJJ) y_ST_cover c_ST_cover 4 (some .long) ({ frames := 2, cells := 0, slots := 0, locals := 56 } : Room) [.ref (a 0), .int x, .int z] (stW a rB rT cI cJ cII cJJ nc nv ng kd vo nu nd en br bc un eu li tb cc0 cp cu cd tc ts tf ox ow ob ra rb gc gr gk gg gp gt sa sb) (stW a rB rT cI cJ cII cJJ nc nv ng kd vo nu nd en br bc un eu li tb cc0 cp cu cd tc ts tf ox ow ob ra rb gc gr gk gg gp gt (tP gp gt x gr / cdF 100 (tP gp gt x gr) (rP gp x gr)) (rP gp x gr / cdF 100 (tP gp gt x gr) (rP gp x gr))) (lN (if z = 0 then tP gp gt x gr / cdF 100 (tP gp gt x gr) (rP gp x gr) else rP gp x gr / cdF 100 (tP gp gt x gr) (rP gp x gr))) := by
  refine ct_l.intro (by decide) (Nat.le_of_ble_eq_true rfl) ?_
  intro p e s m args below meth c Q A ls hx hb hml hT hown hA hK hN hret hP hD hS hl
  have hown : s.vm.findClass R_ST = some m.cls := hown
  have hl : lv_has ls 4 [(0, .ref (a 0)), (1, .int x), (2, .int z)] := hl
  have hle := rP_le gp x gr
  have hle2 := tP_le gp gt x gr
  refine lv_aload_n hx hb d_ST_cover_0 rfl (lv_at hl 0 rfl) ?_
  refine va_get (D := g) (ci := 0) (v := .ref (a 6)) (C := R_ST) (T := F_ST) (N := 7) hx hb hT i_ST hown hK hP 0 rfl rfl 5 (by decide) (hT _ tw_228) (fun _ h9 => h9) rfl d_ST_cover_1 ?_
  refine lv_iload_n hx hb d_ST_cover_4 rfl (lv_at hl 1 rfl) ?_
  refine my_V_i (q0 := 6) (ci := 6) (C := R_Go) (As := [.int x]) (n := 1) (k_Go_rowsOfPart l g a rB rT cI cJ cII cJJ nc nv ng kd vo nu nd en br bc un eu li tb cc0 cp cu cd tc ts tf ox ow ob ra rb gc gr gk gg gp gt sa sb x hr) hx hb hml hown hT hN tw_546 tw_521 tw_522 tw_8 tw_523 (by decide +kernel) rfl rfl ⟨Nat.le_of_ble_eq_true rfl, Nat.le_of_ble_eq_true rfl⟩ ⟨Nat.zero_le _, Nat.zero_le _⟩ hK hP hD hS hA rfl rfl rfl hl rfl (Nat.le_of_ble_eq_true rfl) d_ST_cover_5 (fun H locs hP hD hS => ?_)
  refine lv_istore_n (lv' := [(3, .int (nI (rP gp x gr))), (0, .ref (a 0)), (1, .int x), (2, .int z)]) hx hb d_ST_cover_8 rfl hl (by decide) rfl (fun ls hl => ?_)
  refine lv_iload_n hx hb d_ST_cover_9 rfl (lv_at hl 0 rfl) ?_
  refine my_if_ne (tgt := 23) (a := rP gp x gr) hx hb d_ST_cover_10 (by decide) (by omega) (fun c_10 => ?_) (fun c_10 => ?_)
  · -- 10: taken
    refine lv_aload_n hx hb d_ST_cover_23 rfl (lv_at hl 1 rfl) ?_
    refine va_get (D := g) (ci := 0) (v := .ref (a 7)) (C := R_ST) (T := F_ST) (N := 7) hx hb hT i_ST hown hK hP 0 rfl rfl 6 (by decide) (hT _ tw_229) (fun _ h9 => h9) rfl d_ST_cover_24 ?_
    refine lv_aload_n hx hb d_ST_cover_27 rfl (lv_at hl 1 rfl) ?_
    refine va_get (D := g) (ci := 0) (v := .ref (a 6)) (C := R_ST) (T := F_ST) (N := 7) hx hb hT i_ST hown hK hP 0 rfl rfl 5 (by decide) (hT _ tw_228) (fun _ h9 => h9) rfl d_ST_cover_28 ?_
    refine lv_iload_n hx hb d_ST_cover_31 rfl (lv_at hl 2 rfl) ?_
    refine my_V_i (q0 := 6) (ci := 6) (C := R_Go) (As := [.int x]) (n := 1) (k_Go_testedRowsOfPart l g a rB rT cI cJ cII cJJ nc nv ng kd vo nu nd en br bc un eu li tb cc0 cp cu cd tc ts tf ox ow ob ra rb gc gr gk gg gp gt sa sb x hr hgt) hx hb hml hown hT hN tw_613 tw_525 tw_526 tw_8 tw_527 (by decide +kernel) rfl rfl ⟨Nat.le_of_ble_eq_true rfl, Nat.le_of_ble_eq_true rfl⟩ ⟨Nat.zero_le _, Nat.zero_le _⟩ hK hP hD hS hA rfl rfl rfl hl rfl (Nat.le_of_ble_eq_true rfl) d_ST_cover_32 (fun H locs hP hD hS => ?_)
    refine lv_i2l (v := lN (tP gp gt x gr)) hx hb d_ST_cover_35 (nI_l (by omega)) ?_
    refine lv_iload_n hx hb d_ST_cover_36 rfl (lv_at hl 0 rfl) ?_
    refine lv_i2l (v := lN (rP gp x gr)) hx hb d_ST_cover_37 (nI_l (by omega)) ?_
    refine my_V_v (q0 := 7) (ci := 7) (C := R_Fr) (As := [.long (lN (tP gp gt x gr)), .long (lN (rP gp x gr))]) (n := 2) (k_Fr_set7 l g a rB rT cI cJ cII cJJ nc nv ng kd vo nu nd en br bc un eu li tb cc0 cp cu cd tc ts tf ox ow ob ra rb gc gr gk gg gp gt sa sb (tP gp gt x gr) (rP gp x gr) (by omega) (by omega) (by omega)) hx hb hml hown hT hN tw_614 tw_434 tw_435 tw_7 tw_436 (by decide +kernel) rfl rfl ⟨Nat.le_of_ble_eq_true rfl, Nat.le_of_ble_eq_true rfl⟩ ⟨Nat.zero_le _, Nat.zero_le _⟩ hK hP hD hS hA rfl rfl rfl hl rfl (Nat.le_of_ble_eq_true rfl) d_ST_cover_38 (fun H locs hP hD hS => ?_)
    refine lv_aload_n hx hb d_ST_cover_41 rfl (lv_at hl 1 rfl) ?_
    refine va_get (D := g) (ci := 0) (v := .ref (a 7)) (C := R_ST) (T := F_ST) (N := 7) hx hb hT i_ST hown hK hP 0 rfl rfl 6 (by decide) (hT _ tw_229) (fun _ h9 => h9) rfl d_ST_cover_42 ?_
    refine lv_iload_n hx hb d_ST_cover_45 rfl (lv_at hl 3 rfl) ?_
    refine my_V_l (q0 := 7) (ci := 7) (C := R_Fr) (As := [.int z]) (n := 1) (k_Fr_side7 l g a rB rT cI cJ cII cJJ nc nv ng kd vo nu nd en br bc un eu li tb cc0 cp cu cd tc ts tf ox ow ob ra rb gc gr gk gg gp gt ((tP gp gt x gr) / cdF 100 (tP gp gt x gr) (rP gp x gr)) ((rP gp x gr) / cdF 100 (tP gp gt x gr) (rP gp x gr)) z ) hx hb hml hown hT hN tw_460 tw_461 tw_462 tw_7 tw_463 (by decide +kernel) rfl rfl ⟨Nat.le_of_ble_eq_true rfl, Nat.le_of_ble_eq_true rfl⟩ ⟨Nat.zero_le _, Nat.zero_le _⟩ hK hP hD hS hA rfl rfl rfl hl rfl (Nat.le_of_ble_eq_true rfl) d_ST_cover_46 (fun H locs hP hD hS => ?_)
    refine hret _ _ _ _ _ hP hD hS d_ST_cover_49 ?_
    rfl
  · -- 10: not taken
    exfalso
    omega
