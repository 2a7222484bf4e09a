/-! contracts that read the static array PATTERNS beside the world -/
def patV (j : Nat) : Int64 := if j = 0 then -6148914691236517206 else if j = 1 then -3689348814741910324 else if j = 2 then -1085102592571150096 else if j = 3 then -71777214294589696 else if j = 4 then -281470681808896 else -4294967296
def pat (t : Nat) (A : Nat → Prop) (U : State) (H : Heap) : Prop := va_Z "SafetyTrees$Truth" "PATTERNS" "[J" (.ref t) A U H ∧ va_T .long t 6 (fun j => .long (patV j)) A U H
theorem pat.moved {t : Nat} {A : Nat → Prop} {u U : State} {H : Heap} (hvm : u.vm.Alike U.vm) (h : pat t A u H) : pat t A U H := ⟨h.1.moved hvm, h.2.moved hvm⟩
theorem pat.kept {t : Nat} {A : Nat → Prop} {U : State} {H H1 : Heap} (h : pat t A U H) (hq : ∀ a : Nat, a < H.size → ¬ A a → H1[a]? = H[a]?) : pat t A U H1 := ⟨h.1.kept hq, h.2.kept hq⟩
theorem pat.narrow {t : Nat} {A B : Nat → Prop} {U : State} {H : Heap} (h : pat t A U H) (hAB : ∀ q, B q → A q) : pat t B U H := ⟨h.1.narrow hAB, h.2.narrow hAB⟩
def cp_i (tp : Nat) (l : Launch) (g : va_G) (cl : List vw_C) (tys : List (ClassId × FieldType)) (y : MethodName) (cc : ByteArray) (maxL : Nat) (ret : Option FieldType) (rm : Room) (av : List Value) (w0 w1 : va_W) (r : Int32) : Prop :=
  ∀ sz : Nat, Met l y (Cond.code y cc maxL ret :: tblG) rm (va_Pc av (fun U => U.heap.size = sz ∧ va_P g cl w0 U.heap ∧ va_K g cl tys U ∧ va_D (fun _ => True) w0 ∧ nst U ∧ pat tp (va_A w0 sz) U U.heap)) (va_Qi (fun (x : Int32) (_ : Unit) => x = r) (fun _ t => va_P g cl w1 t.heap ∧ va_K g cl tys t ∧ va_D (va_A w0 sz) w1) (va_A w0 sz)) 0 0 (va_A w0 sz)
def cp_l (tp : Nat) (l : Launch) (g : va_G) (cl : List vw_C) (tys : List (ClassId × FieldType)) (y : MethodName) (cc : ByteArray) (maxL : Nat) (ret : Option FieldType) (rm : Room) (av : List Value) (w0 w1 : va_W) (r : Int64) : Prop :=
  ∀ sz : Nat, Met l y (Cond.code y cc maxL ret :: tblG) rm (va_Pc av (fun U => U.heap.size = sz ∧ va_P g cl w0 U.heap ∧ va_K g cl tys U ∧ va_D (fun _ => True) w0 ∧ nst U ∧ pat tp (va_A w0 sz) U U.heap)) (va_Ql (fun (x : Int64) (_ : Unit) => x = r) (fun _ t => va_P g cl w1 t.heap ∧ va_K g cl tys t ∧ va_D (va_A w0 sz) w1) (va_A w0 sz)) 0 0 (va_A w0 sz)
def cp_v (tp : Nat) (l : Launch) (g : va_G) (cl : List vw_C) (tys : List (ClassId × FieldType)) (y : MethodName) (cc : ByteArray) (maxL : Nat) (ret : Option FieldType) (rm : Room) (av : List Value) (w0 w1 : va_W) : Prop :=
  ∀ sz : Nat, Met l y (Cond.code y cc maxL ret :: tblG) rm (va_Pc av (fun U => U.heap.size = sz ∧ va_P g cl w0 U.heap ∧ va_K g cl tys U ∧ va_D (fun _ => True) w0 ∧ nst U ∧ pat tp (va_A w0 sz) U U.heap)) (va_Qv (fun (_ : Unit) => True) (fun _ t => va_P g cl w1 t.heap ∧ va_K g cl tys t ∧ va_D (va_A w0 sz) w1) (va_A w0 sz)) 0 0 (va_A w0 sz)
section MYP
variable {l : Launch} {g : va_G} {cl : List vw_C} {tys : List (ClassId × FieldType)} {y : MethodName} {rm : Room} {av : List Value} {w0 w1 : va_W} {cc : ByteArray} {maxL : Nat}
theorem cp_i.intro {tp : Nat} {r : Int32} (hy : plainName y.cls = true) (hlen : (lg_sl av).length ≤ maxL)
    (body : ∀ (p : Program) (e : Env) (s : State) (m : MethodId) (args : Array Value) (below : List Frame) (meth : Method) (c : Code) (Q : State → Prop) (A : Nat → Prop) (ls : Array Slot),
      p.tables.exec = Jvm.exec → c.code = cc → c.maxLocals = maxL → (∀ w ∈ tblG, w.before args s = true) → s.vm.findClass y.cls = some m.cls → (∀ q : Nat, s.heap.size ≤ q → A q) → va_K g cl tys s → nst s → pat tp A s s.heap →
      (∀ (H : Heap) (locs : List Loc) (pc : Nat) (ls : Array Slot) (v : Int32), va_P g cl w1 H → va_D A w1 → va_S A s.heap H locs → decode cc pc = .ok (.ireturn, 1) → v = r → W p l e rm s m args below meth c H locs 0 0 Q (F0 m pc ls [.int v])) →
      va_P g cl w0 s.heap → va_D A w0 → va_S A s.heap s.heap [] → lv_has ls maxL (lv_args 0 av) → W p l e rm s m args below meth c s.heap [] 0 0 Q (F0 m 0 ls [])) : cp_i tp l g cl tys y cc maxL (some .int) rm av w0 w1 r := by
  intro sz
  refine Met.ofW (cc := cc) (maxL := maxL) (ret := some .int) hy rfl ?_
  intro p e s m args below meth c s₁ B hml hv
  obtain ⟨rfl, hsz, hP, hK, hD0, hN, hZ⟩ := hv
  have hts0 := atoms_spec (ws := Cond.code y cc maxL _ :: tblG) B.pre
  have hts : ∀ w ∈ tblG, w.before av.toArray s = true := fun w h => hts0 w (List.mem_cons_of_mem _ h)
  have hown : s.vm.findClass y.cls = some m.cls := findClass_of_methodNamed B.named
  have hlocks := B.notSynchronized
  subst hsz
  have hD := hD0.self (sz := s.heap.size)
  have hl := lv_entry av (n := maxL) hlen
  rw [lg_entry_eq]
  refine body p e s m av.toArray below meth c _ (va_A w0 s.heap.size) _ B.exec B.bytes hml hts hown (fun q h => Or.inr h) hK hN hZ ?_ hP hD va_S.rf hl
  intro H locs pc ls v h1 h2 h3 h4 h5
  exact W.iret (v := v) B.exec B.bytes B.returns (fun t ht hW => ⟨⟨v, (), rfl, h5, by rw [ht]; exact h1, va_K.moved hW.alike hK, h2⟩, h3.F ht⟩) h3.2.2 h4
theorem cp_l.intro {tp : Nat} {r : Int64} (hy : plainName y.cls = true) (hlen : (lg_sl av).length ≤ maxL)
    (body : ∀ (p : Program) (e : Env) (s : State) (m : MethodId) (args : Array Value) (below : List Frame) (meth : Method) (c : Code) (Q : State → Prop) (A : Nat → Prop) (ls : Array Slot),
      p.tables.exec = Jvm.exec → c.code = cc → c.maxLocals = maxL → (∀ w ∈ tblG, w.before args s = true) → s.vm.findClass y.cls = some m.cls → (∀ q : Nat, s.heap.size ≤ q → A q) → va_K g cl tys s → nst s → pat tp A s s.heap →
      (∀ (H : Heap) (locs : List Loc) (pc : Nat) (ls : Array Slot) (v : Int64), va_P g cl w1 H → va_D A w1 → va_S A s.heap H locs → decode cc pc = .ok (.lreturn, 1) → v = r → W p l e rm s m args below meth c H locs 0 0 Q (F0 m pc ls [.long v])) →
      va_P g cl w0 s.heap → va_D A w0 → va_S A s.heap s.heap [] → lv_has ls maxL (lv_args 0 av) → W p l e rm s m args below meth c s.heap [] 0 0 Q (F0 m 0 ls [])) : cp_l tp l g cl tys y cc maxL (some .long) rm av w0 w1 r := by
  intro sz
  refine Met.ofW (cc := cc) (maxL := maxL) (ret := some .long) hy rfl ?_
  intro p e s m args below meth c s₁ B hml hv
  obtain ⟨rfl, hsz, hP, hK, hD0, hN, hZ⟩ := hv
  have hts0 := atoms_spec (ws := Cond.code y cc maxL _ :: tblG) B.pre
  have hts : ∀ w ∈ tblG, w.before av.toArray s = true := fun w h => hts0 w (List.mem_cons_of_mem _ h)
  have hown : s.vm.findClass y.cls = some m.cls := findClass_of_methodNamed B.named
  have hlocks := B.notSynchronized
  subst hsz
  have hD := hD0.self (sz := s.heap.size)
  have hl := lv_entry av (n := maxL) hlen
  rw [lg_entry_eq]
  refine body p e s m av.toArray below meth c _ (va_A w0 s.heap.size) _ B.exec B.bytes hml hts hown (fun q h => Or.inr h) hK hN hZ ?_ hP hD va_S.rf hl
  intro H locs pc ls v h1 h2 h3 h4 h5
  exact W.lret (v := v) B.exec B.bytes B.returns (fun t ht hW => ⟨⟨v, (), rfl, h5, by rw [ht]; exact h1, va_K.moved hW.alike hK, h2⟩, h3.F ht⟩) h3.2.2 h4
theorem cp_v.intro {tp : Nat} (hy : plainName y.cls = true) (hlen : (lg_sl av).length ≤ maxL)
    (body : ∀ (p : Program) (e : Env) (s : State) (m : MethodId) (args : Array Value) (below : List Frame) (meth : Method) (c : Code) (Q : State → Prop) (A : Nat → Prop) (ls : Array Slot),
      p.tables.exec = Jvm.exec → c.code = cc → c.maxLocals = maxL → (∀ w ∈ tblG, w.before args s = true) → s.vm.findClass y.cls = some m.cls → (∀ q : Nat, s.heap.size ≤ q → A q) → va_K g cl tys s → nst s → pat tp A s s.heap →
      (∀ (H : Heap) (locs : List Loc) (pc : Nat) (ls : Array Slot), va_P g cl w1 H → va_D A w1 → va_S A s.heap H locs → decode cc pc = .ok (.return_, 1) → W p l e rm s m args below meth c H locs 0 0 Q (F0 m pc ls [])) →
      va_P g cl w0 s.heap → va_D A w0 → va_S A s.heap s.heap [] → lv_has ls maxL (lv_args 0 av) → W p l e rm s m args below meth c s.heap [] 0 0 Q (F0 m 0 ls [])) : cp_v tp l g cl tys y cc maxL none rm av w0 w1 := by
  intro sz
  refine Met.ofW (cc := cc) (maxL := maxL) (ret := none) hy rfl ?_
  intro p e s m args below meth c s₁ B hml hv
  obtain ⟨rfl, hsz, hP, hK, hD0, hN, hZ⟩ := hv
  have hts0 := atoms_spec (ws := Cond.code y cc maxL _ :: tblG) B.pre
  have hts : ∀ w ∈ tblG, w.before av.toArray s = true := fun w h => hts0 w (List.mem_cons_of_mem _ h)
  have hown : s.vm.findClass y.cls = some m.cls := findClass_of_methodNamed B.named
  have hlocks := B.notSynchronized
  subst hsz
  have hD := hD0.self (sz := s.heap.size)
  have hl := lv_entry av (n := maxL) hlen
  rw [lg_entry_eq]
  refine body p e s m av.toArray below meth c _ (va_A w0 s.heap.size) _ B.exec B.bytes hml hts hown (fun q h => Or.inr h) hK hN hZ ?_ hP hD va_S.rf hl
  intro H locs pc ls h1 h2 h3 h4
  exact W.vret B.exec B.bytes B.returns (fun t ht hW => ⟨⟨(), rfl, trivial, by rw [ht]; exact h1, va_K.moved hW.alike hK, h2⟩, h3.F ht⟩) h3.2.2 h4
end MYP
section MYQ
variable {p : Program} {l : Launch} {e : Env} {R : Room} {s : State} {m : MethodId} {args : Array Value} {below : List Frame} {meth : Method} {c : Code} {H : Heap} {locs : List Loc} {cells slots : Nat} {Q : State → Prop}
variable {cc : ByteArray} {pc : Nat} {ls : Array Slot} {rest st0 : List Value} {g : va_G} {cl : List vw_C} {tys : List (ClassId × FieldType)} {A A1 : Nat → Prop} {w0 w1 : va_W} {av : Array Value} {ws : va_W} {a : Nat} {D : va_G} {H0 : Heap}
theorem my_prePV {tp : Nat} {sz ci q0 b : Nat} {q : vw_C} {fs : List Value} {As : List Value} (hsz : H.size = sz) (hN : nst s) (hZ : pat tp (va_A w0 sz) s H) (hK : va_K g cl tys s) (hP : va_P g cl w0 H) (hD : va_D A w0) (hc : cl[ci]? = some q) (he : w0[q0]? = some (b, .inr (ci, fs))) :
    PreV s H q.1 b (va_Pc (.ref b :: As) (fun U => U.heap.size = sz ∧ va_P g cl w0 U.heap ∧ va_K g cl tys U ∧ va_D (fun _ => True) w0 ∧ nst U ∧ pat tp (va_A w0 sz) U U.heap)) As :=
  ⟨fun a U gg mk h => by obtain ⟨q0, q1, qP, qK, qD, qN, qZ⟩ := h; exact ⟨q0, q1, qP, va_K.moved (u := U) (U := U.calling gg mk a) (Vm.Alike.refl U.vm) qK, qD, nst.same (u := U) (U := U.calling gg mk a) rfl qN, pat.moved (u := U) (U := U.calling gg mk a) (Vm.Alike.refl U.vm) qZ⟩, va_recv hK hP hc he, fun U hU hW => ⟨rfl, by rw [hU]; exact hsz, by rw [hU]; exact hP, va_K.moved hW.alike hK, hD.weaken (fun _ _ _ _ => trivial), nst.warm hW hN, by rw [hU]; exact pat.moved hW.alike hZ⟩⟩
theorem my_prePS {tp : Nat} {sz : Nat} {As : List Value} (hsz : H.size = sz) (hN : nst s) (hZ : pat tp (va_A w0 sz) s H) (hK : va_K g cl tys s) (hP : va_P g cl w0 H) (hD : va_D A w0) :
    PreS s H (va_Pc As (fun U => U.heap.size = sz ∧ va_P g cl w0 U.heap ∧ va_K g cl tys U ∧ va_D (fun _ => True) w0 ∧ nst U ∧ pat tp (va_A w0 sz) U U.heap)) As :=
  ⟨fun a U gg mk h => by obtain ⟨q0, q1, qP, qK, qD, qN, qZ⟩ := h; exact ⟨q0, q1, qP, va_K.moved (u := U) (U := U.calling gg mk a) (Vm.Alike.refl U.vm) qK, qD, nst.same (u := U) (U := U.calling gg mk a) rfl qN, pat.moved (u := U) (U := U.calling gg mk a) (Vm.Alike.refl U.vm) qZ⟩, fun U hU hW => ⟨rfl, by rw [hU]; exact hsz, by rw [hU]; exact hP, va_K.moved hW.alike hK, hD.weaken (fun _ _ _ _ => trivial), nst.warm hW hN, by rw [hU]; exact pat.moved hW.alike hZ⟩⟩
theorem my_patH {tp : Nat} (hZ : pat tp A s s.heap) (hD : va_D A w0) (hS : va_S A s.heap H locs) (hA : ∀ q : Nat, s.heap.size ≤ q → A q) : pat tp (va_A w0 H.size) s H := (hZ.kept (fun a h1 h2 => hS.2.1 a h1 h2)).narrow (my_fr hD hS hA)
theorem my_PS_l {tp : Nat} {r : Int64} {y : MethodName} {bytes : ByteArray} {maxL nL n index : Nat} {ret : Option FieldType} {rm : Room} {own : String} {As : List Value} {lv : List (Nat × Value)} (hM : cp_l tp l g cl tys y bytes maxL ret rm As w0 w1 r) (hx : p.tables.exec = Jvm.exec) (hb : c.code = cc) (hml : c.maxLocals = nL) (hown : s.vm.findClass own = some m.cls) (hT : ∀ w ∈ tblG, w.before args s = true) (hN : nst s) (hZ : pat tp A s s.heap) (k1 : Cond.methodLink own index y ∈ tblG) (k2 : Cond.static y ∈ tblG) (k4 : Cond.initialized y.cls ∈ tblG) (k5 : Cond.code y bytes maxL ret ∈ tblG) (hd : y.cls ≠ "java/lang/invoke/MethodHandle" ∧ y.cls ≠ "java/lang/invoke/VarHandle" ∧ (parseMethodDescriptor y.desc).map (fun d => d.parameters.length) = some n) (hrc : rm.cells = 0) (hrs : rm.slots = 0) (hR : rm.frames + 1 ≤ R.frames ∧ 8 + (maxL + 11) + rm.locals ≤ R.locals) (hf : cells ≤ R.cells ∧ slots ≤ R.slots)
    (hK : va_K g cl tys s) (hP : va_P g cl w0 H) (hD : va_D A w0) (hS : va_S A s.heap H locs) (hA : ∀ q : Nat, s.heap.size ≤ q → A q) (hn : As.length = n) (hl : lv_has ls nL lv) (hst : st0 = As.reverse ++ rest) (hrm : (rest.map fun v => v.category).sum ≤ 8) (hdg : decode cc pc = .ok (.invokestatic index, 3))
    (kk : ∀ (H1 : Heap) (locs1 : List Loc), va_P g cl w1 H1 → va_D A w1 → va_S A s.heap H1 locs1 → W p l e R s m args below meth c H1 locs1 cells slots Q (F0 m (pc + 3) ls (.long r :: rest))) : W p l e R s m args below meth c H locs cells slots Q (F0 m pc ls st0) :=
  my_calll (va_runS (As := As) (rest := rest) (n := n) ⟨hx, hb, hml, hown, hT⟩ (hM H.size) (va_cwS n hT (gApp (List.forall_mem_cons.mpr ⟨k1, List.forall_mem_cons.mpr ⟨k2, List.forall_mem_cons.mpr ⟨k4, fun _ h => absurd h List.not_mem_nil⟩⟩⟩) (gC k5)) rfl hrc hrs hd hR) (my_prePS rfl hN (my_patH hZ hD hS hA) hK hP hD) rfl hn hl.1 hst (lv_room hrm) hdg hf) hS (my_fr hD hS hA) kk
theorem my_PV_v {tp : Nat}  {y : MethodName} {bytes : ByteArray} {maxL nL n index q0 ci b : Nat} {ret : Option FieldType} {rm : Room} {own C : String} {As fs : List Value} {T : u_T} {nF : Nat} {lv : List (Nat × Value)} (hM : cp_v tp l g cl tys y bytes maxL ret rm (.ref b :: As) w0 w1) (hx : p.tables.exec = Jvm.exec) (hb : c.code = cc) (hml : c.maxLocals = nL) (hown : s.vm.findClass own = some m.cls) (hT : ∀ w ∈ tblG, w.before args s = true) (hN : nst s) (hZ : pat tp A s s.heap) (k1 : Cond.methodLink own index y ∈ tblG) (k2 : Cond.instanceMethod y ∈ tblG) (k3 : Cond.selects C y y ∈ tblG) (k4 : Cond.initialized C ∈ tblG) (k5 : Cond.code y bytes maxL ret ∈ tblG) (hd : y.cls = C ∧ y.cls ≠ "java/lang/invoke/MethodHandle" ∧ y.cls ≠ "java/lang/invoke/VarHandle" ∧ (parseMethodDescriptor y.desc).map (fun d => d.parameters.length) = some n) (hrc : rm.cells = 0) (hrs : rm.slots = 0) (hR : rm.frames + 1 ≤ R.frames ∧ 8 + (maxL + 11) + rm.locals ≤ R.locals) (hf : cells ≤ R.cells ∧ slots ≤ R.slots)
    (hK : va_K g cl tys s) (hP : va_P g cl w0 H) (hD : va_D A w0) (hS : va_S A s.heap H locs) (hA : ∀ q : Nat, s.heap.size ≤ q → A q) (hc : cl[ci]? = some (C, T, nF)) (he : w0[q0]? = some (b, .inr (ci, fs))) (hn : As.length = n) (hl : lv_has ls nL lv) (hst : st0 = As.reverse ++ .ref b :: rest) (hrm : (rest.map fun v => v.category).sum ≤ 8) (hdg : decode cc pc = .ok (.invokevirtual index, 3))
    (kk : ∀ (H1 : Heap) (locs1 : List Loc), va_P g cl w1 H1 → va_D A w1 → va_S A s.heap H1 locs1 → W p l e R s m args below meth c H1 locs1 cells slots Q (F0 m (pc + 3) ls rest)) : W p l e R s m args below meth c H locs cells slots Q (F0 m pc ls st0) :=
  my_callv (va_runV (As := As) (rest := rest) (n := n) ⟨hx, hb, hml, hown, hT⟩ (hM H.size) (cwV n hT (gApp (List.forall_mem_cons.mpr ⟨k1, List.forall_mem_cons.mpr ⟨k2, List.forall_mem_cons.mpr ⟨k3, List.forall_mem_cons.mpr ⟨k4, fun _ h => absurd h List.not_mem_nil⟩⟩⟩⟩) (gC k5)) rfl hrc hrs hd hR) (my_prePV rfl hN (my_patH hZ hD hS hA) hK hP hD hc he) rfl hn hl.1 hst (lv_room hrm) hdg hf) hS (my_fr hD hS hA) kk
theorem my_PV_i {tp : Nat} {r : Int32} {y : MethodName} {bytes : ByteArray} {maxL nL n index q0 ci b : Nat} {ret : Option FieldType} {rm : Room} {own C : String} {As fs : List Value} {T : u_T} {nF : Nat} {lv : List (Nat × Value)} (hM : cp_i tp l g cl tys y bytes maxL ret rm (.ref b :: As) w0 w1 r) (hx : p.tables.exec = Jvm.exec) (hb : c.code = cc) (hml : c.maxLocals = nL) (hown : s.vm.findClass own = some m.cls) (hT : ∀ w ∈ tblG, w.before args s = true) (hN : nst s) (hZ : pat tp A s s.heap) (k1 : Cond.methodLink own index y ∈ tblG) (k2 : Cond.instanceMethod y ∈ tblG) (k3 : Cond.selects C y y ∈ tblG) (k4 : Cond.initialized C ∈ tblG) (k5 : Cond.code y bytes maxL ret ∈ tblG) (hd : y.cls = C ∧ y.cls ≠ "java/lang/invoke/MethodHandle" ∧ y.cls ≠ "java/lang/invoke/VarHandle" ∧ (parseMethodDescriptor y.desc).map (fun d => d.parameters.length) = some n) (hrc : rm.cells = 0) (hrs : rm.slots = 0) (hR : rm.frames + 1 ≤ R.frames ∧ 8 + (maxL + 11) + rm.locals ≤ R.locals) (hf : cells ≤ R.cells ∧ slots ≤ R.slots)
    (hK : va_K g cl tys s) (hP : va_P g cl w0 H) (hD : va_D A w0) (hS : va_S A s.heap H locs) (hA : ∀ q : Nat, s.heap.size ≤ q → A q) (hc : cl[ci]? = some (C, T, nF)) (he : w0[q0]? = some (b, .inr (ci, fs))) (hn : As.length = n) (hl : lv_has ls nL lv) (hst : st0 = As.reverse ++ .ref b :: rest) (hrm : (rest.map fun v => v.category).sum ≤ 8) (hdg : decode cc pc = .ok (.invokevirtual index, 3))
    (kk : ∀ (H1 : Heap) (locs1 : List Loc), va_P g cl w1 H1 → va_D A w1 → va_S A s.heap H1 locs1 → W p l e R s m args below meth c H1 locs1 cells slots Q (F0 m (pc + 3) ls (.int r :: rest))) : W p l e R s m args below meth c H locs cells slots Q (F0 m pc ls st0) :=
  my_calli (va_runV (As := As) (rest := rest) (n := n) ⟨hx, hb, hml, hown, hT⟩ (hM H.size) (cwV n hT (gApp (List.forall_mem_cons.mpr ⟨k1, List.forall_mem_cons.mpr ⟨k2, List.forall_mem_cons.mpr ⟨k3, List.forall_mem_cons.mpr ⟨k4, fun _ h => absurd h List.not_mem_nil⟩⟩⟩⟩) (gC k5)) rfl hrc hrs hd hR) (my_prePV rfl hN (my_patH hZ hD hS hA) hK hP hD hc he) rfl hn hl.1 hst (lv_room hrm) hdg hf) hS (my_fr hD hS hA) kk
theorem my_PVN_v {tp : Nat}  {y : MethodName} {bytes : ByteArray} {maxL nL n index q0 ci b : Nat} {ret : Option FieldType} {rm : Room} {own C : String} {host : String} {As fs : List Value} {T : u_T} {nF : Nat} {lv : List (Nat × Value)} (hM : cp_v tp l g cl tys y bytes maxL ret rm (.ref b :: As) w0 w1) (hx : p.tables.exec = Jvm.exec) (hb : c.code = cc) (hml : c.maxLocals = nL) (hown : s.vm.findClass own = some m.cls) (hT : ∀ w ∈ tblG, w.before args s = true) (hN : nst s) (hZ : pat tp A s s.heap) (k1 : Cond.methodLinkNest own index y host ∈ tblN) (k2 : Cond.instanceMethod y ∈ tblG) (k3 : Cond.selects C y y ∈ tblG) (k4 : Cond.initialized y.cls ∈ tblG) (k5 : Cond.code y bytes maxL ret ∈ tblG) (hd : y.cls ≠ "java/lang/invoke/MethodHandle" ∧ y.cls ≠ "java/lang/invoke/VarHandle" ∧ (parseMethodDescriptor y.desc).map (fun d => d.parameters.length) = some n) (hrc : rm.cells = 0) (hrs : rm.slots = 0) (hR : rm.frames + 1 ≤ R.frames ∧ 8 + (maxL + 11) + rm.locals ≤ R.locals) (hf : cells ≤ R.cells ∧ slots ≤ R.slots)
    (hK : va_K g cl tys s) (hP : va_P g cl w0 H) (hD : va_D A w0) (hS : va_S A s.heap H locs) (hA : ∀ q : Nat, s.heap.size ≤ q → A q) (hc : cl[ci]? = some (C, T, nF)) (he : w0[q0]? = some (b, .inr (ci, fs))) (hn : As.length = n) (hl : lv_has ls nL lv) (hst : st0 = As.reverse ++ .ref b :: rest) (hrm : (rest.map fun v => v.category).sum ≤ 8) (hdg : decode cc pc = .ok (.invokevirtual index, 3))
    (kk : ∀ (H1 : Heap) (locs1 : List Loc), va_P g cl w1 H1 → va_D A w1 → va_S A s.heap H1 locs1 → W p l e R s m args below meth c H1 locs1 cells slots Q (F0 m (pc + 3) ls rest)) : W p l e R s m args below meth c H locs cells slots Q (F0 m pc ls st0) :=
  my_callv (va_runVN (As := As) (rest := rest) (n := n) ⟨hx, hb, hml, hown, hT⟩ (hM H.size) ⟨va_cnB n hT (gC k5) rfl hrc hrs (hN _ k1) (hT _ k4) hd hR, hT _ k2, hT _ k3⟩ (my_prePV rfl hN (my_patH hZ hD hS hA) hK hP hD hc he) rfl hn hl.1 hst (lv_room hrm) hdg hf) hS (my_fr hD hS hA) kk
end MYQ
