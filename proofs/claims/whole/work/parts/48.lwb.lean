/-! a call that throws, caught in the caller -/
section LWC
variable {p : Program} {l : Launch} {e : Env} {R : Room} {s : State} {m : MethodId} {args : Array Value} {below : List Frame} {meth : Method} {c : Code} {H : Heap} {locs : List Loc} {cells slots : Nat} {Q : State → Prop}
variable {cc : ByteArray} {pc : Nat} {ls : Array Slot} {rest st0 : List Value} {g : va_G} {cl : List vw_C} {tys : List (ClassId × FieldType)} {A A1 : Nat → Prop} {w0 w1 : va_W}
/-- the table's first row takes the thrown object: its class may be one that the pool has not looked up yet -/
theorem lw_find {u : State} {f : JFrame} {a : Addr} {mt : Method} {cd : Code} {x : ExceptionTableEntry} {rx : List ExceptionTableEntry} {k : ClassId} {cell : Cell} (hm : u.vm.method? f.method = some mt) (hc : mt.code = some cd) (ht : cd.exceptionTable.toList = x :: rx) (hx : covers x f.pc = true) (h0 : x.catchType ≠ 0) (hl : u.vm.ClassLinks e.platform f.method.cls x.catchType k) (hcell : u.heap[a]? = some cell) (ho : cell.vm.isStatics = false) (hk : ∃ q, u.vm.classes[k]? = some q) (hfit : u.vm.assignable cell.cls k = true) (F : Handler → Pre) (E : CtlPost) (d : Bool) (acts : List Action) : wp (findHandler f a) F E e d acts u ↔ F (.found x.handlerPc) d acts (u.setVm (u.vm.noted f.method.cls x.catchType (.cls k))) := by
  have hal : u.vm.Alike (u.vm.noted f.method.cls x.catchType (.cls k)) := (Vm.Alike.refl u.vm).noted _ _ _
  obtain ⟨q1, e1⟩ := hk
  obtain ⟨q2, e2⟩ := Vm.classAt_of_assignable hfit ⟨q1, e1⟩
  obtain ⟨r1, e3, -⟩ := hal.2.2 _ _ e1
  obtain ⟨r2, e4, -⟩ := hal.2.2 _ _ e2
  have e5 : (u.vm.noted f.method.cls x.catchType (.cls k)).assignable cell.cls k = true := (hal.assignable _ _).trans hfit
  obtain ⟨e6, e7⟩ := (resolveClass_links e.toSetting hl).op (op := VmOp.resolveClass f.method.cls x.catchType) rfl
  have e8 := VmData.ne_statics_of ho
  have e9 : (decide (x.startPc ≤ f.pc) && decide (f.pc < x.endPc)) = true := hx
  rw [W.findHandler_eq hm hc, ht]
  simp [findHandler.go, e9, h0, e6, e7, hcell, e8, e3, e4, e5, VmOp.dirties, VmOp.acts]
/-- the note of a throw over the frame f: the walk goes on at the handler that the first row names -/
theorem lw_catch {T : State} (X : Stand p l e R s m args below meth c T locs cells slots) (a : Addr) {f : JFrame} (hf : f.method = m) {own name : String} (hown : s.vm.findClass own = some m.cls) {x : ExceptionTableEntry} {rx : List ExceptionTableEntry} (ht : c.exceptionTable.toList = x :: rx) (hx : covers x f.pc = true) (h0 : x.catchType ≠ 0) (hlk : (Cond.classLink own x.catchType name).before args s = true) {k : ClassId} {cell : Cell} (hk : s.vm.findClass name = some k) (hcell : T.heap[a]? = some cell) (ho : cell.vm.isStatics = false) (hfit : s.vm.assignable cell.cls k = true) :
    ∃ vm' : Vm, Stand p l e R s m args below meth c (T.setVm vm') locs cells slots ∧ ∀ t : State, Steps p.tables e below ((T.setVm vm').setTop { f with pc := x.handlerPc, stack := [.ref a] }) t → Steps p.tables e below ((T.setTop f).pushFrame (.throwing a)) t := by
  subst hf
  obtain ⟨k2, hk2, hcl⟩ := Cond.classLink_spec hown hlk e.platform (by rw [X.admits.platform])
  cases hk.symm.trans hk2
  obtain ⟨dk, _, _, kt, hd, _, _, _, _, hkt, _, hopen⟩ := hcl.here
  have hal := X.warmed.alike
  obtain ⟨kt2, hkt2, -⟩ := hal.2.2 _ _ hkt
  have hw : s.WarmedH (T.vm.noted f.method.cls x.catchType (.cls k)) := X.warmed.noted hd hopen (State.rightAt_cls hcl)
  refine ⟨_, X.noted hw, fun t hr => ?_⟩
  have hat : At T f.method c below := X.here
  obtain ⟨g0, hg0⟩ := X.frames_eq
  obtain ⟨s1, s2⟩ := hat.throwing a
  refine Steps.head s1 s2 ?_
  have hv := Stand.throwing_vm T f a
  have hh := Stand.throwing_heap T f a
  have hfind := lw_find (e := e) (u := (T.setTop f).pushFrame (.throwing a)) (f := f) (a := a) (mt := meth) (cd := c) (k := k) (cell := cell) (by rw [hv]; exact X.method') X.code ht hx h0 (by rw [hv]; exact X.warmed.classLinks hcl) (by rw [hh]; exact hcell) ho ⟨kt2, by rw [hv]; exact hkt2⟩ (by rw [hv]; exact (hal.assignable _ _).trans hfit)
  rw [stepThread_throwing (frames_entered hat.top _)]
  simp only [stepThrowing, searchFrame, vmDo]
  generalize hgo : Sem.go _ e false [] _ = res
  obtain ⟨as, rfl, -⟩ := Sem.eq_ok_of hgo (a := Handler.found x.handlerPc) (acts' := []) (s' := ((T.setTop f).pushFrame (.throwing a)).setVm (T.vm.noted f.method.cls x.catchType (.cls k))) (by simp [hfind, hv])
  have hl0 : (T.setVm (T.vm.noted f.method.cls x.catchType (.cls k))).frames = .java g0 :: below := hg0
  rw [State.setTop_of_frames _ hl0] at hr
  rw [hg0]
  have hs : ∀ G : List Frame, (((T.setTop f).pushFrame (.throwing a)).setVm (T.vm.noted f.method.cls x.catchType (.cls k))).setFrames G = (T.setVm (T.vm.noted f.method.cls x.catchType (.cls k))).setFrames G := fun G => by
    rw [State.pushFrame, State.setTop_of_frames _ hg0]
    show (((T.setVm (T.vm.noted f.method.cls x.catchType (.cls k))).setFrames _).setFrames _).setFrames G = _
    rw [State.setFrames_setFrames, State.setFrames_setFrames]
  show Steps p.tables e below ((((T.setTop f).pushFrame (.throwing a)).setVm (T.vm.noted f.method.cls x.catchType (.cls k))).setFrames (.java { f with pc := x.handlerPc, stack := [.ref a] } :: below)) t
  rw [hs]
  exact hr
set_option maxHeartbeats 2000000 in
theorem lw_thrown {y : MethodName} {bytes : ByteArray} {maxL nL n index q0 ci b : Nat} {ret : Option FieldType} {rm : Room} {own C : String} {As fs : List Value} {T : u_T} {nF : Nat} {lv : List (Nat × Value)} {x : ExceptionTableEntry} {rx : List ExceptionTableEntry} (hM : ct_T l g cl tys y bytes maxL ret rm (.ref b :: As) w0) (hx : p.tables.exec = Jvm.exec) (hb : c.code = cc) (hml : c.maxLocals = nL) (hown : s.vm.findClass own = some m.cls) (hT : ∀ w ∈ tblG, w.before args s = true) (hN : nst s) (hth : thr s) (k1 : Cond.methodLink own index y ∈ tblG) (k2 : Cond.instanceMethod y ∈ tblG) (k3 : Cond.selects C y y ∈ tblG) (k4 : Cond.initialized C ∈ tblG) (k5 : Cond.code y bytes maxL ret ∈ tblG) (k6 : Cond.classLink own x.catchType s_AE ∈ tblG) (hd : y.cls = C ∧ y.cls ≠ "java/lang/invoke/MethodHandle" ∧ y.cls ≠ "java/lang/invoke/VarHandle" ∧ (parseMethodDescriptor y.desc).map (fun d => d.parameters.length) = some n) (hrc : rm.cells = 1) (hrs : rm.slots = 6) (hR : rm.frames + 1 ≤ R.frames ∧ 8 + (maxL + 11) + rm.locals ≤ R.locals) (hf : cells + 1 ≤ R.cells ∧ slots + 6 ≤ R.slots)
    (hK : va_K g cl tys s) (hP : va_P g cl w0 H) (hD : va_D A w0) (hH : ∀ q : Nat, q < s.heap.size → H[q]? = s.heap[q]?) (hc : cl[ci]? = some (C, T, nF)) (he : w0[q0]? = some (b, .inr (ci, fs))) (hn : As.length = n) (hl : lv_has ls nL lv) (hst : st0 = As.reverse ++ .ref b :: rest) (hrm : (rest.map fun v => v.category).sum ≤ 8) (hdg : decode cc pc = .ok (.invokevirtual index, 3))
    (hxt : c.exceptionTable.toList = x :: rx) (hcov : covers x pc = true) (h0 : x.catchType ≠ 0)
    (kk : ∀ (a0 : Nat) (H1 : Heap), H.size ≤ H1.size → (∀ q : Nat, q < H.size → H1[q]? = H[q]?) → W p l e R s m args below meth c H1 locs (cells + 1) (slots + 6) Q (F0 m x.handlerPc ls [.ref a0])) : W p l e R s m args below meth c H locs cells slots Q (F0 m pc ls st0) := by
  intro T hTh X
  have cw := cwV (R := R) (mc := 1) (ms := 6) n hT (gApp (List.forall_mem_cons.mpr ⟨k1, List.forall_mem_cons.mpr ⟨k2, List.forall_mem_cons.mpr ⟨k3, List.forall_mem_cons.mpr ⟨k4, fun _ h => absurd h List.not_mem_nil⟩⟩⟩⟩) (gC k5)) rfl hrc hrs hd hR
  obtain ⟨⟨-, -, -, -, hws, hcw, hcode, hini, hy, hlen, hlink⟩, hin, hse⟩ := cw
  obtain ⟨cellB, hcB, hoB, hclB⟩ := va_recv hK hP hc he
  obtain ⟨mk, methM, hnamed, hmethM, hstM, habM⟩ := Cond.instanceMethod_spec hin
  obtain ⟨methM', cM, hmethM', -, -, -, -, -, -, hsigM⟩ := Cond.code_spec hnamed hcode
  cases hmethM.symm.trans hmethM'
  obtain ⟨c2, r2, m2, q1, q2, q3, q4, kP, hkP, hkPi⟩ := Cond.selects_spec hse
  cases hclB.symm.trans q1
  cases (State.methodFound?_of_named hnamed hy).symm.trans q2
  cases hnamed.symm.trans q3
  have hselP : selectMethod e.platform s.vm cellB.cls mk = .method mk := by rw [Launch.admits_selectMethod X.admits]; exact q4
  obtain ⟨vm₁, X₁, hstep₁⟩ := X.invokevirtual hx hown hlink hnamed hmethM hstM hkP hkPi hy (a := b) (cell := cellB) (by rw [hTh]; exact hcB)
    (fun z h => by rw [h] at hoB; cases hoB) hselP hmethM habM hkP hkPi (g := F0 m pc ls st0) rfl (argsL := As) (rest := rest) (hn.trans (hlen _ hsigM)) hst (by rw [hb]; exact hdg)
  have hwU := hws _ hcw (Value.ref b :: As).toArray _ X₁.warmed
  have hnU := X₁.named hnamed
  obtain ⟨methY, cY, hmY, hcY, -, hlY, -, -, -, -⟩ := Cond.code_spec hnU hwU
  obtain ⟨kY, hkY, -⟩ := className_of_methodNamed hnU
  have hinitY : kY.init = .initialized := Cond.initialized_spec (findClass_of_methodNamed hnU) hkY (word_at (a' := (Value.ref b :: As).toArray) X₁.warmed (Or.inl (by first | rfl | simp [Cond.onTables, Cond.keeps, Cond.steady])) hini)
  have h : At (T.setVm vm₁) (F0 m pc ls rest).method c below := X₁.here
  have happ : (headSpec (Cond.code y bytes maxL ret :: tblG) rm).appliesLoose y e.platform ((T.setVm vm₁).calling (F0 m pc ls rest) mk (Value.ref b :: As).toArray) = true :=
    Spec.appliesLoose_calling (g := F0 m pc ls rest) h (by rw [hb]; exact hdg) hnU hkY hinitY
      (X₁.room_calling (g := F0 m pc ls rest) (R' := rm) (hl.1.trans hml.symm) hmY hcY hR.1 (by
        have e1 : 2 * (F0 m pc ls rest).monitorRoom + ((F0 m pc ls rest).stack.map fun v => v.category).sum ≤ 8 := lv_room hrm
        have := hR.2
        rw [hlY]; omega) (by rw [hrc]; exact hf.1) (by rw [hrs]; exact hf.2)) (atoms_intro fun w hw => hws w hw _ _ X₁.warmed)
  obtain ⟨mid, hmid⟩ := h.above
  have hfr : ((T.setVm vm₁).setTop (F0 m pc ls rest)).frames = (.java (F0 m pc ls rest) :: mid) ++ below := by rw [State.frames_setTop' _ h.top, hmid]; rfl
  have hvU : s.WarmedH (T.setVm vm₁).vm := X₁.warmed
  have hPc : va_Pc (.ref b :: As) (fun U => va_P g cl w0 U.heap ∧ va_K g cl tys U ∧ va_D (fun _ => True) w0 ∧ nst U ∧ thr U) (Value.ref b :: As).toArray ((T.setVm vm₁).calling (F0 m pc ls rest) mk (Value.ref b :: As).toArray) := by
    refine ⟨rfl, ?_, va_K.moved (u := s) hvU.alike hK, hD.weaken (fun _ _ _ _ => trivial), nst.warm hvU hN, thr.move hvU ?_ hth⟩
    · show va_P g cl w0 T.heap
      rw [hTh]; exact hP
    · intro q hq
      show T.heap[q]? = s.heap[q]?
      rw [hTh]; exact hH q hq
  obtain ⟨o, s₂, hsteps, -, hend, hq⟩ := Steps.callFree hM p X₁.admits X₁.cas X₁.clock (acts := []) hfr happ hPc trivial
  obtain ⟨x0, ce, rfl, hWm, hsame, hce, hcls, hcvm⟩ := hq
  have hfr2 : ((T.setVm vm₁).setTop (F0 m pc ls rest)).frames = .java (F0 m pc ls rest) :: below := by
    obtain ⟨g₀, hg₀⟩ := X₁.frames_eq
    rw [State.frames_setTop' _ h.top, hg₀]; rfl
  rw [hfr2] at hend
  obtain ⟨T', X', hW', hsame', rfl⟩ := X₁.outOfThrown (g := F0 m pc ls rest) rfl hend hWm hsame
  rw [List.append_nil] at X'
  have hTT : T.heap = H := hTh
  have hold : ∀ q : Nat, q < H.size → T'.heap[q]? = H[q]? := by
    intro q hq
    have h1 : H[q]? = some H[q] := Array.getElem?_eq_getElem hq
    have h2 := hsame'.old_cell (a := q) (c := H[q]) (by show T.heap[q]? = _; rw [hTT]; exact h1)
    rw [h1]; exact h2
  have hcls' : s.vm.findClass s_AE = some ce.cls := by
    have := hvU.alike.findClass s_AE none
    rw [← this]; exact hcls
  obtain ⟨c3, cT, hc3, hcT, hasg⟩ := Cond.castable_spec (hth (.castable s_AE s_AE) (by decide))
  cases hcls'.symm.trans hc3
  have hce' : T'.heap[x0]? = some ce := by
    rw [Stand.throwing_heap] at hce; exact hce
  obtain ⟨vm', XV, stV⟩ := lw_catch X' x0 (f := F0 m pc ls rest) rfl hown hxt hcov h0 (hT _ k6) hcT hce' (by rw [hcvm]; rfl) hasg
  obtain ⟨t, a1, b1⟩ := kk x0 T'.heap (by have := hsame'.2.1; rw [← hTT]; exact this) hold (T'.setVm vm') rfl XV
  refine ⟨t, hstep₁ _ fun acts => ?_, b1⟩
  rw [doInvoke_state]
  refine hsteps.trans ?_
  exact stV t a1
end LWC
