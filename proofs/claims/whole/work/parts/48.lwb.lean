/-! a call that throws, caught in the caller -/
section LWC
variable {p : Program} {l : Launch} {e : Env} {R : Room} {s : State} {m : MethodId} {args : Array Value} {below : List Frame} {meth : Method} {c : Code} {H : Heap} {locs : List Loc} {cells slots : Nat} {Q : State → Prop}
variable {cc : ByteArray} {pc : Nat} {ls : Array Slot} {rest st0 : List Value} {g : va_G} {cl : List vw_C} {tys : List (ClassId × FieldType)} {A A1 : Nat → Prop} {w0 w1 : va_W}
set_option maxHeartbeats 2000000 in
theorem lw_thrown {y : MethodName} {bytes : ByteArray} {maxL nL n index q0 ci b : Nat} {ret : Option FieldType} {rm : Room} {own C : String} {As fs : List Value} {T : u_T} {nF : Nat} {lv : List (Nat × Value)} {x : ExceptionTableEntry} {rx : List ExceptionTableEntry} (hM : ct_T l g cl tys y bytes maxL ret rm (.ref b :: As) w0) (hx : p.tables.exec = Jvm.exec) (hb : c.code = cc) (hml : c.maxLocals = nL) (hown : s.vm.findClass own = some m.cls) (hT : ∀ w ∈ tblG, w.before args s = true) (hN : nst s) (hth : thr s) (k1 : Cond.methodLink own index y ∈ tblG) (k2 : Cond.instanceMethod y ∈ tblG) (k3 : Cond.selects C y y ∈ tblG) (k4 : Cond.initialized C ∈ tblG) (k5 : Cond.code y bytes maxL ret ∈ tblG) (k6 : Cond.classLink own x.catchType s_AE ∈ tblG) (hd : y.cls = C ∧ y.cls ≠ "java/lang/invoke/MethodHandle" ∧ y.cls ≠ "java/lang/invoke/VarHandle" ∧ (parseMethodDescriptor y.desc).map (fun d => d.parameters.length) = some n) (hrc : rm.cells = 1) (hrs : rm.slots = 6) (hR : rm.frames + 1 ≤ R.frames ∧ 8 + (maxL + 11) + rm.locals ≤ R.locals) (hf : cells + 1 ≤ R.cells ∧ slots + 6 ≤ R.slots)
    (hK : va_K g cl tys s) (hP : va_P g cl w0 H) (hD : va_D A w0) (hH : ∀ q : Nat, q < s.heap.size → H[q]? = s.heap[q]?) (hc : cl[ci]? = some (C, T, nF)) (he : w0[q0]? = some (b, .inr (ci, fs))) (hn : As.length = n) (hl : lv_has ls nL lv) (hst : st0 = As.reverse ++ .ref b :: rest) (hrm : (rest.map fun v => v.category).sum ≤ 8) (hdg : decode cc pc = .ok (.invokevirtual index, 3))
    (hxt : c.exceptionTable.toList = x :: rx) (hcov : covers x pc = true) (h0 : x.catchType ≠ 0)
    (kk : ∀ (a0 : Nat) (H1 : Heap), H.size ≤ H1.size → (∀ q : Nat, q < H.size → H1[q]? = H[q]?) → W p l e R s m args below meth c H1 locs (cells + 1) (slots + 6) Q (F0 m x.handlerPc ls [.ref a0])) : W p l e R s m args below meth c H locs cells slots Q (F0 m pc ls st0) := by
  intro T hTh X
  have cw := cwV (R := R) (mc := 1) (ms := 6) n hT (gApp (List.forall_mem_cons.mpr ⟨k1, List.forall_mem_cons.mpr ⟨k2, List.forall_mem_cons.mpr ⟨k3, List.forall_mem_cons.mpr ⟨k4, fun _ h => absurd h List.not_mem_nil⟩⟩⟩⟩) (gC k5)) rfl hrc hrs hd hR
  obtain ⟨⟨-, -, -, -, hws, hcw, hcode, hini, hy, hlen, hlink⟩, hin, hse⟩ := cw
  obtain ⟨cellB, hcB, hoB, hclB⟩ := va_recv hK hP hc he
  obtain ⟨mk, methM, hnamed, hmethM, hstM, habM⟩ := Cond.instanceMethod_spec hin
  obtain ⟨methM', cM, hmethM', -, -, -, -, -, -, hsigM⟩ := Cond.code_spec hnamed hcode
  cases hmethM.symm.trans hmethM'
  obtain ⟨c2, r2, m2, q1, q2, q3, q4, kP, hkP, hkPi⟩ := Cond.selects_spec hse
  cases hclB.symm.trans q1
  cases (State.methodFound?_of_named hnamed hy).symm.trans q2
  cases hnamed.symm.trans q3
  have hselP : selectMethod e.platform s.vm cellB.cls mk = .method mk := by rw [Launch.admits_selectMethod X.admits]; exact q4
  obtain ⟨vm₁, X₁, hstep₁⟩ := X.invokevirtual hx hown hlink hnamed hmethM hstM hkP hkPi hy (a := b) (cell := cellB) (by rw [hTh]; exact hcB)
    (fun z h => by rw [h] at hoB; cases hoB) hselP hmethM habM hkP hkPi (g := F0 m pc ls st0) rfl (argsL := As) (rest := rest) (hn.trans (hlen _ hsigM)) hst (by rw [hb]; exact hdg)
  have hwU := hws _ hcw (Value.ref b :: As).toArray _ X₁.warmed
  have hnU := X₁.named hnamed
  obtain ⟨methY, cY, hmY, hcY, -, hlY, -, -, -, -⟩ := Cond.code_spec hnU hwU
  obtain ⟨kY, hkY, -⟩ := className_of_methodNamed hnU
  have hinitY : kY.init = .initialized := Cond.initialized_spec (findClass_of_methodNamed hnU) hkY (word_at (a' := (Value.ref b :: As).toArray) X₁.warmed (Or.inl (by first | rfl | simp [Cond.onTables, Cond.keeps, Cond.steady])) hini)
  have h : At (T.setVm vm₁) (F0 m pc ls rest).method c below := X₁.here
  have happ : (headSpec (Cond.code y bytes maxL ret :: tblG) rm).appliesLoose y e.platform ((T.setVm vm₁).calling (F0 m pc ls rest) mk (Value.ref b :: As).toArray) = true :=
    Spec.appliesLoose_calling (g := F0 m pc ls rest) h (by rw [hb]; exact hdg) hnU hkY hinitY
      (X₁.room_calling (g := F0 m pc ls rest) (R' := rm) (hl.1.trans hml.symm) hmY hcY hR.1 (by
        have e1 : 2 * (F0 m pc ls rest).monitorRoom + ((F0 m pc ls rest).stack.map fun v => v.category).sum ≤ 8 := lv_room hrm
        have := hR.2
        rw [hlY]; omega) (by rw [hrc]; exact hf.1) (by rw [hrs]; exact hf.2)) (atoms_intro fun w hw => hws w hw _ _ X₁.warmed)
  obtain ⟨mid, hmid⟩ := h.above
  have hfr : ((T.setVm vm₁).setTop (F0 m pc ls rest)).frames = (.java (F0 m pc ls rest) :: mid) ++ below := by rw [State.frames_setTop' _ h.top, hmid]; rfl
  have hvU : s.WarmedH (T.setVm vm₁).vm := X₁.warmed
  have hPc : va_Pc (.ref b :: As) (fun U => va_P g cl w0 U.heap ∧ va_K g cl tys U ∧ va_D (fun _ => True) w0 ∧ nst U ∧ thr U) (Value.ref b :: As).toArray ((T.setVm vm₁).calling (F0 m pc ls rest) mk (Value.ref b :: As).toArray) := by
    refine ⟨rfl, ?_, va_K.moved (u := s) hvU.alike hK, hD.weaken (fun _ _ _ _ => trivial), nst.warm hvU hN, thr.move hvU ?_ hth⟩
    · show va_P g cl w0 T.heap
      rw [hTh]; exact hP
    · intro q hq
      show T.heap[q]? = s.heap[q]?
      rw [hTh]; exact hH q hq
  obtain ⟨o, s₂, hsteps, -, hend, hq⟩ := Steps.callFree hM p X₁.admits X₁.cas X₁.clock (acts := []) hfr happ hPc trivial
  obtain ⟨x0, ce, rfl, hWm, hsame, hce, hcls, hcvm⟩ := hq
  have hfr2 : ((T.setVm vm₁).setTop (F0 m pc ls rest)).frames = .java (F0 m pc ls rest) :: below := by
    obtain ⟨g₀, hg₀⟩ := X₁.frames_eq
    rw [State.frames_setTop' _ h.top, hg₀]; rfl
  rw [hfr2] at hend
  obtain ⟨T', X', hW', hsame', rfl⟩ := X₁.outOfThrown (g := F0 m pc ls rest) rfl hend hWm hsame
  rw [List.append_nil] at X'
  have hTT : T.heap = H := hTh
  have hold : ∀ q : Nat, q < H.size → T'.heap[q]? = H[q]? := by
    intro q hq
    have h1 : H[q]? = some H[q] := Array.getElem?_eq_getElem hq
    have h2 := hsame'.old_cell (a := q) (c := H[q]) (by show T.heap[q]? = _; rw [hTT]; exact h1)
    rw [h1]; exact h2
  have hcls' : s.vm.findClass s_AE = some ce.cls := by
    have := hvU.alike.findClass s_AE none
    rw [← this]; exact hcls
  obtain ⟨c3, cT, hc3, hcT, hasg⟩ := Cond.castable_spec (hth (.castable s_AE s_AE) (by decide))
  cases hcls'.symm.trans hc3
  have hce' : T'.heap[x0]? = some ce := by
    rw [Stand.throwing_heap] at hce; exact hce
  obtain ⟨vm', XV, stV⟩ := X'.caughtLink x0 (g := F0 m pc ls rest) rfl hown [] x rx hxt (fun _ h => absurd h List.not_mem_nil) hcov h0 (hT _ k6) hcT hce' (by rw [hcvm]; rfl) hasg
  obtain ⟨t, a1, b1⟩ := kk x0 T'.heap (by have := hsame'.2.1; rw [← hTT]; exact this) hold (T'.setVm vm') rfl XV
  refine ⟨t, hstep₁ _ fun acts => ?_, b1⟩
  rw [doInvoke_state]
  refine hsteps.trans ?_
  rw [X'.pushThrowing_eq]
  exact stV t a1
end LWC
