/-! the call of the law's own cover -/
section LWE
variable {p : Program} {l : Launch} {e : Env} {R : Room} {s : State} {m : MethodId} {args : Array Value} {below : List Frame} {meth : Method} {c : Code} {H : Heap} {locs : List Loc} {cells slots : Nat} {Q : State → Prop}
variable {cc : ByteArray} {pc : Nat} {ls : Array Slot} {rest st0 : List Value} {g : va_G} {tys : List (ClassId × FieldType)} {A : Nat → Prop} {w0 w1 wr : va_W}
set_option maxHeartbeats 2000000 in
theorem lw_callC {r : Int32} {As : List Value} {nL : Nat} {lv : List (Nat × Value)} (hM : ct_c l g tys As w0 w1 r) (hx : p.tables.exec = Jvm.exec) (hb : c.code = cc) (hml : c.maxLocals = nL) (hown : s.vm.findClass R_Lw = some m.cls) (hT : ∀ w ∈ tblG, w.before args s = true) (hN : nst s) (hth : thr s) (hC : wdC.before args s = true) (hR : 8 ≤ R.frames ∧ 174 ≤ R.locals) (hf : cells + 1 ≤ R.cells ∧ slots + 6 ≤ R.slots)
    (hK : va_K g vwCl tys s) (hP : va_P g vwCl (w0 ++ wr) H) (hD : va_D A (w0 ++ wr)) (hS : va_S A s.heap H locs) (hA : ∀ q : Nat, s.heap.size ≤ q → A q) (hH : ∀ q : Nat, q < s.heap.size → H[q]? = s.heap[q]?) (hn : As.length = 4) (hl : lv_has ls nL lv) (hst : st0 = As.reverse ++ rest) (hrm : (rest.map fun v => v.category).sum ≤ 8) (hdg : decode cc pc = .ok (.invokestatic 76, 3))
    (kk : ∀ (H1 : Heap) (locs1 : List Loc), va_P g vwCl (w1 ++ wr) H1 → va_D A (w1 ++ wr) → va_S A s.heap H1 locs1 → W p l e R s m args below meth c H1 locs1 (cells + 1) (slots + 6) Q (F0 m (pc + 3) ls (.int r :: rest))) : W p l e R s m args below meth c H locs cells slots Q (F0 m pc ls st0) := by
  have hPl := (lw_spP hP).1
  have hDl := (lw_spD hD).1
  have hFx := my_fr hDl hS hA
  have run : va_Run p l e R s m args below meth c H locs cells slots 1 6 (F0 m pc ls st0) rest (va_Qi (fun (x : Int32) (_ : Unit) => x = r) (fun _ t => va_P g vwCl w1 t.heap ∧ va_K g vwCl tys t ∧ va_D (va_A w0 H.size) w1) (va_A w0 H.size) As.toArray) (va_A w0 H.size) := by
    intro T hTh X
    have hK1 : Back l R p e below s args y_Lw_cover 3 8 (PreOf R 1 6 (va_Pc As (fun U => U.heap.size = H.size ∧ va_P g vwCl w0 U.heap ∧ va_K g vwCl tys U ∧ va_D (fun _ => True) w0 ∧ nst U ∧ thr U))) (PostOf (va_Qi (fun (x : Int32) (_ : Unit) => x = r) (fun _ t => va_P g vwCl w1 t.heap ∧ va_K g vwCl tys t ∧ va_D (va_A w0 H.size) w1) (va_A w0 H.size)) 1 6 (va_A w0 H.size)) := by
      refine Back.of_freeWith (handlers := hdC) (bytes := c_Lw_cover) (maxL := 5) (ret := some .int) (S := headSpec (wdC :: tblG) rmC) (E := fun a st o t L k n => k = 1 ∧ n = 6 ∧ ∀ q ∈ L, va_A w0 H.size q.base) (hM H.size) hR.1 (by have := hR.2; show 8 + (5 + 11) + 150 ≤ R.locals; omega) ?_ ?_ (fun _ _ _ _ _ _ _ _ _ => trivial) ?_ ?_
      · intro m' meth' c' A' a' X' hp
        have hWC : wdC.before a' A'.U = true := by
          have h1 := Cond.tabsOnly_warm (args' := a') (T := A'.U) X'.warmed wdC (by rfl) hC
          rw [State.setVm_self] at h1
          exact h1
        refine ⟨atoms_intro fun w hw => ?_, hWC, word_at X'.warmed (Or.inl (by first | rfl | simp [Cond.onTables, Cond.keeps, Cond.steady])) (hT _ tw_0), hp.1, hp.2.1⟩
        rcases List.mem_cons.mp hw with rfl | hw
        · exact hWC
        · exact word_at X'.warmed (tg_good hw) (hT w hw)
      · intro m' meth' c' A' a' g' mk X' hp
        obtain ⟨q0, q1, qP, qK, qD, qN, qT⟩ := hp.2.2
        exact ⟨q0, q1, qP, va_K.moved (u := A'.U) (Vm.Alike.refl _) qK, qD, nst.same (u := A'.U) rfl qN, thr.move (u := A'.U) (State.WarmedH.refl _) (fun _ _ => rfl) qT⟩
      · intro a' st o t ⟨hq, L, hF, hL⟩
        exact ⟨L, 1, 6, hF, rfl, rfl, hL⟩
      · intro m' meth' c' A' a' g' mk v t L k n X' hp hq hF ⟨e1, e2, hL⟩
        subst e1; subst e2
        exact ⟨g', mk, t, L, rfl, rfl, hq.1, rfl, hL, rfl, rfl⟩
    obtain ⟨mk, methM, cM, hnamed, hmethM, -, -, -, -, -, -, hsigM⟩ := Cond.codeWith_spec hC
    have hstatic : methM.isStatic = true := Cond.static_spec hnamed hmethM (hT _ tw_539)
    obtain ⟨kP, hkP, -⟩ := className_of_methodNamed hnamed
    have hinitP : kP.init = .initialized := Cond.initialized_spec (findClass_of_methodNamed hnamed) hkP (hT _ tw_0)
    have hsl : As.length = methM.sig.parameters.length := by
      have e1 : (parseMethodDescriptor y_Lw_cover.desc).map (fun d => d.parameters.length) = some 4 := by decide +kernel
      rw [hsigM] at e1
      rw [hn]
      exact (Option.some.inj e1).symm
    obtain ⟨vm₁, X₁, hstep₁⟩ := X.invokestatic hx hown (hT _ tw_538) hnamed hmethM hstatic hkP hinitP ⟨by decide, by decide⟩ (g := F0 m pc ls st0) rfl (argsL := As) (rest := rest) hsl hst (by rw [hb]; exact hdg)
    have hvU : s.WarmedH (T.setVm vm₁).vm := X₁.warmed
    have hPre : va_Pc As (fun U => U.heap.size = H.size ∧ va_P g vwCl w0 U.heap ∧ va_K g vwCl tys U ∧ va_D (fun _ => True) w0 ∧ nst U ∧ thr U) As.toArray (T.setVm vm₁) := by
      refine ⟨rfl, ?_, ?_, va_K.moved (u := s) hvU.alike hK, hDl.weaken (fun _ _ _ _ => trivial), nst.warm hvU hN, thr.move hvU ?_ hth⟩
      · show T.heap.size = _
        rw [hTh]
      · show va_P g vwCl w0 T.heap
        rw [hTh]; exact hPl
      · intro q hq
        show T.heap[q]? = s.heap[q]?
        rw [hTh]; exact hH q hq
    obtain ⟨v, ⟨U', l2, c2, s2⟩, X', ⟨g', mk', t, L, e1, e2, hq, h1, hL, h2, h3⟩, hsteps⟩ := hK1 m meth c ⟨T.setVm vm₁, locs, cells, slots⟩ (F0 m pc ls rest) (.invokestatic 76) mk As.toArray X₁ rfl (hl.1.trans hml.symm) (by rw [hb]; exact hdg) (lv_room hrm) (X₁.named hnamed) ⟨hf.1, hf.2, hPre⟩
    dsimp only [Pt.U, Pt.locs, Pt.cells, Pt.slots] at X' e1 e2 h1 h2 h3
    subst h1; subst h2; subst h3
    exact ⟨v, (T.setVm vm₁).calling g' mk' As.toArray, t, U', L, hTh, X', hL, e1, e2, hq, fun target h => hstep₁ _ fun acts => by rw [doInvoke_state]; exact hsteps.trans h⟩
  refine va_calli run hS (fun q _ h => hFx q h) hFx (fun r' u t H1 locs1 ht hvm hw hB hz hk hS1 => ?_)
  obtain ⟨hP1, hK1, hD1⟩ := hB
  subst hw
  rw [ht] at hP1
  obtain ⟨h1, h2⟩ := lw_join hP hD hk hFx hP1 hD1
  exact kk H1 locs1 h1 h2 hS1
end LWE
