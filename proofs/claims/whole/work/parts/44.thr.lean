/-! what a throw asks beside the tables' words, and what it finds -/
def s_AE : String := "java/lang/ArithmeticException"
def s_chain : List String := ["java/lang/RuntimeException", "java/lang/Exception"]
def thF : List Cond := [.declares (Bundle.initS "java/lang/RuntimeException"), .declares (Bundle.initS "java/lang/Exception"), .declares (Bundle.initS "java/lang/Throwable"), .castable s_AE s_AE]
def thL : List Cond := [.laysStatic "java/lang/Throwable" "UNASSIGNED_STACK" "[Ljava/lang/StackTraceElement;", .laysStatic "java/lang/Throwable" "SUPPRESSED_SENTINEL" "Ljava/util/List;"]
def thZ : List Cond := [.isRef (.static "java/lang/Throwable" "UNASSIGNED_STACK" "[Ljava/lang/StackTraceElement;"), .isRef (.static "java/lang/Throwable" "SUPPRESSED_SENTINEL" "Ljava/util/List;")]
def thS : Cond := .stringRef "SafetyTrees" 184 "the part has no row"
def thX : List Cond := thF ++ (thL ++ (thZ ++ [thS]))
def thr (U : State) : Prop := ∀ w ∈ thX, w.before #[] U = true
theorem th_f1 : ∀ w ∈ thF, w.keepsFace = true ∧ w.onTables = true := by decide
theorem th_f2 : ∀ w ∈ thL ++ thZ, w.keeps = true := by decide
theorem th_face {u U : State} (hW : u.WarmedH U.vm) : ∀ w ∈ thF, w.before #[] u = true → w.before #[] U = true := by
  intro w hw h
  obtain ⟨hk, ho⟩ := th_f1 w hw
  have h1 := Cond.before_shiftedFace (State.Shifted.of_warmed hW) w hk h
  rw [Cond.onTables_vm (A' := #[]) (U' := U) U.vm w ho, State.setVm_self] at h1
  exact h1
theorem th_lays {u U : State} {o n d : String} (hvm : u.vm = U.vm) (hh : ∀ q : Nat, q < u.heap.size → U.heap[q]? = u.heap[q]?) (h : (Cond.laysStatic o n d).before #[] u = true) : (Cond.laysStatic o n d).before #[] U = true := by
  obtain ⟨c, k, i, f, a, cell, hc, hf, hst, ha, hcell, his, hcls, hlt, hty⟩ := Cond.laysStatic_spec h
  have hc' : U.vm.findClass o = some c := by rw [← hvm]; exact hc
  have hf' : U.fieldFound? o n d = some (c, k, i, f) := by
    rw [← hf]
    unfold State.fieldFound?
    rw [hvm]
  have hcell' : U.heap[a]? = some cell := by rw [hh a (Array.getElem?_eq_some_iff.mp hcell).1]; exact hcell
  simp [Cond.before, Cond.holds, Cond.value, hc', hf', ha, hcell', hst, his, hcls, hlt, hty]
theorem th_ref {u U : State} {o n d : String} (hl : (Cond.laysStatic o n d).before #[] u = true) (hvm : u.vm = U.vm) (hh : ∀ q : Nat, q < u.heap.size → U.heap[q]? = u.heap[q]?) (h : (Cond.isRef (.static o n d)).before #[] u = true) : (Cond.isRef (.static o n d)).before #[] U = true := by
  obtain ⟨c, k, i, f, a, cell, hc, hf, hst, ha, hcell, his, hcls, hlt, hty⟩ := Cond.laysStatic_spec hl
  have hf' : U.fieldFound? o n d = some (c, k, i, f) := by
    rw [← hf]
    unfold State.fieldFound?
    rw [hvm]
  have hcell' : U.heap[a]? = some cell := by rw [hh a (Array.getElem?_eq_some_iff.mp hcell).1]; exact hcell
  have e1 : (Term.static o n d).eval #[] u none [] u = cell.slots[f.slot]? := by
    simp [Term.eval, State.fieldNamed?, hf, hst, ha, hcell, his]
  have e2 : (Term.static o n d).eval #[] U none [] U = cell.slots[f.slot]? := by
    simp [Term.eval, State.fieldNamed?, hf', hst, ha, hcell', his]
  simp only [Cond.before, Cond.holds, Cond.value] at h ⊢
  rw [e1] at h
  rw [e2]
  exact h
theorem th_keep {u : State} {vm' : Vm} (hW : u.WarmedH vm') : ∀ w ∈ thL ++ thZ, w.before #[] u = true → w.before #[] (u.setVm vm') = true := by
  intro w hw h
  have hk := th_f2 w hw
  exact Cond.holds_shifted (State.Shifted.of_warmed hW) w [] hk h
theorem thr.move {u U : State} (hW : u.WarmedH U.vm) (hh : ∀ q : Nat, q < u.heap.size → U.heap[q]? = u.heap[q]?) (h : thr u) : thr U := by
  intro w hw
  rcases List.mem_append.mp hw with h1 | h1
  · exact th_face hW w h1 (h w hw)
  · rcases List.mem_append.mp h1 with h2 | h2
    · have h3 := th_keep hW w (List.mem_append_left _ h2) (h w hw)
      rcases List.mem_cons.mp h2 with rfl | h2
      · exact th_lays (u := u.setVm U.vm) rfl hh h3
      · rw [List.mem_singleton] at h2
        subst h2
        exact th_lays (u := u.setVm U.vm) rfl hh h3
    · rcases List.mem_append.mp h2 with h2 | h2
      · have h3 := th_keep hW w (List.mem_append_right _ h2) (h w hw)
        rcases List.mem_cons.mp h2 with rfl | h2
        · exact th_ref (u := u.setVm U.vm) (th_keep hW _ (List.mem_append_left _ (by simp [thL])) (h _ (by simp [thX, thL]))) rfl hh h3
        · rw [List.mem_singleton] at h2
          subst h2
          exact th_ref (u := u.setVm U.vm) (th_keep hW _ (List.mem_append_left _ (by simp [thL])) (h _ (by simp [thX, thL]))) rfl hh h3
      · rw [List.mem_singleton] at h2
        subst h2
        exact Cond.stringRef_warmed (args := #[]) hW (h _ hw)
theorem th_own : ∀ w ∈ Bundle.ownAtoms "SafetyTrees" 186 s_AE s_chain, w ∈ tblG ∨ w ∈ thX := by decide +kernel
theorem th_atoms {args : Array Value} {s : State} (hT : ∀ w ∈ tblG, w.before args s = true) (h : thr s) : ∀ w ∈ Bundle.ownAtoms "SafetyTrees" 186 s_AE s_chain, w.before args s = true := by
  intro w hw
  rcases th_own w hw with h1 | h1
  · exact hT w h1
  · have h2 := h w h1
    rcases List.mem_append.mp h1 with q | q
    · have ho := (th_f1 w q).2
      have := Cond.onTables_vm (A := #[]) (A' := args) (U := s) (U' := s) s.vm w ho
      rw [State.setVm_self] at this
      rw [← this]
      exact h2
    · simp only [thL, thZ, thS, List.mem_append, List.mem_cons, List.not_mem_nil, or_false] at q
      rcases q with (rfl | rfl) | (rfl | rfl) | rfl <;> exact h2
