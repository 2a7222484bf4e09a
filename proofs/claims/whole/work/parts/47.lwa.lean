/-! calls on a part of the world -/
section LWA
variable {g : va_G} {cl : List vw_C} {u v u1 : va_W} {H H1 : Heap} {A : Nat → Prop}
theorem lw_gl {i : Nat} {q : Nat × va_E} (h : u[i]? = some q) : (u ++ v)[i]? = some q := by
  rw [List.getElem?_append_left (List.getElem?_eq_some_iff.mp h).1]
  exact h
theorem lw_gr {i : Nat} {q : Nat × va_E} (h : v[i]? = some q) : (u ++ v)[u.length + i]? = some q := by
  rw [List.getElem?_append_right (Nat.le_add_right _ _), Nat.add_sub_cancel_left]
  exact h
theorem lw_ga {i : Nat} {q : Nat × va_E} (h : (u ++ v)[i]? = some q) : u[i]? = some q ∨ ∃ j, i = u.length + j ∧ v[j]? = some q := by
  by_cases hi : i < u.length
  · rw [List.getElem?_append_left hi] at h
    exact Or.inl h
  · rw [List.getElem?_append_right (by omega)] at h
    exact Or.inr ⟨i - u.length, by omega, h⟩
theorem lw_spP (h : va_P g cl (u ++ v) H) : va_P g cl u H ∧ va_P g cl v H := ⟨fun k q hq => h k q (lw_gl hq), fun k q hq => h (u.length + k) q (lw_gr hq)⟩
theorem lw_mkP (h1 : va_P g cl u H) (h2 : va_P g cl v H) : va_P g cl (u ++ v) H := by
  intro k q hq
  rcases lw_ga hq with h | ⟨j, -, h⟩
  · exact h1 k q h
  · exact h2 j q h
theorem lw_spD (h : va_D A (u ++ v)) : va_D A u ∧ va_D A v ∧ ∀ (i j : Nat) (p q : Nat × va_E), u[i]? = some p → v[j]? = some q → p.1 ≠ q.1 := by
  refine ⟨⟨fun i j p q hp hq e => h.1 i j p q (lw_gl hp) (lw_gl hq) e, fun k q hq => h.2 k q (lw_gl hq)⟩, ⟨fun i j p q hp hq e => ?_, fun k q hq => h.2 _ q (lw_gr hq)⟩, ?_⟩
  · have := h.1 _ _ p q (lw_gr hp) (lw_gr hq) e
    omega
  · intro i j p q hp hq e
    have := h.1 _ _ p q (lw_gl hp) (lw_gr hq) e
    have := (List.getElem?_eq_some_iff.mp hp).1
    omega
theorem lw_mkD (h1 : va_D A u) (h2 : va_D A v) (h3 : ∀ (i j : Nat) (p q : Nat × va_E), u[i]? = some p → v[j]? = some q → p.1 ≠ q.1) : va_D A (u ++ v) := by
  refine ⟨fun i j p q hp hq e => ?_, fun k q hq => ?_⟩
  · rcases lw_ga hp with hp1 | ⟨a, ea, hp1⟩ <;> rcases lw_ga hq with hq1 | ⟨b, eb, hq1⟩
    · exact h1.1 i j p q hp1 hq1 e
    · exact absurd e (h3 i b p q hp1 hq1)
    · exact absurd e.symm (h3 j a q p hq1 hp1)
    · rw [ea, eb, h2.1 a b p q hp1 hq1 e]
  · rcases lw_ga hq with hq | ⟨b, -, hq⟩
    · exact h1.2 k q hq
    · exact h2.2 b q hq
theorem lw_swP (h : va_P g cl (u ++ v) H) : va_P g cl (v ++ u) H := lw_mkP (lw_spP h).2 (lw_spP h).1
theorem lw_swD (h : va_D A (u ++ v)) : va_D A (v ++ u) := lw_mkD (lw_spD h).2.1 (lw_spD h).1 (fun i j p q hp hq e => (lw_spD h).2.2 j i q p hq hp e.symm)
theorem lw_join (hP : va_P g cl (u ++ v) H) (hD : va_D A (u ++ v)) (hk : ∀ q : Nat, q < H.size → ¬ va_A u H.size q → H1[q]? = H[q]?) (hF : ∀ q, va_A u H.size q → A q) (hP1 : va_P g cl u1 H1) (hD1 : va_D (va_A u H.size) u1) : va_P g cl (u1 ++ v) H1 ∧ va_D A (u1 ++ v) := by
  obtain ⟨hPu, hPv⟩ := lw_spP hP
  obtain ⟨hDu, hDv, hds⟩ := lw_spD hD
  have hno : ∀ (j : Nat) (q : Nat × va_E), v[j]? = some q → ¬ va_A u H.size q.1 := by
    intro j q hq h
    rcases h with ⟨k, e, h⟩ | h
    · exact hds k j _ q h hq rfl
    · have := (hPv j q hq).lt
      omega
  refine ⟨lw_mkP hP1 (hPv.kept (fun k x hx => hk x.1 ((hPv k x hx).lt) (hno k x hx))), lw_mkD (hD1.weaken (fun _ _ _ h => hF _ h)) hDv (fun i j p q hp hq e => ?_)⟩
  have h1 := hD1.2 i p hp
  rw [e] at h1
  exact hno j q hq h1
end LWA
section LWB
variable {p : Program} {l : Launch} {e : Env} {R : Room} {s : State} {m : MethodId} {args : Array Value} {below : List Frame} {meth : Method} {c : Code} {H : Heap} {locs : List Loc} {cells slots : Nat} {Q : State → Prop}
variable {cc : ByteArray} {pc : Nat} {ls : Array Slot} {rest st0 : List Value} {g : va_G} {cl : List vw_C} {tys : List (ClassId × FieldType)} {A A1 : Nat → Prop} {w0 w1 : va_W} {av : Array Value} {ws : va_W} {a : Nat} {D : va_G} {H0 : Heap}
theorem my_FV_i {wr : va_W} {r : Int32} {y : MethodName} {bytes : ByteArray} {maxL nL n index q0 ci b : Nat} {ret : Option FieldType} {rm : Room} {own C : String} {As fs : List Value} {T : u_T} {nF : Nat} {lv : List (Nat × Value)} (hM : ct_i l g cl tys y bytes maxL ret rm (.ref b :: As) w0 w1 r) (hx : p.tables.exec = Jvm.exec) (hb : c.code = cc) (hml : c.maxLocals = nL) (hown : s.vm.findClass own = some m.cls) (hT : ∀ w ∈ tblG, w.before args s = true) (hN : nst s) (k1 : Cond.methodLink own index y ∈ tblG) (k2 : Cond.instanceMethod y ∈ tblG) (k3 : Cond.selects C y y ∈ tblG) (k4 : Cond.initialized C ∈ tblG) (k5 : Cond.code y bytes maxL ret ∈ tblG) (hd : y.cls = C ∧ y.cls ≠ "java/lang/invoke/MethodHandle" ∧ y.cls ≠ "java/lang/invoke/VarHandle" ∧ (parseMethodDescriptor y.desc).map (fun d => d.parameters.length) = some n) (hrc : rm.cells = 0) (hrs : rm.slots = 0) (hR : rm.frames + 1 ≤ R.frames ∧ 8 + (maxL + 11) + rm.locals ≤ R.locals) (hf : cells ≤ R.cells ∧ slots ≤ R.slots)
    (hK : va_K g cl tys s) (hP : va_P g cl (w0 ++ wr) H) (hD : va_D A (w0 ++ wr)) (hS : va_S A s.heap H locs) (hA : ∀ q : Nat, s.heap.size ≤ q → A q) (hc : cl[ci]? = some (C, T, nF)) (he : w0[q0]? = some (b, .inr (ci, fs))) (hn : As.length = n) (hl : lv_has ls nL lv) (hst : st0 = As.reverse ++ .ref b :: rest) (hrm : (rest.map fun v => v.category).sum ≤ 8) (hdg : decode cc pc = .ok (.invokevirtual index, 3))
    (kk : ∀ (H1 : Heap) (locs1 : List Loc), va_P g cl (w1 ++ wr) H1 → va_D A (w1 ++ wr) → va_S A s.heap H1 locs1 → W p l e R s m args below meth c H1 locs1 cells slots Q (F0 m (pc + 3) ls (.int r :: rest))) : W p l e R s m args below meth c H locs cells slots Q (F0 m pc ls st0) := by
  have hPl := (lw_spP hP).1
  have hDl := (lw_spD hD).1
  have hFx := my_fr hDl hS hA
  refine va_calli (va_runV (As := As) (rest := rest) (n := n) ⟨hx, hb, hml, hown, hT⟩ (hM H.size) (cwV n hT (gApp (List.forall_mem_cons.mpr ⟨k1, List.forall_mem_cons.mpr ⟨k2, List.forall_mem_cons.mpr ⟨k3, List.forall_mem_cons.mpr ⟨k4, fun _ h => absurd h List.not_mem_nil⟩⟩⟩⟩) (gC k5)) rfl hrc hrs hd hR) (my_preV rfl hN hK hPl hDl hc he) rfl hn hl.1 hst (lv_room hrm) hdg hf) hS (fun q _ h => hFx q h) hFx (fun r' u t H1 locs1 ht hvm hw hB hz hk hS1 => ?_)
  obtain ⟨hP1, hK1, hD1⟩ := hB
  subst hw
  rw [ht] at hP1
  obtain ⟨h1, h2⟩ := lw_join hP hD hk hFx hP1 hD1
  exact kk H1 locs1 h1 h2 hS1
theorem my_FV_l {wr : va_W} {r : Int64} {y : MethodName} {bytes : ByteArray} {maxL nL n index q0 ci b : Nat} {ret : Option FieldType} {rm : Room} {own C : String} {As fs : List Value} {T : u_T} {nF : Nat} {lv : List (Nat × Value)} (hM : ct_l l g cl tys y bytes maxL ret rm (.ref b :: As) w0 w1 r) (hx : p.tables.exec = Jvm.exec) (hb : c.code = cc) (hml : c.maxLocals = nL) (hown : s.vm.findClass own = some m.cls) (hT : ∀ w ∈ tblG, w.before args s = true) (hN : nst s) (k1 : Cond.methodLink own index y ∈ tblG) (k2 : Cond.instanceMethod y ∈ tblG) (k3 : Cond.selects C y y ∈ tblG) (k4 : Cond.initialized C ∈ tblG) (k5 : Cond.code y bytes maxL ret ∈ tblG) (hd : y.cls = C ∧ y.cls ≠ "java/lang/invoke/MethodHandle" ∧ y.cls ≠ "java/lang/invoke/VarHandle" ∧ (parseMethodDescriptor y.desc).map (fun d => d.parameters.length) = some n) (hrc : rm.cells = 0) (hrs : rm.slots = 0) (hR : rm.frames + 1 ≤ R.frames ∧ 8 + (maxL + 11) + rm.locals ≤ R.locals) (hf : cells ≤ R.cells ∧ slots ≤ R.slots)
    (hK : va_K g cl tys s) (hP : va_P g cl (w0 ++ wr) H) (hD : va_D A (w0 ++ wr)) (hS : va_S A s.heap H locs) (hA : ∀ q : Nat, s.heap.size ≤ q → A q) (hc : cl[ci]? = some (C, T, nF)) (he : w0[q0]? = some (b, .inr (ci, fs))) (hn : As.length = n) (hl : lv_has ls nL lv) (hst : st0 = As.reverse ++ .ref b :: rest) (hrm : (rest.map fun v => v.category).sum ≤ 8) (hdg : decode cc pc = .ok (.invokevirtual index, 3))
    (kk : ∀ (H1 : Heap) (locs1 : List Loc), va_P g cl (w1 ++ wr) H1 → va_D A (w1 ++ wr) → va_S A s.heap H1 locs1 → W p l e R s m args below meth c H1 locs1 cells slots Q (F0 m (pc + 3) ls (.long r :: rest))) : W p l e R s m args below meth c H locs cells slots Q (F0 m pc ls st0) := by
  have hPl := (lw_spP hP).1
  have hDl := (lw_spD hD).1
  have hFx := my_fr hDl hS hA
  refine va_calll (va_runV (As := As) (rest := rest) (n := n) ⟨hx, hb, hml, hown, hT⟩ (hM H.size) (cwV n hT (gApp (List.forall_mem_cons.mpr ⟨k1, List.forall_mem_cons.mpr ⟨k2, List.forall_mem_cons.mpr ⟨k3, List.forall_mem_cons.mpr ⟨k4, fun _ h => absurd h List.not_mem_nil⟩⟩⟩⟩) (gC k5)) rfl hrc hrs hd hR) (my_preV rfl hN hK hPl hDl hc he) rfl hn hl.1 hst (lv_room hrm) hdg hf) hS (fun q _ h => hFx q h) hFx (fun r' u t H1 locs1 ht hvm hw hB hz hk hS1 => ?_)
  obtain ⟨hP1, hK1, hD1⟩ := hB
  subst hw
  rw [ht] at hP1
  obtain ⟨h1, h2⟩ := lw_join hP hD hk hFx hP1 hD1
  exact kk H1 locs1 h1 h2 hS1
theorem my_FPV_i {wr : va_W} {tp : Nat} {r : Int32} {y : MethodName} {bytes : ByteArray} {maxL nL n index q0 ci b : Nat} {ret : Option FieldType} {rm : Room} {own C : String} {As fs : List Value} {T : u_T} {nF : Nat} {lv : List (Nat × Value)} (hM : cp_i tp l g cl tys y bytes maxL ret rm (.ref b :: As) w0 w1 r) (hx : p.tables.exec = Jvm.exec) (hb : c.code = cc) (hml : c.maxLocals = nL) (hown : s.vm.findClass own = some m.cls) (hT : ∀ w ∈ tblG, w.before args s = true) (hN : nst s) (hZ : pat tp A s s.heap) (k1 : Cond.methodLink own index y ∈ tblG) (k2 : Cond.instanceMethod y ∈ tblG) (k3 : Cond.selects C y y ∈ tblG) (k4 : Cond.initialized C ∈ tblG) (k5 : Cond.code y bytes maxL ret ∈ tblG) (hd : y.cls = C ∧ y.cls ≠ "java/lang/invoke/MethodHandle" ∧ y.cls ≠ "java/lang/invoke/VarHandle" ∧ (parseMethodDescriptor y.desc).map (fun d => d.parameters.length) = some n) (hrc : rm.cells = 0) (hrs : rm.slots = 0) (hR : rm.frames + 1 ≤ R.frames ∧ 8 + (maxL + 11) + rm.locals ≤ R.locals) (hf : cells ≤ R.cells ∧ slots ≤ R.slots)
    (hK : va_K g cl tys s) (hP : va_P g cl (w0 ++ wr) H) (hD : va_D A (w0 ++ wr)) (hS : va_S A s.heap H locs) (hA : ∀ q : Nat, s.heap.size ≤ q → A q) (hc : cl[ci]? = some (C, T, nF)) (he : w0[q0]? = some (b, .inr (ci, fs))) (hn : As.length = n) (hl : lv_has ls nL lv) (hst : st0 = As.reverse ++ .ref b :: rest) (hrm : (rest.map fun v => v.category).sum ≤ 8) (hdg : decode cc pc = .ok (.invokevirtual index, 3))
    (kk : ∀ (H1 : Heap) (locs1 : List Loc), va_P g cl (w1 ++ wr) H1 → va_D A (w1 ++ wr) → va_S A s.heap H1 locs1 → W p l e R s m args below meth c H1 locs1 cells slots Q (F0 m (pc + 3) ls (.int r :: rest))) : W p l e R s m args below meth c H locs cells slots Q (F0 m pc ls st0) := by
  have hPl := (lw_spP hP).1
  have hDl := (lw_spD hD).1
  have hFx := my_fr hDl hS hA
  refine va_calli (va_runV (As := As) (rest := rest) (n := n) ⟨hx, hb, hml, hown, hT⟩ (hM H.size) (cwV n hT (gApp (List.forall_mem_cons.mpr ⟨k1, List.forall_mem_cons.mpr ⟨k2, List.forall_mem_cons.mpr ⟨k3, List.forall_mem_cons.mpr ⟨k4, fun _ h => absurd h List.not_mem_nil⟩⟩⟩⟩) (gC k5)) rfl hrc hrs hd hR) (my_prePV rfl hN (my_patH hZ hDl hS hA) hK hPl hDl hc he) rfl hn hl.1 hst (lv_room hrm) hdg hf) hS (fun q _ h => hFx q h) hFx (fun r' u t H1 locs1 ht hvm hw hB hz hk hS1 => ?_)
  obtain ⟨hP1, hK1, hD1⟩ := hB
  subst hw
  rw [ht] at hP1
  obtain ⟨h1, h2⟩ := lw_join hP hD hk hFx hP1 hD1
  exact kk H1 locs1 h1 h2 hS1
end LWB
