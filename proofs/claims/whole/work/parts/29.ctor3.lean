theorem va_nd_of {l : List Nat} (h : l.Nodup) : va_nd l = true := by
  induction l with
  | nil => rfl
  | cons a l ih =>
    rw [List.nodup_cons] at h
    show (decide (a ∉ l) && va_nd l) = true
    rw [ih h.2, decide_eq_true h.1]
    rfl
section MYJ
variable {p : Program} {l : Launch} {e : Env} {R : Room} {s : State} {m : MethodId} {args : Array Value} {below : List Frame} {meth : Method} {c : Code} {H H1 : Heap} {locs : List Loc} {cells slots : Nat} {Q : State → Prop}
variable {cc : ByteArray} {pc : Nat} {ls : Array Slot} {rest st0 : List Value} {g : va_G} {cl : List vw_C} {A : Nat → Prop} {tys : List (ClassId × FieldType)} {X w2 : va_W} {x : Nat × va_E}
theorem my_lastP (hP : va_P g cl (X ++ [x]) H) : va_P g cl [x] H := hP.sub [X.length] (by simp)
theorem my_lastD (hD : va_D A (X ++ [x])) : va_D A [x] := hD.sub [X.length] rfl (by simp)
theorem my_joinL (hP : va_P g cl (X ++ [x]) H) (hD : va_D A (X ++ [x])) (hk : ∀ q : Nat, q < H.size → ¬ va_A [x] H.size q → H1[q]? = H[q]?) (hF : ∀ q, va_A [x] H.size q → A q) (hP1 : va_P g cl w2 H1) (hD1 : va_D (va_A [x] H.size) w2) : va_P g cl (X ++ w2) H1 ∧ va_D A (X ++ w2) := by
  refine va_join (wc := [x]) (wr := X) hP hD [X.length] (List.range X.length) (by simp) ?_ (va_nd_of List.nodup_range) ?_ hk hF hP1 hD1
  · apply List.ext_getElem?
    intro i
    rw [List.getElem?_map, List.getElem?_map]
    rcases Nat.lt_or_ge i X.length with q | q
    · rw [List.getElem?_range q]
      simp [q, List.getElem?_append_left]
    · rw [List.getElem?_eq_none (by simpa using q), List.getElem?_eq_none q]
      rfl
  · intro i hi h
    rw [List.mem_range] at hi
    rw [List.mem_singleton] at h
    omega
theorem my_I {S : Type} {w1 : S → va_W} {y : MethodName} {bytes : ByteArray} {maxL nL n index b mc ms : Nat} {rm : Room} {own : String} {As : List Value} {en : va_E} {lv : List (Nat × Value)} (hM : cn_v l g cl tys y bytes maxL rm (.ref b :: As) [(b, en)] S w1 mc ms) (hx : p.tables.exec = Jvm.exec) (hb : c.code = cc) (hml : c.maxLocals = nL) (hown : s.vm.findClass own = some m.cls) (hT : ∀ w ∈ tblG, w.before args s = true) (hN : nst s) (hO : aov s) (k1 : Cond.methodLink own index y ∈ tblG) (k2 : Cond.instanceMethod y ∈ tblG) (k4 : Cond.initialized y.cls ∈ tblG) (k5 : Cond.code y bytes maxL none ∈ tblG) (hy1 : y.name = "<init>") (hd : y.cls ≠ "java/lang/invoke/MethodHandle" ∧ y.cls ≠ "java/lang/invoke/VarHandle" ∧ (parseMethodDescriptor y.desc).map (fun d => d.parameters.length) = some n) (hrc : rm.cells = mc) (hrs : rm.slots = ms) (hR : rm.frames + 1 ≤ R.frames ∧ 8 + (maxL + 11) + rm.locals ≤ R.locals) (hf : cells + mc ≤ R.cells ∧ slots + ms ≤ R.slots)
    (hK : va_K g cl tys s) (hP : va_P g cl (X ++ [(b, en)]) H) (hD : va_D A (X ++ [(b, en)])) (hS : va_S A s.heap H locs) (hA : ∀ q : Nat, s.heap.size ≤ q → A q) (hn : As.length = n) (hl : lv_has ls nL lv) (hst : st0 = As.reverse ++ .ref b :: rest) (hrm : (rest.map fun v => v.category).sum ≤ 8) (hdg : decode cc pc = .ok (.invokespecial index, 3))
    (kk : ∀ (u : S) (H1 : Heap) (locs1 : List Loc), va_P g cl (X ++ w1 u) H1 → va_D A (X ++ w1 u) → va_S A s.heap H1 locs1 → W p l e R s m args below meth c H1 locs1 (cells + mc) (slots + ms) Q (F0 m (pc + 3) ls rest)) : W p l e R s m args below meth c H locs cells slots Q (F0 m pc ls st0) := by
  have hPx : va_P g cl [(b, en)] H := my_lastP hP
  have hDx : va_D A [(b, en)] := my_lastD hD
  have hFx := my_fr hDx hS hA
  refine va_callv (va_runI (As := As) (rest := rest) (n := n) ⟨hx, hb, hml, hown, hT⟩ (hM H.size) (cwI n hT (gC k5) rfl hrc hrs (hT _ k4) (hT _ k1) (hT _ k2) hy1 hd hR) ⟨fun a U gg mk h => by obtain ⟨q0, q1, qP, qK, qD, qN, qO⟩ := h; exact ⟨q0, q1, qP, va_K.moved (u := U) (U := U.calling gg mk a) (Vm.Alike.refl U.vm) qK, qD, nst.same (u := U) (U := U.calling gg mk a) rfl qN, aov.moved (u := U) (U := U.calling gg mk a) (Vm.Alike.refl U.vm) qO⟩, fun U hU hW => ⟨rfl, by rw [hU], by rw [hU]; exact hPx, va_K.moved hW.alike hK, hDx.weaken (fun _ _ _ _ => trivial), nst.warm hW hN, aov.moved hW.alike hO⟩⟩ rfl hn hl.1 hst (lv_room hrm) hdg hf) hS (fun q _ h => hFx q h) hFx (fun u t H1 locs1 ht hvm hw hB hz hk hS1 => ?_)
  obtain ⟨hP1, hK1, hD1⟩ := hB
  rw [ht] at hP1
  obtain ⟨h1, h2⟩ := my_joinL hP hD hk hFx hP1 hD1
  exact kk u H1 locs1 h1 h2 hS1
theorem my_IN {S : Type} {w1 : S → va_W} {y : MethodName} {bytes : ByteArray} {maxL nL n index b mc ms : Nat} {rm : Room} {own host : String} {As : List Value} {en : va_E} {lv : List (Nat × Value)} (hM : cn_v l g cl tys y bytes maxL rm (.ref b :: As) [(b, en)] S w1 mc ms) (hx : p.tables.exec = Jvm.exec) (hb : c.code = cc) (hml : c.maxLocals = nL) (hown : s.vm.findClass own = some m.cls) (hT : ∀ w ∈ tblG, w.before args s = true) (hN : nst s) (hO : aov s) (k1 : Cond.methodLinkNest own index y host ∈ tblN) (k2 : Cond.instanceMethod y ∈ tblG) (k4 : Cond.initialized y.cls ∈ tblG) (k5 : Cond.code y bytes maxL none ∈ tblG) (hy1 : y.name = "<init>") (hd : y.cls ≠ "java/lang/invoke/MethodHandle" ∧ y.cls ≠ "java/lang/invoke/VarHandle" ∧ (parseMethodDescriptor y.desc).map (fun d => d.parameters.length) = some n) (hrc : rm.cells = mc) (hrs : rm.slots = ms) (hR : rm.frames + 1 ≤ R.frames ∧ 8 + (maxL + 11) + rm.locals ≤ R.locals) (hf : cells + mc ≤ R.cells ∧ slots + ms ≤ R.slots)
    (hK : va_K g cl tys s) (hP : va_P g cl (X ++ [(b, en)]) H) (hD : va_D A (X ++ [(b, en)])) (hS : va_S A s.heap H locs) (hA : ∀ q : Nat, s.heap.size ≤ q → A q) (hn : As.length = n) (hl : lv_has ls nL lv) (hst : st0 = As.reverse ++ .ref b :: rest) (hrm : (rest.map fun v => v.category).sum ≤ 8) (hdg : decode cc pc = .ok (.invokespecial index, 3))
    (kk : ∀ (u : S) (H1 : Heap) (locs1 : List Loc), va_P g cl (X ++ w1 u) H1 → va_D A (X ++ w1 u) → va_S A s.heap H1 locs1 → W p l e R s m args below meth c H1 locs1 (cells + mc) (slots + ms) Q (F0 m (pc + 3) ls rest)) : W p l e R s m args below meth c H locs cells slots Q (F0 m pc ls st0) := by
  have hPx : va_P g cl [(b, en)] H := my_lastP hP
  have hDx : va_D A [(b, en)] := my_lastD hD
  have hFx := my_fr hDx hS hA
  refine va_callv (va_runIN (As := As) (rest := rest) (n := n) ⟨hx, hb, hml, hown, hT⟩ (hM H.size) ⟨va_cnB n hT (gC k5) rfl hrc hrs (hN _ k1) (hT _ k4) hd hR, hy1, hT _ k2⟩ ⟨fun a U gg mk h => by obtain ⟨q0, q1, qP, qK, qD, qN, qO⟩ := h; exact ⟨q0, q1, qP, va_K.moved (u := U) (U := U.calling gg mk a) (Vm.Alike.refl U.vm) qK, qD, nst.same (u := U) (U := U.calling gg mk a) rfl qN, aov.moved (u := U) (U := U.calling gg mk a) (Vm.Alike.refl U.vm) qO⟩, fun U hU hW => ⟨rfl, by rw [hU], by rw [hU]; exact hPx, va_K.moved hW.alike hK, hDx.weaken (fun _ _ _ _ => trivial), nst.warm hW hN, aov.moved hW.alike hO⟩⟩ rfl hn hl.1 hst (lv_room hrm) hdg hf) hS (fun q _ h => hFx q h) hFx (fun u t H1 locs1 ht hvm hw hB hz hk hS1 => ?_)
  obtain ⟨hP1, hK1, hD1⟩ := hB
  rw [ht] at hP1
  obtain ⟨h1, h2⟩ := my_joinL hP hD hk hFx hP1 hD1
  exact kk u H1 locs1 h1 h2 hS1
end MYJ
