/-! the law's own cover: it calls the class's and catches what that throws -/
def hdC : List (Nat × Nat × Nat × Nat) := [(0, 9, 12, 13)]
def rmC : Room := { frames := 7, cells := 1, slots := 6, locals := 150 }
def wdC : Cond := Cond.codeWith y_Lw_cover c_Lw_cover 5 (some .int) hdC
def ct_c (l : Launch) (g : va_G) (tys : List (ClassId × FieldType)) (av : List Value) (w0 w1 : va_W) (r : Int32) : Prop :=
  ∀ sz : Nat, Met l y_Lw_cover (wdC :: tblG) rmC (va_Pc av (fun U => U.heap.size = sz ∧ va_P g vwCl w0 U.heap ∧ va_K g vwCl tys U ∧ va_D (fun _ => True) w0 ∧ nst U ∧ thr U)) (va_Qi (fun (x : Int32) (_ : Unit) => x = r) (fun _ t => va_P g vwCl w1 t.heap ∧ va_K g vwCl tys t ∧ va_D (va_A w0 sz) w1) (va_A w0 sz)) 1 6 (va_A w0 sz)
section LWD
variable {l : Launch} {g : va_G} {tys : List (ClassId × FieldType)} {av : List Value} {w0 w1 : va_W}
theorem ct_c.intro {r : Int32} (hlen : (lg_sl av).length ≤ 5)
    (body : ∀ (p : Program) (e : Env) (s : State) (m : MethodId) (args : Array Value) (below : List Frame) (meth : Method) (c : Code) (Q : State → Prop) (A : Nat → Prop) (ls : Array Slot),
      p.tables.exec = Jvm.exec → c.code = c_Lw_cover → c.maxLocals = 5 → c.exceptionTable.toList = [⟨0, 9, 12, 13⟩] → (∀ w ∈ tblG, w.before args s = true) → s.vm.findClass R_Lw = some m.cls → (∀ q : Nat, s.heap.size ≤ q → A q) → va_K g vwCl tys s → nst s → thr s →
      (∀ (H : Heap) (locs : List Loc) (pc : Nat) (ls : Array Slot) (v : Int32), va_P g vwCl w1 H → va_D A w1 → va_S A s.heap H locs → decode c_Lw_cover pc = .ok (.ireturn, 1) → v = r → W p l e rmC s m args below meth c H locs 1 6 Q (F0 m pc ls [.int v])) →
      va_P g vwCl w0 s.heap → va_D A w0 → va_S A s.heap s.heap [] → lv_has ls 5 (lv_args 0 av) → W p l e rmC s m args below meth c s.heap [] 0 0 Q (F0 m 0 ls [])) : ct_c l g tys av w0 w1 r := by
  intro sz
  refine MetFree.of_bodyS (code := c_Lw_cover) (maxLocals := 5) (ret := some .int) (by decide) ?_ ?_
  · intro args s m h hn
    obtain ⟨m', meth, c, hm', h1, h2, h3, h4, -, h5, h6, -⟩ := Cond.codeWith_spec (atoms_spec (ws := wdC :: tblG) h _ List.mem_cons_self)
    cases hn.symm.trans hm'
    exact ⟨meth, c, h1, h2, h3, h4, h5, h6⟩
  · intro p e s m args below meth c s₁ B hml hv _
    obtain ⟨rfl, hsz, hP, hK, hD0, hN, hth⟩ := hv
    have hh0 : s₁.heap = s.heap := by rw [B.state]; rfl
    have hts0 := atoms_spec (ws := wdC :: tblG) B.pre
    have hts : ∀ w ∈ tblG, w.before av.toArray s = true := fun w h => hts0 w (List.mem_cons_of_mem _ h)
    have hown : s.vm.findClass R_Lw = some m.cls := findClass_of_methodNamed B.named
    have hlocks := B.notSynchronized
    obtain ⟨m', meth', c', hm', h1, h2, -, -, h3, -, -, -⟩ := Cond.codeWith_spec (hts0 _ List.mem_cons_self)
    have hn := B.named
    cases hn.symm.trans hm'
    cases h1.symm.trans B.method
    have hcc : c' = c := by
      have e1 := B.here.code
      rw [State.code?_eq, B.state] at e1
      have e2 : (s.vm.method? m).bind (fun x => x.code) = some c := e1
      rw [h1] at e2
      exact Option.some.inj (h2.symm.trans e2)
    subst hcc
    have htab : c'.exceptionTable.toList = [⟨0, 9, 12, 13⟩] := by
      rw [← table_eq c'.exceptionTable.toList, h3]; rfl
    subst hsz
    have hD := hD0.self (sz := s.heap.size)
    have hl := lv_entry av (n := 5) hlen
    have K : W p l e rmC s m av.toArray below meth c' s.heap [] 0 0 (MQ below (va_Qi (fun (x : Int32) (_ : Unit) => x = r) (fun _ t => va_P g vwCl w1 t.heap ∧ va_K g vwCl tys t ∧ va_D (va_A w0 s.heap.size) w1) (va_A w0 s.heap.size)) av.toArray s 1 6 (va_A w0 s.heap.size)) (entryFrame m av.toArray 5) := by
      rw [lg_entry_eq]
      refine body p e s m av.toArray below meth c' _ (va_A w0 s.heap.size) _ B.exec B.bytes hml htab hts hown (fun q h => Or.inr h) hK hN hth ?_ hP hD va_S.rf hl
      intro H locs pc ls v g1 g2 g3 g4 g5
      exact W.iret (v := v) B.exec B.bytes B.returns (fun t ht hW => ⟨⟨v, (), rfl, g5, by rw [ht]; exact g1, va_K.moved hW.alike hK, g2⟩, g3.F ht⟩) g3.2.2 g4
    obtain ⟨t, a1, o, b1, b2, b3⟩ := K s₁ hh0 (Stand.of_body B)
    exact ⟨t, o, a1, b1, b2, ⟨b3.1, b3.2⟩⟩
end LWD
theorem lw_set {w1 : va_W} {o : Nat} {e e1 : va_E} : (w1 ++ [(o, e)]).set w1.length (o, e1) = w1 ++ [(o, e1)] := by
  rw [List.set_append_right _ _ (Nat.le_refl _), Nat.sub_self]
  rfl
theorem lw_at {w1 : va_W} {o : Nat} {e : va_E} : (w1 ++ [(o, e)])[w1.length]? = some (o, e) := by
  rw [List.getElem?_append_right (Nat.le_refl _), Nat.sub_self]
  rfl
set_option maxHeartbeats 4000000 in
theorem k_Lw_coverR (l : Launch) (g : va_G) (cI cJ cII cJJ : ClassId) {a0 o : Nat} {x z : Int32} {ws w1 : va_W} {f : Nat → Int64} {r : Int64} {fs : List Value} (hM : ct_l l g vwCl (tyS cI cJ cII cJJ) y_ST_cover c_ST_cover 4 (some .long) ({ frames := 2, cells := 0, slots := 0, locals := 56 } : Room) [.ref a0, .int x, .int z] ws w1 r) (he : ws[0]? = some (a0, .inr (0, fs))) :
    ct_c l g (tyS cI cJ cII cJJ) [.ref a0, .int x, .int z, .ref o] (ws ++ [(o, .inl (cJ, 1, .inr (.inl f)))]) (w1 ++ [(o, .inl (cJ, 1, .inr (.inl (va_up f 0 r))))]) (nI 0) := by
  refine ct_c.intro (Nat.le_of_ble_eq_true rfl) ?_
  intro p e s m args below meth c Q A ls hx hb hml htab hT hown hA hK hN hth hret hP hD hS hl
  have hl : lv_has ls 5 [(0, .ref a0), (1, .int x), (2, .int z), (3, .ref o)] := hl
  refine lv_aload_n hx hb d_Lw_cover_0 rfl (lv_at hl 3 rfl) ?_
  refine lv_iconst (v := (nI 0)) hx hb d_Lw_cover_1 (by decide) ?_
  refine lv_aload_n hx hb d_Lw_cover_2 rfl (lv_at hl 0 rfl) ?_
  refine lv_iload_n hx hb d_Lw_cover_3 rfl (lv_at hl 1 rfl) ?_
  refine lv_iload_n hx hb d_Lw_cover_4 rfl (lv_at hl 2 rfl) ?_
  refine my_FV_l (q0 := 0) (ci := 0) (C := R_ST) (As := [.int x, .int z]) (n := 2) hM hx hb hml hown hT hN tw_542 tw_543 tw_544 tw_1 tw_545 (by decide +kernel) rfl rfl ⟨Nat.le_of_ble_eq_true rfl, Nat.le_of_ble_eq_true rfl⟩ ⟨Nat.zero_le _, Nat.zero_le _⟩ hK hP hD hS hA rfl he rfl hl rfl (Nat.le_of_ble_eq_true rfl) d_Lw_cover_5 (fun H locs hP hD hS => ?_)
  refine my_last (i := 0) hx hb hK hP hD hS w1.length 1 lw_at rfl (by decide) (by decide) (my_upJ _ _ _) lw_set d_Lw_cover_8 (fun H locs hP hD hS => ?_)
  refine lv_goto (tgt := 16) hx hb d_Lw_cover_9 (by decide) ?_
  refine lv_iconst (v := (nI 0)) hx hb d_Lw_cover_16 (by decide) ?_
  refine W.widen (k := 1) (n := 6) (by decide) (by decide) ?_
  exact hret _ _ _ _ _ hP hD hS d_Lw_cover_17 rfl
set_option maxHeartbeats 4000000 in
theorem k_Lw_coverT (l : Launch) (g : va_G) (cI cJ cII cJJ : ClassId) {a0 o : Nat} {x z : Int32} {ws : va_W} {E : va_E} {fs : List Value} (hM : ct_T l g vwCl (tyS cI cJ cII cJJ) y_ST_cover c_ST_cover 4 (some .long) ({ frames := 6, cells := 1, slots := 6, locals := 120 } : Room) [.ref a0, .int x, .int z] ws) (he : ws[0]? = some (a0, .inr (0, fs))) :
    ct_c l g (tyS cI cJ cII cJJ) [.ref a0, .int x, .int z, .ref o] (ws ++ [(o, E)]) (ws ++ [(o, E)]) (nI 1) := by
  refine ct_c.intro (Nat.le_of_ble_eq_true rfl) ?_
  intro p e s m args below meth c Q A ls hx hb hml htab hT hown hA hK hN hth hret hP hD hS hl
  have hl : lv_has ls 5 [(0, .ref a0), (1, .int x), (2, .int z), (3, .ref o)] := hl
  refine lv_aload_n hx hb d_Lw_cover_0 rfl (lv_at hl 3 rfl) ?_
  refine lv_iconst (v := (nI 0)) hx hb d_Lw_cover_1 (by decide) ?_
  refine lv_aload_n hx hb d_Lw_cover_2 rfl (lv_at hl 0 rfl) ?_
  refine lv_iload_n hx hb d_Lw_cover_3 rfl (lv_at hl 1 rfl) ?_
  refine lv_iload_n hx hb d_Lw_cover_4 rfl (lv_at hl 2 rfl) ?_
  refine lw_thrown (x := ⟨0, 9, 12, 13⟩) (q0 := 0) (ci := 0) (C := R_ST) (As := [.int x, .int z]) (n := 2) hM hx hb hml hown hT hN hth tw_542 tw_543 tw_544 tw_1 tw_545 tw_541 (by decide +kernel) rfl rfl ⟨Nat.le_of_ble_eq_true rfl, Nat.le_of_ble_eq_true rfl⟩ ⟨Nat.le_of_ble_eq_true rfl, Nat.le_of_ble_eq_true rfl⟩ hK (lw_spP hP).1 (lw_spD hD).1 (fun _ _ => rfl) rfl he rfl hl rfl (Nat.le_of_ble_eq_true rfl) d_Lw_cover_5 htab (by decide) (by decide) (fun a1 H1 hz hk => ?_)
  have hP1 := hP.kept (fun k x hx => hk x.1 ((hP k x hx).lt))
  refine lv_astore (lv' := [(4, .ref a1), (0, .ref a0), (1, .int x), (2, .int z), (3, .ref o)]) hx hb d_Lw_cover_12 hl (by decide) rfl (fun ls hl => ?_)
  refine lv_iconst (v := (nI 1)) hx hb d_Lw_cover_14 (by decide) ?_
  exact hret _ _ _ _ _ hP1 hD ⟨hz, fun q h1 _ => hk q h1, fun _ h => absurd h List.not_mem_nil⟩ d_Lw_cover_15 rfl
