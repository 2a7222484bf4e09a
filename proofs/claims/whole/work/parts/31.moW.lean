def moW (b : Nat → Nat) (cI cJ cZ : ClassId) (f0 : Nat) (mn : Nat) (mv : Nat) (mg : Nat) (mk : Nat → Nat) (mo : Nat → Nat) (mu : Nat → Nat) (md : Nat → Nat) (ms : Nat → Nat) (mb : Nat → Nat) (mc : Nat) (m1 : Nat → Nat) (m2 : Nat → Nat) (m3 : Nat → Nat) (m4 : Nat → Nat) (we : Bool) (ud : Nat → Bool) (my : Nat) (ea : Nat → Nat) (od : Nat) (oo : Nat → Nat) (dn : Nat → Bool) (va : Nat → Nat) (ho : Nat → Bool) (wt : Nat → Nat) (cm : Nat) (co : Nat → Nat) (te : Nat → Nat) (tm : Nat) (gs : Nat) (gl : Nat → Nat) (rs : Nat) (rg : Nat → Nat) (rp : Nat → Nat) (rt : Nat → Nat) : va_W :=
  [(b 0, .inr (8, [.int (nI f0), .int (nI mn), .int (nI mv), .int (nI mg), .ref (b 1), .ref (b 2), .ref (b 3), .ref (b 4), .ref (b 5), .ref (b 6), .int (nI mc), .ref (b 7), .ref (b 8), .ref (b 9), .ref (b 10), .int (b2 we), .ref (b 11), .int (nI my), .ref (b 12), .int (nI od), .ref (b 13), .ref (b 14), .ref (b 15), .ref (b 16), .ref (b 17), .int (nI cm), .ref (b 18), .ref (b 19), .int (nI tm), .int (nI gs), .ref (b 20), .int (nI rs), .ref (b 21), .ref (b 22), .ref (b 23)])),
   (b 1, .inl (cI, 33, .inl (fun j => nI (mk j)))),
   (b 2, .inl (cI, 33, .inl (fun j => nI (mo j)))),
   (b 3, .inl (cI, 33, .inl (fun j => nI (mu j)))),
   (b 4, .inl (cI, 33, .inl (fun j => nI (md j)))),
   (b 5, .inl (cI, 33, .inl (fun j => nI (ms j)))),
   (b 6, .inl (cI, 330, .inl (fun j => nI (mb j)))),
   (b 7, .inl (cI, 4, .inl (fun j => nI (m1 j)))),
   (b 8, .inl (cI, 4, .inl (fun j => nI (m2 j)))),
   (b 9, .inl (cI, 4, .inl (fun j => nI (m3 j)))),
   (b 10, .inl (cI, 4, .inl (fun j => nI (m4 j)))),
   (b 11, .inl (cZ, 33, .inl (fun j => b2 (ud j)))),
   (b 12, .inl (cI, 12, .inl (fun j => nI (ea j)))),
   (b 13, .inl (cI, 20, .inl (fun j => nI (oo j)))),
   (b 14, .inl (cZ, 33, .inl (fun j => b2 (dn j)))),
   (b 15, .inl (cI, 33, .inl (fun j => nI (va j)))),
   (b 16, .inl (cZ, 4096, .inl (fun j => b2 (ho j)))),
   (b 17, .inl (cJ, 4096, .inr (.inl (fun j => lN (wt j))))),
   (b 18, .inl (cI, 4096, .inl (fun j => nI (co j)))),
   (b 19, .inl (cI, 12, .inl (fun j => nI (te j)))),
   (b 20, .inl (cI, 31, .inl (fun j => nI (gl j)))),
   (b 21, .inl (cI, 100, .inl (fun j => nI (rg j)))),
   (b 22, .inl (cI, 100, .inl (fun j => nI (rp j)))),
   (b 23, .inl (cI, 100, .inl (fun j => nI (rt j))))]
abbrev tyM (cI cJ cZ : ClassId) : List (ClassId × FieldType) := [(cI, .int), (cJ, .long), (cZ, .boolean)]
theorem b2_vn (b : Bool) : vp_nar .boolean (b2 b) = b2 b := by cases b <;> rfl
section MYZ
variable {p : Program} {l : Launch} {e : Env} {R : Room} {s : State} {m : MethodId} {args : Array Value} {below : List Frame} {meth : Method} {c : Code} {H : Heap} {locs : List Loc} {cells slots : Nat} {Q : State → Prop}
variable {cc : ByteArray} {pc : Nat} {ls : Array Slot} {rest : List Value} {D : va_G} {cl : List vw_C} {tys : List (ClassId × FieldType)} {ws : va_W} {a : Nat} {A : Nat → Prop} {H0 : Heap}
theorem my_zald (hx : p.tables.exec = Jvm.exec) (hb : c.code = cc) (hK : va_K D cl tys s) (hP : va_P D cl ws H) (q0 t0 : Nat) {cA : ClassId} {n : Nat} {f : Nat → Int32} (ha : ws[q0]? = some (a, .inl (cA, n, .inl f))) (ht : tys[t0]? = some (cA, .boolean)) {i : Nat} (hi : i < n) (hn : n < 2 ^ 31) {v : Int32} (hv : f i = v) (hdg : decode cc pc = .ok (.baload, 1)) (kk : W p l e R s m args below meth c H locs cells slots Q (F0 m (pc + 1) ls (.int v :: rest))) : W p l e R s m args below meth c H locs cells slots Q (F0 m pc ls (.int (nI i) :: .ref a :: rest)) :=
  va_zald hx hb hK hP q0 t0 ha ht (vp_in_nI hi hn) hdg (by rw [nI_clamp (by omega), hv]; exact kk)
theorem my_zast (hx : p.tables.exec = Jvm.exec) (hb : c.code = cc) (hK : va_K D cl tys s) (hP : va_P D cl ws H) (hD : va_D A ws) (hS : va_S A H0 H locs) (q0 t0 : Nat) {cA : ClassId} {n : Nat} {f : Nat → Bool} (ha : ws[q0]? = some (a, .inl (cA, n, .inl (fun j => b2 (f j))))) (ht : tys[t0]? = some (cA, .boolean)) {i : Nat} {b : Bool} {x : Int32} (hi : i < n) (hn : n < 2 ^ 31) (hxb : x = b2 b) {w' : va_W} (hw : ws.set q0 (a, .inl (cA, n, .inl (fun j => b2 (va_up f i b j)))) = w') (hdg : decode cc pc = .ok (.bastore, 1))
    (kk : ∀ (H1 : Heap) (locs1 : List Loc), va_P D cl w' H1 → va_D A w' → va_S A H0 H1 locs1 → W p l e R s m args below meth c H1 locs1 cells slots Q (F0 m (pc + 1) ls rest)) : W p l e R s m args below meth c H locs cells slots Q (F0 m pc ls (.int x :: .int (nI i) :: .ref a :: rest)) := by
  subst hw
  subst hxb
  refine va_zast hx hb hK hP hD hS q0 t0 ha ht (vp_in_nI hi hn) hdg ?_
  rw [nI_clamp (by omega), b2_vn]
  have e : upd (fun j => b2 (f j)) i (b2 b) = fun j => b2 (va_up f i b j) := by
    funext j
    simp only [upd, va_up]
    split <;> rfl
  rw [e]
  exact kk
theorem my_idiv (hx : p.tables.exec = Jvm.exec) (hb : c.code = cc) {a b : Nat} (hdg : decode cc pc = .ok (.idiv, 1)) (ha : a < 2 ^ 31) (h0 : 0 < b) (hb2 : b < 2 ^ 31) (k : W p l e R s m args below meth c H locs cells slots Q (F0 m (pc + 1) ls (.int (nI (a / b)) :: rest))) : W p l e R s m args below meth c H locs cells slots Q (F0 m pc ls (.int (nI b) :: .int (nI a) :: rest)) := by
  refine lv_idiv hx hb hdg (nI_ne0 h0 hb2) ?_
  rw [pk_div ha h0 hb2]; exact k
end MYZ
