theorem i_ST : ∀ w ∈ u_ws R_ST F_ST 7, w ∈ tblG := by decide +kernel
theorem i_No : ∀ w ∈ u_ws R_No F_No 13, w ∈ tblG := by decide +kernel
theorem i_Tr : ∀ w ∈ u_ws R_Tr F_Tr 2, w ∈ tblG := by decide +kernel
theorem i_Ca : ∀ w ∈ u_ws R_Ca F_Ca 4, w ∈ tblG := by decide +kernel
theorem i_Cu : ∀ w ∈ u_ws R_Cu F_Cu 3, w ∈ tblG := by decide +kernel
theorem i_Od : ∀ w ∈ u_ws R_Od F_Od 7, w ∈ tblG := by decide +kernel
theorem i_Go : ∀ w ∈ u_ws R_Go F_Go 6, w ∈ tblG := by decide +kernel
theorem i_Fr : ∀ w ∈ u_ws R_Fr F_Fr 2, w ∈ tblG := by decide +kernel
theorem i_Mo : ∀ w ∈ u_ws R_Mo F_Mo 35, w ∈ tblG := by decide +kernel
def stX (a : Nat → Nat) (rB rT : Nat → Nat) (cI cJ cII cJJ : ClassId) (nc : Nat) (nv : Nat) (ng : Nat) (kd : Nat → Int32) (vo : Nat → Nat) (nu : Nat → Nat) (nd : Nat → Nat) (en : Nat → Nat) (br : Nat → Nat → Nat) (bc : Nat → Nat) (un : Nat → Nat) (eu : Nat → Nat) (li : Nat → Nat) (tb : Nat → Nat → Int64) (cc0 : Nat) (cp : Nat → Nat) (cu : Nat → Nat) (cd : Nat → Nat) (tc : Nat) (ts : Nat → Nat) (tf : Nat → Nat) (ox : Bool) (ow : Nat → Nat) (ob : Nat → Nat) (ra : Nat) (rb : Nat) (gc : Nat) (gr : Nat) (gk : Nat → Nat) (gg : Nat → Nat) (gp : Nat → Nat) (gt : Nat → Nat) (sa : Nat) (sb : Nat) : va_W :=
  [(a 0, .inr (0, [.ref (a 1), .ref (a 2), .ref (a 3), .ref (a 4), .ref (a 5), .ref (a 6), .ref (a 7)])),
   (a 1, .inr (1, [.int (nI nc), .int (nI nv), .int (nI ng), .ref (a 9), .ref (a 10), .ref (a 11), .ref (a 12), .ref (a 13), .ref (a 14), .ref (a 15), .ref (a 16), .ref (a 17), .ref (a 18)])),
   (a 2, .inr (2, [.ref (a 1), .ref (a 19)])),
   (a 3, .inr (3, [.int (nI cc0), .ref (a 20), .ref (a 21), .ref (a 22)])),
   (a 4, .inr (4, [.int (nI tc), .ref (a 23), .ref (a 24)])),
   (a 5, .inr (5, [.ref (a 1), .ref (a 2), .ref (a 3), .ref (a 8), .int (b2 ox), .ref (a 25), .ref (a 26)])),
   (a 6, .inr (6, [.int (nI gc), .int (nI gr), .ref (a 27), .ref (a 28), .ref (a 29), .ref (a 30)])),
   (a 7, .inr (7, [.long (lN sa), .long (lN sb)])),
   (a 8, .inr (7, [.long (lN ra), .long (lN rb)])),
   (a 9, .inl (cI, 33, .inl kd)),
   (a 10, .inl (cI, 33, .inl (fun j => nI (vo j)))),
   (a 11, .inl (cJ, 33, .inr (.inl (fun j => lN (nu j))))),
   (a 12, .inl (cJ, 33, .inr (.inl (fun j => lN (nd j))))),
   (a 13, .inl (cI, 12, .inl (fun j => nI (en j)))),
   (a 14, .inl (cII, 33, .inr (.inr (.inr (.inr (fun i => if i < 33 then some (rB i) else none)))))),
   (a 15, .inl (cI, 33, .inl (fun j => nI (bc j)))),
   (a 16, .inl (cJ, 33, .inr (.inl (fun j => lN (un j))))),
   (a 17, .inl (cI, 33, .inl (fun j => nI (eu j)))),
   (a 18, .inl (cI, 20, .inl (fun j => nI (li j)))),
   (a 19, .inl (cJJ, 33, .inr (.inr (.inr (.inr (fun i => if i < 33 then some (rT i) else none)))))),
   (a 20, .inl (cI, 4, .inl (fun j => nI (cp j)))),
   (a 21, .inl (cJ, 4, .inr (.inl (fun j => lN (cu j))))),
   (a 22, .inl (cJ, 4, .inr (.inl (fun j => lN (cd j))))),
   (a 23, .inl (cI, 924, .inl (fun j => nI (ts j)))),
   (a 24, .inl (cI, 924, .inl (fun j => nI (tf j)))),
   (a 25, .inl (cJ, 4096, .inr (.inl (fun j => lN (ow j))))),
   (a 26, .inl (cJ, 33, .inr (.inl (fun j => lN (ob j))))),
   (a 27, .inl (cI, 31, .inl (fun j => nI (gk j)))),
   (a 28, .inl (cI, 100, .inl (fun j => nI (gg j)))),
   (a 29, .inl (cI, 100, .inl (fun j => nI (gp j)))),
   (a 30, .inl (cI, 100, .inl (fun j => nI (gt j))))]
def stB (rB : Nat → Nat) (cI : ClassId) (br : Nat → Nat → Nat) : Nat → Nat × va_E := fun i => (rB i, .inl (cI, 10, .inl (fun j => nI (br i j))))
def stT (rT : Nat → Nat) (cJ : ClassId) (tb : Nat → Nat → Int64) : Nat → Nat × va_E := fun i => (rT i, .inl (cJ, 64, .inr (.inl (tb i))))
/-- the class's whole world -/
def stW (a : Nat → Nat) (rB rT : Nat → Nat) (cI cJ cII cJJ : ClassId) (nc : Nat) (nv : Nat) (ng : Nat) (kd : Nat → Int32) (vo : Nat → Nat) (nu : Nat → Nat) (nd : Nat → Nat) (en : Nat → Nat) (br : Nat → Nat → Nat) (bc : Nat → Nat) (un : Nat → Nat) (eu : Nat → Nat) (li : Nat → Nat) (tb : Nat → Nat → Int64) (cc0 : Nat) (cp : Nat → Nat) (cu : Nat → Nat) (cd : Nat → Nat) (tc : Nat) (ts : Nat → Nat) (tf : Nat → Nat) (ox : Bool) (ow : Nat → Nat) (ob : Nat → Nat) (ra : Nat) (rb : Nat) (gc : Nat) (gr : Nat) (gk : Nat → Nat) (gg : Nat → Nat) (gp : Nat → Nat) (gt : Nat → Nat) (sa : Nat) (sb : Nat) : va_W :=
  stX a rB rT cI cJ cII cJJ nc nv ng kd vo nu nd en br bc un eu li tb cc0 cp cu cd tc ts tf ox ow ob ra rb gc gr gk gg gp gt sa sb ++ (List.range 33).map (stB rB cI br) ++ (List.range 33).map (stT rT cJ tb)
abbrev tyS (cI cJ cII cJJ : ClassId) : List (ClassId × FieldType) := [(cI, .int), (cJ, .long), (cII, .array .int), (cJJ, .array .long)]
theorem stX_len {a rB rT : Nat → Nat} {cI cJ cII cJJ : ClassId} {nc : Nat} {nv : Nat} {ng : Nat} {kd : Nat → Int32} {vo : Nat → Nat} {nu : Nat → Nat} {nd : Nat → Nat} {en : Nat → Nat} {br : Nat → Nat → Nat} {bc : Nat → Nat} {un : Nat → Nat} {eu : Nat → Nat} {li : Nat → Nat} {tb : Nat → Nat → Int64} {cc0 : Nat} {cp : Nat → Nat} {cu : Nat → Nat} {cd : Nat → Nat} {tc : Nat} {ts : Nat → Nat} {tf : Nat → Nat} {ox : Bool} {ow : Nat → Nat} {ob : Nat → Nat} {ra : Nat} {rb : Nat} {gc : Nat} {gr : Nat} {gk : Nat → Nat} {gg : Nat → Nat} {gp : Nat → Nat} {gt : Nat → Nat} {sa : Nat} {sb : Nat} : (stX a rB rT cI cJ cII cJJ nc nv ng kd vo nu nd en br bc un eu li tb cc0 cp cu cd tc ts tf ox ow ob ra rb gc gr gk gg gp gt sa sb).length = 31 := rfl
theorem stB_at {a rB rT : Nat → Nat} {cI cJ cII cJJ : ClassId} {nc : Nat} {nv : Nat} {ng : Nat} {kd : Nat → Int32} {vo : Nat → Nat} {nu : Nat → Nat} {nd : Nat → Nat} {en : Nat → Nat} {br : Nat → Nat → Nat} {bc : Nat → Nat} {un : Nat → Nat} {eu : Nat → Nat} {li : Nat → Nat} {tb : Nat → Nat → Int64} {cc0 : Nat} {cp : Nat → Nat} {cu : Nat → Nat} {cd : Nat → Nat} {tc : Nat} {ts : Nat → Nat} {tf : Nat → Nat} {ox : Bool} {ow : Nat → Nat} {ob : Nat → Nat} {ra : Nat} {rb : Nat} {gc : Nat} {gr : Nat} {gk : Nat → Nat} {gg : Nat → Nat} {gp : Nat → Nat} {gt : Nat → Nat} {sa : Nat} {sb : Nat} {i : Nat} (h : i < 33) : (stW a rB rT cI cJ cII cJJ nc nv ng kd vo nu nd en br bc un eu li tb cc0 cp cu cd tc ts tf ox ow ob ra rb gc gr gk gg gp gt sa sb)[31 + i]? = some (rB i, .inl (cI, 10, .inl (fun j => nI (br i j)))) :=
  row_get (X := stX a rB rT cI cJ cII cJJ nc nv ng kd vo nu nd en br bc un eu li tb cc0 cp cu cd tc ts tf ox ow ob ra rb gc gr gk gg gp gt sa sb) (f := stB rB cI br) h rfl
theorem stT_at {a rB rT : Nat → Nat} {cI cJ cII cJJ : ClassId} {nc : Nat} {nv : Nat} {ng : Nat} {kd : Nat → Int32} {vo : Nat → Nat} {nu : Nat → Nat} {nd : Nat → Nat} {en : Nat → Nat} {br : Nat → Nat → Nat} {bc : Nat → Nat} {un : Nat → Nat} {eu : Nat → Nat} {li : Nat → Nat} {tb : Nat → Nat → Int64} {cc0 : Nat} {cp : Nat → Nat} {cu : Nat → Nat} {cd : Nat → Nat} {tc : Nat} {ts : Nat → Nat} {tf : Nat → Nat} {ox : Bool} {ow : Nat → Nat} {ob : Nat → Nat} {ra : Nat} {rb : Nat} {gc : Nat} {gr : Nat} {gk : Nat → Nat} {gg : Nat → Nat} {gp : Nat → Nat} {gt : Nat → Nat} {sa : Nat} {sb : Nat} {i : Nat} (h : i < 33) : (stW a rB rT cI cJ cII cJJ nc nv ng kd vo nu nd en br bc un eu li tb cc0 cp cu cd tc ts tf ox ow ob ra rb gc gr gk gg gp gt sa sb)[64 + i]? = some (rT i, .inl (cJ, 64, .inr (.inl (tb i)))) := by
  have := row_get (X := stX a rB rT cI cJ cII cJJ nc nv ng kd vo nu nd en br bc un eu li tb cc0 cp cu cd tc ts tf ox ow ob ra rb gc gr gk gg gp gt sa sb ++ (List.range 33).map (stB rB cI br)) (Y := []) (f := stT rT cJ tb) (k := 64 + i) h (by simp [stX_len])
  rw [List.append_nil] at this
  exact this
theorem stB_set {a rB rT : Nat → Nat} {cI cJ cII cJJ : ClassId} {nc : Nat} {nv : Nat} {ng : Nat} {kd : Nat → Int32} {vo : Nat → Nat} {nu : Nat → Nat} {nd : Nat → Nat} {en : Nat → Nat} {br : Nat → Nat → Nat} {bc : Nat → Nat} {un : Nat → Nat} {eu : Nat → Nat} {li : Nat → Nat} {tb : Nat → Nat → Int64} {cc0 : Nat} {cp : Nat → Nat} {cu : Nat → Nat} {cd : Nat → Nat} {tc : Nat} {ts : Nat → Nat} {tf : Nat → Nat} {ox : Bool} {ow : Nat → Nat} {ob : Nat → Nat} {ra : Nat} {rb : Nat} {gc : Nat} {gr : Nat} {gk : Nat → Nat} {gg : Nat → Nat} {gp : Nat → Nat} {gt : Nat → Nat} {sa : Nat} {sb : Nat} {i : Nat} {f : Nat → Nat} (h : i < 33) : (stW a rB rT cI cJ cII cJJ nc nv ng kd vo nu nd en br bc un eu li tb cc0 cp cu cd tc ts tf ox ow ob ra rb gc gr gk gg gp gt sa sb).set (31 + i) (rB i, .inl (cI, 10, .inl (fun j => nI (f j)))) = stW a rB rT cI cJ cII cJJ nc nv ng kd vo nu nd en (va_up br i f) bc un eu li tb cc0 cp cu cd tc ts tf ox ow ob ra rb gc gr gk gg gp gt sa sb := by
  have := row_set (X := stX a rB rT cI cJ cII cJJ nc nv ng kd vo nu nd en br bc un eu li tb cc0 cp cu cd tc ts tf ox ow ob ra rb gc gr gk gg gp gt sa sb) (Y := (List.range 33).map (stT rT cJ tb)) (f := stB rB cI br) (f' := stB rB cI (va_up br i f)) (k := 31 + i) h rfl (fun j _ hj => by simp [stB, va_up, hj])
  rw [show stB rB cI (va_up br i f) i = (rB i, .inl (cI, 10, .inl (fun j => nI (f j)))) by simp [stB, va_up]] at this
  exact this
theorem stT_set {a rB rT : Nat → Nat} {cI cJ cII cJJ : ClassId} {nc : Nat} {nv : Nat} {ng : Nat} {kd : Nat → Int32} {vo : Nat → Nat} {nu : Nat → Nat} {nd : Nat → Nat} {en : Nat → Nat} {br : Nat → Nat → Nat} {bc : Nat → Nat} {un : Nat → Nat} {eu : Nat → Nat} {li : Nat → Nat} {tb : Nat → Nat → Int64} {cc0 : Nat} {cp : Nat → Nat} {cu : Nat → Nat} {cd : Nat → Nat} {tc : Nat} {ts : Nat → Nat} {tf : Nat → Nat} {ox : Bool} {ow : Nat → Nat} {ob : Nat → Nat} {ra : Nat} {rb : Nat} {gc : Nat} {gr : Nat} {gk : Nat → Nat} {gg : Nat → Nat} {gp : Nat → Nat} {gt : Nat → Nat} {sa : Nat} {sb : Nat} {i : Nat} {f : Nat → Int64} (h : i < 33) : (stW a rB rT cI cJ cII cJJ nc nv ng kd vo nu nd en br bc un eu li tb cc0 cp cu cd tc ts tf ox ow ob ra rb gc gr gk gg gp gt sa sb).set (64 + i) (rT i, .inl (cJ, 64, .inr (.inl f))) = stW a rB rT cI cJ cII cJJ nc nv ng kd vo nu nd en br bc un eu li (va_up tb i f) cc0 cp cu cd tc ts tf ox ow ob ra rb gc gr gk gg gp gt sa sb := by
  have := row_set (X := stX a rB rT cI cJ cII cJJ nc nv ng kd vo nu nd en br bc un eu li tb cc0 cp cu cd tc ts tf ox ow ob ra rb gc gr gk gg gp gt sa sb ++ (List.range 33).map (stB rB cI br)) (Y := []) (f := stT rT cJ tb) (f' := stT rT cJ (va_up tb i f)) (k := 64 + i) h (by simp [stX_len]) (fun j _ hj => by simp [stT, va_up, hj])
  rw [show stT rT cJ (va_up tb i f) i = (rT i, .inl (cJ, 64, .inr (.inl f))) by simp [stT, va_up], List.append_nil, List.append_nil] at this
  exact this
theorem b2_nar (b : Bool) : narrow .boolean (.int (b2 b)) = .int (b2 b) := by cases b <;> rfl
theorem b2_fit (b : Bool) : fits .boolean (.int (b2 b)) = true := by cases b <;> rfl
theorem my_upI (f : Nat → Int32) (i : Nat) (v : Int32) : upd f i v = va_up f i v := rfl
theorem my_upJ (f : Nat → Int64) (i : Nat) (v : Int64) : vp_updL f i v = va_up f i v := rfl
section MYA
variable {p : Program} {l : Launch} {e : Env} {R : Room} {s : State} {m : MethodId} {args : Array Value} {below : List Frame} {meth : Method} {c : Code} {H : Heap} {locs : List Loc} {cells slots : Nat} {Q : State → Prop}
variable {cc : ByteArray} {pc : Nat} {ls : Array Slot} {rest : List Value} {D : va_G} {cl : List vw_C} {tys : List (ClassId × FieldType)} {ws : va_W} {a : Nat}
/-- a row of a grid -/
theorem my_aald {r : Nat → Nat} {cA : ClassId} {ty : FieldType} {n i : Nat} (hx : p.tables.exec = Jvm.exec) (hb : c.code = cc) (hK : va_K D cl tys s) (hP : va_P D cl ws H) (q0 t0 : Nat) (ha : ws[q0]? = some (a, .inl (cA, n, .inr (.inr (.inr (.inr (fun i => if i < n then some (r i) else none))))))) (ht : tys[t0]? = some (cA, .array ty)) (hi : i < n) (hn : n < 2 ^ 31) (hdg : decode cc pc = .ok (.aaload, 1))
    (kk : W p l e R s m args below meth c H locs cells slots Q (F0 m (pc + 1) ls (.ref (r i) :: rest))) : W p l e R s m args below meth c H locs cells slots Q (F0 m pc ls (.int (nI i) :: .ref a :: rest)) := by
  have hin : vp_in (nI i) n := vp_in_nI hi hn
  have hc : (nI i).toNatClampNeg = i := nI_clamp (by omega)
  have hlt : (nI i).toNatClampNeg < n := by rw [hc]; exact hi
  refine W.aald (v := va_rf ((fun i => if i < n then some (r i) else none) (nI i).toNatClampNeg)) (ty := .array ty) hx hb (hP q0 _ ha) ((hK.2 t0 _ ht).1 n (fun j => va_rf ((fun i => if i < n then some (r i) else none) j))) rfl (fun q => by cases q) (by show ¬ (nI i < 0 ∨ (arrV _ _ _).slots.size ≤ _); rw [arrV_size]; exact hin) (by show (arrV _ _ _).slots[_]? = _; rw [arrV_read _ _ hlt]) rfl rfl hdg ?_
  rw [hc]
  show W p l e R s m args below meth c H locs cells slots Q (F0 m (pc + 1) ls (va_rf (if i < n then some (r i) else none) :: rest))
  rw [if_pos hi]
  exact kk
end MYA
