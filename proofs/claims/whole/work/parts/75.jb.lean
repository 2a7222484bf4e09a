section ICK
variable {nc nv : Nat} {en eu mk : Nat → Nat} {cc0 : Nat} {cp cu cd : Nat → Nat} {mc : Nat} {m1 m2 m3 m4 : Nat → Nat} {tc : Nat} {ts : Nat → Nat} {cm : Nat} {co te : Nat → Nat} {tm : Nat}
theorem ic_keep (hC : ICs cc0 cp cu cd nc eu mk mc m1 m2 m3 m4) {nc' : Nat} {eu' mk' : Nat → Nat} (hn : nc ≤ nc') (he : ∀ e, 1 ≤ e → e ≤ nc → mk e = 0 → eu' e = eu e) (hm : ∀ e, 1 ≤ e → e ≤ nc → mk' e = mk e) : ICs cc0 cp cu cd nc' eu' mk' mc m1 m2 m3 m4 := by
  obtain ⟨c1, c2, c3, c4, c5, c6, c7, c8, c9, c10⟩ := hC
  refine ⟨c1, c2, c3, c4, fun i hi => ?_, c6, c7, c8, c9, c10⟩
  obtain ⟨q1, q2, q3, q4, q5, q6, q7, q8⟩ := c5 i hi
  exact ⟨by rw [q1, he _ q2 q3 q4, he _ q5 q6 q7], q2, by omega, by rw [hm _ q2 q3]; exact q4, q5, by omega, by rw [hm _ q5 q6]; exact q7, q8⟩
theorem ik_keep (hK : IKt tc ts en nv cm co te tm) {en' : Nat → Nat} {nv' : Nat} (hn : nv ≤ nv') (he : ∀ k, k < nv → en' k = en k) : IKt tc ts en' nv' cm co te tm := by
  obtain ⟨k1, k2, k3, k4, k5, k6⟩ := hK
  refine ⟨k1, k2, k3, k4, k5, fun h => ?_⟩
  obtain ⟨W, w1, w2, w3, w4⟩ := k6 h
  refine ⟨W, w1, w2, w3, fun p hp hb => ?_⟩
  obtain ⟨q1, q2⟩ := w4 p hp hb
  exact ⟨by omega, by rw [q2, he _ q1]⟩
theorem ic_add (hC : ICs cc0 cp cu cd nc eu mk mc m1 m2 m3 m4) (heu : ∀ j, eu j < 2 ^ 12) (h4 : cc0 < 4) (hnc : nc ≤ 32) {X Y u d : Nat} (x1 : 1 ≤ X) (x2 : X ≤ nc) (x0 : mk X = 0) (y1 : 1 ≤ Y) (y2 : Y ≤ nc) (y0 : mk Y = 0) (hud : u ≤ d) (hd : 1 ≤ d) (hd2 : d ≤ 10) : ICs (cc0 + 1) (va_up cp cc0 (eu X ||| eu Y)) (va_up cu cc0 u) (va_up cd cc0 d) nc eu mk (mc + 1) (va_up m1 mc X) (va_up m2 mc Y) (va_up m3 mc u) (va_up m4 mc d) := by
  obtain ⟨c1, c2, c3, c4, c5, c6, c7, c8, c9, c10⟩ := hC
  subst c1
  subst c3
  subst c4
  refine ⟨rfl, by omega, rfl, rfl, fun i hi => ?_, up_lt c6 (Nat.or_lt_two_pow (heu X) (heu Y)), fun j => ?_, up_le c8 hd2, up_le c9 (by omega), up_le c10 (by omega)⟩
  · by_cases e : i = mc
    · rw [e, va_up_self, va_up_self, va_up_self, va_up_self]
      exact ⟨rfl, x1, x2, x0, y1, y2, y0, hd⟩
    · rw [va_up_ne _ _ e, va_up_ne _ _ e, va_up_ne _ _ e, va_up_ne _ _ e]
      exact c5 i (by omega)
  · by_cases e : j = mc
    · rw [e, va_up_self, va_up_self]; exact hud
    · rw [va_up_ne _ _ e, va_up_ne _ _ e]; exact c7 j
end ICK
set_option maxHeartbeats 4000000 in
set_option maxRecDepth 100000 in
theorem jA_event (l : Launch) (g : va_G) (tp : Nat) (a rB rT bb : Nat → Nat) (cI cJ cII cJJ cZ : ClassId) : lwA_event l g cI cJ cII cJJ cZ tp (a 0) (bb 0) (jR a rB rT bb cI cJ cII cJJ cZ) := by
  intro x0 x1 ws wm h
  refine jElim h ?_
  intro nc nv ng kd vo nu nd en br bc un eu li tb cc0 cp cu cd tc ts tf ox ow ob ra rb gc gr gk gg gp gt sa sb f0 mn mv mg mk mo mu md ms mb mc m1 m2 m3 m4 we ud my ea od oo dn va ho wt cm co te tm gs gl rs rg rp rt ews ewm hI hC hK hox hG hX
  subst ews
  subst ewm
  obtain ⟨n1, n2, n3, n4, n5, n6, n7, n8⟩ := it_num hI
  obtain ⟨f1, f2, f3, f4, f5, f6, f7, f8, f9, f10, f11, f12, f13, f14, f15⟩ := it_fun hI
  have hun := it_un hI
  have hnd := it_ndc hI
  have hS := k_ST_event tp l g a rB rT cI cJ cII cJJ nc nv ng kd vo nu nd en br bc un eu li tb cc0 cp cu cd tc ts tf ox ow ob ra rb gc gr gk gg gp gt sa sb x0 x1 n7 n6 n4 f7
  have hM := k_Mo_event l g bb cI cJ cZ f0 mn mv mg mk mo mu md ms mb mc m1 m2 m3 m4 we ud my ea od oo dn va ho wt cm co te tm gs gl rs rg rp rt x0 x1 (by omega) (by omega) (by omega)
  have ha : mevR mn mv x0 x1 = evR nc nv x0 x1 := by rw [n1, n3]; exact q_ev n4 x0 x1
  rw [ha] at hM
  refine ⟨_, _, _, hS, hM, ?_⟩
  have hc2 : (isI x1 (lN 1) (lN 10) = true ∧ ¬ x0 < lN 0 ∧ ¬ mv = 12 ∧ x0 ≤ x1) ↔ (isD x1 = true ∧ ¬ x0 < lN 0 ∧ nv < 12 ∧ x0 ≤ x1) := ⟨fun q => ⟨q.1, q.2.1, by omega, q.2.2.2⟩, fun q => ⟨q.1, q.2.1, by omega, q.2.2.2⟩⟩
  by_cases hc : isD x1 = true ∧ ¬ x0 < lN 0 ∧ nv < 12 ∧ x0 ≤ x1
  · rw [if_pos hc, if_pos (hc2.mpr hc)]
    exact jMk (it_event hI hc.1 hc.2.1 hc.2.2.1 hc.2.2.2) (ic_keep hC (Nat.le_succ _) (fun e _ h2 _ => va_up_ne _ _ (by omega)) (fun e _ h2 => va_up_ne _ _ (by omega))) (ik_keep hK (Nat.le_succ _) (fun k hk => va_up_ne _ _ (by omega))) hox hG hX
  · rw [if_neg hc, if_neg (fun q => hc (hc2.mp q))]
    exact jMk hI hC hK hox hG hX
set_option maxHeartbeats 4000000 in
set_option maxRecDepth 100000 in
theorem jA_gate (l : Launch) (g : va_G) (tp : Nat) (a rB rT bb : Nat → Nat) (cI cJ cII cJJ cZ : ClassId) : lwA_gate l g cI cJ cII cJJ cZ tp (a 0) (bb 0) (jR a rB rT bb cI cJ cII cJJ cZ) := by
  intro x0 x1 ws wm h
  refine jElim h ?_
  intro nc nv ng kd vo nu nd en br bc un eu li tb cc0 cp cu cd tc ts tf ox ow ob ra rb gc gr gk gg gp gt sa sb f0 mn mv mg mk mo mu md ms mb mc m1 m2 m3 m4 we ud my ea od oo dn va ho wt cm co te tm gs gl rs rg rp rt ews ewm hI hC hK hox hG hX
  subst ews
  subst ewm
  obtain ⟨n1, n2, n3, n4, n5, n6, n7, n8⟩ := it_num hI
  obtain ⟨f1, f2, f3, f4, f5, f6, f7, f8, f9, f10, f11, f12, f13, f14, f15⟩ := it_fun hI
  have hun := it_un hI
  have hnd := it_ndc hI
  have hS := k_ST_gate l g a rB rT cI cJ cII cJJ nc nv ng kd vo nu nd en br bc un eu li tb cc0 cp cu cd tc ts tf ox ow ob ra rb gc gr gk gg gp gt sa sb x0 x1 n7 n4 n6
  have hM := k_Mo_gate l g bb cI cJ cZ f0 mn mv mg mk mo mu md ms mb mc m1 m2 m3 m4 we ud my ea od oo dn va ho wt cm co te tm gs gl rs rg rp rt x0 x1 (by omega) (by omega) (by omega)
  have ha : mgaR mn mg x0 x1 = gaR nc ng x0 x1 := by rw [n1, n5]; exact q_ga n6 x0 x1
  rw [ha] at hM
  refine ⟨_, _, _, hS, hM, ?_⟩
  have hc2 : (mK x0 x1 = true ∧ ¬ mg = 20) ↔ (isK x0 x1 = true ∧ ng < 20) := by
    rw [q_K]
    exact ⟨fun q => ⟨q.1, by omega⟩, fun q => ⟨q.1, by omega⟩⟩
  by_cases hc : isK x0 x1 = true ∧ ng < 20
  · rw [if_pos hc, if_pos (hc2.mpr hc)]
    exact jMk (it_gate hI hc.1 hc.2) (ic_keep hC (Nat.le_succ _) (fun _ _ _ _ => rfl) (fun e _ h2 => va_up_ne _ _ (by omega))) hK hox hG hX
  · rw [if_neg hc, if_neg (fun q => hc (hc2.mp q))]
    exact jMk hI hC hK hox hG hX
set_option maxHeartbeats 4000000 in
set_option maxRecDepth 100000 in
theorem jA_below (l : Launch) (g : va_G) (tp : Nat) (a rB rT bb : Nat → Nat) (cI cJ cII cJJ cZ : ClassId) : lwA_below l g cI cJ cII cJJ cZ tp (a 0) (bb 0) (jR a rB rT bb cI cJ cII cJJ cZ) := by
  intro x0 x1 ws wm h
  refine jElim h ?_
  intro nc nv ng kd vo nu nd en br bc un eu li tb cc0 cp cu cd tc ts tf ox ow ob ra rb gc gr gk gg gp gt sa sb f0 mn mv mg mk mo mu md ms mb mc m1 m2 m3 m4 we ud my ea od oo dn va ho wt cm co te tm gs gl rs rg rp rt ews ewm hI hC hK hox hG hX
  subst ews
  subst ewm
  obtain ⟨n1, n2, n3, n4, n5, n6, n7, n8⟩ := it_num hI
  obtain ⟨f1, f2, f3, f4, f5, f6, f7, f8, f9, f10, f11, f12, f13, f14, f15⟩ := it_fun hI
  have hun := it_un hI
  have hnd := it_ndc hI
  have hS := k_ST_below l g a rB rT cI cJ cII cJJ nc nv ng kd vo nu nd en br bc un eu li tb cc0 cp cu cd tc ts tf ox ow ob ra rb gc gr gk gg gp gt sa sb x0 x1 n2 f5 f6 hun f7
  have hM := k_Mo_below l g bb cI cJ cZ f0 mn mv mg mk mo mu md ms mb mc m1 m2 m3 m4 we ud my ea od oo dn va ho wt cm co te tm gs gl rs rg rp rt x0 x1 (by omega) f1 f2 f3
  rw [q_be hI] at hM
  refine ⟨_, _, _, hS, hM, ?_⟩
  by_cases hx : isG nc kd x0 = true ∧ isN nc x1 = true
  · obtain ⟨-, a1, a2, a3⟩ := it_G hI hx.1
    obtain ⟨-, b1, b2⟩ := q_nat (a := 1) (by omega) hx.2 (by decide)
    have hmk := q_mkb hI ud a1 a2 b1 b2
    have hiM : iM mb x0.toNatClampNeg x1.toNatClampNeg (ms x0.toNatClampNeg) = iB br x0.toNatClampNeg x1.toNatClampNeg (bc x0.toNatClampNeg) := by
      have hbm := it_brm hI
      have ems : ms = bc := by
        obtain ⟨-, -, -, -, -, -, e_ms, -, -, -, -, -, -, -, -, -, -, -, -, -, -, -, -, -, -, -, -, -, -, -, -, -⟩ := hI
        exact e_ms
      rw [ems]
      exact q_iM _ (fun i hi => hbm _ i hi)
    have hms : ms x0.toNatClampNeg = bc x0.toNatClampNeg := by
      obtain ⟨-, -, -, -, -, -, e_ms, -, -, -, -, -, -, -, -, -, -, -, -, -, -, -, -, -, -, -, -, -, -, -, -, -⟩ := hI
      rw [e_ms]
    have hb10 := f5 x0.toNatClampNeg
    have hgM : miG mn mk x0 = true ∧ isI x1.toInt64 (lN 1) (lN mn) = true := by
      rw [it_isG hI, n1, q_isN (by omega)]
      exact hx
    by_cases hc : iB br x0.toNatClampNeg x1.toNatClampNeg (bc x0.toNatClampNeg) = false ∧ bc x0.toNatClampNeg < 10 ∧ ¬ x1.toNatClampNeg = x0.toNatClampNeg ∧ (un x1.toNatClampNeg).testBit x0.toNatClampNeg = false
    · rw [if_pos ⟨hx.1, hx.2, hc⟩, if_pos ⟨hgM.1, hgM.2, by rw [hiM]; exact hc.1, by rw [hms]; omega, hmk.mpr hc.2.2⟩]
      refine jMk (it_below hI a1 a2 a3 b1 b2 hc.2.1 hc.2.2.1 hc.2.2.2) (ic_keep hC (Nat.le_refl _) (fun e _ _ e0 => it_beu hI a3 hc.2.2.1 hc.2.2.2 e0) (fun _ _ _ => rfl)) hK hox hG hX
    · rw [if_neg (fun q => hc q.2.2), if_neg (fun q => hc ⟨by rw [← hiM]; exact q.2.2.1, by have := q.2.2.2.1; rw [hms] at this; omega, hmk.mp q.2.2.2.2⟩)]
      split
      · exact jMk hI hC hK hox hG hX
      · exact jMk hI hC hK hox hG hX
  · rw [if_neg (fun q => hx ⟨q.1, q.2.1⟩), if_neg (fun q => hx ⟨by rw [← it_isG hI]; exact q.1, by rw [← q_isN (by omega), ← n1]; exact q.2.1⟩)]
    split
    · exact jMk hI hC hK hox hG hX
    · exact jMk hI hC hK hox hG hX
set_option maxHeartbeats 4000000 in
set_option maxRecDepth 100000 in
theorem jA_common (l : Launch) (g : va_G) (tp : Nat) (a rB rT bb : Nat → Nat) (cI cJ cII cJJ cZ : ClassId) : lwA_common l g cI cJ cII cJJ cZ tp (a 0) (bb 0) (jR a rB rT bb cI cJ cII cJJ cZ) := by
  intro x0 x1 x2 x3 ws wm h
  refine jElim h ?_
  intro nc nv ng kd vo nu nd en br bc un eu li tb cc0 cp cu cd tc ts tf ox ow ob ra rb gc gr gk gg gp gt sa sb f0 mn mv mg mk mo mu md ms mb mc m1 m2 m3 m4 we ud my ea od oo dn va ho wt cm co te tm gs gl rs rg rp rt ews ewm hI hC hK hox hG hX
  subst ews
  subst ewm
  obtain ⟨n1, n2, n3, n4, n5, n6, n7, n8⟩ := it_num hI
  obtain ⟨f1, f2, f3, f4, f5, f6, f7, f8, f9, f10, f11, f12, f13, f14, f15⟩ := it_fun hI
  have hun := it_un hI
  have hnd := it_ndc hI
  have hS := k_ST_common l g a rB rT cI cJ cII cJJ nc nv ng kd vo nu nd en br bc un eu li tb cc0 cp cu cd tc ts tf ox ow ob ra rb gc gr gk gg gp gt sa sb x0 x1 x2 x3 n2 hC.2.1 f7
  have hM := k_Mo_common l g bb cI cJ cZ f0 mn mv mg mk mo mu md ms mb mc m1 m2 m3 m4 we ud my ea od oo dn va ho wt cm co te tm gs gl rs rg rp rt x0 x1 x2 x3 (by omega) f3 (by rw [hC.1]; exact hC.2.1)
  have ha : mcoR mn mk mc x0 x1 x2 x3 = coR nc kd cc0 x0 x1 x2 x3 := by rw [hC.1]; exact q_co hI hC.2.1 x0 x1 x2 x3
  rw [ha] at hM
  refine ⟨_, _, _, hS, hM, ?_⟩
  have hcm := hC.1
  have hc2 : (miE mn mk x0 = true ∧ miE mn mk x1 = true ∧ ¬ x0 = x1 ∧ isI x3 (lN 1) (lN 10) = true ∧ isI x2 (lN 0) x3 = true ∧ ¬ mc = 4) ↔ (isE nc kd x0 = true ∧ isE nc kd x1 = true ∧ ¬ x0 = x1 ∧ isD x3 = true ∧ ¬ x2 < lN 0 ∧ x2 ≤ x3 ∧ cc0 < 4) := by
    rw [it_isE hI, it_isE hI, show isI x3 (lN 1) (lN 10) = isD x3 from rfl]
    have e2 : isI x2 (lN 0) x3 = true ↔ (¬ x2 < lN 0 ∧ x2 ≤ x3) := by
      simp only [isI, Bool.and_eq_true, decide_eq_true_eq, Int64.lt_iff_toInt_lt, Int64.le_iff_toInt_le]
      omega
    rw [e2]
    have h4 := hC.2.1
    exact ⟨fun q => ⟨q.1, q.2.1, q.2.2.1, q.2.2.2.1, q.2.2.2.2.1.1, q.2.2.2.2.1.2, by omega⟩, fun q => ⟨q.1, q.2.1, q.2.2.1, q.2.2.2.1, ⟨q.2.2.2.2.1, q.2.2.2.2.2.1⟩, by omega⟩⟩
  by_cases hc : isE nc kd x0 = true ∧ isE nc kd x1 = true ∧ ¬ x0 = x1 ∧ isD x3 = true ∧ ¬ x2 < lN 0 ∧ x2 ≤ x3 ∧ cc0 < 4
  · rw [if_pos hc, if_pos (hc2.mpr hc)]
    obtain ⟨-, a1, a2, a3⟩ := it_E hI hc.1
    obtain ⟨-, b1, b2, b3⟩ := it_E hI hc.2.1
    have hdn : 1 ≤ lnat x3 ∧ lnat x3 ≤ 10 ∧ lnat x2 ≤ lnat x3 := by
      have hd := hc.2.2.2.1
      have hud := hc.2.2.2.2.2.1
      unfold isD at hd
      simp only [Bool.and_eq_true, decide_eq_true_eq, Int64.lt_iff_toInt_lt, lN_toInt (show 1 < 2 ^ 31 by decide), lN_toInt (show 10 < 2 ^ 31 by decide)] at hd
      rw [Int64.le_iff_toInt_le] at hud
      unfold lnat
      omega
    exact jMk hI (ic_add hC f7 hc.2.2.2.2.2.2 n2 a1 a2 a3 b1 b2 b3 hdn.2.2 hdn.1 hdn.2.1) hK hox hG hX
  · rw [if_neg hc, if_neg (fun q => hc (hc2.mp q))]
    exact jMk hI hC hK hox hG hX
set_option maxHeartbeats 4000000 in
set_option maxRecDepth 100000 in
theorem jA_cut (l : Launch) (g : va_G) (tp : Nat) (a rB rT bb : Nat → Nat) (cI cJ cII cJJ cZ : ClassId) : lwA_cut l g cI cJ cII cJJ cZ tp (a 0) (bb 0) (jR a rB rT bb cI cJ cII cJJ cZ) := by
  intro x0 x1 ws wm h
  refine jElim h ?_
  intro nc nv ng kd vo nu nd en br bc un eu li tb cc0 cp cu cd tc ts tf ox ow ob ra rb gc gr gk gg gp gt sa sb f0 mn mv mg mk mo mu md ms mb mc m1 m2 m3 m4 we ud my ea od oo dn va ho wt cm co te tm gs gl rs rg rp rt ews ewm hI hC hK hox hG hX
  subst ews
  subst ewm
  obtain ⟨k1, k2, k3, k4, k5, k6⟩ := id hK
  have hS := k_ST_cut l g a rB rT cI cJ cII cJJ nc nv ng kd vo nu nd en br bc un eu li tb cc0 cp cu cd tc ts tf ox ow ob ra rb gc gr gk gg gp gt sa sb x0 x1 k2 k4
  have hM := k_Mo_cut l g bb cI cJ cZ f0 mn mv mg mk mo mu md ms mb mc m1 m2 m3 m4 we ud my ea od oo dn va ho wt cm co te tm gs gl rs rg rp rt x0 x1 (by omega) k3 k5
  rw [q_cut hK] at hM
  refine ⟨_, _, _, hS, hM, ?_⟩
  exact jMk hI hC hK hox hG hX
set_option maxHeartbeats 4000000 in
set_option maxRecDepth 100000 in
theorem jA_plain (l : Launch) (g : va_G) (tp : Nat) (a rB rT bb : Nat → Nat) (cI cJ cII cJJ cZ : ClassId) : lwA_plain l g cI cJ cII cJJ cZ tp (a 0) (bb 0) (jR a rB rT bb cI cJ cII cJJ cZ) := by
  intro x0 ws wm h
  refine jElim h ?_
  intro nc nv ng kd vo nu nd en br bc un eu li tb cc0 cp cu cd tc ts tf ox ow ob ra rb gc gr gk gg gp gt sa sb f0 mn mv mg mk mo mu md ms mb mc m1 m2 m3 m4 we ud my ea od oo dn va ho wt cm co te tm gs gl rs rg rp rt ews ewm hI hC hK hox hG hX
  subst ews
  subst ewm
  obtain ⟨n1, n2, n3, n4, n5, n6, n7, n8⟩ := it_num hI
  obtain ⟨f1, f2, f3, f4, f5, f6, f7, f8, f9, f10, f11, f12, f13, f14, f15⟩ := it_fun hI
  have hun := it_un hI
  have hnd := it_ndc hI
  have hS := k_ST_plain l g a rB rT cI cJ cII cJJ nc nv ng kd vo nu nd en br bc un eu li tb cc0 cp cu cd tc ts tf ox ow ob ra rb gc gr gk gg gp gt sa sb x0 n2 hun f7 f5 f6 f8
  have hM := k_Mo_plain l g bb cI cJ cZ f0 mn mv mg mk mo mu md ms mb mc m1 m2 m3 m4 we ud my ea od oo dn va ho wt cm co te tm gs gl rs rg rp rt x0 (by omega) f1 f2 n8 hnd f3 f4 hX.2.2.1
  have ha : (if miG mn mk x0 = false then (-2 : Int32) else nI (plF (tA mk ms mo mb (pE mk mb ms mn ud dn ea x0.toNatClampNeg).2.2 (pW mk mb ms mn ud dn ea oo x0.toNatClampNeg).2.2 (pE mk mb ms mn ud dn ea x0.toNatClampNeg).2.1 (pW mk mb ms mn ud dn ea oo x0.toNatClampNeg).2.1 x0.toNatClampNeg va ho).2 (2 ^ (pE mk mb ms mn ud dn ea x0.toNatClampNeg).2.1))) = (if isG nc kd x0 = false then (-2 : Int32) else nI (ctF (fsF tb br kd vo bc (luS (luC nc kd un x0.toNatClampNeg) nc (0, li) 33).2 (eu x0.toNatClampNeg / 2 ^ 6) (luS (luC nc kd un x0.toNatClampNeg) nc (0, li) 33).1) x0.toNatClampNeg (eu x0.toNatClampNeg) (2 ^ popc (eu x0.toNatClampNeg) 12))) := by
    rw [it_isG hI]
    by_cases hg : isG nc kd x0 = true
    · obtain ⟨-, a1, a2, a3⟩ := it_G hI hg
      rw [if_neg (by rw [hg]; decide), if_neg (by rw [hg]; decide), (it_events hI a1 a2 ud dn ea).1]
      have := ct_pl (tb := (fsF tb br kd vo bc (luS (luC nc kd un x0.toNatClampNeg) nc (0, li) 33).2 (eu x0.toNatClampNeg / 2 ^ 6) (luS (luC nc kd un x0.toNatClampNeg) nc (0, li) 33).1)) (x := x0.toNatClampNeg) (w := eu x0.toNatClampNeg) (ho := (tA mk ms mo mb (pE mk mb ms mn ud dn ea x0.toNatClampNeg).2.2 (pW mk mb ms mn ud dn ea oo x0.toNatClampNeg).2.2 (pE mk mb ms mn ud dn ea x0.toNatClampNeg).2.1 (pW mk mb ms mn ud dn ea oo x0.toNatClampNeg).2.1 x0.toNatClampNeg va ho).2) (2 ^ popc (eu x0.toNatClampNeg) 12) (fun s hs => it_truth hI a1 a2 a3 li ud dn ea oo va ho hs)
      rw [(it_events hI a1 a2 ud dn ea).1] at this
      rw [this]
    · rw [if_pos (by simpa using hg), if_pos (by simpa using hg)]
  rw [ha] at hM
  refine ⟨_, _, _, hS, hM, ?_⟩
  by_cases hg : isG nc kd x0 = true
  · obtain ⟨-, a1, a2, a3⟩ := it_G hI hg
    rw [if_pos hg, if_pos (by rw [it_isG hI]; exact hg)]
    exact jMk (it_work hI a1 a2 li) hC hK hox hG ⟨hX.1, hX.2.1, fun j => taS_le hX.2.2.1 _ j, prE_all hX.2.2.2 mn (by omega)⟩
  · rw [if_neg hg, if_neg (by rw [it_isG hI]; exact hg)]
    exact jMk hI hC hK hox hG hX
set_option maxHeartbeats 4000000 in
set_option maxRecDepth 100000 in
theorem jA_cover (l : Launch) (hfl : l.flags = flags0) (g : va_G) (tp : Nat) (a rB rT bb : Nat → Nat) (cI cJ cII cJJ cZ : ClassId) : lwA_cover l g cI cJ cII cJJ cZ tp (a 0) (bb 0) (jR a rB rT bb cI cJ cII cJJ cZ) := by
  intro x0 x1 ws wm h
  refine jElim h ?_
  intro nc nv ng kd vo nu nd en br bc un eu li tb cc0 cp cu cd tc ts tf ox ow ob ra rb gc gr gk gg gp gt sa sb f0 mn mv mg mk mo mu md ms mb mc m1 m2 m3 m4 we ud my ea od oo dn va ho wt cm co te tm gs gl rs rg rp rt ews ewm hI hC hK hox hG hX
  subst ews
  subst ewm
  obtain ⟨rfl, rfl, rfl, rfl, rfl, rfl, g1, g2, g3, g4, g5, g6, g7⟩ := hG
  have hM := k_Mo_cover l g bb cI cJ cZ f0 mn mv mg mk mo mu md ms mb mc m1 m2 m3 m4 we ud my ea od oo dn va ho wt cm co te tm gs gl rs rg rp rt x0 x1 g2 g4 g5 g6
  have hz := q_mcA (gg := rg) (gt := rt) g5 g7 x0
  by_cases h0 : rP rp x0 rs = 0
  · left
    rw [h0] at hz
    rw [if_pos hz] at hM
    exact ⟨k_ST_coverT l hfl g a rB rT cI cJ cII cJJ nc nv ng kd vo nu nd en br bc un eu li tb cc0 cp cu cd tc ts tf ox ow ob ra rb gs rs gl rg rp rt sa sb x0 x1 g2 h0, _, _, _, hM, ⟨_, rfl⟩, k_Mo_thrown l g bb cI cJ cZ 1 mn mv mg mk mo mu md ms mb mc m1 m2 m3 m4 we ud my ea od oo dn va ho wt cm co te tm gs gl rs rg rp rt, jMk hI hC hK hox ⟨rfl, rfl, rfl, rfl, rfl, rfl, g1, g2, g3, g4, g5, g6, g7⟩ hX⟩
  · right
    have hpos : 0 < rP rp x0 rs := Nat.pos_of_ne_zero h0
    rw [q_cov g2 g5 g7 x0 x1 hpos, if_neg (by rw [hz]; exact h0)] at hM
    exact ⟨_, _, _, _, k_ST_cover l g a rB rT cI cJ cII cJJ nc nv ng kd vo nu nd en br bc un eu li tb cc0 cp cu cd tc ts tf ox ow ob ra rb gs rs gl rg rp rt sa sb x0 x1 g2 g6 hpos, hM, ⟨_, rfl⟩, k_Mo_thrown l g bb cI cJ cZ 0 mn mv mg mk mo mu md ms mb mc m1 m2 m3 m4 we ud my ea od oo dn va ho wt cm co te tm gs gl rs rg rp rt, jMk hI hC hK hox ⟨rfl, rfl, rfl, rfl, rfl, rfl, g1, g2, g3, g4, g5, g6, g7⟩ hX⟩
