set_option maxHeartbeats 4000000 in
set_option maxRecDepth 100000 in
theorem jA_grade (l : Launch) (g : va_G) (tp : Nat) (a rB rT bb : Nat → Nat) (cI cJ cII cJJ cZ : ClassId) : lwA_grade l g cI cJ cII cJJ cZ tp (a 0) (bb 0) (jR a rB rT bb cI cJ cII cJJ cZ) := by
  intro x0 x1 x2 ws wm h
  refine jElim h ?_
  intro nc nv ng kd vo nu nd en br bc un eu li tb cc0 cp cu cd tc ts tf ox ow ob ra rb gc gr gk gg gp gt sa sb f0 mn mv mg mk mo mu md ms mb mc m1 m2 m3 m4 we ud my ea od oo dn va ho wt cm co te tm gs gl rs rg rp rt ews ewm hI hC hK hox hG hX
  subst ews
  subst ewm
  have hS := k_ST_grade l g a rB rT cI cJ cII cJJ nc nv ng kd vo nu nd en br bc un eu li tb cc0 cp cu cd tc ts tf ox ow ob ra rb gc gr gk gg gp gt sa sb x0 x1 x2
  have hM := k_Mo_grade l g bb cI cJ cZ f0 mn mv mg mk mo mu md ms mb mc m1 m2 m3 m4 we ud my ea od oo dn va ho wt cm co te tm gs gl rs rg rp rt x0 x1 x2
  rw [q_gr] at hM
  refine ⟨_, _, _, hS, hM, ?_⟩
  exact jMk hI hC hK hox hG hX
set_option maxHeartbeats 4000000 in
set_option maxRecDepth 100000 in
theorem jA_exact (l : Launch) (g : va_G) (tp : Nat) (a rB rT bb : Nat → Nat) (cI cJ cII cJJ cZ : ClassId) : lwA_exact l g cI cJ cII cJJ cZ tp (a 0) (bb 0) (jR a rB rT bb cI cJ cII cJJ cZ) := by
  intro  ws wm h
  refine jElim h ?_
  intro nc nv ng kd vo nu nd en br bc un eu li tb cc0 cp cu cd tc ts tf ox ow ob ra rb gc gr gk gg gp gt sa sb f0 mn mv mg mk mo mu md ms mb mc m1 m2 m3 m4 we ud my ea od oo dn va ho wt cm co te tm gs gl rs rg rp rt ews ewm hI hC hK hox hG hX
  subst ews
  subst ewm
  subst hox
  have hS := k_ST_exact l g a rB rT cI cJ cII cJJ nc nv ng kd vo nu nd en br bc un eu li tb cc0 cp cu cd tc ts tf ox ow ob ra rb gc gr gk gg gp gt sa sb 
  have hM := k_Mo_exact l g bb cI cJ cZ f0 mn mv mg mk mo mu md ms mb mc m1 m2 m3 m4 ox ud my ea od oo dn va ho wt cm co te tm gs gl rs rg rp rt 
  refine ⟨_, _, _, hS, hM, ?_⟩
  exact jMk hI hC hK rfl hG hX
set_option maxHeartbeats 4000000 in
set_option maxRecDepth 100000 in
theorem jA_open (l : Launch) (g : va_G) (tp : Nat) (a rB rT bb : Nat → Nat) (cI cJ cII cJJ cZ : ClassId) : lwA_open l g cI cJ cII cJJ cZ tp (a 0) (bb 0) (jR a rB rT bb cI cJ cII cJJ cZ) := by
  intro x0 ws wm h
  refine jElim h ?_
  intro nc nv ng kd vo nu nd en br bc un eu li tb cc0 cp cu cd tc ts tf ox ow ob ra rb gc gr gk gg gp gt sa sb f0 mn mv mg mk mo mu md ms mb mc m1 m2 m3 m4 we ud my ea od oo dn va ho wt cm co te tm gs gl rs rg rp rt ews ewm hI hC hK hox hG hX
  subst ews
  subst ewm
  obtain ⟨rfl, rfl, rfl, rfl, rfl, rfl, g1, g2, g3, g4, g5, g6, g7⟩ := hG
  have hS := k_ST_open l g a rB rT cI cJ cII cJJ nc nv ng kd vo nu nd en br bc un eu li tb cc0 cp cu cd tc ts tf ox ow ob ra rb gs rs gl rg rp rt sa sb x0 g1 g2 g3 g4 g6
  have hM := k_Mo_open l g bb cI cJ cZ f0 mn mv mg mk mo mu md ms mb mc m1 m2 m3 m4 we ud my ea od oo dn va ho wt cm co te tm gs gl rs rg rp rt x0 g1 g2 g3 g4 g5 g6
  rw [q_open g1 g5] at hM
  refine ⟨_, _, _, hS, hM, ?_⟩
  exact jMk hI hC hK hox ⟨rfl, rfl, rfl, rfl, rfl, rfl, g1, g2, g3, g4, g5, g6, g7⟩ hX
set_option maxHeartbeats 4000000 in
set_option maxRecDepth 100000 in
theorem jA_goal (l : Launch) (g : va_G) (tp : Nat) (a rB rT bb : Nat → Nat) (cI cJ cII cJJ cZ : ClassId) : lwA_goal l g cI cJ cII cJJ cZ tp (a 0) (bb 0) (jR a rB rT bb cI cJ cII cJJ cZ) := by
  intro x0 ws wm h
  refine jElim h ?_
  intro nc nv ng kd vo nu nd en br bc un eu li tb cc0 cp cu cd tc ts tf ox ow ob ra rb gc gr gk gg gp gt sa sb f0 mn mv mg mk mo mu md ms mb mc m1 m2 m3 m4 we ud my ea od oo dn va ho wt cm co te tm gs gl rs rg rp rt ews ewm hI hC hK hox hG hX
  subst ews
  subst ewm
  obtain ⟨rfl, rfl, rfl, rfl, rfl, rfl, g1, g2, g3, g4, g5, g6, g7⟩ := hG
  have hS := k_ST_goal l g a rB rT cI cJ cII cJJ nc nv ng kd vo nu nd en br bc un eu li tb cc0 cp cu cd tc ts tf ox ow ob ra rb gs rs gl rg rp rt sa sb x0 g1
  have hM := k_Mo_goal l g bb cI cJ cZ f0 mn mv mg mk mo mu md ms mb mc m1 m2 m3 m4 we ud my ea od oo dn va ho wt cm co te tm gs gl rs rg rp rt x0 g1
  rw [q_go g1] at hM
  refine ⟨_, _, _, hS, hM, ?_⟩
  have hc2 : (isI x0.toInt64 (lN 0) (lN 4) = true ∧ ¬ gs = 30) ↔ (isW x0 (nI 0) (nI 4) = true ∧ gs < 30) := by
    rw [q_isI (by decide) (by decide)]
    exact ⟨fun q => ⟨q.1, by omega⟩, fun q => ⟨q.1, by omega⟩⟩
  by_cases hc : isW x0 (nI 0) (nI 4) = true ∧ gs < 30
  · rw [if_pos hc, if_pos (hc2.mpr hc)]
    obtain ⟨-, -, hb⟩ := q_nat (by decide) hc.1 (by decide)
    exact jMk hI hC hK hox ⟨rfl, rfl, rfl, rfl, rfl, rfl, by omega, g2, up_lt g3 (by omega), g4, g5, g6, g7⟩ hX
  · rw [if_neg hc, if_neg (fun q => hc (hc2.mp q))]
    exact jMk hI hC hK hox ⟨rfl, rfl, rfl, rfl, rfl, rfl, g1, g2, g3, g4, g5, g6, g7⟩ hX
set_option maxHeartbeats 4000000 in
set_option maxRecDepth 100000 in
theorem jA_trace (l : Launch) (g : va_G) (tp : Nat) (a rB rT bb : Nat → Nat) (cI cJ cII cJJ cZ : ClassId) : lwA_trace l g cI cJ cII cJJ cZ tp (a 0) (bb 0) (jR a rB rT bb cI cJ cII cJJ cZ) := by
  intro x0 x1 x2 ws wm h
  refine jElim h ?_
  intro nc nv ng kd vo nu nd en br bc un eu li tb cc0 cp cu cd tc ts tf ox ow ob ra rb gc gr gk gg gp gt sa sb f0 mn mv mg mk mo mu md ms mb mc m1 m2 m3 m4 we ud my ea od oo dn va ho wt cm co te tm gs gl rs rg rp rt ews ewm hI hC hK hox hG hX
  subst ews
  subst ewm
  obtain ⟨rfl, rfl, rfl, rfl, rfl, rfl, g1, g2, g3, g4, g5, g6, g7⟩ := hG
  have hS := k_ST_trace l g a rB rT cI cJ cII cJJ nc nv ng kd vo nu nd en br bc un eu li tb cc0 cp cu cd tc ts tf ox ow ob ra rb gs rs gl rg rp rt sa sb x0 x1 x2 g1 g2 g4 g5 g6
  have hM := k_Mo_trace l g bb cI cJ cZ f0 mn mv mg mk mo mu md ms mb mc m1 m2 m3 m4 we ud my ea od oo dn va ho wt cm co te tm gs gl rs rg rp rt x0 x1 x2 g1 g2 g4 g5 g6
  rw [q_tr g1 g2] at hM
  refine ⟨_, _, _, hS, hM, ?_⟩
  have hc2 : (isI x0.toInt64 (lN 1) (lN gs) = true ∧ isI x1.toInt64 (lN 1) (lN 50) = true ∧ isI x2.toInt64 (lN 0) (lN 50) = true ∧ hR rg rp rt x0.toNatClampNeg x1.toNatClampNeg x2.toNatClampNeg rs = false ∧ ¬ rs = 100) ↔ (isW x0 (nI 1) (nI gs) = true ∧ isW x1 (nI 1) (nI 50) = true ∧ isW x2 (nI 0) (nI 50) = true ∧ hR rg rp rt x0.toNatClampNeg x1.toNatClampNeg x2.toNatClampNeg rs = false ∧ rs < 100) := by
    rw [q_isI (by decide) (by omega), q_isI (by decide) (by decide), q_isI (by decide) (by decide)]
    exact ⟨fun q => ⟨q.1, q.2.1, q.2.2.1, q.2.2.2.1, by omega⟩, fun q => ⟨q.1, q.2.1, q.2.2.1, q.2.2.2.1, by omega⟩⟩
  by_cases hc : isW x0 (nI 1) (nI gs) = true ∧ isW x1 (nI 1) (nI 50) = true ∧ isW x2 (nI 0) (nI 50) = true ∧ hR rg rp rt x0.toNatClampNeg x1.toNatClampNeg x2.toNatClampNeg rs = false ∧ rs < 100
  · rw [if_pos hc, if_pos (hc2.mpr hc)]
    obtain ⟨-, -, b0⟩ := q_nat (by omega) hc.1 (by decide)
    obtain ⟨-, a1, b1⟩ := q_nat (by decide) hc.2.1 (by decide)
    obtain ⟨-, -, b2⟩ := q_nat (by decide) hc.2.2.1 (by decide)
    have hr := hc.2.2.2.2
    refine jMk hI hC hK hox ⟨rfl, rfl, rfl, rfl, rfl, rfl, g1, by omega, g3, up_lt g4 (by omega), up_lt g5 (by omega), up_lt g6 (by omega), fun i hi => ?_⟩ hX
    by_cases e : i = rs
    · rw [e, va_up_self]; exact ⟨a1, b1⟩
    · rw [va_up_ne _ _ e]; exact g7 i (by omega)
  · rw [if_neg hc, if_neg (fun q => hc (hc2.mp q))]
    exact jMk hI hC hK hox ⟨rfl, rfl, rfl, rfl, rfl, rfl, g1, g2, g3, g4, g5, g6, g7⟩ hX
