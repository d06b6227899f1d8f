/-! YEAR -/
theorem op_year : OpI (fun s => f_X_year s) (fun s => f_R_year s) := by
  refine OpI.q0 (fun S => sm S.1.2.1 (fun k => gW (gIt S.1.2.2.2.1 12 (S.1.2.2.2.2 k))) - sm S.1.2.1 (fun k => gW (S.1.2.2.2.2 k))) ?_ ?_
  · intro s S h
    have hv := h.2.1
    obtain ⟨s1, a1, a2, a3, a4, a5⟩ := recall_e h.1 hv
    obtain ⟨s2, c1, c2, c3, c4, c5, c6⟩ := pass_e (N := 12) a2.1 a2.2.1 a3 hv.M.n hv.H hv.1 hv.2.1 (by omega) (by omega)
    have h0 := a5.fr hv c6 (by omega) (by omega) (by omega)
    have c1' : f_C_pass s1 2 12 = some s2 := c1
    unfold f_X_year f_M_worthOfAYear
    simp only [bn_eta, a1, bn_s, c1', bv_s, allWorth_e c3 hv.2.1, allWorth_e h0.2.1 hv.2.1]
    exact ⟨s2, rfl, (a4.tr c6).q⟩
  · intro s S ho h
    have hv := ho.1
    obtain ⟨s1, a1, a2, a3⟩ := worthInA_e (N := 12) h.1 hv h.2.1 (by omega)
    have a1' : f_R_worthIn s (-9) 12 = some (_, s1) := a1
    unfold f_R_year
    rw [a1', bn_s, RsumW_e a2.2.1 hv.2.1, bn_s]
    exact ⟨s1, rfl, a2, a3.q (by omega) (by omega)⟩
