/-! MONTHS -/
def moV (V : CV) (N : Nat) : CV := (V.1, V.2.1, V.2.2.1 + nI N, V.2.2.2.1, fun k => gIt V.2.2.2.1 N (V.2.2.2.2 k))
def noMo (a : Int32) (S : SV) : Int32 := if btw a 1 60 = 0 then (if S.1.2.2.1 + a ≤ 999 then 0 else -6) else btw a 1 60
theorem moV_ok {V : CV} {N : Nat} (hv : VOk V) (hN : N ≤ 60) (h : V.2.2.1 + nI N ≤ 999) : VOk (moV V N) := by
  obtain ⟨h1, h2, h3, h4, h5⟩ := hv
  have e : (V.2.2.1 + nI N).toInt = V.2.2.1.toInt + N := by
    rw [i32_add] <;> rw [nI_toInt (by omega)] <;> omega
  rw [i32_le, l999, e] at h
  refine ⟨h1, h2, ⟨by show 0 ≤ (V.2.2.1 + nI N).toInt; rw [e]; omega, by show (V.2.2.1 + nI N).toInt ≤ 999; rw [e]; omega⟩, h4, fun k hk => ?_⟩
  exact (show GI V.1 (V.2.2.2.2 k) from h5 k hk).it h4.m h1 N
theorem op_months (a : Int32) : OpI (fun s => f_X_months s a) (fun s => f_R_months s a) := by
  refine OpI.m (mx' := fun s => bv (f_P_remember s 0) fun s7 => bv (f_C_pass s7 0 a) fun s9 => f_C_allWorth s9 0) (mr := fun s => bv (f_R_keepsBack s) fun s7 => bv (f_R_goes s7 a) fun s9 => f_R_sum s9 182 (s9 176 12)) (noMo a) (fun S => sm S.1.2.1 (fun k => gW (gIt S.1.2.2.2.1 (ix a) (S.1.2.2.2.2 k)))) (fun S => aft S (moV S.1 (ix a))) (fun S => ?_) ?_ ?_ ?_ ?_
  · unfold noMo
    by_cases c : btw a 1 60 = 0
    · rw [if_pos c]
      by_cases d : S.1.2.2.1 + a ≤ 999
      · rw [if_pos d]; exact Or.inl rfl
      · rw [if_neg d]; exact Or.inr (Or.inr (Or.inr (Or.inr (Or.inr rfl))))
    · rw [if_neg c]; exact Codes.b _ _ _
  · intro s S h
    unfold f_X_months k_X_months_30 noMo
    simp only [between_e, bn_s, bn_eta, h.1.2.2]
    by_cases c : btw a 1 60 = 0
    · by_cases d : S.1.2.2.1 + a ≤ 999
      · simp only [c, d, if_true]
      · simp only [c, d, if_true, if_false]
    · simp only [c, if_false]
  · intro s S ho h
    show f_R_months s a = _
    unfold f_R_months k_R_months_27 noMo
    simp only [bound_e, bn_s, bn_eta, h.1.2.2]
    by_cases c : btw a 1 60 = 0
    · by_cases d : S.1.2.2.1 + a ≤ 999
      · simp only [c, d, if_true]
      · simp only [c, d, if_true, if_false]
    · simp only [c, if_false]
  · intro s S h e
    have hv := h.2.1
    have hm := hv.2.1
    have e1 : btw a 1 60 = 0 ∧ S.1.2.2.1 + a ≤ 999 := by
      unfold noMo at e
      by_cases c : btw a 1 60 = 0
      · rw [if_pos c] at e
        by_cases d : S.1.2.2.1 + a ≤ 999
        · exact ⟨c, d⟩
        · rw [if_neg d] at e; exact absurd e (by decide)
      · rw [if_neg c] at e; exact absurd e c
    obtain ⟨N, hN1, hN, rfl⟩ := btw_0 (lo := 1) (hi := 60) (by omega) (by omega) e1.1
    obtain ⟨s1, a1, a2, a3⟩ := remember_e h
    have h1 : HC s1 0 S.1 := a2.1
    obtain ⟨s2, c1, c2, c3, c4, c5, c6⟩ := pass_e (c := 0) (N := N) h1.1 h1.2.1 (fun q _ => rfl) hv.M.n hv.H hv.1 hv.2.1 (by omega) hN
    rw [ix_nI (by omega)]
    show ∃ s', (bv (f_P_remember s 0) fun s7 => _) = _ ∧ _
    rw [a1, bv_s, c1, bv_s, allWorth_e c3 hm]
    exact ⟨s2, rfl, a2.now (fun z j hz => c6 z j hz) ⟨c2, c3, by rw [c5, h1.2.2]; rfl⟩ (moV_ok hv hN e1.2), fun z j hz => by rw [c6 z j (by unfold own; omega)]; exact a3 z j hz⟩
  · intro s S ho h e
    have hv := ho.1
    have hm := hv.2.1
    have e1 : btw a 1 60 = 0 := by
      unfold noMo at e
      by_cases c : btw a 1 60 = 0
      · exact c
      · rw [if_neg c] at e; exact absurd e c
    obtain ⟨N, hN1, hN, rfl⟩ := btw_0 (lo := 1) (hi := 60) (by omega) (by omega) e1
    obtain ⟨s1, a1, a2, a3⟩ := keepsBack_e h ho
    have h1 : RV s1 S.1 := a2.1
    obtain ⟨s2, c1, c2, c3, c4, c5, c6⟩ := goes_e (N := N) (B := s1 188) h1.1 h1.2.1 (fun q _ => rfl) hv.M hv.1 hm hv.G hN
    rw [ix_nI (by omega)]
    show ∃ s', (bv (f_R_keepsBack s) fun s7 => _) = _ ∧ _
    rw [a1, bv_s, c1, bv_s, RsumW_e c3 hm]
    exact ⟨s2, rfl, a2.now ho.pushed ⟨c2, c3, by rw [c5, h1.2.2]; rfl⟩ (fun z j y1 y2 => c6 z j (by omega) (by omega)), fun z j hz => by rw [c6 z j (by omega) (by omega)]; exact a3 z j hz⟩
