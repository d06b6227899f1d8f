/-! MEET, STICKS -/
def metS (F : Nat → FV) : Nat → Nat → GV → GV → Int32
  | 0, _, _, _ => -9
  | d + 1, m, g, h => if gH g = gH h then nI m else metS F d (m + 1) (stepG F g) (stepG F h)
theorem twN_c (m a b : Int32) : twN m a b = 0 ∨ twN m a b = -1 := by
  unfold twN fst3
  rcases gNo_c m a with h | h
  · rcases gNo_c m b with h2 | h2
    · rw [h, h2]
      simp only [if_true]
      by_cases h3 : a = b
      · rw [if_pos h3]; exact Or.inr rfl
      · rw [if_neg h3]; exact Or.inl rfl
    · rw [h, h2]; exact Or.inr rfl
  · rw [h]; exact Or.inr rfl
theorem twN_m1 {m a b : Int32} (h : ¬ twN m a b = 0) : twN m a b = -1 := by
  rcases twN_c m a b with c | c
  · exact absurd c h
  · exact c
theorem Rn_meet (s : Mm) (a b : Int32) : f_R_meet s a b = if twN (s 176 12) a b = 0 then (bv (f_R_thinks s) fun s17 => k_R_meet_37 KF a b (-9) 0 s17) else f_R_no s (twN (s 176 12) a b) := by
  by_cases c : twN (s 176 12) a b = 0
  · rw [if_pos c]
    unfold f_R_meet
    simp only [isGift_e, bn_s, bn_eta]
    unfold twN gNo fst3 at c
    by_cases c1 : inN (s 176 12) a = 0
    · simp [c1] at c
    · by_cases c2 : inN (s 176 12) b = 0
      · simp [c1, c2] at c
      · by_cases c3 : a = b
        · simp [c1, c2, c3] at c
        · simp [c1, c2, c3]
  · rw [if_neg c, twN_m1 c]
    unfold f_R_meet
    simp only [isGift_e, bn_s, bn_eta]
    unfold twN gNo fst3 at c
    by_cases c1 : inN (s 176 12) a = 0
    · simp [c1]
    · by_cases c2 : inN (s 176 12) b = 0
      · simp [c1, c2]
      · by_cases c3 : a = b
        · simp [c1, c2, c3]
        · simp [c1, c2, c3] at c
theorem op_meet (a b : Int32) : OpI (fun s => f_X_meet s a b) (fun s => f_R_meet s a b) := by
  refine OpI.q2 (mx' := fun s => f_M_firstTogether s a b) (mr := fun s => bv (f_R_thinks s) fun s17 => k_R_meet_37 KF a b (-9) 0 s17) (fun S => twN (nI S.1.2.1) a b) (fun S => metS S.1.2.2.2.1 61 0 (S.1.2.2.2.2 (ix a)) (S.1.2.2.2.2 (ix b))) (fun S => Codes.t _ _ _) ?_ ?_ ?_ ?_
  · intro s S h
    unfold f_X_meet k_X_meet_20 twN
    simp only [giftNo_e, bn_s, first_e, h.1.2.1.1, bn_eta]
    by_cases c : a = b
    · simp only [c, if_true]
    · simp only [c, if_false]
  · intro s S h
    show f_R_meet s a b = _
    rw [Rn_meet, h.1.2.1.1]
  · intro s S h e
    have hm := h.2.1.2.1
    obtain ⟨p, q, hp, hq, hne, rfl, rfl⟩ := twN_0 (by omega) e
    have hv := h.2.1
    obtain ⟨s1, a1, a2, a3, a4, a5⟩ := recall_e h.1 hv
    unfold f_M_firstTogether
    rw [a1, bn_s, ix_nI (by omega), ix_nI (by omega)]
    obtain ⟨T, hT⟩ : ∃ T, T = metS S.1.2.2.2.1 61 0 (S.1.2.2.2.2 p) (S.1.2.2.2.2 q) := ⟨_, rfl⟩
    rw [← hT]
    refine lp (α := (Nat → GV) × Mm) (fun n m x => k_M_firstTogether_7 n (nI p) (nI q) (nI m) x.2) (fun m x => HF x.2 2 S.1.1 S.1.2.2.2.1 ∧ HG x.2 2 S.1.2.1 x.1 ∧ Fr 2 s x.2 ∧ (∀ i, i < S.1.2.1 → HOk S.1.1 (x.1 i)) ∧ T = metS S.1.2.2.2.1 (61 - m) m (x.1 p) (x.1 q)) (fun r => ∃ s', r = some (T, s') ∧ FrQX s s') 61 ?_ ?_ KF 0 (S.1.2.2.2.2, s1) (by omega) (by rw [KF_1]; omega) ⟨a2.1, a2.2.1, a4, hv.H, hT⟩
    · intro n x ⟨e1, e2, e3, e4, e5⟩
      unfold k_M_firstTogether_7
      rw [if_pos (show (60 : Int32) < nI 61 from by decide), e5]
      exact ⟨x.2, rfl, e3.q⟩
    · intro n m x hi ⟨e1, e2, e3, e4, e5⟩ ih
      unfold k_M_firstTogether_7
      rw [if_neg (show ¬ (60 : Int32) < nI m from nI_nlt (a := 60) (by omega) (by omega)), giftAt_e (by omega), bn_s, giftAt_e (by omega), bn_s, (e2.at hp).2.2.1, (e2.at hq).2.2.1]
      rw [show 61 - m = (60 - m) + 1 by omega] at e5
      unfold metS at e5
      by_cases c : gH (x.1 p) = gH (x.1 q)
      · rw [if_pos c]
        rw [if_pos c] at e5
        rw [e5]
        exact ⟨x.2, rfl, e3.q⟩
      · rw [if_neg c]
        rw [if_neg c] at e5
        obtain ⟨s2, c1, c2, c3, c4, c5, c6⟩ := pass_e (N := 1) e1 e2 (fun q _ => rfl) hv.M.n e4 hv.1 hv.2.1 (by omega) (by omega)
        have c1' : f_C_pass x.2 2 1 = some s2 := c1
        rw [c1', bv_s, nI_1]
        refine ih (fun k => stepG S.1.2.2.2.1 (x.1 k), s2) ⟨c2, c3, e3.tr c6, fun i hi => (e4 i hi).step hv.M.n hv.1, ?_⟩
        rw [show 61 - (m + 1) = 60 - m by omega]
        exact e5
  · intro s S ho h e
    have hm := ho.1.2.1
    obtain ⟨p, q, hp, hq, hne, rfl, rfl⟩ := twN_0 (by omega) e
    have hv := ho.1
    obtain ⟨s1, a1, a2⟩ := think0 h.1 hv h.2.1
    show ∃ s', (bv (f_R_thinks s) fun s17 => k_R_meet_37 KF (nI p) (nI q) (-9) 0 s17) = some (_, s') ∧ _
    rw [a1, bv_s, ix_nI (by omega), ix_nI (by omega)]
    obtain ⟨T, hT⟩ : ∃ T, T = metS S.1.2.2.2.1 61 0 (S.1.2.2.2.2 p) (S.1.2.2.2.2 q) := ⟨_, rfl⟩
    rw [← hT]
    refine lp (α := Int32 × (Nat → GV) × Mm) (fun n m x => k_R_meet_37 n (nI p) (nI q) x.1 (nI m) x.2.2) (fun m x => Thk s S.1 x.2.1 x.2.2 ∧ (∀ i, i < S.1.2.1 → GI S.1.1 (x.2.1 i)) ∧ ((x.1 = -9 ∧ T = metS S.1.2.2.2.1 (61 - m) m (x.2.1 p) (x.2.1 q)) ∨ (0 ≤ x.1 ∧ x.1 = T))) (fun r => ∃ s', r = some (T, s') ∧ RV s' S.1 ∧ FrQR s s') 61 ?_ ?_ KF 0 (-9, S.1.2.2.2.2, s1) (by omega) (by rw [KF_1]; omega) ⟨a2, hv.G, Or.inl ⟨rfl, hT⟩⟩
    · intro n x ⟨h2, h3, h4⟩
      unfold k_R_meet_37
      obtain ⟨s', e1, e2, e3⟩ := h2.fin hv
      rw [if_pos (show (60 : Int32) < nI 61 from by decide), e1, bv_s]
      rcases h4 with ⟨x2, x3⟩ | ⟨x1, x2⟩
      · rw [x2, x3, Nat.sub_self]; exact ⟨s', rfl, e2, e3.q (by omega) (by omega)⟩
      · rw [x2]; exact ⟨s', rfl, e2, e3.q (by omega) (by omega)⟩
    · intro n m x hi ⟨h2, h3, h4⟩ ih
      obtain ⟨fd, G', aq⟩ := x
      dsimp only at h2 h3 h4 ⊢
      unfold k_R_meet_37
      rw [if_neg (show ¬ (60 : Int32) < nI m from nI_nlt (a := 60) (by omega) (by omega))]
      rcases h4 with ⟨x2, x3⟩ | ⟨x1, x2⟩
      · subst x2
        obtain ⟨a', e1, e2⟩ := h2.mon hv h3
        have ep : aq 184 p = gH (G' p) := (h2.2.1.at hp).2.2.1
        have eq' : aq 184 q = gH (G' q) := (h2.2.1.at hq).2.2.1
        rw [if_neg nn_m9, gd_n (show p < 4 by omega) (by omega), gd_n (show q < 4 by omega) (by omega), nI_clamp (by omega), nI_clamp (by omega), ep, eq']
        rw [show 61 - m = (60 - m) + 1 by omega] at x3
        unfold metS at x3
        have hs : ∀ i, i < S.1.2.1 → GI S.1.1 (stepG S.1.2.2.2.1 (G' i)) := fun i hi => (h3 i hi).step hv.M hv.1
        unfold k_R_meet_70
        by_cases c : gH (G' p) = gH (G' q)
        · rw [if_pos c] at x3
          rw [if_pos c, e1, bv_s, nI_1]
          exact ih (nI m, _, a') ⟨e2, hs, Or.inr ⟨nn_nI (by omega), x3.symm⟩⟩
        · rw [if_neg c] at x3
          rw [if_neg c, e1, bv_s, nI_1]
          exact ih (-9, _, a') ⟨e2, hs, Or.inl ⟨rfl, by rw [show 61 - (m + 1) = 60 - m by omega]; exact x3⟩⟩
      · rw [if_pos x1]
        obtain ⟨s', e1, e2, e3⟩ := h2.fin hv
        rw [e1, bv_s]
        exact ⟨s', by rw [x2], e2, e3.q (by omega) (by omega)⟩
