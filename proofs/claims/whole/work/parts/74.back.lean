/-! BACK -/
def bkS (S : SV) : SV := vTo (pastTo S ((pastOf S).1 - 1, (pastOf S).2)) ((pastOf S).2 ((pastOf S).1 - 1))
theorem op_back : OpI (fun s => f_X_back s) (fun s => f_R_back s) := by
  refine OpI.m (mx' := fun s => bv (f_P_takeBack s 0) fun s3 => some (s3 167 2, s3)) (mr := fun s => nm (mU s 176 27 ((s 176 27) - 1)) fun s2 => bv (f_R_passesAll s2 (3 + (s2 176 27)) 0) fun s5 => some (s5 176 27, s5)) (fun S => if (pastOf S).1 = 0 then -3 else 0) (fun S => nI ((pastOf S).1 - 1)) bkS (fun S => ?_) ?_ ?_ ?_ ?_
  · show (if (pastOf S).1 = 0 then (-3 : Int32) else 0) = 0 ∨ Codes (if (pastOf S).1 = 0 then (-3 : Int32) else 0)
    by_cases c : (pastOf S).1 = 0
    · rw [if_pos c]; exact Or.inr (Or.inr (Or.inr (Or.inl rfl)))
    · rw [if_neg c]; exact Or.inl rfl
  · intro s S h
    obtain ⟨st, h2, h8, h3, h4, h5⟩ := h.2.2.2.1
    have h8 : (pastOf S).1 ≤ 8 := h8
    have h4 : s 167 2 = nI (pastOf S).1 := h4
    unfold f_X_back
    rw [h4]
    by_cases c : (pastOf S).1 = 0
    · simp only [c, if_true, bn_eta]
      rw [if_pos (show nI 0 = 0 from rfl), if_neg (by decide)]
    · rw [if_neg (nI_ne0 (by omega) (by omega))]
      simp only [c, if_false, if_true]
  · intro s S ho h
    obtain ⟨q1, q2⟩ := h.2.2.2.1
    have q1 : s 176 27 = nI (pastOf S).1 := q1
    have o1 : (pastOf S).1 ≤ 8 := ho.2.2.1.1
    show f_R_back s = _
    unfold f_R_back
    by_cases c : (pastOf S).1 = 0
    · rw [if_pos (show s 176 27 = 0 by rw [q1, c]; rfl)]
      simp only [c, if_true, bn_eta]
      rw [if_neg (by decide)]
    · rw [if_neg (show ¬ s 176 27 = 0 by rw [q1]; exact nI_ne0 (by omega) (by omega))]
      simp only [c, if_false, if_true]
  · intro s S h e
    obtain ⟨st, h2, h8, h3, h4, h5⟩ := h.2.2.2.1
    have h8 : (pastOf S).1 ≤ 8 := h8
    have h4 : s 167 2 = nI (pastOf S).1 := h4
    have h5 : ∀ i, i < (pastOf S).1 → HC s (3 + (st + i) % 8) ((pastOf S).2 i) ∧ VOk ((pastOf S).2 i) := h5
    have hn : 1 ≤ (pastOf S).1 := by
      by_cases c : (pastOf S).1 = 0
      · simp only [c, if_true] at e
        exact absurd e (by decide)
      · omega
    show ∃ s', (bv (f_P_takeBack s 0) fun s3 => some (s3 167 2, s3)) = _ ∧ _
    unfold f_P_takeBack
    obtain ⟨m, hm⟩ : ∃ m, (pastOf S).1 = m + 1 := ⟨(pastOf S).1 - 1, by omega⟩
    rw [h4, hm, if_neg (nI_nle (by omega) (by omega)), nI_pred, nm_s]
    obtain ⟨s1, es1⟩ : ∃ s1, s1 = mU s 167 2 (nI m) := ⟨_, rfl⟩
    rw [← es1]
    have q0 : ∀ z j, ¬ (z = 167 ∧ j = 2) → s1 z j = s z j := fun z j hz => by rw [es1, mU_get, if_neg hz]
    have q2 : s1 167 2 = nI m := by rw [es1, mU_get, if_pos ⟨rfl, rfl⟩]
    have q1 : s1 167 1 = nI st := by rw [q0 _ _ (by omega)]; exact h3
    obtain ⟨y1, y2⟩ := h5 m (by omega)
    have hlt : 3 + (st + m) % 8 < 11 := by omega
    have y3 : HC s1 (3 + (st + m) % 8) ((pastOf S).2 m) := y1.eq y2.1 y2.2.1 (fun z j hz => q0 z j (by have := own_lt hlt hz; omega))
    rw [q2, storedAt_e q1 h2 (by omega), bn_s]
    obtain ⟨s2, b1, b2, b3, b4⟩ := Ccopy_e y3 y2 (c := 0) (by omega) hlt (by omega)
    rw [b1, bv_s, bv_s, b4 _ _ (ne_own (by omega) (by omega)), q2]
    have hx : XI s1 (pastTo S (m, (pastOf S).2)) := h.past (c := 3) (by omega) (fun z j _ hz => q0 z j (by omega)) ⟨st, h2, by show m ≤ 8; omega, q1, q2, fun i hi => by
      have hi : i < m := hi
      obtain ⟨z1, z2⟩ := h5 i (by omega)
      have hl2 : 3 + (st + i) % 8 < 11 := by omega
      exact ⟨z1.eq z2.1 z2.2.1 (fun z j hz => q0 z j (by have := own_lt hl2 hz; omega)), z2⟩⟩
    refine ⟨s2, by simp, ?_, fun z j hz => by rw [b4 z j (ne_own (by omega) (by omega)), q0 z j (by omega)]⟩
    unfold bkS
    rw [hm]
    exact hx.now (fun z j hz => b4 z j hz) b2 y2
  · intro s S ho h e
    obtain ⟨q1, q2⟩ := h.2.2.2.1
    have q1 : s 176 27 = nI (pastOf S).1 := q1
    have q2 : ∀ i, i < (pastOf S).1 → SB s (3 + i) ((pastOf S).2 i) := q2
    obtain ⟨o1, o2⟩ := ho.2.2.1
    have o1 : (pastOf S).1 ≤ 8 := o1
    have o2 : ∀ i, i < (pastOf S).1 → VOk ((pastOf S).2 i) := o2
    have hn : 1 ≤ (pastOf S).1 := by
      by_cases c : (pastOf S).1 = 0
      · simp only [c, if_true] at e
        exact absurd e (by decide)
      · omega
    obtain ⟨m, hm⟩ : ∃ m, (pastOf S).1 = m + 1 := ⟨(pastOf S).1 - 1, by omega⟩
    show ∃ s', (nm (mU s 176 27 ((s 176 27) - 1)) fun s2 => bv (f_R_passesAll s2 (3 + (s2 176 27)) 0) fun s5 => some (s5 176 27, s5)) = _ ∧ _
    rw [q1, hm, nI_pred, nm_s]
    obtain ⟨s1, es1⟩ : ∃ s1, s1 = mU s 176 27 (nI m) := ⟨_, rfl⟩
    rw [← es1]
    have q0 : ∀ z j, ¬ (z = 176 ∧ j = 27) → s1 z j = s z j := fun z j hz => by rw [es1, mU_get, if_neg hz]
    have w : s1 176 27 = nI m := by rw [es1, mU_get, if_pos ⟨rfl, rfl⟩]
    have e3 : (3 : Int32) + nI m = nI (3 + m) := nI_add 3 m
    have y := o2 m (by omega)
    have hr : RV s1 S.1 := h.1.eq (fun z j hz => q0 z j (by omega))
    have hx : RI s1 (pastTo S (m, (pastOf S).2)) := h.past ho hr ⟨fun j _ => q0 _ _ (by omega), fun z j _ _ h3 => q0 z j (by omega)⟩ ⟨w, fun i hi => by
      have hi : i < m := hi
      have z := o2 i (by omega)
      exact (q2 i (by omega)).eq z.1 z.2.1 (fun j _ _ => q0 _ _ (by omega))⟩
    have hso : SOk (pastTo S (m, (pastOf S).2)) := ⟨ho.1, ho.2.1, ⟨by show m ≤ 8; omega, fun i hi => o2 i (by have hi : i < m := hi; omega)⟩, ho.2.2.2⟩
    obtain ⟨s2, c1, c2, c3⟩ := putAll_e (w := 3 + m) ((q2 m (by omega)).eq y.1 y.2.1 (fun j _ _ => q0 _ _ (by omega))) (by omega) y.1 y.2.1 (by rw [q0 _ _ (by omega)]; exact h.2.1) y.T
    rw [w, e3, c1, bv_s, c3 _ _ (by omega) (by omega), w]
    refine ⟨s2, by simp, ?_, fun z j hz => by rw [c3 z j (by omega) (by omega), q0 z j (by omega)]⟩
    unfold bkS
    rw [hm]
    exact hx.now hso c2 (fun z j y1 y2 => c3 z j (by omega) (by omega))
