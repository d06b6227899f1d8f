/-! IMAGE, RESTORE -/
def picTo (S : SV) (q : Int32 × CV) : SV := (S.1, q, S.2.2)
def picOf (S : SV) : Int32 × CV := S.2.1
theorem XI.pic {s s' : Mm} {S : SV} {q : Int32 × CV} (h : XI s S) (he : ∀ z j, ¬ own 1 z → ¬ (z = 165 ∧ j = 7) → s' z j = s z j) (hq : PicX s' q) : XI s' (picTo S q) := by
  obtain ⟨h1, hv, -, ⟨st, h2, h8, h3, h4, h5⟩, ⟨l1, l2, l3⟩, ⟨r1, r2, r3⟩, hr⟩ := h
  have ho : ∀ d, d < 11 → d ≠ 1 → ∀ z j, own d z → s' z j = s z j := fun d hd h0 z j hz => he z j (by unfold own at hz ⊢; omega) (by have := own_lt hd hz; omega)
  have hs : ∀ z j, 166 ≤ z → s' z j = s z j := fun z j h1 => he z j (ne_own (by omega) (by omega)) (by omega)
  exact ⟨h1.eq hv.1 hv.2.1 (ho 0 (by omega) (by omega)), hv, hq, ⟨st, h2, h8, by rw [hs _ _ (by omega)]; exact h3, by rw [hs _ _ (by omega)]; exact h4, fun i hi => ⟨(h5 i hi).1.eq (h5 i hi).2.1 (h5 i hi).2.2.1 (ho _ (by omega) (by omega)), (h5 i hi).2⟩⟩, ⟨l1, by rw [hs _ _ (by omega)]; exact l2, fun i hi => by rw [hs _ _ (by omega)]; exact l3 i hi⟩, ⟨r1, by rw [hs _ _ (by omega)]; exact r2, fun i hi => by rw [hs _ _ (by omega)]; exact r3 i hi⟩, fun i hi => by rw [hs _ _ (by omega)]; exact hr i hi⟩
theorem RI.pic {s s' : Mm} {S : SV} {q : Int32 × CV} (h : RI s S) (ho : SOk S) (he : ∀ z j, ¬ (z = 193 ∧ j < 51) → ¬ (z = 176 ∧ (j = 24 ∨ j = 25 ∨ j = 26)) → s' z j = s z j) (hq : PicR s' q) : RI s' (picTo S q) := by
  obtain ⟨h0, h14, -, ⟨q1, q2⟩, ⟨l1, l2⟩, ⟨r1, r2⟩, hr⟩ := h
  obtain ⟨-, o2, ⟨o3, o3'⟩, -, -⟩ := ho
  exact ⟨h0.eq (fun z j hz => he z j (by omega) (by omega)), by rw [he _ _ (by omega) (by omega)]; exact h14, hq, ⟨by rw [he _ _ (by omega) (by omega)]; exact q1, fun i hi => (q2 i hi).eq (o3' i hi).1 (o3' i hi).2.1 (fun j _ _ => he _ _ (by omega) (by omega))⟩, ⟨by rw [he _ _ (by omega) (by omega)]; exact l1, fun i hi => by rw [he _ _ (by omega) (by omega)]; exact l2 i hi⟩, ⟨by rw [he _ _ (by omega) (by omega)]; exact r1, fun i hi => by rw [he _ _ (by omega) (by omega)]; exact r2 i hi⟩, fun i hi => by rw [he _ _ (by omega) (by omega)]; exact hr i hi⟩
theorem op_image : OpI (fun s => f_X_image s) (fun s => f_R_image s) := by
  refine OpI.mk (fun S => S.1.2.2.1) (fun S => picTo S (1, S.1)) (fun s S h => ?_) (fun s S ho h => ?_)
  · have hv := h.2.1
    unfold f_X_image
    obtain ⟨s2, b1, b2, b3, b4⟩ := Ccopy_e h.1 hv (c := 1) (by omega) (by omega) (by omega)
    obtain ⟨s3, es3⟩ : ∃ s3, s3 = mU s2 165 7 1 := ⟨_, rfl⟩
    rw [b1, bv_s, nm_s, ← es3]
    have q3 : ∀ z j, ¬ (z = 165 ∧ j = 7) → s3 z j = s2 z j := fun z j hz => by rw [es3, mU_get, if_neg hz]
    have q1 : s3 0 6 = S.1.2.2.1 := by rw [q3 _ _ (by omega), b4 _ _ (by unfold own; omega)]; exact h.1.2.2
    rw [q1]
    refine ⟨s3, rfl, h.pic (fun z j h1 h2 => by rw [q3 z j h2, b4 z j h1]) ⟨by rw [es3, mU_get, if_pos ⟨rfl, rfl⟩], Or.inr ⟨rfl, b2.eq hv.1 hv.2.1 (fun z j hz => q3 z j (by have := own_lt (by omega) hz; omega)), hv⟩⟩, fun z j hz => by rw [q3 z j (by omega), b4 z j (by unfold own; omega)]⟩
  · have hv := ho.1
    unfold f_R_image
    obtain ⟨s1, es1⟩ : ∃ s1, s1 = mU s 176 24 1 := ⟨_, rfl⟩
    rw [nm_s, ← es1]
    have q0 : ∀ z j, ¬ (z = 176 ∧ j = 24) → s1 z j = s z j := fun z j hz => by rw [es1, mU_get, if_neg hz]
    have r1 : RV s1 S.1 := h.1.eq (fun z j hz => q0 z j (by omega))
    obtain ⟨s2, c1, c2, c3, c4⟩ := keepAll_e (w := 0) r1 (by omega) hv.1 hv.2.1
    have c1 : f_R_passesAll s1 0 1 = some s2 := c1
    rw [c1, bv_s, c2.2.2]
    refine ⟨s2, rfl, h.pic ho (fun z j h1 h2 => ?_) ⟨?_, fun _ => c3⟩, fun z j hz => by rw [c4.2 z j (by omega) (by omega), q0 z j (by omega)]⟩
    · by_cases hz : z = 193
      · subst hz
        rw [c4.1 j (by omega), q0 _ _ (by omega)]
      · rw [c4.2 z j hz (by omega), q0 z j (by omega)]
    · rw [c4.2 _ _ (by omega) (by omega), es1, mU_get, if_pos ⟨rfl, rfl⟩]
def resS (S : SV) : SV := pastTo (vTo S (picOf S).2) (0, (pastOf S).2)
theorem op_restore : OpI (fun s => f_X_restore s) (fun s => f_R_restore s) := by
  refine OpI.m (mx' := fun s => bv (f_C_copyFrom s 0 1) fun s3 => bv (f_P_forget s3) fun s5 => some (s5 0 6, s5)) (mr := fun s => bv (f_R_passesAll s 0 0) fun s3 => nm (mU s3 176 27 0) fun s4 => some (s4 176 13, s4)) (fun S => if (picOf S).1 = 0 then -3 else 0) (fun S => (picOf S).2.2.2.1) resS (fun S => ?_) ?_ ?_ ?_ ?_
  · show (if (picOf S).1 = 0 then (-3 : Int32) else 0) = 0 ∨ Codes (if (picOf S).1 = 0 then (-3 : Int32) else 0)
    by_cases c : (picOf S).1 = 0
    · rw [if_pos c]; exact Or.inr (Or.inr (Or.inr (Or.inl rfl)))
    · rw [if_neg c]; exact Or.inl rfl
  · intro s S h
    have p1 : s 165 7 = (picOf S).1 := h.2.2.1.1
    unfold f_X_restore
    rw [p1]
    by_cases c : (picOf S).1 = 0
    · simp only [c, if_true, bn_eta]
      rw [if_neg (by decide)]
    · simp only [c, if_false, if_true]
  · intro s S ho h
    have p1 : s 176 24 = (picOf S).1 := h.2.2.1.1
    show f_R_restore s = _
    unfold f_R_restore
    rw [p1]
    by_cases c : (picOf S).1 = 0
    · simp only [c, if_true, bn_eta]
      rw [if_neg (by decide)]
    · simp only [c, if_false, if_true]
  · intro s S h e
    have hp := h.2.2.1.2
    have c : ¬ (picOf S).1 = 0 := fun c => by
      simp only [c, if_true] at e
      exact absurd e (by decide)
    obtain ⟨-, hc, hv⟩ : (picOf S).1 = 1 ∧ HC s 1 (picOf S).2 ∧ VOk (picOf S).2 := by
      rcases hp with y | y
      · exact absurd y c
      · exact y
    obtain ⟨s2, b1, b2, b3, b4⟩ := Ccopy_e hc hv (c := 0) (by omega) (by omega) (by omega)
    have hx : XI s2 (vTo S (picOf S).2) := h.now (fun z j hz => b4 z j hz) b2 hv
    have hy := hx.forget
    show ∃ s', (bv (f_C_copyFrom s 0 1) fun s3 => bv (f_P_forget s3) fun s5 => some (s5 0 6, s5)) = _ ∧ _
    unfold f_P_forget
    rw [b1, bv_s, nm_s, bv_s]
    refine ⟨_, ?_, hy, fun z j hz => by rw [mU_get, if_neg (by omega), b4 z j (by unfold own; omega)]⟩
    rw [mU_get, if_neg (by omega), b2.2.2]
  · intro s S ho h e
    have hp := ho.2.1
    have c : ¬ (picOf S).1 = 0 := fun c => by
      simp only [c, if_true] at e
      exact absurd e (by decide)
    obtain ⟨h1, hv⟩ : (picOf S).1 = 1 ∧ VOk (picOf S).2 := by
      rcases hp with y | y
      · exact absurd y c
      · exact y
    have hb : SB s 0 (picOf S).2 := h.2.2.1.2 h1
    obtain ⟨s2, c1, c2, c3⟩ := putAll_e (w := 0) hb (by omega) hv.1 hv.2.1 h.2.1 hv.T
    have c1 : f_R_passesAll s 0 0 = some s2 := c1
    have hx : RI s2 (vTo S (picOf S).2) := h.now ho c2 (fun z j h1 h2 => c3 z j (by omega) (by omega))
    have hso : SOk (vTo S (picOf S).2) := ⟨hv, ho.2⟩
    have hy := hx.forget hso
    show ∃ s', (bv (f_R_passesAll s 0 0) fun s3 => nm (mU s3 176 27 0) fun s4 => some (s4 176 13, s4)) = _ ∧ _
    rw [c1, bv_s, nm_s]
    refine ⟨_, ?_, hy, fun z j hz => by rw [mU_get, if_neg (by omega), c3 z j (by omega) (by omega)]⟩
    rw [mU_get, if_neg (by omega), c2.2.2]
