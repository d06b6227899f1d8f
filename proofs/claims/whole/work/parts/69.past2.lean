/-! the reference's past -/
theorem RI.past {s s' : Mm} {S : SV} {q : Nat × (Nat → CV)} (h : RI s S) (ho : SOk S) (hv : RV s' S.1) (he : (∀ j, j < 153 → s' 193 j = s 193 j) ∧ ∀ z j, z ≠ 193 → ¬ (178 ≤ z ∧ z ≤ 188) → ¬ (z = 176 ∧ (j = 11 ∨ j = 12 ∨ j = 13 ∨ j = 25 ∨ j = 26 ∨ j = 27)) → s' z j = s z j) (hq : PastR s' q) : RI s' (pastTo S q) := by
  obtain ⟨-, h14, ⟨p1, p2⟩, -, ⟨l1, l2⟩, ⟨r1, r2⟩, hr⟩ := h
  obtain ⟨-, o2, -, -, -⟩ := ho
  refine ⟨hv, by rw [he.2 _ _ (by omega) (by omega) (by omega)]; exact h14, ⟨by rw [he.2 _ _ (by omega) (by omega) (by omega)]; exact p1, fun e => ?_⟩, hq, ⟨by rw [he.2 _ _ (by omega) (by omega) (by omega)]; exact l1, fun i hi => by rw [he.2 _ _ (by omega) (by omega) (by omega)]; exact l2 i hi⟩, ⟨by rw [he.2 _ _ (by omega) (by omega) (by omega)]; exact r1, fun i hi => by rw [he.2 _ _ (by omega) (by omega) (by omega)]; exact r2 i hi⟩, fun i hi => by rw [he.2 _ _ (by omega) (by omega) (by omega)]; exact hr i hi⟩
  rcases o2 with o | ⟨-, o⟩
  · have e' : S.2.1.1 = 1 := e
    rw [o] at e'; exact absurd e' (by decide)
  · exact (p2 e).eq o.1 o.2.1 (fun j _ _ => he.1 j (by omega))
theorem shift_e {s : Mm} : ∃ s', k_R_keepsBack_13 KF 153 s = k_R_keepsBack_51 (mU s' 176 27 (s' 176 27 - 1)) ∧ (∀ j, 153 ≤ j → j < 510 → s' 193 j = s 193 (j + 51)) ∧ (∀ j, ¬ (153 ≤ j ∧ j < 510) → s' 193 j = s 193 j) ∧ ∀ z j, z ≠ 193 → s' z j = s z j := by
  refine lp (fun n i x => k_R_keepsBack_13 n (nI i) x) (fun i x => 153 ≤ i ∧ (∀ j, 153 ≤ j → j < i → x 193 j = s 193 (j + 51)) ∧ (∀ j, ¬ (153 ≤ j ∧ j < i) → x 193 j = s 193 j) ∧ ∀ z j, z ≠ 193 → x z j = s z j) (fun r => ∃ s', r = k_R_keepsBack_51 (mU s' 176 27 (s' 176 27 - 1)) ∧ (∀ j, 153 ≤ j → j < 510 → s' 193 j = s 193 (j + 51)) ∧ (∀ j, ¬ (153 ≤ j ∧ j < 510) → s' 193 j = s 193 j) ∧ ∀ z j, z ≠ 193 → s' z j = s z j) 510 ?_ ?_ KF 153 s (by omega) (by rw [KF_1]; omega) ⟨by omega, fun j h1 h2 => absurd h2 (by omega), fun _ _ => rfl, fun _ _ _ => rfl⟩
  · intro n x ⟨h1, h2, h3, h4⟩
    unfold k_R_keepsBack_13
    rw [if_pos (show (510 : Int32) ≤ nI 510 from by decide), nm_s]
    exact ⟨x, rfl, h2, h3, h4⟩
  · intro n i x hi ⟨h1, h2, h3, h4⟩ ih
    have e51 : nI i + 51 = nI (i + 51) := nI_add i 51
    unfold k_R_keepsBack_13
    rw [if_neg (show ¬ (510 : Int32) ≤ nI i from nI_ge (b := 510) hi (by omega)), e51, gd_n (show i + 51 < 561 by omega) (by omega), gd_n (show i < 561 by omega) (by omega), nm_s, nI_clamp (by omega), nI_clamp (by omega), nI_1, h3 (i + 51) (by omega)]
    refine ih _ ⟨by omega, fun j j1 j2 => ?_, fun j hj => ?_, fun z j hz => by rw [mU_get, if_neg (fun y => hz y.1)]; exact h4 z j hz⟩
    · rw [mU_get]
      by_cases c : j = i
      · rw [if_pos ⟨rfl, c⟩, c]
      · rw [if_neg (fun y => c y.2)]
        exact h2 j j1 (by omega)
    · rw [mU_get, if_neg (by omega)]
      exact h3 j (by omega)
theorem SB.shift {s s' : Mm} {w : Nat} {V : CV} (h : SB s (w + 1) V) (hn : V.1 ≤ 6) (hm : V.2.1 ≤ 4) (he : ∀ j, 51 * w ≤ j → j < 51 * w + 51 → s' 193 j = s 193 (j + 51)) : SB s' w V := by
  have hj : ∀ k, k < 51 → s' 193 (51 * w + k) = s 193 (51 * (w + 1) + k) := fun k hk => by
    rw [he _ (by omega) (by omega)]
    congr 1
    omega
  obtain ⟨h1, h2, h3, h4, h5⟩ := h
  refine ⟨by rw [hj _ (by omega)]; exact h1, by rw [hj _ (by omega)]; exact h2, by rw [hj _ (by omega)]; exact h3, fun k hk => ?_, fun k hk => ?_⟩
  · have := h4 k hk
    simp only [Nat.add_assoc] at this ⊢
    rw [hj _ (by omega), hj _ (by omega), hj _ (by omega), hj _ (by omega)]
    exact this
  · have := h5 k hk
    simp only [Nat.add_assoc] at this ⊢
    rw [hj _ (by omega), hj _ (by omega), hj _ (by omega), hj _ (by omega), hj _ (by omega), hj _ (by omega)]
    exact this
theorem kb51_e {s : Mm} {S : SV} {n : Nat} {P : Nat → CV} (hv : RV s S.1) (ho : SOk S) (hn : n < 8) (h27 : s 176 27 = nI n) (hP : ∀ i, i < n → SB s (3 + i) (P i) ∧ VOk (P i)) : ∃ s', k_R_keepsBack_51 s = some s' ∧ RV s' S.1 ∧ PastR s' (n + 1, fun i => if i = n then S.1 else P i) ∧ (∀ j, j < 153 → s' 193 j = s 193 j) ∧ ∀ z j, z ≠ 193 → ¬ (z = 176 ∧ (j = 25 ∨ j = 26 ∨ j = 27)) → s' z j = s z j := by
  have hv1 := ho.1
  obtain ⟨s1, b1, b2, b3, b4⟩ := keepAll_e (w := 3 + n) hv (by omega) hv1.1 hv1.2.1
  have e3 : (3 : Int32) + nI n = nI (3 + n) := nI_add 3 n
  unfold k_R_keepsBack_51
  rw [h27, e3, b1, bv_s, nm_s]
  have w27 : s1 176 27 = nI n := by rw [b4.2 _ _ (by omega) (by omega)]; exact h27
  have e1 : ∀ z j, ¬ (z = 176 ∧ j = 27) → mU s1 176 27 (s1 176 27 + 1) z j = s1 z j := fun z j hz => by rw [mU_get, if_neg hz]
  refine ⟨_, rfl, b2.eq (fun z j hz => e1 z j (by omega)), ⟨by rw [mU_get, if_pos ⟨rfl, rfl⟩, w27, nI_1], fun i hi => ?_⟩, fun j hj => by rw [e1 _ _ (by omega)]; exact b4.1 j (by omega), fun z j h1 h2 => by rw [e1 _ _ (by omega)]; exact b4.2 z j h1 (by omega)⟩
  have hi : i < n + 1 := hi
  show SB _ (3 + i) (if i = n then S.1 else P i)
  by_cases c : i = n
  · rw [if_pos c, c]
    exact b3.eq hv1.1 hv1.2.1 (fun j _ _ => e1 _ _ (by omega))
  · rw [if_neg c]
    obtain ⟨y1, y2⟩ := hP i (by omega)
    exact y1.eq y2.1 y2.2.1 (fun j j1 j2 => by rw [e1 _ _ (by omega)]; exact b4.1 j (by omega))
theorem keepsBack_e {s : Mm} {S : SV} (h : RI s S) (ho : SOk S) : ∃ s', f_R_keepsBack s = some s' ∧ RI s' (pastTo S (push S)) ∧ EqX s s' := by
  obtain ⟨q1, q2⟩ := h.2.2.2.1
  have q1 : s 176 27 = nI (pastOf S).1 := q1
  have q2 : ∀ i, i < (pastOf S).1 → SB s (3 + i) ((pastOf S).2 i) := q2
  obtain ⟨o1, o2⟩ := ho.2.2.1
  have o1 : (pastOf S).1 ≤ 8 := o1
  have o2 : ∀ i, i < (pastOf S).1 → VOk ((pastOf S).2 i) := o2
  unfold f_R_keepsBack push
  rw [q1]
  by_cases c : (pastOf S).1 = 8
  · rw [if_pos c, if_pos (show nI (pastOf S).1 = 8 by rw [c]; rfl)]
    obtain ⟨s0, a1, a2, a3, a4⟩ := shift_e (s := s)
    obtain ⟨s1, es1⟩ : ∃ s1, s1 = mU s0 176 27 (s0 176 27 - 1) := ⟨_, rfl⟩
    rw [a1, ← es1]
    have e1 : ∀ z j, ¬ (z = 176 ∧ j = 27) → s1 z j = s0 z j := fun z j hz => by rw [es1, mU_get, if_neg hz]
    have w27 : s1 176 27 = nI 7 := by rw [es1, mU_get, if_pos ⟨rfl, rfl⟩, a4 _ _ (by omega), q1, c]; rfl
    have hv : RV s1 S.1 := h.1.eq (fun z j hz => by rw [e1 _ _ (by omega), a4 _ _ (by omega)])
    obtain ⟨s', b1, b2, b3, b4, b5⟩ := kb51_e (n := 7) (P := fun i => (pastOf S).2 (i + 1)) hv ho (by omega) w27 (fun i hi => by
      have y := o2 (i + 1) (by omega)
      refine ⟨SB.shift (q2 (i + 1) (by omega)) y.1 y.2.1 (fun j j1 j2 => ?_), y⟩
      rw [e1 _ _ (by omega)]
      exact a2 j (by omega) (by omega))
    refine ⟨s', b1, h.past ho b2 ⟨fun j hj => by rw [b4 j hj, e1 _ _ (by omega)]; exact a3 j (by omega), fun z j h1 h2 h3 => by rw [b5 z j h1 (by omega), e1 _ _ (by omega)]; exact a4 z j h1⟩ b3, fun z j hz => by rw [b5 z j (by omega) (by omega), e1 _ _ (by omega)]; exact a4 z j (by omega)⟩
  · rw [if_neg c, if_neg (show ¬ nI (pastOf S).1 = 8 from fun y => c ((nI_eq (by omega) (b := 8) (by omega)).mp y))]
    obtain ⟨s', b1, b2, b3, b4, b5⟩ := kb51_e (n := (pastOf S).1) (P := (pastOf S).2) h.1 ho (by omega) q1 (fun i hi => ⟨q2 i hi, o2 i hi⟩)
    exact ⟨s', b1, h.past ho b2 ⟨b4, fun z j h1 h2 h3 => b5 z j h1 (by omega)⟩ b3, fun z j hz => b5 z j (by omega) (by omega)⟩
