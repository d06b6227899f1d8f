/-! the reference's past -/
theorem RI.past {s s' : Mm} {S : SV} {q : Nat × (Nat → CV)} (h : RI s S) (ho : SOk S) (hv : RV s' S.1) (he : (∀ j, j < 153 → s' 193 j = s 193 j) ∧ ∀ z j, z ≠ 193 → ¬ (178 ≤ z ∧ z ≤ 188) → ¬ (z = 176 ∧ (j = 11 ∨ j = 12 ∨ j = 13 ∨ j = 25 ∨ j = 26 ∨ j = 27)) → s' z j = s z j) (hq : PastR s' q) : RI s' (pastTo S q) := by
  obtain ⟨-, h14, ⟨p1, p2⟩, -, ⟨l1, l2⟩, ⟨r1, r2⟩, hr⟩ := h
  obtain ⟨-, o2, -, -, -⟩ := ho
  refine ⟨hv, by rw [he.2 _ _ (by omega) (by omega) (by omega)]; exact h14, ⟨by rw [he.2 _ _ (by omega) (by omega) (by omega)]; exact p1, fun e => ?_⟩, hq, ⟨by rw [he.2 _ _ (by omega) (by omega) (by omega)]; exact l1, fun i hi => by rw [he.2 _ _ (by omega) (by omega) (by omega)]; exact l2 i hi⟩, ⟨by rw [he.2 _ _ (by omega) (by omega) (by omega)]; exact r1, fun i hi => by rw [he.2 _ _ (by omega) (by omega) (by omega)]; exact r2 i hi⟩, fun i hi => by rw [he.2 _ _ (by omega) (by omega) (by omega)]; exact hr i hi⟩
  rcases o2 with o | ⟨-, o⟩
  · have e' : S.2.1.1 = 1 := e
    rw [o] at e'; exact absurd e' (by decide)
  · exact (p2 e).eq o.1 o.2.1 (fun j _ _ => he.1 j (by omega))
theorem shift_e {s : Mm} : ∃ s', k_R_keepsBack_13 KF 153 s = k_R_keepsBack_51 (mU s' 176 27 (s' 176 27 - 1)) ∧ (∀ j, 153 ≤ j → j < 510 → s' 193 j = s 193 (j + 51)) ∧ (∀ j, ¬ (153 ≤ j ∧ j < 510) → s' 193 j = s 193 j) ∧ ∀ z j, z ≠ 193 → s' z j = s z j := by
  refine lp (fun n i x => k_R_keepsBack_13 n (nI i) x) (fun i x => 153 ≤ i ∧ (∀ j, 153 ≤ j → j < i → x 193 j = s 193 (j + 51)) ∧ (∀ j, ¬ (153 ≤ j ∧ j < i) → x 193 j = s 193 j) ∧ ∀ z j, z ≠ 193 → x z j = s z j) (fun r => ∃ s', r = k_R_keepsBack_51 (mU s' 176 27 (s' 176 27 - 1)) ∧ (∀ j, 153 ≤ j → j < 510 → s' 193 j = s 193 (j + 51)) ∧ (∀ j, ¬ (153 ≤ j ∧ j < 510) → s' 193 j = s 193 j) ∧ ∀ z j, z ≠ 193 → s' z j = s z j) 510 ?_ ?_ KF 153 s (by omega) (by rw [KF_1]; omega) ⟨by omega, fun j h1 h2 => absurd h2 (by omega), fun _ _ => rfl, fun _ _ _ => rfl⟩
  · intro n x ⟨h1, h2, h3, h4⟩
    unfold k_R_keepsBack_13
    rw [if_pos (show (510 : Int32) ≤ nI 510 from by decide), nm_s]
    exact ⟨x, rfl, h2, h3, h4⟩
  · intro n i x hi ⟨h1, h2, h3, h4⟩ ih
    have e51 : nI i + 51 = nI (i + 51) := nI_add i 51
    unfold k_R_keepsBack_13
    rw [if_neg (show ¬ (510 : Int32) ≤ nI i from nI_ge (b := 510) hi (by omega)), e51, gd_n (show i + 51 < 561 by omega) (by omega), gd_n (show i < 561 by omega) (by omega), nm_s, nI_clamp (by omega), nI_clamp (by omega), nI_1, h3 (i + 51) (by omega)]
    refine ih _ ⟨by omega, fun j j1 j2 => ?_, fun j hj => ?_, fun z j hz => by rw [mU_get, if_neg (fun y => hz y.1)]; exact h4 z j hz⟩
    · rw [mU_get]
      by_cases c : j = i
      · rw [if_pos ⟨rfl, c⟩, c]
      · rw [if_neg (fun y => c y.2)]
        exact h2 j j1 (by omega)
    · rw [mU_get, if_neg (by omega)]
      exact h3 j (by omega)
theorem SB.shift {s s' : Mm} {w : Nat} {V : CV} (h : SB s (w + 1) V) (hn : V.1 ≤ 6) (hm : V.2.1 ≤ 4) (he : ∀ j, 51 * w ≤ j → j < 51 * w + 51 → s' 193 j = s 193 (j + 51)) : SB s' w V := by
  have hj : ∀ k, k < 51 → s' 193 (51 * w + k) = s 193 (51 * (w + 1) + k) := fun k hk => by
    rw [he _ (by omega) (by omega)]
    congr 1
    omega
  obtain ⟨h1, h2, h3, h4, h5⟩ := h
  refine ⟨by rw [hj _ (by omega)]; exact h1, by rw [hj _ (by omega)]; exact h2, by rw [hj _ (by omega)]; exact h3, fun k hk => ?_, fun k hk => ?_⟩
  · have := h4 k hk
    simp only [Nat.add_assoc] at this ⊢
    rw [hj _ (by omega), hj _ (by omega), hj _ (by omega), hj _ (by omega)]
    exact this
  · have := h5 k hk
    simp only [Nat.add_assoc] at this ⊢
    rw [hj _ (by omega), hj _ (by omega), hj _ (by omega), hj _ (by omega), hj _ (by omega), hj _ (by omega)]
    exact this
