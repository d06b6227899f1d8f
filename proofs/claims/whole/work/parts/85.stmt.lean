/-! one STATEMENT read by the reference -/
theorem rA100 (s : Mm) (t : Int32) : f_R_readsAll s 100 t = rs2 s t 1 2 := by unfold f_R_readsAll; rw [if_pos rfl]; rfl
theorem rA102 (s : Mm) (t : Int32) : f_R_readsAll s 102 t = rs3 s t 1 1 2 := by unfold f_R_readsAll; rw [if_neg (by decide), if_pos rfl]; rfl
theorem rA103 (s : Mm) (t : Int32) : f_R_readsAll s 103 t = rs3 s t 2 2 1 := by unfold f_R_readsAll; rw [if_neg (by decide), if_neg (by decide), if_pos rfl]; rfl
theorem rA109 (s : Mm) (t : Int32) : f_R_readsAll s 109 t = bn (f_R_readsDigits s t 2) fun x s' => gb x <| some (x, s') := by unfold f_R_readsAll; rw [if_neg (by decide), if_neg (by decide), if_neg (by decide), if_pos rfl]
theorem rA104 (s : Mm) (t : Int32) : f_R_readsAll s 104 t = rs2 s t 1 1 := by unfold f_R_readsAll; rw [if_neg (by decide), if_neg (by decide), if_neg (by decide), if_neg (by decide)]; rfl
theorem rA110 (s : Mm) (t : Int32) : f_R_readsAll s 110 t = rs2 s t 1 1 := by unfold f_R_readsAll; rw [if_neg (by decide), if_neg (by decide), if_neg (by decide), if_neg (by decide)]; rfl
def tol1 (q : LV) (p : Nat) : Int32 := if ltA q p = 103 ∨ ltA q p = 109 then nI (tvN q (p + 1) 2) else nI (tvN q (p + 1) 1)
def tol2 (q : LV) (p : Nat) : Int32 := if ltA q p = 100 then nI (tvN q (p + 2) 2) else if ltA q p = 103 then nI (tvN q (p + 3) 2) else nI (tvN q (p + 2) 1)
def tol3 (q : LV) (p : Nat) : Int32 := if ltA q p = 102 then nI (tvN q (p + 3) 2) else nI (tvN q (p + 5) 1)
def Tol (s : Mm) (q : LV) (j p : Nat) : Prop := s 192 (3 * j) = tol1 q p ∧ (¬ ltA q p = 109 → s 192 (3 * j + 1) = tol2 q p) ∧ (ltA q p = 102 ∨ ltA q p = 103 → s 192 (3 * j + 2) = tol3 q p)
theorem kind6 {x : Int32} (h : dB x ≠ 0) : x = 100 ∨ x = 102 ∨ x = 103 ∨ x = 104 ∨ x = 109 ∨ x = 110 := by
  unfold dB at h
  by_cases h1 : x = 100
  · exact Or.inl h1
  · by_cases h2 : x = 102
    · exact Or.inr (Or.inl h2)
    · by_cases h3 : x = 103
      · exact Or.inr (Or.inr (Or.inl h3))
      · by_cases h4 : x = 104
        · exact Or.inr (Or.inr (Or.inr (Or.inl h4)))
        · by_cases h5 : x = 109
          · exact Or.inr (Or.inr (Or.inr (Or.inr (Or.inl h5))))
          · by_cases h6 : x = 110
            · exact Or.inr (Or.inr (Or.inr (Or.inr (Or.inr h6))))
            · rw [if_neg h1, if_neg h2, if_neg h3, if_neg h4, if_neg h5, if_neg h6] at h
              exact absurd rfl h
theorem readsAll_ok {s : Mm} {q : LV} {p j : Nat} (h : LetR s q) (h96 : q.1 ≤ 96) (h21 : s 176 21 = nI (p + 1)) (hp : p < 100) (hj : j < 46) (h0 : dB (ltA q p) ≠ 0) (hd : ∀ i, i < dB (ltA q p) → dgT q (p + 1 + i)) : ∃ s', f_R_readsAll s (ltA q p) (nI (3 * j)) = some (1, s') ∧ s' 176 21 = nI (p + 1 + dB (ltA q p)) ∧ Tol s' q j p ∧ FrD2 (3 * j) (3 * j + 3) s s' := by
  unfold Tol tol1 tol2 tol3
  rcases kind6 h0 with e | e | e | e | e | e
  · rw [e] at hd ⊢
    obtain ⟨s', a1, a2, a3, a4, a5⟩ := rs2_ok (D := 1) (E := 2) (j := 3 * j) h h96 h21 (by omega) (by omega) (by omega) (by omega) hd
    rw [rA100]
    refine ⟨s', a1, a2, ⟨?_, fun _ => ?_, fun z => ?_⟩, a5.wid (by omega) (by omega)⟩
    · rw [if_neg (by decide)]; exact a3
    · rw [if_pos rfl]; exact a4
    · exact absurd z (by decide)
  · rw [e] at hd ⊢
    obtain ⟨s', a1, a2, a3, a4, a5, a6⟩ := rs3_ok (D := 1) (E := 1) (H := 2) (j := 3 * j) h h96 h21 (by omega) (by omega) (by omega) (by omega) (by omega) hd
    rw [rA102]
    refine ⟨s', a1, a2, ⟨?_, fun _ => ?_, fun _ => ?_⟩, a6⟩
    · rw [if_neg (by decide)]; exact a3
    · rw [if_neg (by decide), if_neg (by decide)]; exact a4
    · rw [if_pos rfl]; exact a5
  · rw [e] at hd ⊢
    obtain ⟨s', a1, a2, a3, a4, a5, a6⟩ := rs3_ok (D := 2) (E := 2) (H := 1) (j := 3 * j) h h96 h21 (by omega) (by omega) (by omega) (by omega) (by omega) hd
    rw [rA103]
    refine ⟨s', a1, a2, ⟨?_, fun _ => ?_, fun _ => ?_⟩, a6⟩
    · rw [if_pos (by decide)]; exact a3
    · rw [if_neg (by decide), if_pos rfl]; exact a4
    · rw [if_neg (by decide)]; exact a5
  · rw [e] at hd ⊢
    obtain ⟨s', a1, a2, a3, a4, a5⟩ := rs2_ok (D := 1) (E := 1) (j := 3 * j) h h96 h21 (by omega) (by omega) (by omega) (by omega) hd
    rw [rA104]
    refine ⟨s', a1, a2, ⟨?_, fun _ => ?_, fun z => ?_⟩, a5.wid (by omega) (by omega)⟩
    · rw [if_neg (by decide)]; exact a3
    · rw [if_neg (by decide), if_neg (by decide)]; exact a4
    · exact absurd z (by decide)
  · rw [e] at hd ⊢
    obtain ⟨s', a1, a2, a3, a4⟩ := rdig_ok (D := 2) (j := 3 * j) h h96 h21 (by omega) (by omega) (by omega) hd
    have a1 : f_R_readsDigits s (nI (3 * j)) 2 = some (1, s') := a1
    rw [rA109, a1, bn_s, gb_1]
    refine ⟨s', rfl, a2, ⟨?_, fun z => absurd rfl z, fun z => ?_⟩, a4.wid (by omega) (by omega)⟩
    · rw [if_pos (by decide)]; exact a3
    · exact absurd z (by decide)
  · rw [e] at hd ⊢
    obtain ⟨s', a1, a2, a3, a4, a5⟩ := rs2_ok (D := 1) (E := 1) (j := 3 * j) h h96 h21 (by omega) (by omega) (by omega) (by omega) hd
    rw [rA110]
    refine ⟨s', a1, a2, ⟨?_, fun _ => ?_, fun z => ?_⟩, a5.wid (by omega) (by omega)⟩
    · rw [if_neg (by decide)]; exact a3
    · rw [if_neg (by decide), if_neg (by decide)]; exact a4
    · exact absurd z (by decide)
theorem readsAll_bad {s : Mm} {q : LV} {p j i : Nat} (h : LetR s q) (h96 : q.1 ≤ 96) (h21 : s 176 21 = nI (p + 1)) (hp : p < 100) (hj : j < 46) (h0 : dB (ltA q p) ≠ 0) (hi : i < dB (ltA q p)) (hd : ∀ k, k < i → dgT q (p + 1 + k)) (hb : ¬ dgT q (p + 1 + i)) : ∃ s', f_R_readsAll s (ltA q p) (nI (3 * j)) = some (0, s') ∧ s' 176 21 = nI (p + 1 + i) ∧ FrD2 (3 * j) (3 * j + 3) s s' := by
  rcases kind6 h0 with e | e | e | e | e | e
  · rw [e] at hi ⊢
    obtain ⟨s', a1, a2, a3⟩ := rs2_bad (D := 1) (E := 2) (j := 3 * j) h h96 h21 (by omega) (by omega) (by omega) (by omega) hi hd hb
    rw [rA100]
    exact ⟨s', a1, a2, a3.wid (by omega) (by omega)⟩
  · rw [e] at hi ⊢
    obtain ⟨s', a1, a2, a3⟩ := rs3_bad (D := 1) (E := 1) (H := 2) (j := 3 * j) h h96 h21 (by omega) (by omega) (by omega) (by omega) (by omega) hi hd hb
    rw [rA102]
    exact ⟨s', a1, a2, a3⟩
  · rw [e] at hi ⊢
    obtain ⟨s', a1, a2, a3⟩ := rs3_bad (D := 2) (E := 2) (H := 1) (j := 3 * j) h h96 h21 (by omega) (by omega) (by omega) (by omega) (by omega) hi hd hb
    rw [rA103]
    exact ⟨s', a1, a2, a3⟩
  · rw [e] at hi ⊢
    obtain ⟨s', a1, a2, a3⟩ := rs2_bad (D := 1) (E := 1) (j := 3 * j) h h96 h21 (by omega) (by omega) (by omega) (by omega) hi hd hb
    rw [rA104]
    exact ⟨s', a1, a2, a3.wid (by omega) (by omega)⟩
  · rw [e] at hi ⊢
    obtain ⟨s', a1, a2, a3⟩ := rdig_bad (D := 2) (j := 3 * j) h h96 h21 (by omega) (by omega) hi hd hb
    have a1 : f_R_readsDigits s (nI (3 * j)) 2 = some (0, s') := a1
    rw [rA109, a1, bn_s, gb_0]
    exact ⟨s', rfl, a2, a3.wid (by omega) (by omega)⟩
  · rw [e] at hi ⊢
    obtain ⟨s', a1, a2, a3⟩ := rs2_bad (D := 1) (E := 1) (j := 3 * j) h h96 h21 (by omega) (by omega) (by omega) (by omega) hi hd hb
    rw [rA110]
    exact ⟨s', a1, a2, a3.wid (by omega) (by omega)⟩
/-- what one statement leaves as it was -/
def FrS (j : Nat) (s s' : Mm) : Prop := ∀ z k, ¬ (z = 176 ∧ k = 21) → ¬ (z = 190 ∧ k = j) → ¬ (z = 191 ∧ k = j) → ¬ (z = 192 ∧ 3 * j ≤ k ∧ k < 3 * j + 3) → s' z k = s z k
def Told (s : Mm) (q : LV) (j p : Nat) : Prop := s 190 j = ltA q p ∧ s 191 j = nI p ∧ Tol s q j p
theorem stmt_k {s : Mm} {q : LV} {p : Nat} (h : LetR s q) (h96 : q.1 ≤ 96) (h21 : s 176 21 = nI p) (hp : p < 100) : f_R_statement s = if dB (ltA q p) = 0 then some (0, s) else k_R_statement_43 (ltA q p) s := by
  unfold f_R_statement
  rw [nextLetter_e h h96 h21 (by omega), bn_s]
  by_cases c : dB (ltA q p) = 0
  · rw [if_pos c]
    have n1 : ∀ y : Int32, dB y ≠ 0 → ¬ ltA q p = y := fun y hy z => hy (by rw [← z]; exact c)
    rw [if_neg (n1 102 (by decide)), if_neg (n1 110 (by decide)), if_neg (n1 100 (by decide)), if_neg (n1 103 (by decide)), if_neg (n1 104 (by decide)), if_neg (n1 109 (by decide))]
  · rw [if_neg c]
    rcases kind6 c with e | e | e | e | e | e
    all_goals rw [e]; rfl
theorem stmt_ok {s : Mm} {q : LV} {p j : Nat} (h : LetR s q) (h96 : q.1 ≤ 96) (h21 : s 176 21 = nI p) (h22 : s 176 22 = nI j) (hj : j < 46) (hw : WfA q p) : ∃ s', f_R_statement s = some (1, s') ∧ s' 176 21 = nI (p + dB (ltA q p) + 2) ∧ Told s' q j p ∧ FrS j s s' := by
  have hf := hw.fit
  have hd := dB_r (ltA q p)
  rw [stmt_k h h96 h21 (by omega), if_neg hw.1]
  unfold k_R_statement_43
  have g2 : ∀ v, mU s 190 j v 176 22 = nI j := fun v => by rw [mU_get, if_neg (by omega)]; exact h22
  rw [h22, gd_n (show j < 48 by omega) (by omega), nm_s, nI_clamp (by omega), g2, gd_n (show j < 48 by omega) (by omega), nm_s, nI_clamp (by omega)]
  obtain ⟨s1, es1⟩ : ∃ s1, s1 = mU (mU s 190 j (ltA q p)) 191 j (mU s 190 j (ltA q p) 176 21) := ⟨_, rfl⟩
  rw [← es1]
  have e21 : mU s 190 j (ltA q p) 176 21 = nI p := by rw [mU_get, if_neg (by omega)]; exact h21
  rw [e21] at es1
  have o1 : ∀ z k, ¬ (z = 190 ∧ k = j) → ¬ (z = 191 ∧ k = j) → s1 z k = s z k := fun z k h1 h2 => by rw [es1, mU_get, if_neg h2, mU_get, if_neg h1]
  have t0 : s1 190 j = ltA q p := by rw [es1, mU_get, if_neg (by omega), mU_get, if_pos ⟨rfl, rfl⟩]
  have t1 : s1 191 j = nI p := by rw [es1, mU_get, if_pos ⟨rfl, rfl⟩]
  have w21 : s1 176 21 = nI p := by rw [o1 _ _ (by omega) (by omega)]; exact h21
  rw [w21, nI_1, nm_s]
  obtain ⟨s2, es2⟩ : ∃ s2, s2 = mU s1 176 21 (nI (p + 1)) := ⟨_, rfl⟩
  rw [← es2]
  have o2 : ∀ z k, ¬ (z = 176 ∧ k = 21) → s2 z k = s1 z k := fun z k h1 => by rw [es2, mU_get, if_neg h1]
  have x21 : s2 176 21 = nI (p + 1) := by rw [es2, mU_get, if_pos ⟨rfl, rfl⟩]
  have x22 : s2 176 22 = nI j := by rw [o2 _ _ (by omega), o1 _ _ (by omega) (by omega)]; exact h22
  have hL : LetR s2 q := ⟨by rw [o2 _ _ (by omega), o1 _ _ (by omega) (by omega)]; exact h.1, fun i hi => by rw [o2 _ _ (by omega), o1 _ _ (by omega) (by omega)]; exact h.2 i hi⟩
  obtain ⟨s3, b1, b2, b3, b4⟩ := readsAll_ok (j := j) hL h96 x21 (by omega) hj hw.1 hw.2.1
  rw [x22, show (3 : Int32) * nI j = nI (3 * j) from pk_mul 3 j, b1, bn_s, if_neg (by decide), nextLetter_e (hL.fr b4) h96 b2 (by omega), bn_s, hw.2.2, if_pos rfl, b2, nI_1, nm_s]
  obtain ⟨s4, es4⟩ : ∃ s4, s4 = mU s3 176 21 (nI (p + 1 + dB (ltA q p) + 1)) := ⟨_, rfl⟩
  rw [← es4]
  have o4 : ∀ z k, ¬ (z = 176 ∧ k = 21) → s4 z k = s3 z k := fun z k h1 => by rw [es4, mU_get, if_neg h1]
  refine ⟨s4, rfl, by rw [es4, mU_get, if_pos ⟨rfl, rfl⟩, show p + 1 + dB (ltA q p) + 1 = p + dB (ltA q p) + 2 by omega], ⟨?_, ?_, ?_⟩, fun z k h1 h2 h3 h4 => by rw [o4 z k h1, b4 z k h1 h4, o2 z k h1, o1 z k h2 h3]⟩
  · rw [o4 _ _ (by omega), b4 _ _ (by omega) (by omega), o2 _ _ (by omega)]; exact t0
  · rw [o4 _ _ (by omega), b4 _ _ (by omega) (by omega), o2 _ _ (by omega)]; exact t1
  · obtain ⟨c1, c2, c3⟩ := b3
    exact ⟨by rw [o4 _ _ (by omega)]; exact c1, fun z => by rw [o4 _ _ (by omega)]; exact c2 z, fun z => by rw [o4 _ _ (by omega)]; exact c3 z⟩
theorem stmt_bad {s : Mm} {q : LV} {p j r : Nat} (h : LetR s q) (h96 : q.1 ≤ 96) (h21 : s 176 21 = nI p) (h22 : s 176 22 = nI j) (hj : j < 46) (hp : p < 100) (hb : BadA q p r) : ∃ s', f_R_statement s = some (0, s') ∧ s' 176 21 = nI r ∧ FrS j s s' := by
  have hd := dB_r (ltA q p)
  rw [stmt_k h h96 h21 (by omega)]
  rcases hb with ⟨e, e2⟩ | ⟨e, i, i1, i2, i3, i4, i5⟩
  · rw [if_pos e]
    exact ⟨s, rfl, by rw [e2]; exact h21, fun _ _ _ _ _ _ => rfl⟩
  · rw [if_neg e]
    unfold k_R_statement_43
    have g2 : ∀ v, mU s 190 j v 176 22 = nI j := fun v => by rw [mU_get, if_neg (by omega)]; exact h22
    rw [h22, gd_n (show j < 48 by omega) (by omega), nm_s, nI_clamp (by omega), g2, gd_n (show j < 48 by omega) (by omega), nm_s, nI_clamp (by omega)]
    obtain ⟨s1, es1⟩ : ∃ s1, s1 = mU (mU s 190 j (ltA q p)) 191 j (mU s 190 j (ltA q p) 176 21) := ⟨_, rfl⟩
    rw [← es1]
    have o1 : ∀ z k, ¬ (z = 190 ∧ k = j) → ¬ (z = 191 ∧ k = j) → s1 z k = s z k := fun z k h1 h2 => by rw [es1, mU_get, if_neg h2, mU_get, if_neg h1]
    have w21 : s1 176 21 = nI p := by rw [o1 _ _ (by omega) (by omega)]; exact h21
    rw [w21, nI_1, nm_s]
    obtain ⟨s2, es2⟩ : ∃ s2, s2 = mU s1 176 21 (nI (p + 1)) := ⟨_, rfl⟩
    rw [← es2]
    have o2 : ∀ z k, ¬ (z = 176 ∧ k = 21) → s2 z k = s1 z k := fun z k h1 => by rw [es2, mU_get, if_neg h1]
    have x21 : s2 176 21 = nI (p + 1) := by rw [es2, mU_get, if_pos ⟨rfl, rfl⟩]
    have x22 : s2 176 22 = nI j := by rw [o2 _ _ (by omega), o1 _ _ (by omega) (by omega)]; exact h22
    have hL : LetR s2 q := ⟨by rw [o2 _ _ (by omega), o1 _ _ (by omega) (by omega)]; exact h.1, fun i hi => by rw [o2 _ _ (by omega), o1 _ _ (by omega) (by omega)]; exact h.2 i hi⟩
    rw [x22, show (3 : Int32) * nI j = nI (3 * j) from pk_mul 3 j]
    by_cases c : i = dB (ltA q p)
    · obtain ⟨s3, b1, b2, b3, b4⟩ := readsAll_ok (j := j) hL h96 x21 (by omega) hj e (fun k hk => i3 k (by omega))
      have h9 := i5 c
      rw [c] at h9
      rw [b1, bn_s, if_neg (by decide), nextLetter_e (hL.fr b4) h96 b2 (by omega), bn_s, if_neg h9]
      exact ⟨s3, rfl, by rw [b2, i2, c], fun z k h1 h2 h3 h4 => by rw [b4 z k h1 h4, o2 z k h1, o1 z k h2 h3]⟩
    · obtain ⟨s3, b1, b2, b4⟩ := readsAll_bad (j := j) (i := i) hL h96 x21 (by omega) hj e (by omega) i3 (i4 (by omega))
      rw [b1, bn_s, if_pos rfl]
      exact ⟨s3, rfl, by rw [b2, i2], fun z k h1 h2 h3 h4 => by rw [b4 z k h1 h4, o2 z k h1, o1 z k h2 h3]⟩
