/-! ROW -/
/-- ROW -/
def noRow (a : Int32) (S : SV) : Int32 := if btw a 0 99 = 0 then (if (rowOf S).1 = 12 then -6 else 0) else btw a 0 99
def rowAd (a : Int32) (S : SV) : SV := rowTo S ((rowOf S).1 + 1, fun i => if i = (rowOf S).1 then a else (rowOf S).2 i)
theorem op_row (a : Int32) : OpI (fun s => f_X_row s a) (fun s => f_R_row s a) := by
  refine OpI.m (mx' := fun s => f_N_put s a) (mr := fun s => k_R_row_24 a 0 s) (noRow a) (fun S => nI ((rowOf S).1 + 1)) (rowAd a) (fun S => ?_) ?_ ?_ ?_ ?_
  · unfold noRow
    by_cases c : btw a 0 99 = 0
    · rw [if_pos c]
      by_cases d : (rowOf S).1 = 12
      · rw [if_pos d]; exact Or.inr (Or.inr (Or.inr (Or.inr (Or.inr rfl))))
      · rw [if_neg d]; exact Or.inl rfl
    · rw [if_neg c]; exact Codes.b _ _ _
  · intro s S h
    obtain ⟨r1, r2, r3⟩ := h.2.2.2.2.2.1
    have r1 : (rowOf S).1 ≤ 12 := r1
    have r2 : s 171 1 = nI (rowOf S).1 := r2
    unfold f_X_row k_X_row_25 noRow
    simp only [between_e, bn_s, bn_eta]
    by_cases c : btw a 0 99 = 0
    · simp only [c, if_true]
      unfold f_N_isFull
      rw [r2]
      by_cases d : (rowOf S).1 = 12
      · rw [if_neg (show ¬ nI (rowOf S).1 < 12 from by rw [d]; decide), bn_s, if_neg (by decide), if_pos d, if_neg (by decide)]
      · rw [if_pos (show nI (rowOf S).1 < 12 from nI_lt (b := 12) (by omega) (by omega)), bn_s, if_pos rfl, if_neg d, if_pos rfl]
    · simp only [c, if_false]
  · intro s S ho h
    obtain ⟨r2, r3⟩ := h.2.2.2.2.2.1
    have r1 : (rowOf S).1 ≤ 12 := ho.2.2.2.2
    have r2 : s 176 29 = nI (rowOf S).1 := r2
    show f_R_row s a = _
    unfold f_R_row noRow
    simp only [bound_e, bn_s]
    by_cases c : btw a 0 99 = 0
    · simp only [c, if_true]
      rw [r2]
      by_cases d : (rowOf S).1 = 12
      · rw [if_pos (show nI (rowOf S).1 = 12 from by rw [d]; rfl), if_pos d, if_neg (by decide)]
        unfold k_R_row_24
        rw [if_neg (by decide), bn_eta]
      · by_cases d2 : nI (rowOf S).1 = 12
        · exact absurd ((nI_eq (by omega) (b := 12) (by omega)).mp d2) d
        · rw [if_neg d2, if_neg d, if_pos rfl]
    · simp only [c, if_false]
      unfold k_R_row_24
      rw [if_neg c, bn_eta]
  · intro s S h e
    have hq := h.2.2.2.2.2.1
    obtain ⟨r1, r2, r3⟩ := hq
    have r1 : (rowOf S).1 ≤ 12 := r1
    have r2 : s 171 1 = nI (rowOf S).1 := r2
    have r3 : ∀ i, i < (rowOf S).1 → s 172 i = (rowOf S).2 i := r3
    have hlt : (rowOf S).1 < 12 := by
      unfold noRow at e
      by_cases c : btw a 0 99 = 0
      · rw [if_pos c] at e
        by_cases d : (rowOf S).1 = 12
        · rw [if_pos d] at e; exact absurd e (by decide)
        · omega
      · rw [if_neg c] at e; exact absurd e c
    unfold f_N_put
    rw [r2, setCell_e (o := 172) _ hlt (by decide), bv_s, nm_s]
    have e1 : ∀ z j, z ≠ 171 → z ≠ 172 → mU (mU s 172 (rowOf S).1 a) 171 1 (mU s 172 (rowOf S).1 a 171 1 + 1) z j = s z j := fun z j h1 h2 => by
      rw [mU_get, if_neg (fun y => h1 y.1), mU_get, if_neg (fun y => h2 y.1)]
    have e2 : mU (mU s 172 (rowOf S).1 a) 171 1 (mU s 172 (rowOf S).1 a 171 1 + 1) 171 1 = nI ((rowOf S).1 + 1) := by
      rw [mU_get, if_pos ⟨rfl, rfl⟩, mU_get, if_neg (by omega), r2, nI_1]
    refine ⟨_, by rw [e2], h.row e1 ⟨by show (rowOf S).1 + 1 ≤ 12; omega, e2, fun i hi => ?_⟩, fun z j hz => e1 z j (by omega) (by omega)⟩
    have hi : i < (rowOf S).1 + 1 := hi
    show _ = if i = (rowOf S).1 then a else (rowOf S).2 i
    rw [mU_get, if_neg (by omega), mU_get]
    by_cases c : i = (rowOf S).1
    · rw [if_pos ⟨rfl, c⟩, if_pos c]
    · rw [if_neg (fun y => c y.2), if_neg c]
      exact r3 i (by omega)
  · intro s S ho h e
    obtain ⟨r2, r3⟩ := h.2.2.2.2.2.1
    have r1 : (rowOf S).1 ≤ 12 := ho.2.2.2.2
    have r2 : s 176 29 = nI (rowOf S).1 := r2
    have r3 : ∀ i, i < (rowOf S).1 → s 194 i = (rowOf S).2 i := r3
    have hlt : (rowOf S).1 < 12 := by
      unfold noRow at e
      by_cases c : btw a 0 99 = 0
      · rw [if_pos c] at e
        by_cases d : (rowOf S).1 = 12
        · rw [if_pos d] at e; exact absurd e (by decide)
        · omega
      · rw [if_neg c] at e; exact absurd e c
    show ∃ s', k_R_row_24 a 0 s = _ ∧ _
    unfold k_R_row_24
    rw [if_pos rfl, r2, gd_n hlt (by omega), nm_s, nI_clamp (by omega), nm_s]
    have e1 : ∀ z j, z ≠ 194 → ¬ (z = 176 ∧ j = 29) → mU (mU s 194 (rowOf S).1 a) 176 29 (mU s 194 (rowOf S).1 a 176 29 + 1) z j = s z j := fun z j h1 h2 => by
      rw [mU_get, if_neg h2, mU_get, if_neg (fun y => h1 y.1)]
    have e2 : mU (mU s 194 (rowOf S).1 a) 176 29 (mU s 194 (rowOf S).1 a 176 29 + 1) 176 29 = nI ((rowOf S).1 + 1) := by
      rw [mU_get, if_pos ⟨rfl, rfl⟩, mU_get, if_neg (by omega), r2, nI_1]
    refine ⟨_, by rw [e2], h.row ho e1 ⟨e2, fun i hi => ?_⟩, fun z j hz => e1 z j (by omega) (by omega)⟩
    have hi : i < (rowOf S).1 + 1 := hi
    show _ = if i = (rowOf S).1 then a else (rowOf S).2 i
    rw [mU_get, if_neg (by omega), mU_get]
    by_cases c : i = (rowOf S).1
    · rw [if_pos ⟨rfl, c⟩, if_pos c]
    · rw [if_neg (fun y => c y.2), if_neg c]
      exact r3 i (by omega)
