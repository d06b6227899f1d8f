/-! MONTHS, NEXTS, DOORS, HANDS -/
theorem XI.now {s s' : Mm} {S : SV} {V : CV} (h : XI s S) (he : ∀ z j, ¬ own 0 z → s' z j = s z j) (hc : HC s' 0 V) (hv : VOk V) : XI s' (vTo S V) := by
  obtain ⟨-, -, ⟨p1, p2⟩, ⟨st, h2, h8, h3, h4, h5⟩, ⟨l1, l2, l3⟩, ⟨r1, r2, r3⟩, hr⟩ := h
  have ho : ∀ d, d < 11 → d ≠ 0 → ∀ z j, own d z → s' z j = s z j := fun d hd h0 z j hz => he z j (by unfold own at hz ⊢; omega)
  have hs : ∀ z j, 165 ≤ z → s' z j = s z j := fun z j h1 => he z j (ne_own (by omega) h1)
  refine ⟨hc, hv, ⟨by rw [hs _ _ (by omega)]; exact p1, ?_⟩, ⟨st, h2, h8, by rw [hs _ _ (by omega)]; exact h3, by rw [hs _ _ (by omega)]; exact h4, fun i hi => ⟨(h5 i hi).1.eq (h5 i hi).2.1 (h5 i hi).2.2.1 (ho _ (by omega) (by omega)), (h5 i hi).2⟩⟩, ⟨l1, by rw [hs _ _ (by omega)]; exact l2, fun i hi => by rw [hs _ _ (by omega)]; exact l3 i hi⟩, ⟨r1, by rw [hs _ _ (by omega)]; exact r2, fun i hi => by rw [hs _ _ (by omega)]; exact r3 i hi⟩, fun i hi => by rw [hs _ _ (by omega)]; exact hr i hi⟩
  rcases p2 with e | ⟨e, o, v⟩
  · exact Or.inl e
  · exact Or.inr ⟨e, o.eq v.1 v.2.1 (ho 1 (by omega) (by omega)), v⟩
theorem RI.now {s s' : Mm} {S : SV} {V : CV} (h : RI s S) (ho : SOk S) (hv : RV s' V) (he : ∀ z j, ¬ (178 ≤ z ∧ z ≤ 188) → ¬ (z = 176 ∧ (j = 11 ∨ j = 12 ∨ j = 13 ∨ j = 25 ∨ j = 26)) → s' z j = s z j) : RI s' (vTo S V) := by
  obtain ⟨-, h14, ⟨p1, p2⟩, ⟨q1, q2⟩, ⟨l1, l2⟩, ⟨r1, r2⟩, hr⟩ := h
  obtain ⟨-, o2, ⟨o3, o3'⟩, -, -⟩ := ho
  refine ⟨hv, by rw [he _ _ (by omega) (by omega)]; exact h14, ⟨by rw [he _ _ (by omega) (by omega)]; exact p1, fun e => ?_⟩, ⟨by rw [he _ _ (by omega) (by omega)]; exact q1, fun i hi => (q2 i hi).eq (o3' i hi).1 (o3' i hi).2.1 (fun j _ _ => he _ _ (by omega) (by omega))⟩, ⟨by rw [he _ _ (by omega) (by omega)]; exact l1, fun i hi => by rw [he _ _ (by omega) (by omega)]; exact l2 i hi⟩, ⟨by rw [he _ _ (by omega) (by omega)]; exact r1, fun i hi => by rw [he _ _ (by omega) (by omega)]; exact r2 i hi⟩, fun i hi => by rw [he _ _ (by omega) (by omega)]; exact hr i hi⟩
  rcases o2 with o | ⟨-, o⟩
  · have e' : S.2.1.1 = 1 := e
    rw [o] at e'; exact absurd e' (by decide)
  · exact (p2 e).eq o.1 o.2.1 (fun j _ _ => he _ _ (by omega) (by omega))
def aft (S : SV) (V : CV) : SV := vTo (pastTo S (push S)) V
