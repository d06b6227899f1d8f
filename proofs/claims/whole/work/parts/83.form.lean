/-! a CIRCLE's letters: their form -/
abbrev LV : Type := Nat × (Nat → Int32)
def ltA (q : LV) (i : Nat) : Int32 := if i < q.1 then q.2 i else -1
def dB (x : Int32) : Nat := if x = 100 then 3 else if x = 102 then 4 else if x = 103 then 5 else if x = 104 then 2 else if x = 109 then 2 else if x = 110 then 2 else 0
def dgT (q : LV) (p : Nat) : Prop := isI (ltA q p) 48 57 = 1
def posA (q : LV) : Nat → Nat
  | 0 => 0
  | j + 1 => posA q j + dB (ltA q (posA q j)) + 2
def WfA (q : LV) (p : Nat) : Prop := dB (ltA q p) ≠ 0 ∧ (∀ i, i < dB (ltA q p) → dgT q (p + 1 + i)) ∧ ltA q (p + 1 + dB (ltA q p)) = 59
def Good (q : LV) (c : Nat) : Prop := ∀ j, j < c → WfA q (posA q j)
def BadA (q : LV) (p r : Nat) : Prop := (dB (ltA q p) = 0 ∧ r = p) ∨ (dB (ltA q p) ≠ 0 ∧ ∃ i, i ≤ dB (ltA q p) ∧ r = p + 1 + i ∧ (∀ k, k < i → dgT q (p + 1 + k)) ∧ (i < dB (ltA q p) → ¬ dgT q (p + 1 + i)) ∧ (i = dB (ltA q p) → ¬ ltA q (p + 1 + i) = 59))
theorem dB_r (x : Int32) : dB x = 0 ∨ (2 ≤ dB x ∧ dB x ≤ 5) := by
  unfold dB
  repeat' split
  all_goals omega
theorem isI_01 (x a b : Int32) : isI x a b = 0 ∨ isI x a b = 1 := by
  unfold isI
  repeat' split
  all_goals simp
theorem ltA_in {q : LV} {i : Nat} (h : ¬ ltA q i = -1) : i < q.1 := by
  unfold ltA at h
  by_cases c : i < q.1
  · exact c
  · rw [if_neg c] at h; exact absurd rfl h
theorem WfA.fit {q : LV} {p : Nat} (h : WfA q p) : p + dB (ltA q p) + 2 ≤ q.1 := by
  have := ltA_in (q := q) (i := p + 1 + dB (ltA q p)) (by rw [h.2.2]; decide)
  omega
theorem Good.le {q : LV} : ∀ c, Good q c → 4 * c ≤ posA q c ∧ (c = 0 ∨ posA q c ≤ q.1)
  | 0, _ => ⟨Nat.le_refl _, Or.inl rfl⟩
  | c + 1, h => by
    have ih := Good.le c (fun j hj => h j (by omega))
    have hw := h c (by omega)
    have hf := hw.fit
    have hd := dB_r (ltA q (posA q c))
    have h0 := hw.1
    show 4 * (c + 1) ≤ posA q c + dB (ltA q (posA q c)) + 2 ∧ (c + 1 = 0 ∨ posA q c + dB (ltA q (posA q c)) + 2 ≤ q.1)
    omega
theorem first_bad {q : LV} {p : Nat} : ∀ D, (∀ i, i < D → dgT q (p + i)) ∨ ∃ i, i < D ∧ (∀ k, k < i → dgT q (p + k)) ∧ ¬ dgT q (p + i)
  | 0 => Or.inl (fun i hi => absurd hi (by omega))
  | D + 1 => by
    rcases first_bad (q := q) (p := p) D with h | ⟨i, h1, h2, h3⟩
    · by_cases c : dgT q (p + D)
      · refine Or.inl (fun i hi => ?_)
        by_cases e : i = D
        · rw [e]; exact c
        · exact h i (by omega)
      · exact Or.inr ⟨D, by omega, h, c⟩
    · exact Or.inr ⟨i, by omega, h2, h3⟩
theorem wf_or_bad (q : LV) (p : Nat) : WfA q p ∨ ∃ r, BadA q p r := by
  by_cases c : dB (ltA q p) = 0
  · exact Or.inr ⟨p, Or.inl ⟨c, rfl⟩⟩
  · rcases first_bad (q := q) (p := p + 1) (dB (ltA q p)) with h | ⟨i, h1, h2, h3⟩
    · by_cases d : ltA q (p + 1 + dB (ltA q p)) = 59
      · exact Or.inl ⟨c, h, d⟩
      · exact Or.inr ⟨p + 1 + dB (ltA q p), Or.inr ⟨c, dB (ltA q p), Nat.le_refl _, rfl, h, fun z => absurd z (by omega), fun _ => d⟩⟩
    · exact Or.inr ⟨p + 1 + i, Or.inr ⟨c, i, by omega, rfl, h2, fun _ => h3, fun z => absurd z (by omega)⟩⟩
theorem form_cases (q : LV) : ∀ d c, Good q c → q.1 - posA q c < d → (∃ c, 1 ≤ c ∧ Good q c ∧ posA q c = q.1) ∨ ∃ c r, Good q c ∧ BadA q (posA q c) r ∧ (posA q c < q.1 ∨ c = 0)
  | 0, c, _, h => absurd h (by omega)
  | d + 1, c, hg, h => by
    have hl := (Good.le c hg).2
    by_cases e : posA q c < q.1 ∨ c = 0
    · rcases wf_or_bad q (posA q c) with w | ⟨r, b⟩
      · have hf := w.fit
        have hg' : Good q (c + 1) := fun j hj => by
          by_cases e2 : j = c
          · rw [e2]; exact w
          · exact hg j (by omega)
        exact form_cases q d (c + 1) hg' (by show q.1 - (posA q c + dB (ltA q (posA q c)) + 2) < d; omega)
      · exact Or.inr ⟨c, r, hg, b, e⟩
    · exact Or.inl ⟨c, by omega, hg, by omega⟩
/-! the object reads -/
theorem letterAt_e {s : Mm} {q : LV} {i : Nat} (h : LetX s q) (hi : i < 1000) : f_L_letterAt s (nI i) = some (ltA q i, s) := by
  obtain ⟨h1, h2, h3⟩ := h
  unfold f_L_letterAt ltA
  rw [h2]
  by_cases c : i < q.1
  · rw [if_neg (nI_ge c (by omega)), if_pos c, cellOf_e (o := 170) (show i < aL 170 from by show i < 96; omega) (by decide), bn_s, h3 i c]
  · rw [if_pos (nI_le (by omega) (by omega)), if_neg c]
theorem digitsBehind_e (s : Mm) (x : Int32) : f_L_digitsBehind s x = some (nI (dB x), s) := by
  unfold f_L_digitsBehind dB
  repeat' split
  all_goals rfl
theorem isDigit_e {s : Mm} {q : LV} {i : Nat} (h : LetX s q) (hi : i < 1000) : f_L_isDigit s (nI i) = some (isI (ltA q i) 48 57, s) := by
  unfold f_L_isDigit isI
  rw [letterAt_e h hi, bn_s]
  repeat' split
  all_goals rfl
theorem formIn_ok {s : Mm} {q : LV} {p D : Nat} {kc : Int32 → Mm → Option (Int32 × Mm)} (h : LetX s q) (hp : p < 200) (hD : D ≤ 5) (hd : ∀ i, i < D → dgT q (p + 1 + i)) (h9 : ltA q (p + 1 + D) = 59) : k_L_placeOfFormFault_36 kc KF (nI p) (nI D) 0 s = kc (nI (p + D + 2)) s := by
  refine lp (α := Unit) (fun n i _ => k_L_placeOfFormFault_36 kc n (nI (p + i)) (nI D) (nI i) s) (fun _ _ => True) (fun r => r = kc (nI (p + D + 2)) s) D ?_ ?_ KF 0 () (by omega) (by rw [KF_1]; omega) trivial
  · intro n _ _
    unfold k_L_placeOfFormFault_36
    rw [if_pos (nI_le (Nat.le_refl _) (by omega)), nI_1, letterAt_e h (by omega), bn_s, show p + D + 1 = p + 1 + D by omega, h9, if_pos rfl, nI_1, show p + 1 + D + 1 = p + D + 2 by omega]
  · intro n i _ hi _ ih
    unfold k_L_placeOfFormFault_36
    have hdi : isI (ltA q (p + 1 + i)) 48 57 = 1 := hd i hi
    rw [if_neg (nI_ge hi (by omega)), nI_1, nI_1, isDigit_e h (by omega), bn_s, show p + i + 1 = p + 1 + i by omega, hdi, if_neg (by decide)]
    have := ih () trivial
    rw [show p + 1 + i = p + (i + 1) by omega]
    exact this
theorem formIn_bad {s : Mm} {q : LV} {p D i : Nat} {kc : Int32 → Mm → Option (Int32 × Mm)} (h : LetX s q) (hp : p < 200) (hD : D ≤ 5) (hi : i ≤ D) (hd : ∀ k, k < i → dgT q (p + 1 + k)) (hb : i < D → ¬ dgT q (p + 1 + i)) (h9 : i = D → ¬ ltA q (p + 1 + i) = 59) : k_L_placeOfFormFault_36 kc KF (nI p) (nI D) 0 s = some (nI (p + 1 + i), s) := by
  refine lp (α := Unit) (fun n k _ => k_L_placeOfFormFault_36 kc n (nI (p + k)) (nI D) (nI k) s) (fun _ _ => True) (fun r => r = some (nI (p + 1 + i), s)) i ?_ ?_ KF 0 () (by omega) (by rw [KF_1]; omega) trivial
  · intro n _ _
    unfold k_L_placeOfFormFault_36
    by_cases c : i = D
    · rw [if_pos (nI_le (by omega) (by omega)), nI_1, letterAt_e h (by omega), bn_s, show p + i + 1 = p + 1 + i by omega, if_neg (h9 c)]
    · have hdi : isI (ltA q (p + 1 + i)) 48 57 = 0 := by
        rcases isI_01 (ltA q (p + 1 + i)) 48 57 with z | z
        · exact z
        · exact absurd z (hb (by omega))
      rw [if_neg (nI_ge (by omega) (by omega)), nI_1, isDigit_e h (by omega), bn_s, show p + i + 1 = p + 1 + i by omega, hdi, if_pos rfl]
  · intro n k _ hk _ ih
    unfold k_L_placeOfFormFault_36
    have hdi : isI (ltA q (p + 1 + k)) 48 57 = 1 := hd k hk
    rw [if_neg (nI_ge (by omega) (by omega)), nI_1, nI_1, isDigit_e h (by omega), bn_s, show p + k + 1 = p + 1 + k by omega, hdi, if_neg (by decide)]
    have := ih () trivial
    rw [show p + 1 + k = p + (k + 1) by omega]
    exact this
theorem posA_s (q : LV) (j : Nat) : posA q j + dB (ltA q (posA q j)) + 2 = posA q (j + 1) := rfl
/-- one statement read on -/
theorem form1 {s : Mm} {q : LV} {p n : Nat} (h : LetX s q) (hw : WfA q p) : k_L_placeOfFormFault_11 (n + 1) (nI p) s = k_L_placeOfFormFault_11 n (nI (p + dB (ltA q p) + 2)) s := by
  have h96 := h.1
  have hf := hw.fit
  have hd := dB_r (ltA q p)
  rw [k_L_placeOfFormFault_11, h.2.1, if_neg (nI_ge (by omega) (by omega)), letterAt_e h (by omega), bn_s, digitsBehind_e, bn_s, if_neg (nI_ne0 (by have := hw.1; omega) (by omega)), formIn_ok h (by omega) (by omega) hw.2.1 hw.2.2]
theorem formX_ok {s : Mm} {q : LV} {c : Nat} (h : LetX s q) (h1 : 1 ≤ c) (hg : Good q c) (he : posA q c = q.1) : f_L_placeOfFormFault s = some (-1, s) := by
  have h96 := h.1
  have hl := (Good.le c hg).1
  unfold f_L_placeOfFormFault
  rw [h.2.1, if_neg (nI_ne0 (by omega) (by omega))]
  refine lp (α := Unit) (fun n i _ => k_L_placeOfFormFault_11 n (nI (posA q i)) s) (fun _ _ => True) (fun r => r = some (-1, s)) c ?_ ?_ KF 0 () (by omega) (by rw [KF_1]; omega) trivial
  · intro n _ _
    unfold k_L_placeOfFormFault_11
    rw [h.2.1, he, if_pos (nI_le (Nat.le_refl _) (by omega))]
  · intro n i _ hi _ ih
    rw [form1 h (hg i hi), posA_s]
    exact ih () trivial
theorem formX_bad {s : Mm} {q : LV} {c r : Nat} (h : LetX s q) (hg : Good q c) (hb : BadA q (posA q c) r) (he : posA q c < q.1 ∨ c = 0) : f_L_placeOfFormFault s = some (nI r, s) := by
  have h96 := h.1
  have hl := (Good.le c hg).1
  have hl2 := (Good.le c hg).2
  unfold f_L_placeOfFormFault
  rw [h.2.1]
  by_cases z : q.1 = 0
  · have hc : c = 0 := by omega
    subst hc
    rw [if_pos (show nI q.1 = 0 by rw [z]; rfl)]
    have h0 : ltA q (posA q 0) = -1 := by
      unfold ltA
      rw [if_neg (by omega)]
    rcases hb with ⟨-, e⟩ | ⟨e, -⟩
    · rw [e]; rfl
    · rw [h0] at e; exact absurd rfl e
  · rw [if_neg (nI_ne0 (by omega) (by omega))]
    have hp : posA q c < q.1 := by
      rcases he with e | e
      · exact e
      · rw [e]; show 0 < q.1; omega
    refine lp (α := Unit) (fun n i _ => k_L_placeOfFormFault_11 n (nI (posA q i)) s) (fun _ _ => True) (fun x => x = some (nI r, s)) c ?_ ?_ KF 0 () (by omega) (by rw [KF_1]; omega) trivial
    · intro n _ _
      have hd := dB_r (ltA q (posA q c))
      unfold k_L_placeOfFormFault_11
      rw [h.2.1, if_neg (nI_ge hp (by omega)), letterAt_e h (by omega), bn_s, digitsBehind_e, bn_s]
      rcases hb with ⟨e, e2⟩ | ⟨e, i, i1, i2, i3, i4, i5⟩
      · rw [e, if_pos (show nI 0 = 0 from rfl), e2]
      · rw [if_neg (nI_ne0 (by omega) (by omega)), formIn_bad h (by omega) (by omega) i1 i3 i4 i5, i2]
    · intro n i _ hi _ ih
      rw [form1 h (hg i hi), posA_s]
      exact ih () trivial
