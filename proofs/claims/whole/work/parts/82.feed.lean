/-! FEED -/
def letTo (S : SV) (q : Nat × (Nat → Int32)) : SV := (S.1, S.2.1, S.2.2.1, q, S.2.2.2.2)
def letOf (S : SV) : Nat × (Nat → Int32) := S.2.2.2.1
theorem XI.letr {s s' : Mm} {S : SV} {q : Nat × (Nat → Int32)} (h : XI s S) (he : ∀ z j, z ≠ 169 → z ≠ 170 → s' z j = s z j) (hq : LetX s' q) : XI s' (letTo S q) := by
  obtain ⟨h1, hv, ⟨p1, p2⟩, ⟨st, h2, h8, h3, h4, h5⟩, -, ⟨r1, r2, r3⟩, hr⟩ := h
  have ho : ∀ c, c < 11 → ∀ z j, own c z → s' z j = s z j := fun c hc z j hz => by
    have := own_lt hc hz
    exact he z j (by omega) (by omega)
  refine ⟨h1.eq hv.1 hv.2.1 (ho 0 (by omega)), hv, ⟨by rw [he _ _ (by omega) (by omega)]; exact p1, ?_⟩, ⟨st, h2, h8, by rw [he _ _ (by omega) (by omega)]; exact h3, by rw [he _ _ (by omega) (by omega)]; exact h4, fun i hi => ⟨(h5 i hi).1.eq (h5 i hi).2.1 (h5 i hi).2.2.1 (ho _ (by omega)), (h5 i hi).2⟩⟩, hq, ⟨r1, by rw [he _ _ (by omega) (by omega)]; exact r2, fun i hi => by rw [he _ _ (by omega) (by omega)]; exact r3 i hi⟩, fun i hi => by rw [he _ _ (by omega) (by omega)]; exact hr i hi⟩
  rcases p2 with e | ⟨e, o, v⟩
  · exact Or.inl e
  · exact Or.inr ⟨e, o.eq v.1 v.2.1 (ho 1 (by omega)), v⟩
theorem RI.letr {s s' : Mm} {S : SV} {q : Nat × (Nat → Int32)} (h : RI s S) (ho : SOk S) (he : ∀ z j, z ≠ 189 → ¬ (z = 176 ∧ j = 20) → s' z j = s z j) (hq : LetR s' q) : RI s' (letTo S q) := by
  obtain ⟨h0, h14, ⟨p1, p2⟩, ⟨q1, q2⟩, -, ⟨r1, r2⟩, hr⟩ := h
  obtain ⟨-, o2, ⟨o3, o3'⟩, -, -⟩ := ho
  refine ⟨h0.eq (fun z j hz => he z j (by omega) (by omega)), by rw [he _ _ (by omega) (by omega)]; exact h14, ⟨by rw [he _ _ (by omega) (by omega)]; exact p1, fun e => ?_⟩, ⟨by rw [he _ _ (by omega) (by omega)]; exact q1, fun i hi => (q2 i hi).eq (o3' i hi).1 (o3' i hi).2.1 (fun j _ _ => he _ _ (by omega) (by omega))⟩, hq, ⟨by rw [he _ _ (by omega) (by omega)]; exact r1, fun i hi => by rw [he _ _ (by omega) (by omega)]; exact r2 i hi⟩, fun i hi => by rw [he _ _ (by omega) (by omega)]; exact hr i hi⟩
  rcases o2 with o | ⟨-, o⟩
  · have e' : S.2.1.1 = 1 := e
    rw [o] at e'; exact absurd e' (by decide)
  · exact (p2 e).eq o.1 o.2.1 (fun j _ _ => he _ _ (by omega) (by omega))
def noFeed (a : Int32) (S : SV) : Int32 := if btw a 0 255 = 0 then (if (letOf S).1 = 96 then -6 else 0) else btw a 0 255
def feedS (a : Int32) (S : SV) : SV := letTo S ((letOf S).1 + 1, fun i => if i = (letOf S).1 then a else (letOf S).2 i)
theorem op_feed (a : Int32) : OpI (fun s => f_X_feed s a) (fun s => f_R_feed s a) := by
  refine OpI.m (mx' := fun s => f_L_put s a) (mr := fun s => k_R_feed_25 a 0 s) (noFeed a) (fun S => nI ((letOf S).1 + 1)) (feedS a) (fun S => ?_) ?_ ?_ ?_ ?_
  · unfold noFeed
    by_cases c : btw a 0 255 = 0
    · rw [if_pos c]
      by_cases d : (letOf S).1 = 96
      · rw [if_pos d]; exact Or.inr (Or.inr (Or.inr (Or.inr (Or.inr rfl))))
      · rw [if_neg d]; exact Or.inl rfl
    · rw [if_neg c]; exact Codes.b _ _ _
  · intro s S h
    obtain ⟨l1, l2, l3⟩ := h.2.2.2.2.1
    have l1 : (letOf S).1 ≤ 96 := l1
    have l2 : s 169 1 = nI (letOf S).1 := l2
    unfold f_X_feed k_X_feed_26 noFeed f_L_isFull
    simp only [between_e, bn_s, bn_eta, l2]
    by_cases c : btw a 0 255 = 0
    · by_cases d : (letOf S).1 = 96
      · rw [if_neg (show ¬ nI (letOf S).1 < 96 by rw [d]; decide)]
        simp [c, d, bn]
      · rw [if_pos (show nI (letOf S).1 < 96 from nI_lt (b := 96) (by omega) (by omega))]
        simp [c, d, bn]
    · simp [c]
  · intro s S ho h
    have l2 : s 176 20 = nI (letOf S).1 := h.2.2.2.2.1.1
    have l1 : (letOf S).1 ≤ 96 := ho.2.2.2.1
    show f_R_feed s a = _
    unfold f_R_feed noFeed
    simp only [bound_e, bn_s, l2]
    by_cases c : btw a 0 255 = 0
    · by_cases d : (letOf S).1 = 96
      · rw [if_pos (show nI (letOf S).1 = 96 by rw [d]; rfl)]
        simp [c, d, k_R_feed_25, bn_eta]
      · rw [if_neg (show ¬ nI (letOf S).1 = 96 from fun z => d ((nI_eq (by omega) (b := 96) (by omega)).mp z))]
        simp [c, d]
    · simp [c, k_R_feed_25, bn_eta]
  · intro s S h e
    obtain ⟨l1, l2, l3⟩ := h.2.2.2.2.1
    have l1 : (letOf S).1 ≤ 96 := l1
    have l2 : s 169 1 = nI (letOf S).1 := l2
    have l3 : ∀ i, i < (letOf S).1 → s 170 i = (letOf S).2 i := l3
    have hn : (letOf S).1 < 96 := by
      unfold noFeed at e
      by_cases c : btw a 0 255 = 0
      · rw [if_pos c] at e
        by_cases d : (letOf S).1 = 96
        · rw [if_pos d] at e; exact absurd e (by decide)
        · omega
      · rw [if_neg c] at e; exact absurd e c
    show ∃ s', f_L_put s a = _ ∧ _
    unfold f_L_put
    have g2 : mU s 170 (letOf S).1 a 169 1 = nI (letOf S).1 := by rw [mU_get, if_neg (by omega)]; exact l2
    rw [l2, setCell_e (o := 170) a (show (letOf S).1 < aL 170 from hn) (by decide), bv_s, nm_s, g2, nI_1]
    have g0 : ∀ z j, ¬ (z = 169 ∧ j = 1) → mU (mU s 170 (letOf S).1 a) 169 1 (nI ((letOf S).1 + 1)) z j = mU s 170 (letOf S).1 a z j := fun z j hz => by rw [mU_get, if_neg hz]
    have g1 : mU (mU s 170 (letOf S).1 a) 169 1 (nI ((letOf S).1 + 1)) 169 1 = nI ((letOf S).1 + 1) := by rw [mU_get, if_pos ⟨rfl, rfl⟩]
    rw [g1]
    refine ⟨_, rfl, h.letr (fun z j h1 h2 => by rw [g0 z j (by omega), mU_get, if_neg (by omega)]) ⟨by show (letOf S).1 + 1 ≤ 96; omega, g1, fun i hi => ?_⟩, fun z j hz => by rw [g0 z j (by omega), mU_get, if_neg (by omega)]⟩
    have hi : i < (letOf S).1 + 1 := hi
    show _ = if i = (letOf S).1 then a else (letOf S).2 i
    rw [g0 _ _ (by omega), mU_get]
    by_cases d : i = (letOf S).1
    · rw [if_pos ⟨rfl, d⟩, if_pos d]
    · rw [if_neg (fun z => d z.2), if_neg d]
      exact l3 i (by omega)
  · intro s S ho h e
    obtain ⟨l2, l3⟩ := h.2.2.2.2.1
    have l1 : (letOf S).1 ≤ 96 := ho.2.2.2.1
    have l2 : s 176 20 = nI (letOf S).1 := l2
    have l3 : ∀ i, i < (letOf S).1 → s 189 i = (letOf S).2 i := l3
    have hn : (letOf S).1 < 96 := by
      unfold noFeed at e
      by_cases c : btw a 0 255 = 0
      · rw [if_pos c] at e
        by_cases d : (letOf S).1 = 96
        · rw [if_pos d] at e; exact absurd e (by decide)
        · omega
      · rw [if_neg c] at e; exact absurd e c
    show ∃ s', k_R_feed_25 a 0 s = _ ∧ _
    have g2 : mU s 189 (letOf S).1 a 176 20 = nI (letOf S).1 := by rw [mU_get, if_neg (by omega)]; exact l2
    unfold k_R_feed_25
    rw [if_pos rfl, l2, gd_n hn (by omega), nm_s, nI_clamp (by omega), g2, nI_1, nm_s]
    have g0 : ∀ z j, ¬ (z = 176 ∧ j = 20) → mU (mU s 189 (letOf S).1 a) 176 20 (nI ((letOf S).1 + 1)) z j = mU s 189 (letOf S).1 a z j := fun z j hz => by rw [mU_get, if_neg hz]
    have g1 : mU (mU s 189 (letOf S).1 a) 176 20 (nI ((letOf S).1 + 1)) 176 20 = nI ((letOf S).1 + 1) := by rw [mU_get, if_pos ⟨rfl, rfl⟩]
    rw [g1]
    refine ⟨_, rfl, h.letr ho (fun z j h1 h2 => by rw [g0 z j h2, mU_get, if_neg (by omega)]) ⟨g1, fun i hi => ?_⟩, fun z j hz => by rw [g0 z j (by omega), mU_get, if_neg (by omega)]⟩
    have hi : i < (letOf S).1 + 1 := hi
    show _ = if i = (letOf S).1 then a else (letOf S).2 i
    rw [g0 _ _ (by omega), mU_get]
    by_cases d : i = (letOf S).1
    · rw [if_pos ⟨rfl, d⟩, if_pos d]
    · rw [if_neg (fun z => d z.2), if_neg d]
      exact l3 i (by omega)
