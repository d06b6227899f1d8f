/-! the PAST -/
def vTo (S : SV) (V : CV) : SV := (V, S.2)
def pastTo (S : SV) (q : Nat × (Nat → CV)) : SV := (S.1, S.2.1, q, S.2.2.2)
def pastOf (S : SV) : Nat × (Nat → CV) := S.2.2.1
def push (S : SV) : Nat × (Nat → CV) := if (pastOf S).1 = 8 then (8, fun i => if i = 7 then S.1 else (pastOf S).2 (i + 1)) else ((pastOf S).1 + 1, fun i => if i = (pastOf S).1 then S.1 else (pastOf S).2 i)
theorem storedAt_e {s : Mm} {st k : Nat} (h : s 167 1 = nI st) (hst : st < 8) (hk : k ≤ 8) : f_P_storedAt s (nI k) = some (3 + (st + k) % 8, s) := by
  have hm : (st + k) % 8 < 8 := Nat.mod_lt _ (by decide)
  have e : nI (st + k) - nI (st + k) / 8 * 8 = nI ((st + k) % 8) := pk_rem (d := 8) (by omega) (by decide) (by decide)
  unfold f_P_storedAt
  rw [h, nI_add, nm_s, e, if_neg (nI_pos (by omega)), if_neg (show ¬ (8 : Int32) ≤ nI ((st + k) % 8) from nI_ge (b := 8) hm (by omega)), gd_n hm (by omega), nI_clamp (by omega)]
theorem XI.past {s s' : Mm} {S : SV} {q : Nat × (Nat → CV)} {c : Nat} (h : XI s S) (hc : 3 ≤ c ∧ c < 11) (he : ∀ z j, ¬ own c z → z ≠ 167 → s' z j = s z j) (hq : PastX s' q) : XI s' (pastTo S q) := by
  obtain ⟨h1, hv, ⟨p1, p2⟩, -, ⟨l1, l2, l3⟩, ⟨r1, r2, r3⟩, hr⟩ := h
  have ho : ∀ d, d < 3 → ∀ z j, own d z → s' z j = s z j := fun d hd z j hz => he z j (by unfold own at hz ⊢; omega) (by have := own_lt (by omega) hz; omega)
  have hs : ∀ z j, 165 ≤ z → z ≠ 167 → s' z j = s z j := fun z j h1 h2 => he z j (by unfold own; omega) h2
  refine ⟨h1.eq hv.1 hv.2.1 (ho 0 (by omega)), hv, ⟨by rw [hs _ _ (by omega) (by omega)]; exact p1, ?_⟩, hq, ⟨l1, by rw [hs _ _ (by omega) (by omega)]; exact l2, fun i hi => by rw [hs _ _ (by omega) (by omega)]; exact l3 i hi⟩, ⟨r1, by rw [hs _ _ (by omega) (by omega)]; exact r2, fun i hi => by rw [hs _ _ (by omega) (by omega)]; exact r3 i hi⟩, fun i hi => by rw [hs _ _ (by omega) (by omega)]; exact hr i hi⟩
  rcases p2 with e | ⟨e, o, v⟩
  · exact Or.inl e
  · exact Or.inr ⟨e, o.eq v.1 v.2.1 (ho 1 (by omega)), v⟩
theorem ne_own {c z : Nat} (hc : c < 11) (hz : 165 ≤ z) : ¬ own c z := by unfold own; omega
theorem remember_e {s : Mm} {S : SV} (h : XI s S) : ∃ s', f_P_remember s 0 = some s' ∧ XI s' (pastTo S (push S)) ∧ EqR s s' := by
  obtain ⟨st, h2, h8, h3, h4, h5⟩ := h.2.2.2.1
  have h8 : (pastOf S).1 ≤ 8 := h8
  have h4 : s 167 2 = nI (pastOf S).1 := h4
  have h5 : ∀ i, i < (pastOf S).1 → HC s (3 + (st + i) % 8) ((pastOf S).2 i) ∧ VOk ((pastOf S).2 i) := h5
  have hv := h.2.1
  unfold f_P_remember k_P_remember_32 push
  rw [h4]
  by_cases c : (pastOf S).1 = 8
  · rw [if_pos c, if_pos (show nI (pastOf S).1 = 8 by rw [c]; rfl), h3, nI_1]
    have e8 : nI (st + 1) - nI (st + 1) / 8 * 8 = nI ((st + 1) % 8) := pk_rem (d := 8) (by omega) (by decide) (by decide)
    rw [e8, nm_s, nm_s]
    obtain ⟨s1, es1⟩ : ∃ s1, s1 = mU (mU s 167 1 (nI ((st + 1) % 8))) 167 2 (mU s 167 1 (nI ((st + 1) % 8)) 167 2 - 1) := ⟨_, rfl⟩
    rw [← es1]
    have q1 : s1 167 1 = nI ((st + 1) % 8) := by rw [es1, mU_get, if_neg (by omega), mU_get, if_pos ⟨rfl, rfl⟩]
    have q2 : s1 167 2 = nI 7 := by rw [es1, mU_get, if_pos ⟨rfl, rfl⟩, mU_get, if_neg (by omega), h4, c]; rfl
    have q0 : ∀ z j, z ≠ 167 → s1 z j = s z j := fun z j hz => by rw [es1, mU_get, if_neg (fun y => hz y.1), mU_get, if_neg (fun y => hz y.1)]
    rw [q2, storedAt_e q1 (Nat.mod_lt _ (by decide)) (by omega), bn_s]
    obtain ⟨x, hx⟩ : ∃ x, x = 3 + ((st + 1) % 8 + 7) % 8 := ⟨_, rfl⟩
    rw [← hx]
    have hx' : x = 3 + st := by omega
    have h1 : HC s1 0 S.1 := h.1.eq hv.1 hv.2.1 (fun z j hz => q0 z j (by have := own_lt (by omega) hz; omega))
    obtain ⟨s2, b1, b2, b3, b4⟩ := Ccopy_e h1 hv (c := x) (by omega) (by omega) (by omega)
    rw [b1, bv_s, nm_s]
    have w2 : s2 167 2 = nI 7 := by rw [b4 _ _ (ne_own (by omega) (by omega)), q2]
    have w1 : s2 167 1 = nI ((st + 1) % 8) := by rw [b4 _ _ (ne_own (by omega) (by omega)), q1]
    have e3 : ∀ z j, z ≠ 167 → mU s2 167 2 (s2 167 2 + 1) z j = s2 z j := fun z j hz => by rw [mU_get, if_neg (fun y => hz y.1)]
    refine ⟨_, rfl, h.past (c := x) (by omega) (fun z j h1 h2 => by rw [e3 _ _ h2, b4 _ _ h1, q0 _ _ h2]) ⟨(st + 1) % 8, Nat.mod_lt _ (by decide), Nat.le_refl _, by rw [mU_get, if_neg (by omega)]; exact w1, by rw [mU_get, if_pos ⟨rfl, rfl⟩, w2]; rfl, fun i hi => ?_⟩, fun z j hz => by rw [e3 _ _ (by omega), b4 _ _ (ne_own (by omega) (by omega)), q0 _ _ (by omega)]⟩
    have hi : i < 8 := hi
    show HC _ _ (if i = 7 then S.1 else (pastOf S).2 (i + 1)) ∧ VOk (if i = 7 then S.1 else (pastOf S).2 (i + 1))
    by_cases d : i = 7
    · rw [if_pos d]
      refine ⟨?_, hv⟩
      rw [show 3 + ((st + 1) % 8 + i) % 8 = x by omega]
      exact b2.eq hv.1 hv.2.1 (fun z j hz => e3 z j (by have := own_lt (by omega) hz; omega))
    · rw [if_neg d]
      obtain ⟨y1, y2⟩ := h5 (i + 1) (by omega)
      refine ⟨?_, y2⟩
      have ex : 3 + ((st + 1) % 8 + i) % 8 = 3 + (st + (i + 1)) % 8 := by omega
      have hne : 3 + (st + (i + 1)) % 8 ≠ x := by omega
      rw [ex]
      have hlt : 3 + (st + (i + 1)) % 8 < 11 := by omega
      have y3 := (y1.eq (s' := s1) y2.1 y2.2.1 (fun z j hz => q0 z j (by have := own_lt hlt hz; omega))).fr y2 b4 (by omega) hlt hne
      exact y3.eq y2.1 y2.2.1 (fun z j hz => e3 z j (by have := own_lt hlt hz; omega))
  · rw [if_neg c, if_neg (show ¬ nI (pastOf S).1 = 8 from fun y => c ((nI_eq (by omega) (b := 8) (by omega)).mp y)), storedAt_e h3 h2 (by omega), bn_s]
    obtain ⟨x, hx⟩ : ∃ x, x = 3 + (st + (pastOf S).1) % 8 := ⟨_, rfl⟩
    rw [← hx]
    obtain ⟨s2, b1, b2, b3, b4⟩ := Ccopy_e h.1 hv (c := x) (by omega) (by omega) (by omega)
    rw [b1, bv_s, nm_s]
    have w2 : s2 167 2 = nI (pastOf S).1 := by rw [b4 _ _ (ne_own (by omega) (by omega)), h4]
    have w1 : s2 167 1 = nI st := by rw [b4 _ _ (ne_own (by omega) (by omega)), h3]
    have e3 : ∀ z j, z ≠ 167 → mU s2 167 2 (s2 167 2 + 1) z j = s2 z j := fun z j hz => by rw [mU_get, if_neg (fun y => hz y.1)]
    refine ⟨_, rfl, h.past (c := x) (by omega) (fun z j h1 h2 => by rw [e3 _ _ h2, b4 _ _ h1]) ⟨st, h2, by show (pastOf S).1 + 1 ≤ 8; omega, by rw [mU_get, if_neg (by omega)]; exact w1, by rw [mU_get, if_pos ⟨rfl, rfl⟩, w2, nI_1], fun i hi => ?_⟩, fun z j hz => by rw [e3 _ _ (by omega), b4 _ _ (ne_own (by omega) (by omega))]⟩
    have hi : i < (pastOf S).1 + 1 := hi
    show HC _ _ (if i = (pastOf S).1 then S.1 else (pastOf S).2 i) ∧ VOk (if i = (pastOf S).1 then S.1 else (pastOf S).2 i)
    by_cases d : i = (pastOf S).1
    · rw [if_pos d]
      refine ⟨?_, hv⟩
      rw [d, ← hx]
      exact b2.eq hv.1 hv.2.1 (fun z j hz => e3 z j (by have := own_lt (by omega) hz; omega))
    · rw [if_neg d]
      obtain ⟨y1, y2⟩ := h5 i (by omega)
      refine ⟨?_, y2⟩
      have hne : 3 + (st + i) % 8 ≠ x := by omega
      have hlt : 3 + (st + i) % 8 < 11 := by omega
      have y3 := y1.fr y2 b4 (by omega) hlt hne
      exact y3.eq y2.1 y2.2.1 (fun z j hz => e3 z j (by have := own_lt hlt hz; omega))
