/-! the state, as the class and as the reference hold it -/
abbrev SV : Type := CV × (Int32 × CV) × (Nat × (Nat → CV)) × (Nat × (Nat → Int32)) × (Nat × (Nat → Int32)) × (Nat → Int32)
def PicX (s : Mm) (q : Int32 × CV) : Prop := s 165 7 = q.1 ∧ (q.1 = 0 ∨ q.1 = 1 ∧ HC s 1 q.2 ∧ VOk q.2)
def PastX (s : Mm) (q : Nat × (Nat → CV)) : Prop := ∃ st : Nat, st < 8 ∧ q.1 ≤ 8 ∧ s 167 1 = nI st ∧ s 167 2 = nI q.1 ∧ ∀ i, i < q.1 → HC s (3 + (st + i) % 8) (q.2 i) ∧ VOk (q.2 i)
def LetX (s : Mm) (q : Nat × (Nat → Int32)) : Prop := q.1 ≤ 96 ∧ s 169 1 = nI q.1 ∧ ∀ i, i < q.1 → s 170 i = q.2 i
def RowX (s : Mm) (q : Nat × (Nat → Int32)) : Prop := q.1 ≤ 12 ∧ s 171 1 = nI q.1 ∧ ∀ i, i < q.1 → s 172 i = q.2 i
def RefX (s : Mm) (r : Nat → Int32) : Prop := ∀ i, i < 7 → s 166 i = r i
def XI (s : Mm) (S : SV) : Prop := HC s 0 S.1 ∧ VOk S.1 ∧ PicX s S.2.1 ∧ PastX s S.2.2.1 ∧ LetX s S.2.2.2.1 ∧ RowX s S.2.2.2.2.1 ∧ RefX s S.2.2.2.2.2
def PicR (s : Mm) (q : Int32 × CV) : Prop := s 176 24 = q.1 ∧ (q.1 = 1 → SB s 0 q.2)
def PastR (s : Mm) (q : Nat × (Nat → CV)) : Prop := s 176 27 = nI q.1 ∧ ∀ i, i < q.1 → SB s (3 + i) (q.2 i)
def LetR (s : Mm) (q : Nat × (Nat → Int32)) : Prop := s 176 20 = nI q.1 ∧ ∀ i, i < q.1 → s 189 i = q.2 i
def RowR (s : Mm) (q : Nat × (Nat → Int32)) : Prop := s 176 29 = nI q.1 ∧ ∀ i, i < q.1 → s 194 i = q.2 i
def RefR (s : Mm) (r : Nat → Int32) : Prop := ∀ i, i < 7 → s 177 i = r i
def RI (s : Mm) (S : SV) : Prop := RV s S.1 ∧ s 176 14 = 0 ∧ PicR s S.2.1 ∧ PastR s S.2.2.1 ∧ LetR s S.2.2.2.1 ∧ RowR s S.2.2.2.2.1 ∧ RefR s S.2.2.2.2.2
/-- what holds of a state, whoever holds it -/
def SOk (S : SV) : Prop := VOk S.1 ∧ (S.2.1.1 = 0 ∨ S.2.1.1 = 1 ∧ VOk S.2.1.2) ∧ (S.2.2.1.1 ≤ 8 ∧ ∀ i, i < S.2.2.1.1 → VOk (S.2.2.1.2 i)) ∧ S.2.2.2.1.1 ≤ 96 ∧ S.2.2.2.2.1.1 ≤ 12
theorem XI.ok {s : Mm} {S : SV} (h : XI s S) : SOk S := by
  obtain ⟨-, hv, hp, ⟨st, -, h8, -, -, hq⟩, hl, hr, -⟩ := h
  refine ⟨hv, ?_, ⟨h8, fun i hi => (hq i hi).2⟩, hl.1, hr.1⟩
  rcases hp.2 with e | ⟨e, -, o⟩
  · exact Or.inl e
  · exact Or.inr ⟨e, o⟩
theorem HC.eq {s s' : Mm} {c : Nat} {V : CV} (h : HC s c V) (hn : V.1 ≤ 6) (hm : V.2.1 ≤ 4) (he : ∀ q j, own c q → s' q j = s q j) : HC s' c V := by
  obtain ⟨hF, hG, h6⟩ := h
  refine ⟨⟨by rw [he c 4 ownC]; exact hF.1, fun k hk => ?_⟩, ⟨by rw [he c 5 ownC]; exact hG.1, fun k hk => ?_⟩, by rw [he c 6 ownC]; exact h6⟩
  · have := hF.2 k hk
    simp only [fRow, fun j => he (33 + 7 * c + k) j (ownF (by omega))] at this ⊢
    exact this
  · have := hG.2 k hk
    simp only [gRow, fun j => he (110 + 5 * c + k) j (ownG (by omega))] at this ⊢
    exact this
def EqX (s s' : Mm) : Prop := ∀ q j, q < 176 → s' q j = s q j
def EqR (s s' : Mm) : Prop := ∀ q j, 176 ≤ q → s' q j = s q j
theorem own_lt {c q : Nat} (hc : c < 11) (h : own c q) : q < 165 := by unfold own at h; omega
/-- the object's part depends on what it reads alone -/
theorem XI.eq {s s' : Mm} {S : SV} (h : XI s S) (he : ∀ q j, ¬ own 2 q → q ≠ 174 → q ≠ 175 → q < 176 → s' q j = s q j) : XI s' S := by
  have ho : ∀ c, c < 11 → c ≠ 2 → ∀ q j, own c q → s' q j = s q j := by
    intro c hc h2 q j hq
    have := own_lt hc hq
    exact he q j (by unfold own at hq ⊢; omega) (by omega) (by omega) (by omega)
  have hs : ∀ q, 165 ≤ q → q < 174 → ∀ j, s' q j = s q j := fun q h1 h2 j => he q j (by unfold own; omega) (by omega) (by omega) (by omega)
  obtain ⟨h1, hv, ⟨p1, p2⟩, ⟨st, h2, h8, h3, h4, h5⟩, ⟨l1, l2, l3⟩, ⟨r1, r2, r3⟩, hr⟩ := h
  refine ⟨h1.eq hv.1 hv.2.1 (ho 0 (by omega) (by omega)), hv, ⟨by rw [hs _ (by omega) (by omega)]; exact p1, ?_⟩, ⟨st, h2, h8, by rw [hs _ (by omega) (by omega)]; exact h3, by rw [hs _ (by omega) (by omega)]; exact h4, fun i hi => ⟨(h5 i hi).1.eq (h5 i hi).2.1 (h5 i hi).2.2.1 (ho _ (by omega) (by omega)), (h5 i hi).2⟩⟩, ⟨l1, by rw [hs _ (by omega) (by omega)]; exact l2, fun i hi => by rw [hs _ (by omega) (by omega)]; exact l3 i hi⟩, ⟨r1, by rw [hs _ (by omega) (by omega)]; exact r2, fun i hi => by rw [hs _ (by omega) (by omega)]; exact r3 i hi⟩, fun i hi => by rw [hs _ (by omega) (by omega)]; exact hr i hi⟩
  rcases p2 with e | ⟨e, o, v⟩
  · exact Or.inl e
  · exact Or.inr ⟨e, o.eq v.1 v.2.1 (ho 1 (by omega) (by omega)), v⟩
theorem XI.eqX {s s' : Mm} {S : SV} (h : XI s S) (he : EqX s s') : XI s' S := h.eq (fun q j _ _ _ hq => he q j hq)
/-- a question's frame, in the object, in the reference -/
def FrQX (s s' : Mm) : Prop := ∀ q j, ¬ own 2 q → q ≠ 174 → q ≠ 175 → s' q j = s q j
def FrQR (s s' : Mm) : Prop := (∀ j, ¬ (51 ≤ j ∧ j < 153) → s' 193 j = s 193 j) ∧ ∀ q j, q ≠ 193 → ¬ (178 ≤ q ∧ q ≤ 188) → q ≠ 195 → ¬ (q = 176 ∧ (j = 11 ∨ j = 12 ∨ j = 13 ∨ j = 25 ∨ j = 26 ∨ j = 31)) → s' q j = s q j
theorem FrQX.rf {s : Mm} : FrQX s s := fun _ _ _ _ _ => rfl
theorem FrQX.tr {s s1 s2 : Mm} (h : FrQX s s1) (h2 : FrQX s1 s2) : FrQX s s2 := fun q j a b c => (h2 q j a b c).trans (h q j a b c)
theorem Fr.q {s s' : Mm} (h : Fr 2 s s') : FrQX s s' := fun q j a _ _ => h q j a
theorem FrQX.eqR {s s' : Mm} (h : FrQX s s') : EqR s s' := fun q j hq => h q j (by unfold own; omega) (by omega) (by omega)
theorem FrQR.rf {s : Mm} : FrQR s s := ⟨fun _ _ => rfl, fun _ _ _ _ _ _ => rfl⟩
theorem FrQR.tr {s s1 s2 : Mm} (h : FrQR s s1) (h2 : FrQR s1 s2) : FrQR s s2 := ⟨fun j a => (h2.1 j a).trans (h.1 j a), fun q j a b c d => (h2.2 q j a b c d).trans (h.2 q j a b c d)⟩
theorem FrW.q {lo hi : Nat} {s s' : Mm} (h : FrW lo hi s s') (h1 : 51 ≤ lo) (h2 : hi ≤ 153) : FrQR s s' := ⟨fun j hj => h.1 j (by omega), fun q j a b _ d => h.2 q j a b (by omega)⟩
theorem FrQR.eqX {s s' : Mm} (h : FrQR s s') : EqX s s' := fun q j hq => h.2 q j (by omega) (by omega) (by omega) (by omega)
theorem RI.q0 {s s' : Mm} {S : SV} (h : RI s S) (ho : SOk S) (hv : RV s' S.1) (hf : (∀ j, ¬ (51 ≤ j ∧ j < 153) → s' 193 j = s 193 j) ∧ ∀ q j, 176 ≤ q → q ≠ 193 → ¬ (178 ≤ q ∧ q ≤ 188) → q ≠ 195 → ¬ (q = 176 ∧ (j = 11 ∨ j = 12 ∨ j = 13 ∨ j = 25 ∨ j = 26 ∨ j = 31)) → s' q j = s q j) : RI s' S := by
  obtain ⟨-, h14, ⟨p1, p2⟩, ⟨q1, q2⟩, ⟨l1, l2⟩, ⟨r1, r2⟩, hr⟩ := h
  obtain ⟨-, o2, ⟨o3, o3'⟩, -, -⟩ := ho
  refine ⟨hv, by rw [hf.2 _ _ (by omega) (by omega) (by omega) (by omega) (by omega)]; exact h14, ⟨by rw [hf.2 _ _ (by omega) (by omega) (by omega) (by omega) (by omega)]; exact p1, fun e => ?_⟩, ⟨by rw [hf.2 _ _ (by omega) (by omega) (by omega) (by omega) (by omega)]; exact q1, fun i hi => (q2 i hi).eq (o3' i hi).1 (o3' i hi).2.1 (fun j _ _ => hf.1 j (by omega))⟩, ⟨by rw [hf.2 _ _ (by omega) (by omega) (by omega) (by omega) (by omega)]; exact l1, fun i hi => by rw [hf.2 _ _ (by omega) (by omega) (by omega) (by omega) (by omega)]; exact l2 i hi⟩, ⟨by rw [hf.2 _ _ (by omega) (by omega) (by omega) (by omega) (by omega)]; exact r1, fun i hi => by rw [hf.2 _ _ (by omega) (by omega) (by omega) (by omega) (by omega)]; exact r2 i hi⟩, fun i hi => by rw [hf.2 _ _ (by omega) (by omega) (by omega) (by omega) (by omega)]; exact hr i hi⟩
  rcases o2 with o | ⟨-, o⟩
  · rw [o] at e; exact absurd e (by decide)
  · exact (p2 e).eq o.1 o.2.1 (fun j _ _ => hf.1 j (by omega))
theorem RI.q {s s' : Mm} {S : SV} (h : RI s S) (ho : SOk S) (hv : RV s' S.1) (hf : FrQR s s') : RI s' S := h.q0 ho hv ⟨hf.1, fun q j _ => hf.2 q j⟩
theorem RV.eq {s s' : Mm} {V : CV} (h : RV s V) (he : ∀ q j, (178 ≤ q ∧ q ≤ 187) ∨ (q = 176 ∧ (j = 11 ∨ j = 12 ∨ j = 13 ∨ j = 14)) → s' q j = s q j) : RV s' V := by
  obtain ⟨hF, hG, hm⟩ := h
  refine ⟨hF.eq (he _ _ (by omega)) (he _ _ (by omega)) (fun k => ⟨he _ _ (by omega), he _ _ (by omega), he _ _ (by omega), he _ _ (by omega)⟩), hG.eq (he _ _ (by omega)) (fun k => ?_), by rw [he _ _ (by omega)]; exact hm⟩
  simp only [rRow, he 182 k (by omega), he 183 k (by omega), he 184 k (by omega), he 185 k (by omega), he 186 k (by omega), he 187 k (by omega)]
theorem RI.eqR {s s' : Mm} {S : SV} (h : RI s S) (ho : SOk S) (he : EqR s s') : RI s' S := h.q0 ho (h.1.eq (fun q j hq => he q j (by omega))) ⟨fun j _ => he _ _ (by omega), fun q j a _ _ _ _ => he q j a⟩
/-! refusals -/
theorem cellOf_e {s : Mm} {o k : Nat} (hk : k < aL o) (ha : aL o < 2 ^ 31) : f_X_cellOf s o (nI k) = some (s o k, s) := by
  unfold f_X_cellOf
  rw [if_neg (nI_pos (by omega)), of_nI, if_neg (nI_ge hk ha), gd_n hk ha, nI_clamp (by omega)]
theorem setCell_e {s : Mm} {o k : Nat} (v : Int32) (hk : k < aL o) (ha : aL o < 2 ^ 31) : f_X_setCell s o (nI k) v = some (mU s o k v) := by
  unfold f_X_setCell
  rw [if_neg (nI_pos (by omega)), of_nI, if_neg (nI_ge hk ha), gd_n hk ha, nm_s, nI_clamp (by omega)]
def Codes (no : Int32) : Prop := no = -1 ∨ no = -2 ∨ no = -3 ∨ no = -4 ∨ no = -6
def bumpS (S : SV) (no : Int32) : SV := (S.1, S.2.1, S.2.2.1, S.2.2.2.1, S.2.2.2.2.1, fun i => if i = ix (-no) then S.2.2.2.2.2 i + 1 else S.2.2.2.2.2 i)
theorem Codes.k {no : Int32} (h : Codes no) : ∃ k, k < 7 ∧ -no = nI k := by
  rcases h with rfl | rfl | rfl | rfl | rfl
  · exact ⟨1, by omega, rfl⟩
  · exact ⟨2, by omega, rfl⟩
  · exact ⟨3, by omega, rfl⟩
  · exact ⟨4, by omega, rfl⟩
  · exact ⟨6, by omega, rfl⟩
theorem refuseX_e {s : Mm} {S : SV} {no : Int32} (h : XI s S) (hc : Codes no) : ∃ s', f_X_refuse s no = some (no, s') ∧ XI s' (bumpS S no) ∧ EqR s s' := by
  obtain ⟨k, hk, e⟩ := hc.k
  unfold f_X_refuse
  rw [e, cellOf_e (o := 166) hk (by decide), bn_s, setCell_e (o := 166) _ hk (by decide), bv_s]
  have hq : ∀ q j, q ≠ 166 → mU s 166 k (s 166 k + 1) q j = s q j := fun q j h => by rw [mU_get, if_neg (fun z => h z.1)]
  refine ⟨_, rfl, ?_, fun q j hq' => hq q j (by omega)⟩
  obtain ⟨h1, hv, ⟨p1, p2⟩, ⟨st, h2, h8, h3, h4, h5⟩, ⟨l1, l2, l3⟩, ⟨r1, r2, r3⟩, hr⟩ := h
  have ho : ∀ c, c < 11 → ∀ q j, own c q → mU s 166 k (s 166 k + 1) q j = s q j := fun c hc q j hq' => hq q j (by have := own_lt hc hq'; omega)
  refine ⟨h1.eq hv.1 hv.2.1 (ho 0 (by omega)), hv, ⟨by rw [hq _ _ (by omega)]; exact p1, ?_⟩, ⟨st, h2, h8, by rw [hq _ _ (by omega)]; exact h3, by rw [hq _ _ (by omega)]; exact h4, fun i hi => ⟨(h5 i hi).1.eq (h5 i hi).2.1 (h5 i hi).2.2.1 (ho _ (by omega)), (h5 i hi).2⟩⟩, ⟨l1, by rw [hq _ _ (by omega)]; exact l2, fun i hi => by rw [hq _ _ (by omega)]; exact l3 i hi⟩, ⟨r1, by rw [hq _ _ (by omega)]; exact r2, fun i hi => by rw [hq _ _ (by omega)]; exact r3 i hi⟩, fun i hi => ?_⟩
  · rcases p2 with e | ⟨e, o, v⟩
    · exact Or.inl e
    · exact Or.inr ⟨e, o.eq v.1 v.2.1 (ho 1 (by omega)), v⟩
  · rw [mU_get]
    show _ = if i = ix (-no) then _ else _
    rw [e, ix_nI (by omega)]
    by_cases h : i = k
    · subst h
      rw [if_pos ⟨rfl, rfl⟩, if_pos rfl, hr i hi]
    · rw [if_neg (fun z => h z.2), if_neg h, hr i hi]
theorem refuseR_e {s : Mm} {S : SV} {no : Int32} (h : RI s S) (ho : SOk S) (hc : Codes no) : ∃ s', f_R_no s no = some (no, s') ∧ RI s' (bumpS S no) ∧ EqX s s' := by
  obtain ⟨k, hk, e⟩ := hc.k
  unfold f_R_no
  rw [e, gd_n hk (by omega), gd_n hk (by omega), nm_s, nI_clamp (by omega)]
  have hq : ∀ q j, q ≠ 177 → mU s 177 k (s 177 k + 1) q j = s q j := fun q j h => by rw [mU_get, if_neg (fun z => h z.1)]
  refine ⟨_, rfl, ?_, fun q j hq' => hq q j (by omega)⟩
  obtain ⟨h0, h14, ⟨p1, p2⟩, ⟨q1, q2⟩, ⟨l1, l2⟩, ⟨r1, r2⟩, hr⟩ := h
  obtain ⟨-, o2, ⟨o3, o3'⟩, -, -⟩ := ho
  refine ⟨h0.eq (fun q j hq' => hq q j (by omega)), by rw [hq _ _ (by omega)]; exact h14, ⟨by rw [hq _ _ (by omega)]; exact p1, fun e => ?_⟩, ⟨by rw [hq _ _ (by omega)]; exact q1, fun i hi => (q2 i hi).eq (o3' i hi).1 (o3' i hi).2.1 (fun j _ _ => hq _ _ (by omega))⟩, ⟨by rw [hq _ _ (by omega)]; exact l1, fun i hi => by rw [hq _ _ (by omega)]; exact l2 i hi⟩, ⟨by rw [hq _ _ (by omega)]; exact r1, fun i hi => by rw [hq _ _ (by omega)]; exact r2 i hi⟩, fun i hi => ?_⟩
  · rcases o2 with o | ⟨-, o⟩
    · have e' : S.2.1.1 = 1 := e
      rw [o] at e'; exact absurd e' (by decide)
    · exact (p2 e).eq o.1 o.2.1 (fun j _ _ => hq _ _ (by omega))
  · rw [mU_get]
    show _ = if i = ix (-no) then _ else _
    rw [e, ix_nI (by omega)]
    by_cases h : i = k
    · subst h
      rw [if_pos ⟨rfl, rfl⟩, if_pos rfl, hr i hi]
    · rw [if_neg (fun z => h z.2), if_neg h, hr i hi]
/-! one call on both -/
def OpI (fx fr : Mm → Option (Int32 × Mm)) : Prop := ∀ (s : Mm) (S : SV), XI s S → RI s S → ∃ (r : Int32) (s1 s2 : Mm) (S' : SV), fx s = some (r, s1) ∧ fr s1 = some (r, s2) ∧ XI s2 S' ∧ RI s2 S'
def OpL (fx fr : Mm → Option (Int64 × Mm)) : Prop := ∀ (s : Mm) (S : SV), XI s S → RI s S → ∃ (r : Int64) (s1 s2 : Mm) (S' : SV), fx s = some (r, s1) ∧ fr s1 = some (r, s2) ∧ XI s2 S' ∧ RI s2 S'
theorem SOk.ex {s : Mm} {S : SV} (h : XI s S) : SOk S := h.ok
theorem OpI.mk {fx fr : Mm → Option (Int32 × Mm)} (rS : SV → Int32) (nS : SV → SV) (hx : ∀ s S, XI s S → ∃ s', fx s = some (rS S, s') ∧ XI s' (nS S) ∧ EqR s s') (hr : ∀ s S, SOk S → RI s S → ∃ s', fr s = some (rS S, s') ∧ RI s' (nS S) ∧ EqX s s') : OpI fx fr := by
  intro s S h1 h2
  obtain ⟨s1, a1, a2, a3⟩ := hx s S h1
  obtain ⟨s2, b1, b2, b3⟩ := hr s1 S h1.ok (h2.eqR h1.ok a3)
  exact ⟨_, s1, s2, nS S, a1, b1, a2.eqX b3, b2⟩
theorem OpL.mk {fx fr : Mm → Option (Int64 × Mm)} (rS : SV → Int64) (nS : SV → SV) (hx : ∀ s S, XI s S → ∃ s', fx s = some (rS S, s') ∧ XI s' (nS S) ∧ EqR s s') (hr : ∀ s S, SOk S → RI s S → ∃ s', fr s = some (rS S, s') ∧ RI s' (nS S) ∧ EqX s s') : OpL fx fr := by
  intro s S h1 h2
  obtain ⟨s1, a1, a2, a3⟩ := hx s S h1
  obtain ⟨s2, b1, b2, b3⟩ := hr s1 S h1.ok (h2.eqR h1.ok a3)
  exact ⟨_, s1, s2, nS S, a1, b1, a2.eqX b3, b2⟩
/-- a question: refused, or answered with nothing changed -/
theorem OpI.q {fx fr : Mm → Option (Int32 × Mm)} (no val : SV → Int32) (hc : ∀ S, no S = 0 ∨ Codes (no S)) (hx : ∀ s S, XI s S → no S = 0 → ∃ s', fx s = some (val S, s') ∧ FrQX s s') (hx' : ∀ s S, XI s S → ¬ no S = 0 → fx s = f_X_refuse s (no S)) (hr : ∀ s S, SOk S → RI s S → no S = 0 → ∃ s', fr s = some (val S, s') ∧ RV s' S.1 ∧ FrQR s s') (hr' : ∀ s S, SOk S → RI s S → ¬ no S = 0 → fr s = f_R_no s (no S)) : OpI fx fr := by
  refine OpI.mk (fun S => if no S = 0 then val S else no S) (fun S => if no S = 0 then S else bumpS S (no S)) (fun s S h => ?_) (fun s S ho h => ?_)
  · by_cases e : no S = 0
    · obtain ⟨s', a, b⟩ := hx s S h e
      simp only [e, if_true]
      exact ⟨s', a, h.eq (fun q j x y z _ => b q j x y z), b.eqR⟩
    · simp only [e, if_false]
      rw [hx' s S h e]
      rcases hc S with c | c
      · exact absurd c e
      · exact refuseX_e h c
  · by_cases e : no S = 0
    · obtain ⟨s', a, b, c⟩ := hr s S ho h e
      simp only [e, if_true]
      exact ⟨s', a, h.q ho b c, c.eqX⟩
    · simp only [e, if_false]
      rw [hr' s S ho h e]
      rcases hc S with c | c
      · exact absurd c e
      · exact refuseR_e h ho c
theorem bn_eta {α : Type} (x : Option (α × Mm)) : bn x (fun a s => some (a, s)) = x := by cases x <;> rfl
theorem bv_eta (x : Option Mm) : bv x (fun s => some s) = x := by cases x <;> rfl
/-! codes of refusals -/
theorem gNo_c (m a : Int32) : gNo m a = 0 ∨ gNo m a = -1 := by unfold gNo; split <;> simp
theorem btw_c (a lo hi : Int32) : btw a lo hi = 0 ∨ btw a lo hi = -4 ∨ btw a lo hi = -6 := by
  unfold btw
  split
  · split <;> simp
  · simp
theorem wNo_c (a m : Int32) : wNo a m = 0 ∨ wNo a m = -2 := by
  unfold wNo
  split
  · simp
  · split <;> simp
theorem Codes.fst {a b c : Int32} (ha : a = 0 ∨ Codes a) (hb : b = 0 ∨ Codes b) (hc : c = 0 ∨ Codes c) : fst3 a b c = 0 ∨ Codes (fst3 a b c) := by
  unfold fst3
  split
  · split
    · exact hc
    · exact hb
  · exact ha
theorem Codes.g (m a : Int32) : gNo m a = 0 ∨ Codes (gNo m a) := by 
  rcases gNo_c m a with h | h
  · exact Or.inl h
  · exact Or.inr (Or.inl h)
theorem Codes.b (a lo hi : Int32) : btw a lo hi = 0 ∨ Codes (btw a lo hi) := by
  rcases btw_c a lo hi with h | h | h
  · exact Or.inl h
  · exact Or.inr (Or.inr (Or.inr (Or.inr (Or.inl h))))
  · exact Or.inr (Or.inr (Or.inr (Or.inr (Or.inr h))))
theorem Codes.w (a m : Int32) : wNo a m = 0 ∨ Codes (wNo a m) := by
  rcases wNo_c a m with h | h
  · exact Or.inl h
  · exact Or.inr (Or.inr (Or.inl h))
theorem Codes.z : (0 : Int32) = 0 ∨ Codes 0 := Or.inl rfl
theorem Codes.m1 : (-1 : Int32) = 0 ∨ Codes (-1) := Or.inr (Or.inl rfl)
theorem fst3_0 {a b c : Int32} (h : fst3 a b c = 0) : a = 0 ∧ b = 0 ∧ c = 0 := by
  unfold fst3 at h
  by_cases ha : a = 0
  · rw [if_pos ha] at h
    by_cases hb : b = 0
    · rw [if_pos hb] at h
      exact ⟨ha, hb, h⟩
    · rw [if_neg hb] at h; exact absurd h hb
  · rw [if_neg ha] at h; exact absurd h ha
theorem gNo_0 {n : Nat} {a : Int32} (hn : n < 2 ^ 31) (h : gNo (nI n) a = 0) : ∃ k, k < n ∧ a = nI k := by
  rcases inN_iff (n := n) (a := a) hn with ⟨k, hk, e, -⟩ | ⟨-, e⟩
  · exact ⟨k, hk, e⟩
  · unfold gNo at h
    rw [if_pos e] at h
    exact absurd h (by decide)
theorem btw_0 {a : Int32} {lo hi : Nat} (hl : lo < 2 ^ 31) (hh : hi < 2 ^ 31) (h : btw a (nI lo) (nI hi) = 0) : ∃ k, lo ≤ k ∧ k ≤ hi ∧ a = nI k := by
  unfold btw at h
  by_cases h1 : nI lo ≤ a
  · rw [if_pos h1] at h
    by_cases h2 : a ≤ nI hi
    · rw [i32_le, nI_toInt hl] at h1
      rw [i32_le, nI_toInt hh] at h2
      obtain ⟨k, e, -, e2⟩ := i32_nI (x := a) (by omega)
      exact ⟨k, by omega, by omega, e⟩
    · rw [if_neg h2] at h; exact absurd h (by decide)
  · rw [if_neg h1] at h; exact absurd h (by decide)
theorem wNo_0 {a : Int32} {m : Nat} (hm : m < 2 ^ 31) (h : wNo a (nI m) = 0) : ∃ k, k ≤ m ∧ a = nI k := by
  unfold wNo at h
  by_cases h1 : a < 0
  · rw [if_pos h1] at h; exact absurd h (by decide)
  · rw [if_neg h1] at h
    by_cases h2 : nI m < a
    · rw [if_pos h2] at h; exact absurd h (by decide)
    · rw [i32_lt, l0] at h1
      rw [i32_lt, nI_toInt hm] at h2
      obtain ⟨k, e, -, e2⟩ := i32_nI (x := a) (by omega)
      exact ⟨k, by omega, e⟩
