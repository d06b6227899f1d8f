/-! TWO -/
def tF (f : FV) (q : Nat) : FV := (fK f, fI f, fD f, fN f, 1 + nI q)
def F2 (V : CV) (a b i : Nat) : Nat → FV := upF (upF V.2.2.2.1 a (tF (V.2.2.2.1 a) (i / 2))) b (tF (V.2.2.2.1 b) (i % 2))
theorem tv {q : Nat} (h : q < 2) : (1 + nI q = 1 ∨ 1 + nI q = 2) ∧ ((1 + nI q = (2 : Int32)) = (q = 1)) := by
  rcases (show q = 0 ∨ q = 1 by omega) with rfl | rfl
  · exact ⟨Or.inl rfl, by simp; decide⟩
  · exact ⟨Or.inr rfl, by simp; decide⟩
theorem F2.M {V : CV} {a b i : Nat} (hv : VOk V) (ha : a < V.1) (hb : b < V.1) (hi : i < 4) : FM V.1 (F2 V a b i) := by
  intro k hk
  unfold F2
  by_cases c : k = b
  · subst c
    rw [upF_at]
    exact ⟨(hv.M k hk).1, (tv (Nat.mod_lt _ (by decide))).1, (hv.M k hk).2.2⟩
  · rw [upF_ne c]
    by_cases d : k = a
    · subst d
      rw [upF_at]
      exact ⟨(hv.M k hk).1, (tv (by omega)).1, (hv.M k hk).2.2⟩
    · rw [upF_ne d]
      exact hv.M k hk
theorem F2.T {V : CV} {a b i k : Nat} (hv : VOk V) (hk : k < V.1) (hi : i < 4) (hne : a ≠ b) : (fT (F2 V a b i k) = 2) = ((k = a ∧ i / 2 = 1) ∨ (k = b ∧ i % 2 = 1)) := by
  unfold F2
  by_cases c : k = b
  · subst c
    rw [upF_at]
    show (1 + nI (i % 2) = 2) = _
    rw [(tv (Nat.mod_lt _ (by decide))).2]
    simp [Ne.symm hne]
  · rw [upF_ne c]
    by_cases d : k = a
    · subst d
      rw [upF_at]
      show (1 + nI (i / 2) = 2) = _
      rw [(tv (by omega)).2]
      simp [c]
    · rw [upF_ne d, hv.T k hk]
      simp [c, d]
theorem F2.o {V : CV} {a b i k : Nat} : fK (F2 V a b i k) = fK (V.2.2.2.1 k) ∧ fI (F2 V a b i k) = fI (V.2.2.2.1 k) ∧ fD (F2 V a b i k) = fD (V.2.2.2.1 k) ∧ fN (F2 V a b i k) = fN (V.2.2.2.1 k) := by
  unfold F2
  by_cases c : k = b
  · subst c
    rw [upF_at]
    exact ⟨rfl, rfl, rfl, rfl⟩
  · rw [upF_ne c]
    by_cases d : k = a
    · subst d
      rw [upF_at]
      exact ⟨rfl, rfl, rfl, rfl⟩
    · rw [upF_ne d]
      exact ⟨rfl, rfl, rfl, rfl⟩
theorem mask2 : ∀ a b k : Fin 6, ∀ q r : Fin 2, a ≠ b → hasB ((nI q.val <<< (nI a.val &&& 31)) ||| (nI r.val <<< (nI b.val &&& 31))) (nI k.val) = if (k = a ∧ q.val = 1) ∨ (k = b ∧ r.val = 1) then 1 else 0 := by decide +kernel
theorem half {i : Nat} (h : i < 4) : nI i / 2 = nI (i / 2) ∧ nI i - nI i / 2 * 2 = nI (i % 2) := ⟨pk_div (d := 2) (by omega) (by decide) (by decide), pk_rem (d := 2) (by omega) (by decide) (by decide)⟩
theorem xor4 : ∀ i : Fin 4, nI i.val ^^^ 2 = nI (i.val ^^^ 2) ∧ nI i.val ^^^ 1 = nI (i.val ^^^ 1) ∧ i.val ^^^ 2 < 4 ∧ i.val ^^^ 1 < 4 := by decide +kernel
def gets (V : CV) (a b N i : Nat) (p : Nat) : Int32 := sm V.2.1 (fun k => worth1 (nI p) (gIt (F2 V a b i) N (V.2.2.2.2 k)))
def rest (o t : Nat → Int32) : Nat → Nat → Int32
  | 0, _ => -9
  | d + 1, i => if o i < o (i ^^^ 2) then rest o t d (i + 1) else if t i < t (i ^^^ 1) then rest o t d (i + 1) else (10 * (nI i / 2)) + (nI i - nI i / 2 * 2)
theorem setT {s : Mm} {V : CV} {F : Nat → FV} {p q : Nat} (h : HF s 2 V.1 F) (hg : HG s 2 V.2.1 V.2.2.2.2) (hv : VOk V) (hp : p < V.1) : HF (mU s (33 + 7 * 2 + p) 7 (1 + nI q)) 2 V.1 (upF F p (tF (F p) q)) ∧ HG (mU s (33 + 7 * 2 + p) 7 (1 + nI q)) 2 V.2.1 V.2.2.2.2 ∧ Fr 2 s (mU s (33 + 7 * 2 + p) 7 (1 + nI q)) := by
  have hn := hv.1
  have he : ∀ z i, z ≠ 33 + 7 * 2 + p → mU s (33 + 7 * 2 + p) 7 (1 + nI q) z i = s z i := fun z i hq => by rw [mU_get, if_neg (fun y => hq y.1)]
  have h4 : ∀ i, i ≠ 7 → mU s (33 + 7 * 2 + p) 7 (1 + nI q) (33 + 7 * 2 + p) i = s (33 + 7 * 2 + p) i := fun i hi => by rw [mU_get, if_neg (fun z => hi z.2)]
  obtain ⟨b1, b2, b3, b4⟩ := h.2 p hp
  have hb := h.at hp
  refine ⟨h.up (by omega) hn (by omega) he (by simp [fRow, mU_get, tF, hb.1, hb.2.1, hb.2.2.1, hb.2.2.2.1]) (by rw [h4 _ (by omega)]; exact b2) (by rw [h4 _ (by omega)]; exact b3) (by rw [h4 _ (by omega)]; exact b4), hg.o hv.2.1 (by omega) (fun z i hq => he z i (by omega)), fun z i hq => he z i (fun y => hq (y ▸ ownF (c := 2) (by omega)))⟩
theorem HG.o2 {s s' : Mm} {c nG : Nat} {G : Nat → GV} (h : HG s c nG G) (hm : nG ≤ 4) (hc : c < 11) (he : ∀ q j, q < 165 → s' q j = s q j) : HG s' c nG G := by
  refine ⟨by rw [he _ _ (by omega)]; exact h.1, fun q hq => ?_⟩
  have := h.2 q hq
  simp only [gRow, fun j => he (110 + 5 * c + q) j (by omega)] at this ⊢
  exact this
theorem FrQX.set {s : Mm} {q j : Nat} {v : Int32} (h : q = 174 ∨ q = 175) : FrQX s (mU s q j v) := fun z i _ h1 h2 => by rw [mU_get, if_neg (by omega)]
theorem restX_e {s : Mm} {o t : Nat → Int32} (h1 : ∀ i, i < 4 → s 174 i = o i) (h2 : ∀ i, i < 4 → s 175 i = t i) : k_M_restingPair_94 KF 0 s = some (rest o t 4 0, s) := by
  obtain ⟨T, hT⟩ : ∃ T, T = rest o t 4 0 := ⟨_, rfl⟩
  rw [← hT]
  refine lp (α := Unit) (fun n i _ => k_M_restingPair_94 n (nI i) s) (fun i _ => T = rest o t (4 - i) i) (fun r => r = some (T, s)) 4 ?_ ?_ KF 0 () (by omega) (by rw [KF_1]; omega) hT
  · intro n _ e
    unfold k_M_restingPair_94
    rw [if_pos (show (4 : Int32) ≤ nI 4 from by decide), e]
    rfl
  · intro n i _ hi e ih
    obtain ⟨x1, x2, x3, x4⟩ := xor4 ⟨i, hi⟩
    unfold k_M_restingPair_94
    rw [if_neg (show ¬ (4 : Int32) ≤ nI i from nI_ge (b := 4) hi (by omega))]
    simp only [show nI i ^^^ 2 = nI (i ^^^ 2) from x1, show nI i ^^^ 1 = nI (i ^^^ 1) from x2, cellOf_e (s := s) (o := 174) (k := i) hi (by decide), cellOf_e (s := s) (o := 174) (k := i ^^^ 2) x3 (by decide), cellOf_e (s := s) (o := 175) (k := i) hi (by decide), cellOf_e (s := s) (o := 175) (k := i ^^^ 1) x4 (by decide), bn_s, h1 i hi, h1 _ x3, h2 i hi, h2 _ x4, nI_1]
    rw [show 4 - i = (4 - (i + 1)) + 1 by omega] at e
    unfold rest at e
    by_cases c : o i < o (i ^^^ 2)
    · rw [if_pos c] at e
      rw [if_pos c]
      exact ih () e
    · rw [if_neg c] at e
      rw [if_neg c]
      by_cases d : t i < t (i ^^^ 1)
      · rw [if_pos d] at e
        rw [if_pos d]
        exact ih () e
      · rw [if_neg d] at e
        rw [if_neg d, e]
theorem restR_e {s : Mm} {o t : Nat → Int32} (h1 : ∀ i, i < 4 → s 195 (2 * i) = o i) (h2 : ∀ i, i < 4 → s 195 (2 * i + 1) = t i) : k_R_two_41 KF 0 s = some (rest o t 4 0, s) := by
  obtain ⟨T, hT⟩ : ∃ T, T = rest o t 4 0 := ⟨_, rfl⟩
  rw [← hT]
  have m2 : ∀ i, (2 : Int32) * nI i = nI (2 * i) := fun i => pk_mul 2 i
  refine lp (α := Unit) (fun n i _ => k_R_two_41 n (nI i) s) (fun i _ => T = rest o t (4 - i) i) (fun r => r = some (T, s)) 4 ?_ ?_ KF 0 () (by omega) (by rw [KF_1]; omega) hT
  · intro n _ e
    unfold k_R_two_41
    rw [if_pos (show (4 : Int32) ≤ nI 4 from by decide), e]
    rfl
  · intro n i _ hi e ih
    obtain ⟨x1, x2, x3, x4⟩ := xor4 ⟨i, hi⟩
    have x3 : i ^^^ 2 < 4 := x3
    have x4 : i ^^^ 1 < 4 := x4
    unfold k_R_two_41
    rw [if_neg (show ¬ (4 : Int32) ≤ nI i from nI_ge (b := 4) hi (by omega))]
    simp only [show nI i ^^^ 2 = nI (i ^^^ 2) from x1, show nI i ^^^ 1 = nI (i ^^^ 1) from x2, m2, nI_1, gd_n (show 2 * i < 8 by omega) (show 8 < 2 ^ 31 by omega), gd_n (show 2 * (i ^^^ 2) < 8 by omega) (show 8 < 2 ^ 31 by omega), gd_n (show 2 * i + 1 < 8 by omega) (show 8 < 2 ^ 31 by omega), gd_n (show 2 * (i ^^^ 1) + 1 < 8 by omega) (show 8 < 2 ^ 31 by omega), nI_clamp (show 2 * i < 2 ^ 31 by omega), nI_clamp (show 2 * (i ^^^ 2) < 2 ^ 31 by omega), nI_clamp (show 2 * i + 1 < 2 ^ 31 by omega), nI_clamp (show 2 * (i ^^^ 1) + 1 < 2 ^ 31 by omega), h1 i hi, h1 _ x3, h2 i hi, h2 _ x4]
    rw [show 4 - i = (4 - (i + 1)) + 1 by omega] at e
    unfold rest at e
    by_cases c : o i < o (i ^^^ 2)
    · rw [if_pos c] at e
      rw [if_pos c]
      exact ih () e
    · rw [if_neg c] at e
      rw [if_neg c]
      by_cases d : t i < t (i ^^^ 1)
      · rw [if_pos d] at e
        rw [if_pos d]
        exact ih () e
      · rw [if_neg d] at e
        rw [if_neg d, e]
theorem twoX_e {s : Mm} {V : CV} {a b N : Nat} (h : HC s 0 V) (hv : VOk V) (ha : a < V.1) (hb : b < V.1) (hne : a ≠ b) (hN : N ≤ 60) : ∃ s', f_M_restingPair s (nI a) (nI b) (nI N) = some (rest (fun i => gets V a b N i a) (fun i => gets V a b N i b) 4 0, s') ∧ FrQX s s' := by
  have hn := hv.1
  unfold f_M_restingPair
  refine lp (fun n i x => k_M_restingPair_3 n (nI a) (nI b) (nI N) (nI i) x) (fun i x => FrQX s x ∧ (∀ j, j < i → x 174 j = gets V a b N j a ∧ x 175 j = gets V a b N j b)) (fun r => ∃ s', r = some (rest (fun i => gets V a b N i a) (fun i => gets V a b N i b) 4 0, s') ∧ FrQX s s') 4 ?_ ?_ KF 0 s (by omega) (by rw [KF_1]; omega) ⟨FrQX.rf, fun j hj => absurd hj (by omega)⟩
  · intro n x ⟨e1, e2⟩
    unfold k_M_restingPair_3
    rw [if_pos (show (4 : Int32) ≤ nI 4 from by decide), restX_e (fun i hi => (e2 i hi).1) (fun i hi => (e2 i hi).2)]
    exact ⟨x, rfl, e1⟩
  · intro n i x hi ⟨e1, e2⟩ ih
    unfold k_M_restingPair_3
    have h0 : HC x 0 V := h.eq hn hv.2.1 (fun q j hq => e1 q j (by unfold own at hq ⊢; omega) (by unfold own at hq; omega) (by unfold own at hq; omega))
    obtain ⟨s1, a1, a2, a3, a4, a5⟩ := recall_e h0 hv
    rw [if_neg (show ¬ (4 : Int32) ≤ nI i from nI_ge (b := 4) hi (by omega)), a1, bn_s, friendAt_e (by omega), bn_s, nm_s, friendAt_e (by omega), bn_s, nm_s, (half hi).2, (half hi).1]
    obtain ⟨b1, b2, b3⟩ := setT (q := i / 2) a2.1 a2.2.1 hv ha
    obtain ⟨c1, c2, c3⟩ := setT (q := i % 2) b1 b2 hv hb
    rw [upF_ne (Ne.symm hne)] at c1
    have hM := F2.M (i := i) hv ha hb hi
    obtain ⟨s2, d1, d2, d3, d4, d5, d6⟩ := pass_e (F := F2 V a b i) (N := N) c1 c2 (fun q _ => rfl) hM.n hv.H hv.1 hv.2.1 (by omega) hN
    have d3' : ∀ z v, z = 174 ∨ z = 175 → HG (mU s2 z i v) 2 V.2.1 (fun k => gIt (F2 V a b i) N (V.2.2.2.2 k)) := fun z v hz => d3.o2 hv.2.1 (by omega) (fun q j hq => by rw [mU_get, if_neg (by omega)])
    rw [d1, bv_s, worthWith_e d3 hv.2.1, bn_s, setCell_e (o := 174) _ hi (by decide), bv_s, worthWith_e (d3' 174 _ (Or.inl rfl)) hv.2.1, bn_s, setCell_e (o := 175) _ hi (by decide), bv_s, nI_1]
    have fA : Fr 2 x s2 := ((a4.tr b3).tr c3).tr d6
    refine ih _ ⟨((e1.tr fA.q).tr (FrQX.set (Or.inl rfl))).tr (FrQX.set (Or.inr rfl)), fun j hj => ?_⟩
    have g1 : s2 174 j = x 174 j := fA 174 j (by unfold own; omega)
    have g2 : s2 175 j = x 175 j := fA 175 j (by unfold own; omega)
    by_cases y : j = i
    · subst y
      constructor
      · simp [mU_get]; rfl
      · simp [mU_get]; rfl
    · have := e2 j (by omega)
      constructor
      · simp [mU_get, y]; rw [g1]; exact this.1
      · simp [mU_get, y]; rw [g2]; exact this.2
theorem RGv.o {s s' : Mm} {nG : Nat} {G : Nat → GV} (h : RGv s nG G) (he : ∀ q j, (182 ≤ q ∧ q ≤ 187) ∨ (q = 176 ∧ j = 12) → s' q j = s q j) : RGv s' nG G := h.eq (he _ _ (by omega)) (fun k => by
  simp only [rRow, he 182 k (by omega), he 183 k (by omega), he 184 k (by omega), he 185 k (by omega), he 186 k (by omega), he 187 k (by omega)])
def FrR (s s' : Mm) : Prop := (∀ j, ¬ (102 ≤ j ∧ j < 153) → s' 193 j = s 193 j) ∧ ∀ q j, q ≠ 193 → ¬ (178 ≤ q ∧ q ≤ 188) → q ≠ 195 → ¬ (q = 176 ∧ (j = 11 ∨ j = 12 ∨ j = 13 ∨ j = 14 ∨ j = 25 ∨ j = 26)) → s' q j = s q j
theorem FrR.tr {s s1 s2 : Mm} (h : FrR s s1) (h2 : FrR s1 s2) : FrR s s2 := ⟨fun j a => (h2.1 j a).trans (h.1 j a), fun q j a b c d => (h2.2 q j a b c d).trans (h.2 q j a b c d)⟩
theorem FrW.r {s s' : Mm} (h : FrW 102 153 s s') : FrR s s' := ⟨h.1, fun q j a b _ d => h.2 q j a b (by omega)⟩
theorem FrR.z {s s' : Mm} (h : FrR s s') (h1 : s 176 14 = 0) (h2 : s' 176 14 = 0) : FrQR s s' := ⟨fun j hj => h.1 j (by omega), fun q j a b c d => by
  by_cases e : q = 176 ∧ j = 14
  · obtain ⟨rfl, rfl⟩ := e
    rw [h1, h2]
  · exact h.2 q j a b c (by omega)⟩
theorem twoR_e {s : Mm} {V : CV} {a b N : Nat} (h : RV s V) (hv : VOk V) (h14 : s 176 14 = 0) (ha : a < V.1) (hb : b < V.1) (hne : a ≠ b) (hN : N ≤ 60) : ∃ s', f_R_findGets s (nI a) (nI b) (nI N) = some s' ∧ (∀ i, i < 4 → s' 195 (2 * i) = gets V a b N i a ∧ s' 195 (2 * i + 1) = gets V a b N i b) ∧ RV s' V ∧ FrQR s s' := by
  have hn := hv.1
  have hm := hv.2.1
  unfold f_R_findGets
  refine lp (fun n i x => k_R_findGets_3 n (nI a) (nI b) (nI N) (nI i) x) (fun i x => RV x V ∧ x 176 14 = 0 ∧ FrR s x ∧ (∀ j, j < i → x 195 (2 * j) = gets V a b N j a ∧ x 195 (2 * j + 1) = gets V a b N j b)) (fun r => ∃ s', r = some s' ∧ (∀ i, i < 4 → s' 195 (2 * i) = gets V a b N i a ∧ s' 195 (2 * i + 1) = gets V a b N i b) ∧ RV s' V ∧ FrQR s s') 4 ?_ ?_ KF 0 s (by omega) (by rw [KF_1]; omega) ⟨h, h14, ⟨fun _ _ => rfl, fun _ _ _ _ _ _ => rfl⟩, fun j hj => absurd hj (by omega)⟩
  · intro n x ⟨e1, e2, e3, e4⟩
    unfold k_R_findGets_3
    rw [if_pos (show (4 : Int32) ≤ nI 4 from by decide)]
    exact ⟨x, rfl, e4, e1, e3.z h14 e2⟩
  · intro n i x hi ⟨e1, e2, e3, e4⟩ ih
    unfold k_R_findGets_3
    obtain ⟨s1, a1, a2, a3, a4, a5⟩ := thinks_e e1 hv.1 hv.2.1
    rw [if_neg (show ¬ (4 : Int32) ≤ nI i from nI_ge (b := 4) hi (by omega)), a1, bv_s, nm_s, (half hi).2, (half hi).1]
    obtain ⟨M, hM⟩ : ∃ M, M = (nI (i / 2) <<< (nI a &&& 31)) ||| (nI (i % 2) <<< (nI b &&& 31)) := ⟨_, rfl⟩
    rw [← hM]
    obtain ⟨s2, es2⟩ : ∃ s2, s2 = mU s1 176 14 M := ⟨_, rfl⟩
    rw [← es2]
    have o2 : ∀ q j, ¬ (q = 176 ∧ j = 14) → s2 q j = s1 q j := fun q j hq => by rw [es2, mU_get, if_neg hq]
    have hF : RFv s2 V.1 (F2 V a b i) := by
      refine ⟨by rw [o2 _ _ (by omega)]; exact a2.1.1, fun k hk => ?_⟩
      obtain ⟨x1, x2, x3, x4, -⟩ := a2.1.2 k hk
      obtain ⟨y1, y2, y3, y4⟩ := F2.o (V := V) (a := a) (b := b) (i := i) (k := k)
      rw [o2 _ _ (by omega), o2 _ _ (by omega), o2 _ _ (by omega), o2 _ _ (by omega), y1, y2, y3, y4]
      refine ⟨x1, x2, x3, x4, ?_⟩
      rw [es2, mU_get, if_pos ⟨rfl, rfl⟩, hM]
      have := mask2 ⟨a, by omega⟩ ⟨b, by omega⟩ ⟨k, by omega⟩ ⟨i / 2, by omega⟩ ⟨i % 2, by omega⟩ (fun z => hne (Fin.mk.inj z))
      simp only [Fin.mk.injEq] at this
      rw [this]
      simp only [F2.T hv hk hi hne]
    have hG : RGv s2 V.2.1 V.2.2.2.2 := a2.2.1.o (fun q j hq => o2 q j (by omega))
    obtain ⟨s3, b1, b2, b3, b4, b5, b6⟩ := goes_e (N := N) hF hG (fun k hk => (o2 188 k (by omega)).trans (a4 k hk)) (F2.M hv ha hb hi) hn hm hv.G hN
    obtain ⟨s4, es4⟩ : ∃ s4, s4 = mU s3 176 14 0 := ⟨_, rfl⟩
    have o4 : ∀ q j, ¬ (q = 176 ∧ j = 14) → s4 q j = s3 q j := fun q j hq => by rw [es4, mU_get, if_neg hq]
    have g4 : RGv s4 V.2.1 (fun k => gIt (F2 V a b i) N (V.2.2.2.2 k)) := b3.o (fun q j hq => o4 q j (by omega))
    have m2 : (2 : Int32) * nI i = nI (2 * i) := pk_mul 2 i
    rw [b1, bv_s, nm_s, ← es4, RworthWith_e g4 hm, bn_s]
    simp only [m2, nI_1, gd_n (show 2 * i < 8 by omega) (show 8 < 2 ^ 31 by omega), gd_n (show 2 * i + 1 < 8 by omega) (show 8 < 2 ^ 31 by omega), nI_clamp (show 2 * i < 2 ^ 31 by omega), nI_clamp (show 2 * i + 1 < 2 ^ 31 by omega), nm_s]
    obtain ⟨s5, es5⟩ : ∃ s5, s5 = mU s4 195 (2 * i) (sm V.2.1 (fun k => worth1 (nI a) (gIt (F2 V a b i) N (V.2.2.2.2 k)))) := ⟨_, rfl⟩
    have o5 : ∀ q j, ¬ (q = 195 ∧ j = 2 * i) → s5 q j = s4 q j := fun q j hq => by rw [es5, mU_get, if_neg hq]
    have g5 : RGv s5 V.2.1 (fun k => gIt (F2 V a b i) N (V.2.2.2.2 k)) := g4.o (fun q j hq => o5 q j (by omega))
    rw [← es5, RworthWith_e g5 hm, bn_s]
    obtain ⟨s6, es6⟩ : ∃ s6, s6 = mU s5 195 (2 * i + 1) (sm V.2.1 (fun k => worth1 (nI b) (gIt (F2 V a b i) N (V.2.2.2.2 k)))) := ⟨_, rfl⟩
    have o6 : ∀ q j, ¬ (q = 195 ∧ j = 2 * i + 1) → s6 q j = s5 q j := fun q j hq => by rw [es6, mU_get, if_neg hq]
    rw [← es6]
    have oo : ∀ q j, ¬ (q = 176 ∧ j = 14) → q ≠ 195 → s6 q j = s3 q j := fun q j h1 h2 => (o6 q j (by omega)).trans ((o5 q j (by omega)).trans (o4 q j h1))
    have z6 : s6 176 14 = 0 := by rw [o6 _ _ (by omega), o5 _ _ (by omega), es4, mU_get, if_pos ⟨rfl, rfl⟩]
    have f26 : ∀ q j, ¬ (182 ≤ q ∧ q ≤ 188) → ¬ (q = 176 ∧ (j = 13 ∨ j = 14)) → q ≠ 195 → s6 q j = s1 q j := fun q j h1 h2 h3 => (oo q j (by omega) h3).trans ((b6 q j h1 (by omega)).trans (o2 q j (by omega)))
    obtain ⟨s7, c1, c2, c3⟩ := forgets_e (a3.eq hn hm (fun j _ _ => f26 193 j (by omega) (by omega) (by omega))) hn hm z6 hv.T
    have f7 : FrR x s7 := by
      refine FrR.tr (FrW.r a5) (FrR.tr (s1 := s6) ⟨fun j _ => f26 193 j (by omega) (by omega) (by omega), fun q j h1 h2 h3 h4 => f26 q j (by omega) (by omega) h3⟩ (FrW.r c3.w))
    rw [c1, bv_s]
    refine ih s7 ⟨c2, by rw [c3 _ _ (by omega) (by omega)]; exact z6, e3.tr f7, fun j hj => ?_⟩
    rw [c3 195 _ (by omega) (by omega), c3 195 _ (by omega) (by omega)]
    have o195 : ∀ j, s4 195 j = x 195 j := fun j => by rw [o4 _ _ (by omega), b6 _ _ (by omega) (by omega), o2 _ _ (by omega), a5.2 _ _ (by omega) (by omega) (by omega)]
    by_cases y : j = i
    · subst y
      constructor
      · rw [o6 _ _ (by omega), es5, mU_get, if_pos ⟨rfl, rfl⟩]
        rfl
      · rw [es6, mU_get, if_pos ⟨rfl, rfl⟩]
        rfl
    · have := e4 j (by omega)
      rw [o6 _ _ (by omega), o6 _ _ (by omega), o5 _ _ (by omega), o5 _ _ (by omega), o195, o195]
      exact this
def noTwo (a b n : Int32) (S : SV) : Int32 := fst3 (twN (nI S.1.1) a b) (btw n 0 60) 0
def vTwo (a b n : Int32) (S : SV) : Int32 := rest (fun i => gets S.1 (ix a) (ix b) (ix n) i (ix a)) (fun i => gets S.1 (ix a) (ix b) (ix n) i (ix b)) 4 0
theorem op_two (a b n : Int32) : OpI (fun s => f_X_two s a b n) (fun s => f_R_two s a b n) := by
  refine OpI.q2 (mx' := fun s => f_M_restingPair s a b n) (mr := fun s => k_R_two_17 a b n 0 s) (noTwo a b n) (vTwo a b n) (fun S => Codes.fst (Codes.t _ _ _) (Codes.b _ _ _) Codes.z) ?_ ?_ ?_ ?_
  · intro s S h
    unfold f_X_two
    simp only [twoFriendsNo_e, bn_s, spanNo_e, first_e, h.1.1.1, bn_eta]
    rfl
  · intro s S h
    show f_R_two s a b n = _
    rw [Rn_two, h.1.1.1]
    by_cases e : noTwo a b n S = 0
    · rw [if_pos e, show fst3 (twN (nI S.1.1) a b) (btw n 0 60) 0 = 0 from e]
    · rw [if_neg e]
      unfold k_R_two_17
      rw [if_neg (show ¬ fst3 (twN (nI S.1.1) a b) (btw n 0 60) 0 = 0 from e), bn_eta]
      rfl
  · intro s S h e
    obtain ⟨e1, e2, e3⟩ := fst3_0 e
    have hn := h.2.1.1
    obtain ⟨p, q, hp, hq, hne, rfl, rfl⟩ := twN_0 (by omega) e1
    obtain ⟨N, -, hN, rfl⟩ := btw_0 (lo := 0) (hi := 60) (by omega) (by omega) e2
    obtain ⟨s', c1, c2⟩ := twoX_e h.1 h.2.1 hp hq hne hN
    unfold vTwo
    rw [ix_nI (by omega), ix_nI (by omega), ix_nI (by omega)]
    exact ⟨s', c1, c2⟩
  · intro s S ho h e
    obtain ⟨e1, e2, e3⟩ := fst3_0 e
    have hn := ho.1.1
    obtain ⟨p, q, hp, hq, hne, rfl, rfl⟩ := twN_0 (by omega) e1
    obtain ⟨N, -, hN, rfl⟩ := btw_0 (lo := 0) (hi := 60) (by omega) (by omega) e2
    obtain ⟨s', c1, c2, c3, c4⟩ := twoR_e h.1 ho.1 h.2.1 hp hq hne hN
    unfold vTwo k_R_two_17
    rw [ix_nI (by omega), ix_nI (by omega), ix_nI (by omega), if_pos rfl, c1, bv_s, restR_e (fun i hi => (c2 i hi).1) (fun i hi => (c2 i hi).2)]
    exact ⟨s', rfl, c3, c4⟩
