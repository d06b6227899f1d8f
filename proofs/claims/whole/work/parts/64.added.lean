/-! ADDED, JUDGE, CLEAR, ROW -/
theorem mx_k {a b : Int32} : mx a b = if b ≤ a then a else b := by
  unfold mx
  by_cases c : a < b
  · rw [if_pos c, if_neg (by rw [i32_le]; rw [i32_lt] at c; omega)]
  · rw [if_neg c, if_pos (by rw [i32_le]; rw [i32_lt] at c; omega)]
theorem mn_k {a b : Int32} : mn a b = if a ≤ b then a else b := by
  unfold mn
  by_cases c : b < a
  · rw [if_pos c, if_neg (by rw [i32_le]; rw [i32_lt] at c; omega)]
  · rw [if_neg c, if_pos (by rw [i32_le]; rw [i32_lt] at c; omega)]
def mxN (B : Nat → Int32) : Nat → Int32
  | 0 => B 0
  | i + 1 => if i = 0 then B 0 else mx (mxN B i) (B i)
def mnN (B : Nat → Int32) : Nat → Int32
  | 0 => B 0
  | i + 1 => if i = 0 then B 0 else mn (mnN B i) (B i)
theorem mxN_s {B : Nat → Int32} {i : Nat} (h : 1 ≤ i) : mxN B (i + 1) = mx (mxN B i) (B i) := by rw [mxN, if_neg (by omega)]
theorem mnN_s {B : Nat → Int32} {i : Nat} (h : 1 ≤ i) : mnN B (i + 1) = mn (mnN B i) (B i) := by rw [mnN, if_neg (by omega)]
def brS (V : CV) (N : Nat) : Nat → Int32 := bIt V.2.2.2.1 V.2.1 V.2.2.2.2 (fun _ => 0) N
def unS (V : CV) (N : Nat) : Int32 := if V.1 = 0 then 0 else mxN (brS V N) V.1 - mnN (brS V N) V.1
theorem unevenX_e {s : Mm} {V : CV} {N : Nat} (h : HC s 0 V) (hv : VOk V) (hN : N ≤ 60) : ∃ s', f_M_unevenBrought s (nI N) = some (unS V N, s') ∧ Fr 2 s s' := by
  have hn := hv.1
  unfold f_M_unevenBrought unS
  rw [h.1.1]
  by_cases c : V.1 = 0
  · rw [if_pos c, if_pos (by rw [c]; rfl)]
    exact ⟨s, rfl, Fr.rf⟩
  · rw [if_neg c, if_neg (nI_ne0 (by omega) (by omega))]
    obtain ⟨s1, a1, a2, a3, a4, a5⟩ := recall_e h hv
    obtain ⟨s2, b1, b2, b3, b4, b5, b6⟩ := pass_e (N := N) a2.1 a2.2.1 a3 hv.M.n hv.H hv.1 hv.2.1 (by omega) hN
    have hB : HB s2 2 V.1 (brS V N) := b4
    have hf0 : f_C_friendAt s2 2 0 = some (33 + 7 * 2 + 0, s2) := friendAt_e (k := 0) (by omega)
    rw [a1, bn_s, b1, bv_s, hf0, bn_s, nm_s, hB 0 (by omega)]
    refine lp (fun n i (x : Int32 × Int32) => k_M_unevenBrought_37 n x.1 x.2 (nI i) s2) (fun i x => 1 ≤ i ∧ x.1 = mxN (brS V N) i ∧ x.2 = mnN (brS V N) i) (fun r => ∃ s', r = some (mxN (brS V N) V.1 - mnN (brS V N) V.1, s') ∧ Fr 2 s s') V.1 ?_ ?_ KF 1 (brS V N 0, brS V N 0) (by omega) (by rw [KF_1]; omega) ⟨by omega, rfl, rfl⟩
    · intro n x ⟨h1, e1, e2⟩
      unfold k_M_unevenBrought_37
      rw [b2.1, if_pos (nI_le (Nat.le_refl _) (by omega)), e1, e2]
      exact ⟨s2, rfl, a4.tr b6⟩
    · intro n i x hi ⟨h1, e1, e2⟩ ih
      unfold k_M_unevenBrought_37
      rw [b2.1, if_neg (nI_ge hi (by omega)), friendAt_e (by omega), bn_s, nm_s, friendAt_e (by omega), bn_s, nm_s, hB i hi, nI_1]
      exact ih (mx x.1 (brS V N i), mn x.2 (brS V N i)) ⟨by omega, by rw [mxN_s h1, e1], by rw [mnN_s h1, e2]⟩
theorem unevenR_e {s : Mm} {V : CV} {N : Nat} (h : s 176 11 = nI V.1) (hn : V.1 ≤ 6) (hB : RBv s V.1 (brS V N)) : k_R_added_75 KF (s 188 0) (s 188 0) 1 s = some (unS V N, s) := by
  unfold unS
  by_cases c : V.1 = 0
  · rw [if_pos c, KF_1]
    unfold k_R_added_75
    rw [h, c, if_pos (show nI 0 ≤ 1 by decide), Int32.sub_self]
  · rw [if_neg c, hB 0 (by omega)]
    refine lp (fun n i (x : Int32 × Int32) => k_R_added_75 n x.1 x.2 (nI i) s) (fun i x => 1 ≤ i ∧ x.1 = mnN (brS V N) i ∧ x.2 = mxN (brS V N) i) (fun r => r = some (mxN (brS V N) V.1 - mnN (brS V N) V.1, s)) V.1 ?_ ?_ KF 1 (brS V N 0, brS V N 0) (by omega) (by rw [KF_1]; omega) ⟨by omega, rfl, rfl⟩
    · intro n x ⟨h1, e1, e2⟩
      unfold k_R_added_75
      rw [h, if_pos (nI_le (Nat.le_refl _) (by omega)), e1, e2]
    · intro n i x hi ⟨h1, e1, e2⟩ ih
      unfold k_R_added_75 k_R_added_108
      rw [h, if_neg (nI_ge hi (by omega))]
      simp only [gd_n (show i < 6 by omega) (show 6 < 2 ^ 31 by omega), nI_clamp (show i < 2 ^ 31 by omega), hB i hi, nm_s, nI_1]
      have hm := mxN_s (B := brS V N) h1
      have hl := mnN_s (B := brS V N) h1
      rw [← e2, mx_k] at hm
      rw [← e1, mn_k] at hl
      by_cases c1 : x.1 ≤ brS V N i
      · rw [if_pos c1] at hl
        rw [if_pos c1]
        by_cases c2 : brS V N i ≤ x.2
        · rw [if_pos c2] at hm
          rw [if_pos c2]
          exact ih (x.1, x.2) ⟨by omega, hl.symm, hm.symm⟩
        · rw [if_neg c2] at hm
          rw [if_neg c2]
          exact ih (x.1, brS V N i) ⟨by omega, hl.symm, hm.symm⟩
      · rw [if_neg c1] at hl
        rw [if_neg c1]
        by_cases c2 : brS V N i ≤ x.2
        · rw [if_pos c2] at hm
          rw [if_pos c2]
          exact ih (brS V N i, x.2) ⟨by omega, hl.symm, hm.symm⟩
        · rw [if_neg c2] at hm
          rw [if_neg c2]
          exact ih (brS V N i, brS V N i) ⟨by omega, hl.symm, hm.symm⟩
def vAdded (a n : Int32) (S : SV) : Int32 := if a = -1 then unS S.1 (ix n) else brS S.1 (ix n) (ix a)
theorem op_added (a n : Int32) : OpI (fun s => f_X_added s a n) (fun s => f_R_added s a n) := by
  refine OpI.q2 (mx' := fun s => if a = -1 then f_M_unevenBrought s n else f_M_broughtBy s a n) (mr := fun s => k_R_added_21 a n 0 s) (noThen a n) (vAdded a n) (fun S => Codes.fst (Codes.o _ _) (Codes.b _ _ _) Codes.z) ?_ ?_ ?_ ?_
  · intro s S h
    unfold f_X_added
    simp only [friendOrAllNo_e, bn_s, spanNo_e, first_e, h.1.1.1, bn_eta]
    rfl
  · intro s S h
    show f_R_added s a n = _
    rw [Rn_added, h.1.1.1]
    by_cases e : noThen a n S = 0
    · rw [if_pos e, show fst3 (oNo (nI S.1.1) a) (btw n 0 60) 0 = 0 from e]
    · rw [if_neg e]
      unfold k_R_added_21
      rw [if_neg (show ¬ fst3 (oNo (nI S.1.1) a) (btw n 0 60) 0 = 0 from e), bn_eta]
      rfl
  · intro s S h e
    obtain ⟨e1, e2, e3⟩ := fst3_0 e
    obtain ⟨N, -, hN, rfl⟩ := btw_0 (lo := 0) (hi := 60) (by omega) (by omega) e2
    have hv := h.2.1
    have hn := hv.1
    unfold vAdded
    rw [ix_nI (by omega)]
    by_cases c : a = -1
    · simp only [c, if_true]
      obtain ⟨s', b1, b2⟩ := unevenX_e h.1 hv hN
      exact ⟨s', b1, b2.q⟩
    · simp only [c, if_false]
      unfold oNo at e1
      rw [if_neg c] at e1
      obtain ⟨p, hp, rfl⟩ := gNo_0 (by omega) e1
      obtain ⟨s1, a1, a2, a3, a4, a5⟩ := recall_e h.1 hv
      obtain ⟨s2, b1, b2, b3, b4, b5, b6⟩ := pass_e (N := N) a2.1 a2.2.1 a3 hv.M.n hv.H hv.1 hv.2.1 (by omega) hN
      have hB : HB s2 2 S.1.1 (brS S.1 N) := b4
      unfold f_M_broughtBy
      rw [a1, bn_s, b1, bv_s, friendAt_e (by omega), bn_s, hB p hp, ix_nI (by omega)]
      exact ⟨s2, rfl, (a4.tr b6).q⟩
  · intro s S ho h e
    obtain ⟨e1, e2, e3⟩ := fst3_0 e
    obtain ⟨N, -, hN, rfl⟩ := btw_0 (lo := 0) (hi := 60) (by omega) (by omega) e2
    have hv := ho.1
    have hn := hv.1
    obtain ⟨s1, s2, s3, a1, a2, a3, a4, a5, a6, a7, a8, a9⟩ := thinkGo_e h.1 hv h.2.1 hN
    have hB : RBv s3 S.1.1 (brS S.1 N) := fun k hk => by rw [a9]; exact a5 k hk
    unfold vAdded k_R_added_21
    rw [ix_nI (by omega), if_pos rfl, a1, bv_s, a2, bv_s, a6, bv_s]
    by_cases c : a = -1
    · subst c
      have g0 : ∀ {β : Type} (b : Option β), gd 0 6 b = b := fun b => gd_n (k := 0) (n := 6) (by omega) (by omega)
      rw [if_pos (by decide), if_pos rfl, g0, nm_s, g0, nm_s]
      have := unevenR_e (s := s3) (V := S.1) (N := N) a7.1.1 hn hB
      exact ⟨s3, this, a7, a8.q (by omega) (by omega)⟩
    · rw [if_neg c]
      unfold oNo at e1
      rw [if_neg c] at e1
      obtain ⟨p, hp, rfl⟩ := gNo_0 (by omega) e1
      rw [if_neg (nI_pos (by omega)), gd_n (show p < 6 by omega) (by omega), nI_clamp (by omega), hB p hp, ix_nI (by omega)]
      exact ⟨s3, rfl, a7, a8.q (by omega) (by omega)⟩
/-! calls that alter -/
theorem OpI.m {fx fr mx' mr : Mm → Option (Int32 × Mm)} (no val : SV → Int32) (nS : SV → SV) (hc : ∀ S, no S = 0 ∨ Codes (no S)) (ex : ∀ s S, XI s S → fx s = if no S = 0 then mx' s else f_X_refuse s (no S)) (er : ∀ s S, SOk S → RI s S → fr s = if no S = 0 then mr s else f_R_no s (no S)) (hx : ∀ s S, XI s S → no S = 0 → ∃ s', mx' s = some (val S, s') ∧ XI s' (nS S) ∧ EqR s s') (hr : ∀ s S, SOk S → RI s S → no S = 0 → ∃ s', mr s = some (val S, s') ∧ RI s' (nS S) ∧ EqX s s') : OpI fx fr := by
  refine OpI.mk (fun S => if no S = 0 then val S else no S) (fun S => if no S = 0 then nS S else bumpS S (no S)) (fun s S h => ?_) (fun s S ho h => ?_)
  · rw [ex s S h]
    by_cases e : no S = 0
    · simp only [e, if_true]
      exact hx s S h e
    · simp only [e, if_false]
      rcases hc S with c | c
      · exact absurd c e
      · exact refuseX_e h c
  · rw [er s S ho h]
    by_cases e : no S = 0
    · simp only [e, if_true]
      exact hr s S ho h e
    · simp only [e, if_false]
      rcases hc S with c | c
      · exact absurd c e
      · exact refuseR_e h ho c
def rowTo (S : SV) (q : Nat × (Nat → Int32)) : SV := (S.1, S.2.1, S.2.2.1, S.2.2.2.1, q, S.2.2.2.2.2)
theorem XI.row {s s' : Mm} {S : SV} {q : Nat × (Nat → Int32)} (h : XI s S) (he : ∀ z j, z ≠ 171 → z ≠ 172 → s' z j = s z j) (hq : RowX s' q) : XI s' (rowTo S q) := by
  obtain ⟨h1, hv, ⟨p1, p2⟩, ⟨st, h2, h8, h3, h4, h5⟩, ⟨l1, l2, l3⟩, -, hr⟩ := h
  have ho : ∀ c, c < 11 → ∀ z j, own c z → s' z j = s z j := fun c hc z j hz => by
    have := own_lt hc hz
    exact he z j (by omega) (by omega)
  refine ⟨h1.eq hv.1 hv.2.1 (ho 0 (by omega)), hv, ⟨by rw [he _ _ (by omega) (by omega)]; exact p1, ?_⟩, ⟨st, h2, h8, by rw [he _ _ (by omega) (by omega)]; exact h3, by rw [he _ _ (by omega) (by omega)]; exact h4, fun i hi => ⟨(h5 i hi).1.eq (h5 i hi).2.1 (h5 i hi).2.2.1 (ho _ (by omega)), (h5 i hi).2⟩⟩, ⟨l1, by rw [he _ _ (by omega) (by omega)]; exact l2, fun i hi => by rw [he _ _ (by omega) (by omega)]; exact l3 i hi⟩, hq, fun i hi => by rw [he _ _ (by omega) (by omega)]; exact hr i hi⟩
  rcases p2 with e | ⟨e, o, v⟩
  · exact Or.inl e
  · exact Or.inr ⟨e, o.eq v.1 v.2.1 (ho 1 (by omega)), v⟩
theorem RI.row {s s' : Mm} {S : SV} {q : Nat × (Nat → Int32)} (h : RI s S) (ho : SOk S) (he : ∀ z j, z ≠ 194 → ¬ (z = 176 ∧ j = 29) → s' z j = s z j) (hq : RowR s' q) : RI s' (rowTo S q) := by
  obtain ⟨h0, h14, ⟨p1, p2⟩, ⟨q1, q2⟩, ⟨l1, l2⟩, -, hr⟩ := h
  obtain ⟨-, o2, ⟨o3, o3'⟩, -, -⟩ := ho
  refine ⟨h0.eq (fun z j hz => he z j (by omega) (by omega)), by rw [he _ _ (by omega) (by omega)]; exact h14, ⟨by rw [he _ _ (by omega) (by omega)]; exact p1, fun e => ?_⟩, ⟨by rw [he _ _ (by omega) (by omega)]; exact q1, fun i hi => (q2 i hi).eq (o3' i hi).1 (o3' i hi).2.1 (fun j _ _ => he _ _ (by omega) (by omega))⟩, ⟨by rw [he _ _ (by omega) (by omega)]; exact l1, fun i hi => by rw [he _ _ (by omega) (by omega)]; exact l2 i hi⟩, hq, fun i hi => by rw [he _ _ (by omega) (by omega)]; exact hr i hi⟩
  rcases o2 with o | ⟨-, o⟩
  · have e' : S.2.1.1 = 1 := e
    rw [o] at e'; exact absurd e' (by decide)
  · exact (p2 e).eq o.1 o.2.1 (fun j _ _ => he _ _ (by omega) (by omega))
def rowOf (S : SV) : Nat × (Nat → Int32) := S.2.2.2.2.1
theorem drop_e {s : Mm} {S : SV} (h : XI s S) : ∃ s', f_N_drop s = some (nI (rowOf S).1, s') ∧ XI s' (rowTo S (0, (rowOf S).2)) ∧ EqR s s' := by
  have hq := h.2.2.2.2.2.1
  unfold f_N_drop
  rw [nm_s, nm_s, hq.2.1]
  exact ⟨_, rfl, h.row (fun z j h1 h2 => by rw [mU_get, if_neg (fun y => h1 y.1)]) ⟨by show 0 ≤ 12; omega, by rw [mU_get, if_pos ⟨rfl, rfl⟩]; rfl, fun i hi => absurd hi (by show ¬ i < 0; omega)⟩, fun z j hz => by rw [mU_get, if_neg (by omega)]⟩
theorem dropR_e {s : Mm} {S : SV} (h : RI s S) (ho : SOk S) : RI (mU s 176 29 0) (rowTo S (0, (rowOf S).2)) ∧ EqX s (mU s 176 29 0) :=
  ⟨h.row ho (fun z j h1 h2 => by rw [mU_get, if_neg h2]) ⟨by rw [mU_get, if_pos ⟨rfl, rfl⟩]; rfl, fun i hi => absurd hi (by show ¬ i < 0; omega)⟩, fun z j hz => by rw [mU_get, if_neg (by omega)]⟩
theorem op_clear : OpI (fun s => f_X_clear s) (fun s => f_R_clear s) := by
  refine OpI.mk (fun S => nI (rowOf S).1) (fun S => rowTo S (0, (rowOf S).2)) (fun s S h => ?_) (fun s S ho h => ?_)
  · unfold f_X_clear
    rw [bn_eta]
    exact drop_e h
  · unfold f_R_clear
    rw [nm_s, nm_s, h.2.2.2.2.2.1.1]
    exact ⟨_, rfl, (dropR_e h ho).1, (dropR_e h ho).2⟩
/-- JUDGE -/
def jdS (V : CV) (q : Nat × (Nat → Int32)) : Nat → Nat → Int32
  | 0, _ => -9
  | d + 1, i => if V.2.1 ≤ i then nI i else if gH (V.2.2.2.2 i) = q.2 i then jdS V q d (i + 1) else nI i
theorem inN_n {k n : Nat} (h : n ≤ k) (hk : k < 2 ^ 31) : inN (nI n) (nI k) = 0 := by
  unfold inN
  rw [if_neg (nI_pos hk), if_pos (nI_le h hk)]
theorem op_judge : OpI (fun s => f_X_judge s) (fun s => f_R_judge s) := by
  refine OpI.mk (fun S => jdS S.1 (rowOf S) (rowOf S).1 0) (fun S => rowTo S (0, (rowOf S).2)) (fun s S h => ?_) (fun s S ho h => ?_)
  · have hm := h.2.1.2.1
    obtain ⟨r1, r2, r3⟩ := h.2.2.2.2.2.1
    have r1 : (rowOf S).1 ≤ 12 := r1
    have r2 : s 171 1 = nI (rowOf S).1 := r2
    have r3 : ∀ i, i < (rowOf S).1 → s 172 i = (rowOf S).2 i := r3
    obtain ⟨T, hT⟩ : ∃ T, T = jdS S.1 (rowOf S) (rowOf S).1 0 := ⟨_, rfl⟩
    have key : f_C_firstMisjudged s 0 = some (T, s) := by
      unfold f_C_firstMisjudged
      refine lp (α := Unit) (fun n i _ => k_C_firstMisjudged_9 n 0 (nI i) s) (fun i _ => T = jdS S.1 (rowOf S) ((rowOf S).1 - i) i) (fun r => r = some (T, s)) (rowOf S).1 ?_ ?_ KF 0 () (by omega) (by rw [KF_1]; omega) hT
      · intro n _ e
        unfold k_C_firstMisjudged_9
        rw [r2, if_pos (nI_le (Nat.le_refl _) (show (rowOf S).1 < 2 ^ 31 by omega)), e, Nat.sub_self]
        rfl
      · intro n i _ hi e ih
        unfold k_C_firstMisjudged_9
        rw [r2, if_neg (nI_ge hi (show (rowOf S).1 < 2 ^ 31 by omega)), hasGift_e, bn_s, h.1.2.1.1]
        rw [show (rowOf S).1 - i = ((rowOf S).1 - (i + 1)) + 1 by omega] at e
        unfold jdS at e
        by_cases c : S.1.2.1 ≤ i
        · rw [if_pos c] at e
          rw [inN_n c (by omega), if_pos rfl, e]
        · rw [if_neg c] at e
          rw [inN_nI (by omega) (by omega), if_neg (by decide), giftAt_e (by omega), bn_s, numberAt_e (by omega), bn_s, (h.1.2.1.at (show i < S.1.2.1 by omega)).2.2.1, r3 i hi, nI_1]
          by_cases d : gH (S.1.2.2.2.2 i) = (rowOf S).2 i
          · rw [if_pos d] at e
            rw [if_pos d]
            exact ih () e
          · rw [if_neg d] at e
            rw [if_neg d, e]
    obtain ⟨s', b1, b2, b3⟩ := drop_e h
    unfold f_X_judge
    rw [key, bn_s, b1, bn_s, ← hT]
    exact ⟨s', rfl, b2, b3⟩
  · have hm := ho.1.2.1
    obtain ⟨r2, r3⟩ := h.2.2.2.2.2.1
    have r1 : (rowOf S).1 ≤ 12 := ho.2.2.2.2
    obtain ⟨T, hT⟩ : ∃ T, T = jdS S.1 (rowOf S) (rowOf S).1 0 := ⟨_, rfl⟩
    obtain ⟨d1, d2⟩ := dropR_e h ho
    unfold f_R_judge
    rw [nm_s, nm_s, r2, ← hT]
    obtain ⟨s1, es1⟩ : ∃ s1, s1 = mU s 176 29 0 := ⟨_, rfl⟩
    rw [← es1] at d1 d2 ⊢
    have o1 : ∀ z j, ¬ (z = 176 ∧ j = 29) → s1 z j = s z j := fun z j hz => by rw [es1, mU_get, if_neg hz]
    refine ⟨s1, ?_, d1, d2⟩
    refine lp (α := Unit) (fun n i _ => k_R_judge_12 n (nI (rowOf S).1) (nI i) s1) (fun i _ => T = jdS S.1 (rowOf S) ((rowOf S).1 - i) i) (fun r => r = some (T, s1)) (rowOf S).1 ?_ ?_ KF 0 () (by omega) (by rw [KF_1]; omega) hT
    · intro n _ e
      unfold k_R_judge_12
      rw [if_pos (nI_le (Nat.le_refl _) (by omega)), e, Nat.sub_self]
      rfl
    · intro n i _ hi e ih
      unfold k_R_judge_12
      rw [if_neg (nI_ge hi (by omega)), d1.1.2.1.1]
      rw [show (rowOf S).1 - i = ((rowOf S).1 - (i + 1)) + 1 by omega] at e
      unfold jdS at e
      show (if nI S.1.2.1 ≤ nI i then _ else _) = _
      by_cases c : S.1.2.1 ≤ i
      · rw [if_pos c] at e
        rw [if_pos (nI_le c (by omega)), e]
      · rw [if_neg c] at e
        rw [if_neg (nI_ge (by omega) (by omega)), gd_n (show i < 4 by omega) (by omega), gd_n (show i < 12 by omega) (by omega), nI_clamp (by omega), o1 184 i (by omega), o1 194 i (by omega), (h.1.2.1.at (show i < S.1.2.1 by omega)).2.2.1, r3 i hi, nI_1]
        by_cases d : gH (S.1.2.2.2.2 i) = (rowOf S).2 i
        · rw [if_pos d] at e
          rw [if_pos (show gH (S.1.2.2.2.2 i) = S.2.2.2.2.1.2 i from d)]
          exact ih () e
        · rw [if_neg d] at e
          rw [if_neg (show ¬ gH (S.1.2.2.2.2 i) = S.2.2.2.2.1.2 i from d), e]
