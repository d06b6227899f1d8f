/-! CIRCLE -/
def rnS (V : CV) (q : LV) : Nat → Option CV
  | 0 => some V
  | j + 1 => (rnS V q j).bind (fun W => apS W q (posA q j))
theorem rn_cases (V : CV) (q : LV) : ∀ c, (∃ W, rnS V q c = some W) ∨ ∃ j W, j < c ∧ rnS V q j = some W ∧ apS W q (posA q j) = none
  | 0 => Or.inl ⟨V, rfl⟩
  | c + 1 => by
    rcases rn_cases V q c with ⟨W, h⟩ | ⟨j, W, h1, h2, h3⟩
    · cases e : apS W q (posA q c) with
      | none => exact Or.inr ⟨c, W, by omega, h, e⟩
      | some W' => exact Or.inl ⟨W', by unfold rnS; rw [h]; exact e⟩
    · exact Or.inr ⟨j, W, by omega, h2, h3⟩
theorem rn_pre {V W : CV} {q : LV} {i : Nat} : ∀ c, rnS V q c = some W → i ≤ c → ∃ Wi, rnS V q i = some Wi
  | 0, h, hi => ⟨W, by rw [show i = 0 by omega]; exact h⟩
  | c + 1, h, hi => by
    by_cases e : i = c + 1
    · exact ⟨W, by rw [e]; exact h⟩
    · unfold rnS at h
      cases e2 : rnS V q c with
      | none => rw [e2] at h; cases h
      | some W' => exact rn_pre c e2 (by omega)
theorem rn_s {V W : CV} {q : LV} {i : Nat} (h : rnS V q i = some W) : rnS V q (i + 1) = apS W q (posA q i) := by
  show (rnS V q i).bind _ = _
  rw [h]; rfl
theorem rn_ok {V : CV} {q : LV} {c : Nat} (hv : VOk V) (hg : Good q c) : ∀ j W, j ≤ c → rnS V q j = some W → VOk W
  | 0, W, _, h => by cases h; exact hv
  | j + 1, W, hj, h => by
    obtain ⟨Wj, e⟩ := rn_pre (i := j) (j + 1) h (by omega)
    rw [rn_s e] at h
    exact apS_ok (rn_ok hv hg j Wj (by omega) e) (hg j (by omega)) h
/-! the object -/
theorem LetX.fr {s a : Mm} {q : LV} (h : LetX s q) (hf : Fr 2 s a) : LetX a q := by
  have e : ∀ j, a 170 j = s 170 j := fun j => hf _ _ (by unfold own; omega)
  exact ⟨h.1, by rw [hf _ _ (by unfold own; omega)]; exact h.2.1, fun i hi => by rw [e]; exact h.2.2 i hi⟩
theorem circX_step {s a : Mm} {V W : CV} {q : LV} {j n : Nat} (hL : LetX s q) (hf : Fr 2 s a) (h : HC a 2 V) (hv : VOk V) (hw : WfA q (posA q j)) (hj : j < 100) (e : apS V q (posA q j) = some W) : ∃ a', k_L_tellTo_21 (n + 1) 2 (nI j) (nI (posA q j)) a = k_L_tellTo_21 n 2 (nI (j + 1)) (nI (posA q (j + 1))) a' ∧ HC a' 2 W ∧ Fr 2 s a' := by
  have h96 := hL.1
  have hfit := hw.fit
  obtain ⟨a', b1, b2, b3⟩ := (tellX_e (hL.fr hf) h hv hw).2 W e
  refine ⟨a', ?_, b3, hf.tr b2⟩
  rw [k_L_tellTo_21, (hL.fr hf).2.1, if_neg (nI_ge (by omega) (by omega)), b1, bn_s, if_neg (by decide), letterAt_e (hL.fr (hf.tr b2)) (by omega), bn_s, digitsBehind_e, bn_s, nm_s, show nI (dB (ltA q (posA q j))) + 2 = nI (dB (ltA q (posA q j)) + 2) from nI_add _ 2, nI_add, nI_1]
  rfl
theorem circX_ok {s : Mm} {V W : CV} {q : LV} {c : Nat} (hL : LetX s q) (h : HC s 2 V) (hv : VOk V) (h1 : 1 ≤ c) (hg : Good q c) (he : posA q c = q.1) (hr : rnS V q c = some W) : ∃ s', f_L_tellTo s 2 = some (nI c, s') ∧ HC s' 2 W ∧ Fr 2 s s' := by
  have h96 := hL.1
  have hl := (Good.le c hg).1
  unfold f_L_tellTo
  rw [formX_ok hL h1 hg he, bn_s, if_pos rfl]
  refine lp (fun n i a => k_L_tellTo_21 n 2 (nI i) (nI (posA q i)) a) (fun i a => ∃ Wi, rnS V q i = some Wi ∧ HC a 2 Wi ∧ Fr 2 s a) (fun r => ∃ s', r = some (nI c, s') ∧ HC s' 2 W ∧ Fr 2 s s') c ?_ ?_ KF 0 s (by omega) (by rw [KF_1]; omega) ⟨V, rfl, h, Fr.rf⟩
  · intro n a ⟨Wi, e1, e2, e3⟩
    rw [hr] at e1
    cases e1
    unfold k_L_tellTo_21
    rw [(hL.fr e3).2.1, he, if_pos (nI_le (Nat.le_refl _) (by omega))]
    exact ⟨a, rfl, e2, e3⟩
  · intro n i a hi ⟨Wi, e1, e2, e3⟩ ih
    obtain ⟨W', e4⟩ := rn_pre (i := i + 1) c hr (by omega)
    have e5 := e4
    rw [rn_s e1] at e5
    obtain ⟨a', b1, b2, b3⟩ := circX_step (n := n) hL e3 e2 (rn_ok hv hg i Wi (by omega) e1) (hg i hi) (by omega) e5
    rw [b1]
    exact ih a' ⟨W', e4, b2, b3⟩
theorem circX_f {s : Mm} {V W : CV} {q : LV} {c j : Nat} (hL : LetX s q) (h : HC s 2 V) (hv : VOk V) (h1 : 1 ≤ c) (hg : Good q c) (he : posA q c = q.1) (hj : j < c) (hr : rnS V q j = some W) (hn : apS W q (posA q j) = none) : ∃ s', f_L_tellTo s 2 = some ((-2000) - nI (posA q j), s') ∧ Fr 2 s s' := by
  have h96 := hL.1
  have hl := (Good.le c hg).1
  unfold f_L_tellTo
  rw [formX_ok hL h1 hg he, bn_s, if_pos rfl]
  refine lp (fun n i a => k_L_tellTo_21 n 2 (nI i) (nI (posA q i)) a) (fun i a => ∃ Wi, rnS V q i = some Wi ∧ HC a 2 Wi ∧ Fr 2 s a) (fun r => ∃ s', r = some ((-2000) - nI (posA q j), s') ∧ Fr 2 s s') j ?_ ?_ KF 0 s (by omega) (by rw [KF_1]; omega) ⟨V, rfl, h, Fr.rf⟩
  · intro n a ⟨Wi, e1, e2, e3⟩
    rw [hr] at e1
    cases e1
    have hfit := (hg j hj).fit
    unfold k_L_tellTo_21
    rw [(hL.fr e3).2.1, if_neg (nI_ge (by omega) (by omega)), (tellX_e (hL.fr e3) e2 (rn_ok hv hg j W (by omega) hr) (hg j hj)).1 hn, bn_s, if_pos rfl]
    exact ⟨a, rfl, e3⟩
  · intro n i a hi ⟨Wi, e1, e2, e3⟩ ih
    obtain ⟨W', e4⟩ := rn_pre (i := i + 1) j hr (by omega)
    have e5 := e4
    rw [rn_s e1] at e5
    obtain ⟨a', b1, b2, b3⟩ := circX_step (n := n) hL e3 e2 (rn_ok hv hg i Wi (by omega) e1) (hg i (by omega)) (by omega) e5
    rw [b1]
    exact ih a' ⟨W', e4, b2, b3⟩
/-! the reference -/
def FrC (s s' : Mm) : Prop := ∀ z k, ¬ (z = 176 ∧ (k = 21 ∨ k = 22)) → ¬ (190 ≤ z ∧ z ≤ 192) → s' z k = s z k
theorem FrC.tr {s s1 s2 : Mm} (h : FrC s s1) (h2 : FrC s1 s2) : FrC s s2 := fun z k a b => (h2 z k a b).trans (h z k a b)
theorem FrS.c {j : Nat} {s s' : Mm} (h : FrS j s s') : FrC s s' := fun z k h1 h2 => h z k (by omega) (by omega) (by omega) (by omega)
theorem LetR.c {s s' : Mm} {q : LV} (h : LetR s q) (hf : FrC s s') : LetR s' q := ⟨by rw [hf _ _ (by omega) (by omega)]; exact h.1, fun i hi => by rw [hf _ _ (by omega) (by omega)]; exact h.2 i hi⟩
theorem Told.fr {s s' : Mm} {q : LV} {i j p : Nat} (h : Told s q i p) (hf : ∀ z k, (z = 190 ∧ k = i) ∨ (z = 191 ∧ k = i) ∨ (z = 192 ∧ 3 * i ≤ k ∧ k < 3 * i + 3) → s' z k = s z k) : Told s' q i p := by
  obtain ⟨h1, h2, h3, h4, h5⟩ := h
  exact ⟨by rw [hf _ _ (by omega)]; exact h1, by rw [hf _ _ (by omega)]; exact h2, by rw [hf _ _ (by omega)]; exact h3, fun z => by rw [hf _ _ (by omega)]; exact h4 z, fun z => by rw [hf _ _ (by omega)]; exact h5 z⟩
def RdS (s : Mm) (q : LV) (i : Nat) (a : Mm) : Prop := a 176 21 = nI (posA q i) ∧ a 176 22 = nI i ∧ (∀ j, j < i → Told a q j (posA q j)) ∧ FrC s a
theorem rform_step {s a : Mm} {q : LV} {i n : Nat} (hL : LetR s q) (h96 : q.1 ≤ 96) (hi : i < 40) (h : RdS s q i a) (hw : WfA q (posA q i)) : ∃ a', k_R_circle_12 (n + 1) 1 a = k_R_circle_12 n 1 a' ∧ RdS s q (i + 1) a' := by
  obtain ⟨h1, h2, h3, h4⟩ := h
  have hfit := hw.fit
  have hL' := hL.c h4
  obtain ⟨a1, b1, b2, b3, b4⟩ := stmt_ok hL' h96 h1 h2 (by omega) hw
  have w22 : a1 176 22 = nI i := by rw [b4 _ _ (by omega) (by omega) (by omega) (by omega)]; exact h2
  obtain ⟨a2, ea2⟩ : ∃ a2, a2 = mU a1 176 22 (nI (i + 1)) := ⟨_, rfl⟩
  have o2 : ∀ z k, ¬ (z = 176 ∧ k = 22) → a2 z k = a1 z k := fun z k hz => by rw [ea2, mU_get, if_neg hz]
  refine ⟨a2, ?_, by rw [o2 _ _ (by omega), b2]; rfl, by rw [ea2, mU_get, if_pos ⟨rfl, rfl⟩], fun j hj => ?_, (h4.tr b4.c).tr (fun z k y1 y2 => o2 z k (by omega))⟩
  · rw [k_R_circle_12, if_neg (by decide), h1, hL'.1, if_pos (nI_lt (by omega) (by omega))]
    unfold k_R_circle_34
    rw [b1, bn_s, if_neg (by decide), w22, nI_1, nm_s, ea2]
  · by_cases e : j = i
    · rw [e]
      exact b3.fr (j := 0) (fun z k hz => o2 z k (by omega))
    · exact (h3 j (by omega)).fr (j := 0) (fun z k hz => by rw [o2 z k (by omega), b4 z k (by omega) (by omega) (by omega) (by omega)])
theorem rform_ok {s : Mm} {q : LV} {c : Nat} (hL : LetR s q) (h96 : q.1 ≤ 96) (h1 : 1 ≤ c) (hg : Good q c) (he : posA q c = q.1) (h0 : s 176 21 = 0) (h22 : s 176 22 = 0) : ∃ a, k_R_circle_12 KF 1 s = k_R_circle_60 1 a ∧ RdS s q c a := by
  have hl := (Good.le c hg).1
  refine lp (fun n i a => k_R_circle_12 n 1 a) (fun i a => RdS s q i a) (fun r => ∃ a, r = k_R_circle_60 1 a ∧ RdS s q c a) c ?_ ?_ KF 0 s (by omega) (by rw [KF_1]; omega) ⟨h0, h22, fun j hj => absurd hj (by omega), fun _ _ _ _ => rfl⟩
  · intro n a h
    refine ⟨a, ?_, h⟩
    rw [k_R_circle_12, if_neg (by decide), h.1, (hL.c h.2.2.2).1, he, if_neg (nI_nlt (Nat.le_refl _) (by omega)), h.2.1, if_neg (nI_ne0 (by omega) (by omega))]
  · intro n i a hi h ih
    obtain ⟨a', b1, b2⟩ := rform_step (n := n) hL h96 (by omega) h (hg i hi)
    rw [b1]
    exact ih a' b2
theorem rform_bad {s : Mm} {q : LV} {c r : Nat} (hL : LetR s q) (h96 : q.1 ≤ 96) (hg : Good q c) (hb : BadA q (posA q c) r) (he : posA q c < q.1 ∨ c = 0) (h0 : s 176 21 = 0) (h22 : s 176 22 = 0) : ∃ a, k_R_circle_12 KF 1 s = k_R_circle_60 0 a ∧ a 176 21 = nI r ∧ FrC s a := by
  have hl := (Good.le c hg).1
  have hp : posA q c < 100 := by
    rcases he with e | e
    · omega
    · rw [e]; show 0 < 100; omega
  have hc : c < 26 := by omega
  refine lp (fun n i a => k_R_circle_12 (n + 1) 1 a) (fun i a => RdS s q i a) (fun x => ∃ a, x = k_R_circle_60 0 a ∧ a 176 21 = nI r ∧ FrC s a) c ?_ ?_ 999 0 s (by omega) (by omega) ⟨h0, h22, fun j hj => absurd hj (by omega), fun _ _ _ _ => rfl⟩
  · intro n a h
    obtain ⟨y1, y2, y3, y4⟩ := h
    have hL' := hL.c y4
    obtain ⟨a1, b1, b2, b4⟩ := stmt_bad hL' h96 y1 y2 (by omega) hp hb
    obtain ⟨a2, ea2⟩ : ∃ a2, a2 = mU a1 176 22 (a1 176 22 + 0) := ⟨_, rfl⟩
    have o2 : ∀ z k, ¬ (z = 176 ∧ k = 22) → a2 z k = a1 z k := fun z k hz => by rw [ea2, mU_get, if_neg hz]
    have k34 : k_R_circle_34 (fun v1 s => k_R_circle_12 (n + 1) v1 s) a = k_R_circle_60 0 a2 := by
      unfold k_R_circle_34
      rw [b1, bn_s, if_pos rfl, nm_s, ← ea2]
      show k_R_circle_12 (n + 1) 0 a2 = _
      rw [k_R_circle_12, if_pos rfl]
    refine ⟨a2, ?_, by rw [o2 _ _ (by omega)]; exact b2, (y4.tr b4.c).tr (fun z k u1 u2 => o2 z k (by omega))⟩
    rw [k_R_circle_12, if_neg (by decide), y1, hL'.1]
    by_cases d : posA q c < q.1
    · rw [if_pos (nI_lt d (by omega)), k34]
    · rw [if_neg (nI_nlt (by omega) (by omega)), y2]
      have hc0 : c = 0 := by
        rcases he with e | e
        · exact absurd e d
        · exact e
      rw [if_pos (show nI c = 0 by rw [hc0]; rfl), k34]
  · intro n i a hi h ih
    obtain ⟨a', b1, b2⟩ := rform_step (n := n + 1) hL h96 (by omega) h (hg i hi)
    rw [b1]
    exact ih a' b2
def cirS (S : SV) (V : CV) (P : Nat × (Nat → CV)) : SV := (V, S.2.1, P, (0, (letOf S).2), S.2.2.2.2)
theorem RI.circ {s s' : Mm} {S : SV} {V : CV} {P : Nat × (Nat → CV)} (h : RI s S) (ho : SOk S) (hv : RV s' V) (h20 : s' 176 20 = 0) (hP : PastR s' P) (he : ∀ z j, ¬ (178 ≤ z ∧ z ≤ 188) → ¬ (190 ≤ z ∧ z ≤ 192) → ¬ (z = 193 ∧ 51 ≤ j ∧ j < 102) → ¬ (z = 176 ∧ (j = 11 ∨ j = 12 ∨ j = 13 ∨ j = 20 ∨ j = 21 ∨ j = 22 ∨ j = 25 ∨ j = 26 ∨ j = 27)) → s' z j = s z j) : RI s' (cirS S V P) := by
  obtain ⟨-, h14, ⟨p1, p2⟩, -, -, ⟨r1, r2⟩, hr⟩ := h
  obtain ⟨-, o2, -, -, -⟩ := ho
  refine ⟨hv, by rw [he _ _ (by omega) (by omega) (by omega) (by omega)]; exact h14, ⟨by rw [he _ _ (by omega) (by omega) (by omega) (by omega)]; exact p1, fun e => ?_⟩, hP, ⟨h20, fun i hi => absurd hi (by show ¬ i < 0; omega)⟩, ⟨by rw [he _ _ (by omega) (by omega) (by omega) (by omega)]; exact r1, fun i hi => by rw [he _ _ (by omega) (by omega) (by omega) (by omega)]; exact r2 i hi⟩, fun i hi => by rw [he _ _ (by omega) (by omega) (by omega) (by omega)]; exact hr i hi⟩
  rcases o2 with o | ⟨-, o⟩
  · have e' : S.2.1.1 = 1 := e
    rw [o] at e'; exact absurd e' (by decide)
  · exact (p2 e).eq o.1 o.2.1 (fun j h1 h2 => he _ _ (by omega) (by omega) (by omega) (by omega))
theorem PastR.same {s s' : Mm} {S : SV} (h : RI s S) (ho : SOk S) (h27 : s' 176 27 = s 176 27) (he : ∀ j, 153 ≤ j → s' 193 j = s 193 j) : PastR s' (pastOf S) := by
  obtain ⟨q1, q2⟩ := h.2.2.2.1
  obtain ⟨o3, o3'⟩ := ho.2.2.1
  exact ⟨by rw [h27]; exact q1, fun i hi => (q2 i hi).eq (o3' i hi).1 (o3' i hi).2.1 (fun j h1 h2 => he _ (by omega))⟩
theorem both {fx fr : Mm → Option (Int32 × Mm)} {s : Mm} {S : SV} (h1 : XI s S) (h2 : RI s S) (r : Int32) (S' : SV) (hx : ∃ s', fx s = some (r, s') ∧ XI s' S' ∧ EqR s s') (hr : ∀ s, SOk S → RI s S → ∃ s', fr s = some (r, s') ∧ RI s' S' ∧ EqX s s') : ∃ (r : Int32) (s1 s2 : Mm) (S' : SV), fx s = some (r, s1) ∧ fr s1 = some (r, s2) ∧ XI s2 S' ∧ RI s2 S' := by
  obtain ⟨s1, a1, a2, a3⟩ := hx
  obtain ⟨s2, b1, b2, b3⟩ := hr s1 h1.ok (h2.eqR h1.ok a3)
  exact ⟨_, s1, s2, S', a1, b1, a2.eqX b3, b2⟩
theorem neg_le {a : Int32} {r : Nat} (ha : a = -1000 ∨ a = -2000) (hr : r < 1000) : a - nI r ≤ 0 := by
  rw [i32_le, l0]
  rcases ha with rfl | rfl
  · rw [i32_sub] <;> rw [nI_toInt (by omega), show (-1000 : Int32).toInt = -1000 by decide] <;> omega
  · rw [i32_sub] <;> rw [nI_toInt (by omega), show (-2000 : Int32).toInt = -2000 by decide] <;> omega
/-- a circle told with a fault: the letters go, nothing else -/
theorem circX_no {s s2 s3 : Mm} {S : SV} {r : Int32} (h : XI s S) (hr : r ≤ 0) (e1 : f_M_recall s = some (2, s2)) (e2 : f_L_tellTo s2 2 = some (r, s3)) (hf : Fr 2 s s3) : ∃ s', f_X_circle s = some (r, s') ∧ XI s' (cirS S S.1 (pastOf S)) ∧ EqR s s' := by
  have hx : XI s3 S := h.eq (fun q j a _ _ _ => hf q j a)
  unfold f_X_circle f_L_drop
  rw [e1, bn_s, e2, bn_s, nm_s, bv_s, if_pos hr]
  have hy : XI (mU s3 169 1 0) (letTo S (0, (letOf S).2)) := hx.letr (fun z j h1 h2 => by rw [mU_get, if_neg (by omega)]) ⟨Nat.zero_le _, by rw [mU_get, if_pos ⟨rfl, rfl⟩]; rfl, fun i hi => absurd hi (by show ¬ i < 0; omega)⟩
  exact ⟨_, rfl, hy, fun z j hz => by rw [mU_get, if_neg (by omega)]; exact hf z j (by unfold own; omega)⟩
theorem circX_yes {s s2 s3 : Mm} {S : SV} {W : CV} {c : Nat} (h : XI s S) (hc : 1 ≤ c) (hc2 : c < 1000) (e1 : f_M_recall s = some (2, s2)) (e2 : f_L_tellTo s2 2 = some (nI c, s3)) (hf : Fr 2 s s3) (hw : HC s3 2 W) (hv : VOk W) : ∃ s', f_X_circle s = some (nI c, s') ∧ XI s' (cirS S W (0, (pastOf S).2)) ∧ EqR s s' := by
  have hx : XI s3 S := h.eq (fun q j a _ _ _ => hf q j a)
  have hy : XI (mU s3 169 1 0) (letTo S (0, (letOf S).2)) := hx.letr (fun z j h1 h2 => by rw [mU_get, if_neg (by omega)]) ⟨Nat.zero_le _, by rw [mU_get, if_pos ⟨rfl, rfl⟩]; rfl, fun i hi => absurd hi (by show ¬ i < 0; omega)⟩
  have hw2 : HC (mU s3 169 1 0) 2 W := hw.eq hv.1 hv.2.1 (fun z j hz => by rw [mU_get, if_neg (fun y => by have := own_lt (by omega) hz; omega)])
  obtain ⟨s4, b1, b2, b3, b4⟩ := Ccopy_e hw2 hv (c := 0) (by omega) (by omega) (by omega)
  have hz : XI s4 (vTo (letTo S (0, (letOf S).2)) W) := hy.now (fun z j hz => b4 z j hz) b2 hv
  have hu := hz.forget
  unfold f_X_circle f_L_drop f_P_forget
  rw [e1, bn_s, e2, bn_s, nm_s, bv_s, if_neg (show ¬ nI c ≤ 0 from nI_nle (by omega) (by omega)), b1, bv_s, nm_s, bv_s]
  exact ⟨_, rfl, hu, fun z j hz => by rw [mU_get, if_neg (by omega), b4 z j (by unfold own; omega), mU_get, if_neg (by omega)]; exact hf z j (by unfold own; omega)⟩
theorem op_circle : OpI (fun s => f_X_circle s) (fun s => f_R_circle s) := by
  intro s S hX hR
  have hv := hX.2.1
  have hL : LetX s (letOf S) := hX.2.2.2.2.1
  have h96 : (letOf S).1 ≤ 96 := hL.1
  obtain ⟨s2, a1, a2, a3, a4, a5⟩ := recall_e hX.1 hv
  have hL2 := hL.fr a4
  -- what the reference does first
  have start : ∀ t : Mm, SOk S → RI t S → ∃ t1, f_R_circle t = k_R_circle_12 KF 1 t1 ∧ t1 176 21 = 0 ∧ t1 176 22 = 0 ∧ LetR t1 (letOf S) ∧ ∀ z k, ¬ (z = 176 ∧ (k = 21 ∨ k = 22)) → t1 z k = t z k := by
    intro t ho hr
    have e : ∀ z k, ¬ (z = 176 ∧ (k = 21 ∨ k = 22)) → mU (mU t 176 21 0) 176 22 0 z k = t z k := fun z k hz => by rw [mU_get, if_neg (by omega), mU_get, if_neg (by omega)]
    have hl : LetR t (letOf S) := hr.2.2.2.2.1
    refine ⟨mU (mU t 176 21 0) 176 22 0, rfl, by rw [mU_get, if_neg (by omega), mU_get, if_pos ⟨rfl, rfl⟩], by rw [mU_get, if_pos ⟨rfl, rfl⟩], ⟨by rw [e _ _ (by omega)]; exact hl.1, fun i hi => by rw [e _ _ (by omega)]; exact hl.2 i hi⟩, e⟩
  rcases form_cases (letOf S) ((letOf S).1 + 1) 0 (fun j hj => absurd hj (by omega)) (by show (letOf S).1 - 0 < _; omega) with ⟨c, h1, hg, he⟩ | ⟨c, r, hg, hb, he⟩
  · have hl := (Good.le c hg).1
    -- the reference, past the form
    have mid : ∀ t : Mm, SOk S → RI t S → ∃ t3, f_R_circle t = k_R_circle_86 KF 0 t3 ∧ t3 176 22 = nI c ∧ (∀ j, j < c → Told t3 (letOf S) j (posA (letOf S) j)) ∧ RV t3 S.1 ∧ SB t3 1 S.1 ∧ t3 176 14 = 0 ∧ t3 176 20 = 0 ∧ ∀ z j, ¬ (190 ≤ z ∧ z ≤ 192) → ¬ (z = 193 ∧ 51 ≤ j ∧ j < 102) → ¬ (z = 176 ∧ (j = 20 ∨ j = 21 ∨ j = 22 ∨ j = 25 ∨ j = 26)) → t3 z j = t z j := by
      intro t ho hr
      obtain ⟨t1, c1, c2, c3, c4, c5⟩ := start t ho hr
      obtain ⟨t2, d1, d2, d3, d4, d5⟩ := rform_ok c4 h96 h1 hg he c2 c3
      obtain ⟨t2', et⟩ : ∃ t2', t2' = mU t2 176 20 0 := ⟨_, rfl⟩
      have o2 : ∀ z k, ¬ (z = 176 ∧ k = 20) → t2' z k = t2 z k := fun z k hz => by rw [et, mU_get, if_neg hz]
      have rv : RV t2' S.1 := hr.1.eq (fun z k hz => by rw [o2 z k (by omega), d5 z k (by omega) (by omega), c5 z k (by omega)])
      obtain ⟨t3, g1, g2, g3, g4⟩ := keepAll_e (w := 1) rv (by omega) hv.1 hv.2.1
      have g1 : f_R_passesAll t2' 1 1 = some t3 := g1
      refine ⟨t3, ?_, ?_, fun j hj => ?_, g2, g3, ?_, ?_, fun z j u1 u2 u3 => ?_⟩
      · rw [c1, d1]
        unfold k_R_circle_60
        rw [nm_s, if_neg (by decide), ← et, g1, bv_s]
      · rw [g4.2 _ _ (by omega) (by omega), o2 _ _ (by omega)]; exact d3
      · exact (d4 j hj).fr (j := 0) (fun z k hz => by rw [g4.2 z k (by omega) (by omega), o2 z k (by omega)])
      · rw [g4.2 _ _ (by omega) (by omega), o2 _ _ (by omega), d5 _ _ (by omega) (by omega), c5 _ _ (by omega)]; exact hr.2.1
      · rw [g4.2 _ _ (by omega) (by omega), et, mU_get, if_pos ⟨rfl, rfl⟩]
      · by_cases hz : z = 193
        · subst hz
          rw [g4.1 j (by omega), o2 _ _ (by omega), d5 _ _ (by omega) (by omega), c5 _ _ (by omega)]
        · rw [g4.2 z j hz (by omega), o2 _ _ (by omega), d5 _ _ (by omega) (by omega), c5 _ _ (by omega)]
    rcases rn_cases S.1 (letOf S) c with ⟨W, hw⟩ | ⟨j, W, hj, hw, hn⟩
    · obtain ⟨s3, b1, b2, b3⟩ := circX_ok hL2 a2 hv h1 hg he hw
      have hvW := rn_ok hv hg c W (Nat.le_refl _) hw
      refine both hX hR (nI c) (cirS S W (0, (pastOf S).2)) (circX_yes hX h1 (by omega) a1 b1 (a4.tr b3) b2 hvW) (fun t ho hr => ?_)
      obtain ⟨t3, m1, m2, m3, m4, m5, m6, m7, m8⟩ := mid t ho hr
      rw [m1]
      refine lp (fun n i a => k_R_circle_86 n (nI i) a) (fun i a => ∃ Wi, rnS S.1 (letOf S) i = some Wi ∧ RV a Wi ∧ FrA t3 a) (fun x => ∃ s', x = some (nI c, s') ∧ RI s' (cirS S W (0, (pastOf S).2)) ∧ EqX t s') c ?_ ?_ KF 0 t3 (by omega) (by rw [KF_1]; omega) ⟨S.1, rfl, m4, fun _ _ _ _ => rfl⟩
      · intro n a ⟨Wi, e1, e2, e3⟩
        rw [hw] at e1
        cases e1
        unfold k_R_circle_86
        have w22 : a 176 22 = nI c := by rw [e3 _ _ (by omega) (by omega)]; exact m2
        rw [w22, if_pos (nI_le (Nat.le_refl _) (by omega)), nm_s]
        obtain ⟨a', ea'⟩ : ∃ a', a' = mU a 176 27 0 := ⟨_, rfl⟩
        rw [← ea']
        have o : ∀ z k, ¬ (z = 176 ∧ k = 27) → a' z k = a z k := fun z k hz => by rw [ea', mU_get, if_neg hz]
        refine ⟨a', by rw [o _ _ (by omega), w22], hr.circ ho (e2.eq (fun z k hz => o z k (by omega))) (by rw [o _ _ (by omega), e3 _ _ (by omega) (by omega)]; exact m7) ⟨by rw [ea', mU_get, if_pos ⟨rfl, rfl⟩]; rfl, fun i hi => absurd hi (by show ¬ i < 0; omega)⟩ (fun z k u1 u2 u3 u4 => by rw [o z k (by omega), e3 z k u1 (by omega), m8 z k u2 u3 (by omega)]), fun z k hz => by rw [o z k (by omega), e3 z k (by omega) (by omega), m8 z k (by omega) (by omega) (by omega)]⟩
      · intro n i a hi ⟨Wi, e1, e2, e3⟩ ih
        obtain ⟨W', e4⟩ := rn_pre (i := i + 1) c hw (by omega)
        have e5 := e4
        rw [rn_s e1] at e5
        have ht : Told a (letOf S) i (posA (letOf S) i) := (m3 i hi).fr (j := 0) (fun z k hz => e3 z k (by omega) (by omega))
        obtain ⟨a', y1, y2, y3⟩ := (comes1_e ht e2 (rn_ok hv hg i Wi (by omega) e1) (by rw [e3 _ _ (by omega) (by omega)]; exact m6) (by omega) (hg i hi)).2 W' e5
        unfold k_R_circle_86
        rw [e3 _ _ (by omega) (by omega), m2, if_neg (nI_ge hi (by omega)), y1, bn_s, if_neg (by decide), nI_1]
        exact ih a' ⟨W', e4, y2, e3.tr y3⟩
    · obtain ⟨s3, b1, b3⟩ := circX_f hL2 a2 hv h1 hg he hj hw hn
      have hfit := (hg j hj).fit
      refine both hX hR _ (cirS S S.1 (pastOf S)) (circX_no hX (neg_le (Or.inr rfl) (by omega)) a1 b1 (a4.tr b3)) (fun t ho hr => ?_)
      obtain ⟨t3, m1, m2, m3, m4, m5, m6, m7, m8⟩ := mid t ho hr
      rw [m1]
      refine lp (fun n i a => k_R_circle_86 n (nI i) a) (fun i a => ∃ Wi, rnS S.1 (letOf S) i = some Wi ∧ RV a Wi ∧ FrA t3 a) (fun x => ∃ s', x = some ((-2000) - nI (posA (letOf S) j), s') ∧ RI s' (cirS S S.1 (pastOf S)) ∧ EqX t s') j ?_ ?_ KF 0 t3 (by omega) (by rw [KF_1]; omega) ⟨S.1, rfl, m4, fun _ _ _ _ => rfl⟩
      · intro n a ⟨Wi, e1, e2, e3⟩
        rw [hw] at e1
        cases e1
        have ht : Told a (letOf S) j (posA (letOf S) j) := (m3 j hj).fr (j := 0) (fun z k hz => e3 z k (by omega) (by omega))
        have w14 : a 176 14 = 0 := by rw [e3 _ _ (by omega) (by omega)]; exact m6
        have y1 := (comes1_e ht e2 (rn_ok hv hg j W (by omega) hw) w14 (by omega) (hg j hj)).1 hn
        obtain ⟨a', z1, z2, z3⟩ := putAll_e (w := 1) (m5.eq hv.1 hv.2.1 (fun k h1 h2 => e3 _ _ (by omega) (by omega))) (by omega) hv.1 hv.2.1 w14 hv.T
        have z1 : f_R_passesAll a 1 0 = some a' := z1
        unfold k_R_circle_86
        rw [e3 _ _ (by omega) (by omega), m2, if_neg (nI_ge hj (by omega)), y1, bn_s, if_pos rfl, z1, bv_s, gd_n (show j < 48 by omega) (by omega), nI_clamp (by omega), z3 _ _ (by omega) (by omega), ht.2.1]
        have fr : ∀ z k, ¬ (178 ≤ z ∧ z ≤ 188) → ¬ (190 ≤ z ∧ z ≤ 192) → ¬ (z = 193 ∧ 51 ≤ k ∧ k < 102) → ¬ (z = 176 ∧ (k = 11 ∨ k = 12 ∨ k = 13 ∨ k = 20 ∨ k = 21 ∨ k = 22 ∨ k = 25 ∨ k = 26 ∨ k = 27)) → a' z k = t z k := fun z k u1 u2 u3 u4 => by rw [z3 z k (by omega) (by omega), e3 z k u1 (by omega), m8 z k u2 u3 (by omega)]
        exact ⟨a', rfl, hr.circ ho z2 (by rw [z3 _ _ (by omega) (by omega), e3 _ _ (by omega) (by omega)]; exact m7) (PastR.same hr ho (by rw [z3 _ _ (by omega) (by omega), e3 _ _ (by omega) (by omega), m8 _ _ (by omega) (by omega) (by omega)]) (fun k hk => fr _ _ (by omega) (by omega) (by omega) (by omega))) fr, fun z k hz => fr z k (by omega) (by omega) (by omega) (by omega)⟩
      · intro n i a hi ⟨Wi, e1, e2, e3⟩ ih
        obtain ⟨W', e4⟩ := rn_pre (i := i + 1) j hw (by omega)
        have e5 := e4
        rw [rn_s e1] at e5
        have ht : Told a (letOf S) i (posA (letOf S) i) := (m3 i (by omega)).fr (j := 0) (fun z k hz => e3 z k (by omega) (by omega))
        obtain ⟨a', y1, y2, y3⟩ := (comes1_e ht e2 (rn_ok hv hg i Wi (by omega) e1) (by rw [e3 _ _ (by omega) (by omega)]; exact m6) (by omega) (hg i (by omega))).2 W' e5
        unfold k_R_circle_86
        rw [e3 _ _ (by omega) (by omega), m2, if_neg (nI_ge (by omega) (by omega)), y1, bn_s, if_neg (by decide), nI_1]
        exact ih a' ⟨W', e4, y2, e3.tr y3⟩
  · have hr2 : r < 1000 := by
      have hd := dB_r (ltA (letOf S) (posA (letOf S) c))
      have hp : posA (letOf S) c < 100 := by
        rcases he with e | e
        · omega
        · rw [e]; show 0 < 100; omega
      rcases hb with ⟨-, e⟩ | ⟨-, i, i1, i2, -⟩
      · omega
      · omega
    have hb' := hb
    have b1 : f_L_tellTo s2 2 = some ((-1000) - nI r, s2) := by
      unfold f_L_tellTo
      rw [formX_bad hL2 hg hb he, bn_s, if_neg (m1_ne (by omega))]
    refine both hX hR _ (cirS S S.1 (pastOf S)) (circX_no hX (neg_le (Or.inl rfl) hr2) a1 b1 a4) (fun t ho hr => ?_)
    obtain ⟨t1, c1, c2, c3, c4, c5⟩ := start t ho hr
    obtain ⟨t2, d1, d2, d3⟩ := rform_bad c4 h96 hg hb he c2 c3
    rw [c1, d1]
    unfold k_R_circle_60
    rw [nm_s, if_pos rfl]
    obtain ⟨t3, et⟩ : ∃ t3, t3 = mU t2 176 20 0 := ⟨_, rfl⟩
    rw [← et]
    have o : ∀ z k, ¬ (z = 176 ∧ k = 20) → t3 z k = t2 z k := fun z k hz => by rw [et, mU_get, if_neg hz]
    have fr : ∀ z k, ¬ (190 ≤ z ∧ z ≤ 192) → ¬ (z = 176 ∧ (k = 20 ∨ k = 21 ∨ k = 22)) → t3 z k = t z k := fun z k u1 u2 => by rw [o z k (by omega), d3 z k (by omega) u1, c5 z k (by omega)]
    refine ⟨t3, by rw [o _ _ (by omega), d2], hr.circ ho (hr.1.eq (fun z k hz => fr z k (by omega) (by omega))) (by rw [et, mU_get, if_pos ⟨rfl, rfl⟩]) (PastR.same hr ho (fr _ _ (by omega) (by omega)) (fun k hk => fr _ _ (by omega) (by omega))) (fun z k u1 u2 u3 u4 => fr z k u2 (by omega)), fun z k hz => fr z k (by omega) (by omega)⟩
