/-! FRIEND, GIFT -/
theorem HF.add {s s' : Mm} {c nF : Nat} {F : Nat → FV} {f : FV} (h : HF s c nF F) (hn : nF < 6) (hc : c < 11) (he : ∀ q j, q ≠ 33 + 7 * c + nF → ¬ (q = c ∧ j = 4) → s' q j = s q j) (h0 : s' c 4 = nI (nF + 1)) (h1 : fRow s' (33 + 7 * c + nF) = f) (h2 : s' (33 + 7 * c + nF) 4 = wtK (fK f) (fI f)) (h3 : s' (33 + 7 * c + nF) 5 = adK (fK f) (fI f)) (h4 : s' (33 + 7 * c + nF) 6 = swK (fK f) (fI f)) : HF s' c (nF + 1) (upF F nF f) := by
  refine ⟨h0, fun q hq => ?_⟩
  by_cases e : q = nF
  · subst e
    rw [upF_at]
    exact ⟨h1, h2, h3, h4⟩
  · rw [upF_ne e]
    have := h.2 q (by omega)
    simp only [fRow, fun j => he (33 + 7 * c + q) j (by omega) (by omega)] at this ⊢
    exact this
theorem HG.add {s s' : Mm} {c nG : Nat} {G : Nat → GV} {g : GV} (h : HG s c nG G) (hn : nG < 4) (hc : c < 11) (he : ∀ q j, q ≠ 110 + 5 * c + nG → ¬ (q = c ∧ j = 5) → s' q j = s q j) (h0 : s' c 5 = nI (nG + 1)) (h1 : gRow s' (110 + 5 * c + nG) = g) : HG s' c (nG + 1) (upG G nG g) := by
  refine ⟨h0, fun q hq => ?_⟩
  by_cases e : q = nG
  · subst e
    rw [upG_at]
    exact h1
  · rw [upG_ne e]
    have := h.2 q (by omega)
    simp only [gRow, fun j => he (110 + 5 * c + q) j (by omega) (by omega)] at this ⊢
    exact this
theorem RFv.add {s s' : Mm} {nF : Nat} {F : Nat → FV} {f : FV} (h : RFv s nF F) (h11 : s' 176 11 = nI (nF + 1)) (h14 : s' 176 14 = s 176 14) (h0 : s 176 14 = 0) (hn : nF < 6) (hT : fT f = 1) (he : ∀ q, q ≠ nF → s' 178 q = s 178 q ∧ s' 179 q = s 179 q ∧ s' 180 q = s 180 q ∧ s' 181 q = s 181 q) (h1 : s' 178 nF = fK f) (h2 : s' 179 nF = fI f) (h3 : s' 180 nF = fD f) (h4 : s' 181 nF = nx (fN f)) : RFv s' (nF + 1) (upF F nF f) := by
  refine ⟨h11, fun q hq => ?_⟩
  by_cases e : q = nF
  · subst e
    rw [upF_at, h14, h0, hT]
    refine ⟨h1, h2, h3, h4, ?_⟩
    rw [if_neg (by decide), nI_0', hasB_nI (by omega) (by omega), Nat.zero_div, if_neg (by decide)]
    rfl
  · rw [upF_ne e, h14]
    obtain ⟨e1, e2, e3, e4⟩ := he q e
    rw [e1, e2, e3, e4]
    exact h.2 q (by omega)
theorem RGv.add {s s' : Mm} {nG : Nat} {G : Nat → GV} {g : GV} (h : RGv s nG G) (h12 : s' 176 12 = nI (nG + 1)) (he : ∀ q, q ≠ nG → rRow s' q = rRow s q) (h1 : rRow s' nG = g) : RGv s' (nG + 1) (upG G nG g) := by
  refine ⟨h12, fun q hq => ?_⟩
  by_cases e : q = nG
  · subst e
    rw [upG_at]
    exact h1
  · rw [upG_ne e, he q e]
    exact h.2 q (by omega)
def fAdd (V : CV) (f : FV) : CV := (V.1 + 1, V.2.1, V.2.2.1, upF V.2.2.2.1 V.1 f, V.2.2.2.2)
def gAdd (V : CV) (g : GV) : CV := (V.1, V.2.1 + 1, V.2.2.1, V.2.2.2.1, upG V.2.2.2.2 V.2.1 g)
theorem HOk.mono {n m : Nat} {g : GV} (h : HOk n g) (hm : n ≤ m) : HOk m g := by
  obtain ⟨⟨p, hp, e⟩, h2⟩ := h
  exact ⟨⟨p, by omega, e⟩, h2⟩
theorem VOk.fAdd {V : CV} {f : FV} (h : VOk V) (hn : V.1 < 6) (hf : FO (V.1 + 1) V.1 f) : VOk (fAdd V f) := by
  refine ⟨by show V.1 + 1 ≤ 6; omega, h.2.1, h.2.2.1, fun q hq => ?_, fun q hq => ?_⟩
  · show FO (V.1 + 1) q (upF V.2.2.2.1 V.1 f q)
    by_cases e : q = V.1
    · subst e; rw [upF_at]; exact hf
    · rw [upF_ne e]
      have hq : q < V.1 + 1 := hq
      obtain ⟨a1, a2, a3, a4, a5⟩ := h.2.2.2.1 q (by omega)
      refine ⟨a1, a2, a3, ?_, a5⟩
      rcases a4 with a | ⟨p, b1, b2, b3⟩
      · exact Or.inl a
      · exact Or.inr ⟨p, by omega, b2, b3⟩
  · show GI (V.1 + 1) (V.2.2.2.2 q)
    obtain ⟨a1, a2⟩ := h.2.2.2.2 q hq
    exact ⟨a1.mono (by omega), a2⟩
theorem VOk.gAdd {V : CV} {g : GV} (h : VOk V) (hn : V.2.1 < 4) (hg : GI V.1 g) : VOk (gAdd V g) := by
  refine ⟨h.1, by show V.2.1 + 1 ≤ 4; omega, h.2.2.1, h.2.2.2.1, fun q hq => ?_⟩
  show GI V.1 (upG V.2.2.2.2 V.2.1 g q)
  by_cases e : q = V.2.1
  · subst e; rw [upG_at]; exact hg
  · rw [upG_ne e]
    have hq : q < V.2.1 + 1 := hq
    exact h.2.2.2.2 q (by omega)
theorem XI.forget {s : Mm} {S : SV} (h : XI s S) : XI (mU s 167 2 0) (pastTo S (0, (pastOf S).2)) := by
  obtain ⟨st, h2, h8, h3, h4, h5⟩ := h.2.2.2.1
  exact h.past (c := 3) (by omega) (fun z j _ hz => by rw [mU_get, if_neg (fun y => hz y.1)]) ⟨st, h2, Nat.zero_le _, by rw [mU_get, if_neg (by omega)]; exact h3, by rw [mU_get, if_pos ⟨rfl, rfl⟩]; rfl, fun i hi => absurd hi (by show ¬ i < 0; omega)⟩
theorem RI.forget {s : Mm} {S : SV} (h : RI s S) (ho : SOk S) : RI (mU s 176 27 0) (pastTo S (0, (pastOf S).2)) := by
  have he : ∀ z j, ¬ (z = 176 ∧ j = 27) → mU s 176 27 0 z j = s z j := fun z j hz => by rw [mU_get, if_neg hz]
  exact h.past ho (h.1.eq (fun z j hz => he z j (by omega))) ⟨fun j _ => he _ _ (by omega), fun z j _ _ h3 => he z j (by omega)⟩ ⟨by rw [mU_get, if_pos ⟨rfl, rfl⟩]; rfl, fun i hi => absurd hi (by show ¬ i < 0; omega)⟩
theorem SOk.forget {S : SV} (h : SOk S) : SOk (pastTo S (0, (pastOf S).2)) := ⟨h.1, h.2.1, ⟨Nat.zero_le _, fun i hi => absurd hi (by show ¬ i < 0; omega)⟩, h.2.2.2⟩
def noFr (a b c n : Int32) : Int32 := if wNo a 5 = 0 then (if b < 0 then -4 else if 1 ≤ c then (if 9 < b then -6 else if 99 < c then -6 else if n = 6 then -6 else 0) else -4) else -2
theorem noFr_c (a b c n : Int32) : noFr a b c n = 0 ∨ Codes (noFr a b c n) := by
  unfold noFr
  repeat' split
  all_goals first
    | exact Or.inl rfl
    | exact Or.inr (by unfold Codes; decide)
theorem noFr_0 {a b c : Int32} {n : Nat} (hn : n ≤ 6) (h : noFr a b c (nI n) = 0) : (0 ≤ a.toInt ∧ a.toInt ≤ 5) ∧ (0 ≤ b.toInt ∧ b.toInt ≤ 9) ∧ (1 ≤ c.toInt ∧ c.toInt ≤ 99) ∧ n < 6 := by
  unfold noFr at h
  by_cases h1 : wNo a 5 = 0
  · rw [if_pos h1] at h
    obtain ⟨k, hk, rfl⟩ := wNo_0 (m := 5) (by omega) h1
    by_cases h2 : b < 0
    · rw [if_pos h2] at h; exact absurd h (by decide)
    · rw [if_neg h2] at h
      by_cases h3 : 1 ≤ c
      · rw [if_pos h3] at h
        by_cases h4 : 9 < b
        · rw [if_pos h4] at h; exact absurd h (by decide)
        · rw [if_neg h4] at h
          by_cases h5 : 99 < c
          · rw [if_pos h5] at h; exact absurd h (by decide)
          · rw [if_neg h5] at h
            by_cases h6 : nI n = 6
            · rw [if_pos h6] at h; exact absurd h (by decide)
            · rw [i32_lt, l0] at h2
              rw [i32_le, show (1 : Int32).toInt = 1 by decide] at h3
              rw [i32_lt, show (9 : Int32).toInt = 9 by decide] at h4
              rw [i32_lt, show (99 : Int32).toInt = 99 by decide] at h5
              refine ⟨?_, ⟨by omega, by omega⟩, ⟨h3, by omega⟩, ?_⟩
              · rw [nI_toInt (by omega)]; omega
              · have : ¬ n = 6 := fun z => h6 (by rw [z]; rfl)
                omega
      · rw [if_neg h3] at h; exact absurd h (by decide)
  · rw [if_neg h1] at h; exact absurd h (by decide)
def newF (a b c : Int32) : FV := (a, b, c, -1, 1)
theorem isI_w5 {a m : Int32} : isI a 0 m = if wNo a m = 0 then 1 else 0 := by
  unfold isI wNo
  by_cases c : a < 0
  · simp [c]
  · by_cases d : m < a
    · simp [c, d]
    · simp [c, d]
theorem op_friend (a b c : Int32) : OpI (fun s => f_X_friend s a b c) (fun s => f_R_friend s a b c) := by
  refine OpI.m (mx' := fun s => bv (f_P_forget s) fun s8 => f_C_addFriend s8 0 a b c) (mr := fun s => k_R_friend_55 a b c 0 s) (fun S => noFr a b c (nI S.1.1)) (fun S => nI S.1.1) (fun S => vTo (pastTo S (0, (pastOf S).2)) (fAdd S.1 (newF a b c))) (fun S => noFr_c _ _ _ _) ?_ ?_ ?_ ?_
  · intro s S h
    have hn := h.2.1.1
    have e6 : ∀ s : Mm, s 0 4 = nI S.1.1 → f_C_friendsAreFull s 0 = some (if nI S.1.1 = 6 then 1 else 0, s) := fun s e => by
      unfold f_C_friendsAreFull
      rw [e]
      by_cases d : S.1.1 < 6
      · rw [if_pos (show nI S.1.1 < 6 from nI_lt (b := 6) d (by omega)), if_neg (show ¬ nI S.1.1 = 6 from fun z => by have := (nI_eq (by omega) (b := 6) (by omega)).mp z; omega)]
      · rw [if_neg (show ¬ nI S.1.1 < 6 from fun z => d ((nI_ltI (by omega) (b := 6) (by omega)).mp z)), if_pos (show nI S.1.1 = 6 by rw [show S.1.1 = 6 by omega]; rfl)]
    unfold f_X_friend k_X_friend_25 k_X_friend_56 noFr
    simp only [whatNo_e, bn_s, bn_eta, e6 s h.1.1.1]
    by_cases h1 : wNo a 5 = 0
    · by_cases h2 : b < 0
      · simp [h1, h2]
      · by_cases h3 : 1 ≤ c
        · by_cases h4 : 9 < b
          · simp [h1, h2, h3, h4]
          · by_cases h5 : 99 < c
            · simp [h1, h2, h3, h4, h5]
            · by_cases h6 : nI S.1.1 = 6
              · simp [h1, h2, h3, h4, h5, h6]
              · simp [h1, h2, h3, h4, h5, h6]
        · simp [h1, h2, h3]
    · simp [h1, wNo_m2 h1]
  · intro s S ho h
    show f_R_friend s a b c = _
    unfold f_R_friend noFr
    simp only [isIn_e, bn_s, isI_w5, show s 176 11 = nI S.1.1 from h.1.1.1]
    by_cases h1 : wNo a 5 = 0
    · by_cases h2 : b < 0
      · simp [h1, h2, k_R_friend_55, bn_eta]
      · by_cases h3 : 1 ≤ c
        · by_cases h4 : 9 < b
          · simp [h1, h2, h3, h4, k_R_friend_55, bn_eta]
          · by_cases h5 : 99 < c
            · simp [h1, h2, h3, h4, h5, k_R_friend_55, bn_eta]
            · by_cases h6 : nI S.1.1 = 6
              · simp [h1, h2, h3, h4, h5, h6, k_R_friend_55, bn_eta]
              · simp [h1, h2, h3, h4, h5, h6]
        · simp [h1, h2, h3, k_R_friend_55, bn_eta]
    · simp [h1, k_R_friend_55, bn_eta]
  · intro s S h e
    have hv := h.2.1
    obtain ⟨e1, e2, e3, e4⟩ := noFr_0 hv.1 e
    have h1 := h.forget
    obtain ⟨s1, es1⟩ : ∃ s1, s1 = mU s 167 2 0 := ⟨_, rfl⟩
    rw [← es1] at h1
    have q1 : EqR s s1 := fun z j hz => by rw [es1, mU_get, if_neg (by omega)]
    have c1 : HC s1 0 S.1 := h1.1
    show ∃ s', (bv (f_P_forget s) fun s8 => f_C_addFriend s8 0 a b c) = _ ∧ _
    unfold f_P_forget
    rw [nm_s, ← es1, bv_s]
    unfold f_C_addFriend
    rw [nm_s, c1.1.1, friendAt_e (by omega), bn_s]
    unfold f_F_begin
    obtain ⟨s2, b1, b2, b3, b4, b5, b6, b7⟩ := become_e (s := s1) (o := 33 + 7 * 0 + S.1.1) (a := a) (b := b)
    rw [b1, bv_s]
    simp only [nm_s, bv_s]
    obtain ⟨s3, es3⟩ : ∃ s3, s3 = mU (mU (mU (mU s2 (33 + 7 * 0 + S.1.1) 2 c) (33 + 7 * 0 + S.1.1) 3 (-1)) (33 + 7 * 0 + S.1.1) 7 1) (33 + 7 * 0 + S.1.1) 8 0 := ⟨_, rfl⟩
    rw [← es3]
    have f3 : ∀ z j, z ≠ 33 + 7 * 0 + S.1.1 → s3 z j = s2 z j := fun z j hz => by rw [es3]; simp [mU_get, hz]
    have r0 : s2 (33 + 7 * 0 + S.1.1) 0 = a := congrArg (fun x : FV => x.1) b2
    have r1 : s2 (33 + 7 * 0 + S.1.1) 1 = b := congrArg (fun x : FV => x.2.1) b2
    have w4 : s3 0 4 = nI S.1.1 := by rw [f3 _ _ (by omega), b7 _ _ (by omega)]; exact c1.1.1
    obtain ⟨s4, es4⟩ : ∃ s4, s4 = mU s3 0 4 (s3 0 4 + 1) := ⟨_, rfl⟩
    rw [← es4]
    have f4 : ∀ z j, ¬ (z = 0 ∧ j = 4) → s4 z j = s3 z j := fun z j hz => by rw [es4, mU_get, if_neg hz]
    have ff : ∀ z j, z ≠ 33 + 7 * 0 + S.1.1 → ¬ (z = 0 ∧ j = 4) → s4 z j = s1 z j := fun z j h1 h2 => by rw [f4 _ _ h2, f3 _ _ h1, b7 _ _ h1]
    have k4 : ∀ j, s4 (33 + 7 * 0 + S.1.1) j = s3 (33 + 7 * 0 + S.1.1) j := fun j => f4 _ _ (by omega)
    have hF : HF s4 0 (S.1.1 + 1) (upF S.1.2.2.2.1 S.1.1 (newF a b c)) := by
      refine c1.1.add e4 (by omega) ff (by rw [es4, mU_get, if_pos ⟨rfl, rfl⟩, w4, nI_1]) ?_ ?_ ?_ ?_
      · simp only [fRow, k4]
        rw [es3]
        simp [mU_get, r0, r1, newF]
      · rw [k4, es3]; simp [mU_get, b3, newF]
      · rw [k4, es3]; simp [mU_get, b4, newF]
      · rw [k4, es3]; simp [mU_get, b5, newF]
    refine ⟨s4, rfl, h1.now (fun z j hz => ff z j (fun y => hz (y ▸ ownF (c := 0) (by omega))) (fun y => hz (y.1 ▸ ownC))) ⟨hF, ?_, ?_⟩ (hv.fAdd e4 ⟨e1, e2, e3, Or.inl rfl, rfl⟩), fun z j hz => by rw [ff z j (by omega) (by omega)]; exact q1 z j hz⟩
    · have hm := hv.2.1
      refine ⟨by rw [ff _ _ (by omega) (by omega)]; exact c1.2.1.1, fun q hq => ?_⟩
      have hq' : q < S.1.2.1 := hq
      have := c1.2.1.2 q hq
      simp only [gRow, fun j => ff (110 + 5 * 0 + q) j (by omega) (by omega)] at this ⊢
      exact this
    · rw [ff _ _ (by omega) (by omega)]
      exact c1.2.2
  · intro s S ho h e
    have hv := ho.1
    obtain ⟨e1, e2, e3, e4⟩ := noFr_0 hv.1 e
    have h1 := h.forget ho
    obtain ⟨s1, es1⟩ : ∃ s1, s1 = mU s 176 27 0 := ⟨_, rfl⟩
    rw [← es1] at h1
    have q1 : EqX s s1 := fun z j hz => by rw [es1, mU_get, if_neg (by omega)]
    have c1 : RV s1 S.1 := h1.1
    have h14 : s1 176 14 = 0 := h1.2.1
    show ∃ s', k_R_friend_55 a b c 0 s = _ ∧ _
    unfold k_R_friend_55
    rw [if_pos rfl, nm_s, ← es1]
    unfold f_R_addsFriend
    have g1 : s1 176 11 = nI S.1.1 := c1.1.1
    have gn : ∀ (t : Mm) (o i : Nat) (v : Int32), o ≠ 176 → mU t o i v 176 11 = t 176 11 := fun t o i v ho => by rw [mU_get, if_neg (by omega)]
    simp only [gn _ 178 _ _ (by omega), gn _ 179 _ _ (by omega), gn _ 180 _ _ (by omega), gn _ 181 _ _ (by omega), g1, nm_s, gd_n e4 (show 6 < 2 ^ 31 by omega), bv_s, nI_clamp (show S.1.1 < 2 ^ 31 by omega)]
    obtain ⟨s3, es3⟩ : ∃ s3, s3 = mU (mU (mU (mU s1 178 S.1.1 a) 179 S.1.1 b) 180 S.1.1 c) 181 S.1.1 (-9) := ⟨_, rfl⟩
    rw [← es3]
    have f3 : ∀ z j, (z < 178 ∨ 181 < z) → s3 z j = s1 z j := fun z j hz => by rw [es3]; simp [mU_get, show z ≠ 178 by omega, show z ≠ 179 by omega, show z ≠ 180 by omega, show z ≠ 181 by omega]
    have w3 : s3 176 11 = nI S.1.1 := by rw [f3 _ _ (by omega)]; exact g1
    obtain ⟨s4, es4⟩ : ∃ s4, s4 = mU s3 176 11 (nI S.1.1 + 1) := ⟨_, rfl⟩
    rw [show nI S.1.1 + 1 = nI (S.1.1 + 1) from nI_1 _] at es4 ⊢
    rw [← es4]
    have f4 : ∀ z j, ¬ (z = 176 ∧ j = 11) → s4 z j = s3 z j := fun z j hz => by rw [es4, mU_get, if_neg hz]
    have k4 : s4 176 11 = nI (S.1.1 + 1) := by rw [es4, mU_get, if_pos ⟨rfl, rfl⟩]
    have hF : RFv s4 (S.1.1 + 1) (upF S.1.2.2.2.1 S.1.1 (newF a b c)) := by
      refine c1.1.add k4 (by rw [f4 _ _ (by omega), f3 _ _ (by omega)]) h14 e4 rfl (fun q hq => ⟨?_, ?_, ?_, ?_⟩) ?_ ?_ ?_ ?_
      all_goals rw [f4 _ _ (by omega), es3]
      all_goals simp [mU_get, newF]
      all_goals first
        | exact fun z => absurd z hq
        | rfl
    have hx : RI s4 (vTo (pastTo S (0, (pastOf S).2)) (fAdd S.1 (newF a b c))) := h1.now ho.forget ⟨hF, c1.2.1.o (fun z j hz => by rw [f4 _ _ (by omega), f3 _ _ (by omega)]), by rw [f4 _ _ (by omega), f3 _ _ (by omega)]; exact c1.2.2⟩ (fun z j hz hz2 => by rw [f4 _ _ (by omega), f3 _ _ (by omega)])
    refine ⟨s4, ?_, hx, fun z j hz => by rw [f4 _ _ (by omega), f3 _ _ (by omega)]; exact q1 z j hz⟩
    rw [es4, mU_get, if_pos ⟨rfl, rfl⟩, nI_pred]
def noGi (a b c : Int32) (S : SV) : Int32 := if gNo (nI S.1.1) a = 0 then (if b < 0 then -4 else if 1 ≤ c then (if 99 < b then -6 else if 99 < c then -6 else if nI S.1.2.1 = 4 then -6 else 0) else -4) else -1
theorem noGi_c (a b c : Int32) (S : SV) : noGi a b c S = 0 ∨ Codes (noGi a b c S) := by
  unfold noGi
  repeat' split
  all_goals first
    | exact Or.inl rfl
    | exact Or.inr (by unfold Codes; decide)
theorem gNo_m1 {m a : Int32} (h : ¬ gNo m a = 0) : gNo m a = -1 := by
  rcases gNo_c m a with c | c
  · exact absurd c h
  · exact c
theorem noGi_0 {a b c : Int32} {S : SV} (hn : S.1.1 ≤ 6) (hm : S.1.2.1 ≤ 4) (h : noGi a b c S = 0) : (∃ p, p < S.1.1 ∧ a = nI p) ∧ (0 ≤ b.toInt ∧ b.toInt ≤ 99) ∧ (1 ≤ c.toInt ∧ c.toInt ≤ 99) ∧ S.1.2.1 < 4 := by
  unfold noGi at h
  by_cases h1 : gNo (nI S.1.1) a = 0
  · rw [if_pos h1] at h
    by_cases h2 : b < 0
    · rw [if_pos h2] at h; exact absurd h (by decide)
    · rw [if_neg h2] at h
      by_cases h3 : 1 ≤ c
      · rw [if_pos h3] at h
        by_cases h4 : 99 < b
        · rw [if_pos h4] at h; exact absurd h (by decide)
        · rw [if_neg h4] at h
          by_cases h5 : 99 < c
          · rw [if_pos h5] at h; exact absurd h (by decide)
          · rw [if_neg h5] at h
            by_cases h6 : nI S.1.2.1 = 4
            · rw [if_pos h6] at h; exact absurd h (by decide)
            · rw [i32_lt, l0] at h2
              rw [i32_le, show (1 : Int32).toInt = 1 by decide] at h3
              rw [i32_lt, show (99 : Int32).toInt = 99 by decide] at h4
              rw [i32_lt, show (99 : Int32).toInt = 99 by decide] at h5
              refine ⟨gNo_0 (by omega) h1, ⟨by omega, by omega⟩, ⟨h3, by omega⟩, ?_⟩
              have : ¬ S.1.2.1 = 4 := fun z => h6 (by rw [z]; rfl)
              omega
      · rw [if_neg h3] at h; exact absurd h (by decide)
  · rw [if_neg h1] at h; exact absurd h (by decide)
def newG (a b c : Int32) : GV := (b, c, a, 0, 0, 0)
theorem newG_ok {n p : Nat} {b c : Int32} (hp : p < n) (hb : 0 ≤ b.toInt ∧ b.toInt ≤ 99) (hc : 1 ≤ c.toInt ∧ c.toInt ≤ 99) : GI n (newG (nI p) b c) := by
  refine ⟨⟨⟨p, hp, rfl⟩, Or.inl rfl⟩, ?_, ?_, ?_, ?_⟩
  · show 0 ≤ b.toInt ∧ b.toInt ≤ 999; omega
  · show 1 ≤ c.toInt ∧ c.toInt ≤ 999; omega
  · show 0 ≤ (0 : Int32).toInt ∧ (0 : Int32).toInt ≤ 99; decide
  · show 0 ≤ (0 : Int32).toInt ∧ (0 : Int32).toInt ≤ 99; decide
theorem op_gift (a b c : Int32) : OpI (fun s => f_X_gift s a b c) (fun s => f_R_gift s a b c) := by
  refine OpI.m (mx' := fun s => bv (f_P_forget s) fun s8 => f_C_addGift s8 0 a b c) (mr := fun s => k_R_gift_52 a b c 0 s) (noGi a b c) (fun S => nI S.1.2.1) (fun S => vTo (pastTo S (0, (pastOf S).2)) (gAdd S.1 (newG a b c))) (fun S => noGi_c _ _ _ _) ?_ ?_ ?_ ?_
  · intro s S h
    have hm := h.2.1.2.1
    have e6 : ∀ s : Mm, s 0 5 = nI S.1.2.1 → f_C_giftsAreFull s 0 = some (if nI S.1.2.1 = 4 then 1 else 0, s) := fun s e => by
      unfold f_C_giftsAreFull
      rw [e]
      by_cases d : S.1.2.1 < 4
      · rw [if_pos (show nI S.1.2.1 < 4 from nI_lt (b := 4) d (by omega)), if_neg (show ¬ nI S.1.2.1 = 4 from fun z => by have := (nI_eq (by omega) (b := 4) (by omega)).mp z; omega)]
      · rw [if_neg (show ¬ nI S.1.2.1 < 4 from fun z => d ((nI_ltI (by omega) (b := 4) (by omega)).mp z)), if_pos (show nI S.1.2.1 = 4 by rw [show S.1.2.1 = 4 by omega]; rfl)]
    unfold f_X_gift k_X_gift_25 k_X_gift_56 noGi
    simp only [friendNo_e, bn_s, bn_eta, e6 s h.1.2.1.1, h.1.1.1]
    by_cases h1 : gNo (nI S.1.1) a = 0
    · by_cases h2 : b < 0
      · simp [h1, h2]
      · by_cases h3 : 1 ≤ c
        · by_cases h4 : 99 < b
          · simp [h1, h2, h3, h4]
          · by_cases h5 : 99 < c
            · simp [h1, h2, h3, h4, h5]
            · by_cases h6 : nI S.1.2.1 = 4
              · simp [h1, h2, h3, h4, h5, h6]
              · simp [h1, h2, h3, h4, h5, h6]
        · simp [h1, h2, h3]
    · simp [h1, gNo_m1 h1]
  · intro s S ho h
    show f_R_gift s a b c = _
    unfold f_R_gift noGi
    simp only [isFriend_e, bn_s, show s 176 12 = nI S.1.2.1 from h.1.2.1.1, show s 176 11 = nI S.1.1 from h.1.1.1]
    have hin : (inN (nI S.1.1) a = 0) = ¬ gNo (nI S.1.1) a = 0 := by
      unfold gNo
      by_cases d : inN (nI S.1.1) a = 0
      · rw [if_pos d, d]; decide
      · rw [if_neg d]
        exact propext ⟨fun z => absurd z d, fun z => absurd rfl z⟩
    by_cases h1 : gNo (nI S.1.1) a = 0
    · rw [if_neg (by rw [hin]; exact fun z => z h1)]
      by_cases h2 : b < 0
      · simp [h1, h2, k_R_gift_52, bn_eta]
      · by_cases h3 : 1 ≤ c
        · by_cases h4 : 99 < b
          · simp [h1, h2, h3, h4, k_R_gift_52, bn_eta]
          · by_cases h5 : 99 < c
            · simp [h1, h2, h3, h4, h5, k_R_gift_52, bn_eta]
            · by_cases h6 : nI S.1.2.1 = 4
              · simp [h1, h2, h3, h4, h5, h6, k_R_gift_52, bn_eta]
              · simp [h1, h2, h3, h4, h5, h6]
        · simp [h1, h2, h3, k_R_gift_52, bn_eta]
    · rw [if_pos (by rw [hin]; exact h1)]
      simp [h1, k_R_gift_52, bn_eta]
  · intro s S h e
    have hv := h.2.1
    obtain ⟨⟨p, hp, rfl⟩, e2, e3, e4⟩ := noGi_0 hv.1 hv.2.1 e
    have hn := hv.1
    have h1 := h.forget
    obtain ⟨s1, es1⟩ : ∃ s1, s1 = mU s 167 2 0 := ⟨_, rfl⟩
    rw [← es1] at h1
    have q1 : EqR s s1 := fun z j hz => by rw [es1, mU_get, if_neg (by omega)]
    have c1 : HC s1 0 S.1 := h1.1
    show ∃ s', (bv (f_P_forget s) fun s8 => f_C_addGift s8 0 (nI p) b c) = _ ∧ _
    unfold f_P_forget
    rw [nm_s, ← es1, bv_s]
    unfold f_C_addGift
    rw [nm_s, c1.2.1.1, giftAt_e (by omega), bn_s]
    unfold f_G_begin
    simp only [nm_s, bv_s]
    obtain ⟨s3, es3⟩ : ∃ s3, s3 = mU (mU (mU (mU (mU (mU s1 (110 + 5 * 0 + S.1.2.1) 0 b) (110 + 5 * 0 + S.1.2.1) 1 c) (110 + 5 * 0 + S.1.2.1) 2 (nI p)) (110 + 5 * 0 + S.1.2.1) 3 0) (110 + 5 * 0 + S.1.2.1) 4 0) (110 + 5 * 0 + S.1.2.1) 5 0 := ⟨_, rfl⟩
    rw [← es3]
    have f3 : ∀ z j, z ≠ 110 + 5 * 0 + S.1.2.1 → s3 z j = s1 z j := fun z j hz => by rw [es3]; simp [mU_get, hz]
    have w4 : s3 0 5 = nI S.1.2.1 := by rw [f3 _ _ (by omega)]; exact c1.2.1.1
    obtain ⟨s4, es4⟩ : ∃ s4, s4 = mU s3 0 5 (s3 0 5 + 1) := ⟨_, rfl⟩
    rw [← es4]
    have f4 : ∀ z j, ¬ (z = 0 ∧ j = 5) → s4 z j = s3 z j := fun z j hz => by rw [es4, mU_get, if_neg hz]
    have ff : ∀ z j, z ≠ 110 + 5 * 0 + S.1.2.1 → ¬ (z = 0 ∧ j = 5) → s4 z j = s1 z j := fun z j h1 h2 => by rw [f4 _ _ h2, f3 _ _ h1]
    have k4 : ∀ j, s4 (110 + 5 * 0 + S.1.2.1) j = s3 (110 + 5 * 0 + S.1.2.1) j := fun j => f4 _ _ (by omega)
    have hG : HG s4 0 (S.1.2.1 + 1) (upG S.1.2.2.2.2 S.1.2.1 (newG (nI p) b c)) := by
      refine c1.2.1.add e4 (by omega) ff (by rw [es4, mU_get, if_pos ⟨rfl, rfl⟩, w4, nI_1]) ?_
      simp only [gRow, k4]
      rw [es3]
      simp [mU_get, newG]
    refine ⟨s4, rfl, h1.now (fun z j hz => ff z j (fun y => hz (y ▸ ownG (c := 0) (by omega))) (fun y => hz (y.1 ▸ ownC))) ⟨?_, hG, ?_⟩ (hv.gAdd e4 (newG_ok hp e2 e3)), fun z j hz => by rw [ff z j (by omega) (by omega)]; exact q1 z j hz⟩
    · refine ⟨by rw [ff _ _ (by omega) (by omega)]; exact c1.1.1, fun q hq => ?_⟩
      have hq' : q < S.1.1 := hq
      have := c1.1.2 q hq
      simp only [fRow, fun j => ff (33 + 7 * 0 + q) j (by omega) (by omega)] at this ⊢
      exact this
    · rw [ff _ _ (by omega) (by omega)]
      exact c1.2.2
  · intro s S ho h e
    have hv := ho.1
    obtain ⟨⟨p, hp, rfl⟩, e2, e3, e4⟩ := noGi_0 hv.1 hv.2.1 e
    have hn := hv.1
    have h1 := h.forget ho
    obtain ⟨s1, es1⟩ : ∃ s1, s1 = mU s 176 27 0 := ⟨_, rfl⟩
    rw [← es1] at h1
    have q1 : EqX s s1 := fun z j hz => by rw [es1, mU_get, if_neg (by omega)]
    have c1 : RV s1 S.1 := h1.1
    show ∃ s', k_R_gift_52 (nI p) b c 0 s = _ ∧ _
    unfold k_R_gift_52
    rw [if_pos rfl, nm_s, ← es1]
    unfold f_R_addsGift
    have g1 : s1 176 12 = nI S.1.2.1 := c1.2.1.1
    have gn : ∀ (t : Mm) (o i : Nat) (v : Int32), o ≠ 176 → mU t o i v 176 12 = t 176 12 := fun t o i v ho => by rw [mU_get, if_neg (by omega)]
    simp only [gn _ 182 _ _ (by omega), gn _ 183 _ _ (by omega), gn _ 187 _ _ (by omega), g1, nm_s, gd_n e4 (show 4 < 2 ^ 31 by omega), bv_s, nI_clamp (show S.1.2.1 < 2 ^ 31 by omega), puts_e e4]
    obtain ⟨s3, es3⟩ : ∃ s3, s3 = mU (mU (mU (mU (mU (mU s1 182 S.1.2.1 b) 183 S.1.2.1 c) 187 S.1.2.1 0) 184 S.1.2.1 (nI p)) 185 S.1.2.1 0) 186 S.1.2.1 0 := ⟨_, rfl⟩
    rw [← es3]
    have f3 : ∀ z j, (z < 182 ∨ 187 < z) → s3 z j = s1 z j := fun z j hz => by rw [es3]; simp [mU_get, show z ≠ 182 by omega, show z ≠ 183 by omega, show z ≠ 184 by omega, show z ≠ 185 by omega, show z ≠ 186 by omega, show z ≠ 187 by omega]
    have w3 : s3 176 12 = nI S.1.2.1 := by rw [f3 _ _ (by omega)]; exact g1
    rw [w3, nI_1]
    obtain ⟨s4, es4⟩ : ∃ s4, s4 = mU s3 176 12 (nI (S.1.2.1 + 1)) := ⟨_, rfl⟩
    rw [← es4]
    have f4 : ∀ z j, ¬ (z = 176 ∧ j = 12) → s4 z j = s3 z j := fun z j hz => by rw [es4, mU_get, if_neg hz]
    have k4 : s4 176 12 = nI (S.1.2.1 + 1) := by rw [es4, mU_get, if_pos ⟨rfl, rfl⟩]
    have hG : RGv s4 (S.1.2.1 + 1) (upG S.1.2.2.2.2 S.1.2.1 (newG (nI p) b c)) := by
      refine c1.2.1.add k4 (fun q hq => ?_) ?_
      · simp only [rRow, fun j => f4 182 j (by omega), fun j => f4 183 j (by omega), fun j => f4 184 j (by omega), fun j => f4 185 j (by omega), fun j => f4 186 j (by omega), fun j => f4 187 j (by omega)]
        rw [es3]
        simp [mU_get, hq]
      · simp only [rRow, fun j => f4 182 j (by omega), fun j => f4 183 j (by omega), fun j => f4 184 j (by omega), fun j => f4 185 j (by omega), fun j => f4 186 j (by omega), fun j => f4 187 j (by omega)]
        rw [es3]
        simp [mU_get, newG]
    have hx : RI s4 (vTo (pastTo S (0, (pastOf S).2)) (gAdd S.1 (newG (nI p) b c))) := h1.now ho.forget ⟨c1.1.eq (by rw [f4 _ _ (by omega), f3 _ _ (by omega)]) (by rw [f4 _ _ (by omega), f3 _ _ (by omega)]) (fun k => ⟨by rw [f4 _ _ (by omega), f3 _ _ (by omega)], by rw [f4 _ _ (by omega), f3 _ _ (by omega)], by rw [f4 _ _ (by omega), f3 _ _ (by omega)], by rw [f4 _ _ (by omega), f3 _ _ (by omega)]⟩), hG, by rw [f4 _ _ (by omega), f3 _ _ (by omega)]; exact c1.2.2⟩ (fun z j hz hz2 => by rw [f4 _ _ (by omega), f3 _ _ (by omega)])
    refine ⟨s4, ?_, hx, fun z j hz => by rw [f4 _ _ (by omega), f3 _ _ (by omega)]; exact q1 z j hz⟩
    rw [es4, mU_get, if_pos ⟨rfl, rfl⟩, nI_pred]
