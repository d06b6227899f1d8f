/-! questions: behind, then, given, comes -/
theorem wNo_isI (a m : Int32) : wNo a m = if isI a 0 m = 0 then -2 else 0 := by
  unfold wNo isI
  by_cases h1 : a < 0
  · simp [h1]
  · by_cases h2 : m < a
    · simp [h1, h2]
    · simp [h1, h2]
theorem VOk.M {V : CV} (h : VOk V) : FM V.1 V.2.2.2.1 := h.2.2.2.1.m
theorem VOk.G {V : CV} (h : VOk V) : ∀ k, k < V.2.1 → GI V.1 (V.2.2.2.2 k) := fun k hk => h.2.2.2.2 k hk
theorem VOk.T {V : CV} (h : VOk V) : ∀ k, k < V.1 → fT (V.2.2.2.1 k) = 1 := fun k hk => (h.2.2.2.1 k hk).2.2.2.2
theorem VOk.H {V : CV} (h : VOk V) : ∀ k, k < V.2.1 → HOk V.1 (V.2.2.2.2 k) := fun k hk => (h.G k hk).1
theorem thinkGo_e {s : Mm} {V : CV} {N : Nat} (h : RV s V) (hv : VOk V) (h14 : s 176 14 = 0) (hN : N ≤ 60) : ∃ s1 s2 s3, f_R_thinks s = some s1 ∧ f_R_goes s1 (nI N) = some s2 ∧ RFv s2 V.1 V.2.2.2.1 ∧ RGv s2 V.2.1 (fun k => gIt V.2.2.2.1 N (V.2.2.2.2 k)) ∧ RBv s2 V.1 (bIt V.2.2.2.1 V.2.1 V.2.2.2.2 (fun _ => 0) N) ∧ f_R_forgets s2 = some s3 ∧ RV s3 V ∧ FrW 102 153 s s3 ∧ s3 188 = s2 188 := by
  obtain ⟨s1, a1, a2, a3, a4, a5⟩ := thinks_e h hv.1 hv.2.1
  obtain ⟨s2, b1, b2, b3, b4, b5, b6⟩ := goes_e a2.1 a2.2.1 a4 hv.M hv.1 hv.2.1 hv.G hN
  have h2 : s2 176 14 = 0 := by rw [b6 _ _ (by omega) (by omega), a5.2 _ _ (by omega) (by omega) (by omega)]; exact h14
  obtain ⟨s3, c1, c2, c3⟩ := forgets_e (a3.eq hv.1 hv.2.1 (fun j _ _ => b6 _ _ (by omega) (by omega))) hv.1 hv.2.1 h2 hv.T
  exact ⟨s1, s2, s3, a1, b1, b2, b3, b4, c1, c2, (a5.tr b6.w).tr c3.w, funext fun j => c3 _ _ (by omega) (by omega)⟩
def fG (w : Int32) (g : GV) : Int32 := if w = 0 then gH g else if w = 1 then gW g else if w = 2 then gZ' g else gP g
def upG (G : Nat → GV) (k : Nat) (g : GV) : Nat → GV := fun q => if q = k then g else G q
theorem passGift_e {s : Mm} {k N : Nat} {F : Nat → FV} {G : Nat → GV} {nF nG : Nat} (hF : HF s 2 nF F) (hG : HG s 2 nG G) (hN : NOk nF F) (hH : HOk nF (G k)) (hn : nF ≤ 6) (hm : nG ≤ 4) (hk : k < nG) (hl : N ≤ 60) : ∃ s', f_M_passGift s (110 + 5 * 2 + k) (nI N) = some s' ∧ HF s' 2 nF F ∧ HG s' 2 nG (upG G k (gIt F N (G k))) ∧ Fr 2 s s' := by
  unfold f_M_passGift
  refine lp (fun n i a => k_M_passGift_2 n (110 + 5 * 2 + k) (nI N) (nI i) a) (fun i a => HF a 2 nF F ∧ HG a 2 nG (upG G k (gIt F i (G k))) ∧ Fr 2 s a) (fun r => ∃ s', r = some s' ∧ HF s' 2 nF F ∧ HG s' 2 nG (upG G k (gIt F N (G k))) ∧ Fr 2 s s') N ?_ ?_ KF 0 s (by omega) (by rw [KF_1]; omega) ⟨hF, ⟨hG.1, fun q hq => ?_⟩, Fr.rf⟩
  · intro n a h
    unfold k_M_passGift_2
    rw [if_pos (nI_le (Nat.le_refl _) (by omega))]
    exact ⟨a, rfl, h⟩
  · intro n i a hi ⟨h1, h2, h3⟩ ih
    unfold k_M_passGift_2
    rw [if_neg (nI_ge hi (by omega))]
    have hu : upG G k (gIt F i (G k)) k = gIt F i (G k) := by unfold upG; simp
    obtain ⟨s', e1, e2, e3, e4, e5, e6⟩ := passK_e (B := fun q => a (33 + 7 * 2 + q) 8) h1 h2 (fun q _ => rfl) hN (k := k) (by rw [hu]; exact hH.it hN hn i) hn hm hk (by omega)
    rw [e1, bv_s, nI_1]
    refine ih s' ⟨e2, ⟨e3.1, fun q hq => ?_⟩, h3.tr e6⟩
    rw [e3.2 q hq]
    unfold upG
    by_cases h : q = k
    · subst h; simp [gIt]
    · simp [h]
  · rw [hG.2 q hq]
    unfold upG
    by_cases h : q = k
    · subst h; simp [gIt]
    · simp [h]
theorem OpI.q2 {fx fr mx' mr : Mm → Option (Int32 × Mm)} (no val : SV → Int32) (hc : ∀ S, no S = 0 ∨ Codes (no S)) (ex : ∀ s S, XI s S → fx s = if no S = 0 then mx' s else f_X_refuse s (no S)) (er : ∀ s S, RI s S → fr s = if no S = 0 then mr s else f_R_no s (no S)) (hx : ∀ s S, XI s S → no S = 0 → ∃ s', mx' s = some (val S, s') ∧ FrQX s s') (hr : ∀ s S, SOk S → RI s S → no S = 0 → ∃ s', mr s = some (val S, s') ∧ RV s' S.1 ∧ FrQR s s') : OpI fx fr :=
  OpI.q no val hc (fun s S h e => by rw [ex s S h, if_pos e]; exact hx s S h e) (fun s S h e => by rw [ex s S h, if_neg e]) (fun s S ho h e => by rw [er s S h, if_pos e]; exact hr s S ho h e) (fun s S ho h e => by rw [er s S h, if_neg e])
theorem OpI.q0 {fx fr : Mm → Option (Int32 × Mm)} (val : SV → Int32) (hx : ∀ s S, XI s S → ∃ s', fx s = some (val S, s') ∧ FrQX s s') (hr : ∀ s S, SOk S → RI s S → ∃ s', fr s = some (val S, s') ∧ RV s' S.1 ∧ FrQR s s') : OpI fx fr :=
  OpI.q (fun _ => 0) val (fun _ => Or.inl rfl) (fun s S h _ => hx s S h) (fun s S h e => absurd rfl e) (fun s S ho h _ => hr s S ho h) (fun s S ho h e => absurd rfl e)
def oNo (m a : Int32) : Int32 := if a = -1 then 0 else gNo m a
def twN (m a b : Int32) : Int32 := fst3 (gNo m a) (gNo m b) (if a = b then -1 else 0)
theorem friendOrAllNo_e (s : Mm) (a : Int32) : f_X_friendOrAllNo s a = some (oNo (s 0 4) a, s) := by
  unfold f_X_friendOrAllNo oNo
  simp only [friendNo_e, bn_s]
  split <;> rfl
theorem twoFriendsNo_e (s : Mm) (a b : Int32) : f_X_twoFriendsNo s a b = some (twN (s 0 4) a b, s) := by
  unfold f_X_twoFriendsNo twN
  simp only [friendNo_e, bn_s, first_e]
  split <;> rfl
theorem areTwo_e (s : Mm) (a b : Int32) : f_R_areTwo s a b = some (if twN (s 176 11) a b = 0 then 1 else 0, s) := by
  unfold f_R_areTwo twN
  simp only [isFriend_e, bn_s]
  unfold gNo fst3
  by_cases c1 : inN (s 176 11) a = 0
  · simp [c1]
  · by_cases c2 : inN (s 176 11) b = 0
    · simp [c1, c2]
    · by_cases c3 : a = b
      · simp [c1, c2, c3]
      · simp [c1, c2, c3]
theorem Codes.o (m a : Int32) : oNo m a = 0 ∨ Codes (oNo m a) := by
  unfold oNo
  split
  · exact Or.inl rfl
  · exact Codes.g _ _
theorem Codes.e {p : Prop} [Decidable p] : (if p then (-1 : Int32) else 0) = 0 ∨ Codes (if p then -1 else 0) := by
  split
  · exact Codes.m1
  · exact Codes.z
theorem Codes.t (m a b : Int32) : twN m a b = 0 ∨ Codes (twN m a b) := Codes.fst (Codes.g _ _) (Codes.g _ _) Codes.e
theorem twN_0 {n : Nat} {a b : Int32} (hn : n < 2 ^ 31) (h : twN (nI n) a b = 0) : ∃ p q, p < n ∧ q < n ∧ p ≠ q ∧ a = nI p ∧ b = nI q := by
  obtain ⟨h1, h2, h3⟩ := fst3_0 h
  obtain ⟨p, hp, rfl⟩ := gNo_0 hn h1
  obtain ⟨q, hq, rfl⟩ := gNo_0 hn h2
  refine ⟨p, q, hp, hq, fun e => ?_, rfl, rfl⟩
  subst e
  rw [if_pos rfl] at h3
  exact absurd h3 (by decide)
/-! the reference's looks at its arguments -/
theorem Rn_behind (s : Mm) (a n w : Int32) : f_R_behind s a n w = k_R_behind_36 a n w (fst3 (gNo (s 176 12) a) (btw n 0 60) (wNo w 3)) s := by
  unfold f_R_behind k_R_behind_16
  simp only [isGift_e, bn_s, notMonths_e, isIn_e, wNo_isI]
  unfold gNo fst3
  by_cases c1 : inN (s 176 12) a = 0
  · simp [c1]
  · by_cases c2 : btw n 0 60 = 0
    · by_cases c3 : isI w 0 3 = 0
      · simp [c1, c2, c3]
      · simp [c1, c2, c3]
    · simp [c1, c2]
theorem Rn_bestStart (s : Mm) (a n w : Int32) : f_R_bestStart s a n w = k_R_bestStart_36 a n w (fst3 (gNo (s 176 12) a) (btw n 0 60) (wNo w 1)) s := by
  unfold f_R_bestStart k_R_bestStart_16
  simp only [isGift_e, bn_s, notMonths_e, isIn_e, wNo_isI]
  unfold gNo fst3
  by_cases c1 : inN (s 176 12) a = 0
  · simp [c1]
  · by_cases c2 : btw n 0 60 = 0
    · by_cases c3 : isI w 0 1 = 0
      · simp [c1, c2, c3]
      · simp [c1, c2, c3]
    · simp [c1, c2]
theorem Rn_bestNext (s : Mm) (a n w : Int32) : f_R_bestNext s a n w = k_R_bestNext_36 a n w (fst3 (gNo (s 176 11) a) (btw n 0 60) (wNo w 1)) s := by
  unfold f_R_bestNext k_R_bestNext_16
  simp only [isFriend_e, bn_s, notMonths_e, isIn_e, wNo_isI]
  unfold gNo fst3
  by_cases c1 : inN (s 176 11) a = 0
  · simp [c1]
  · by_cases c2 : btw n 0 60 = 0
    · by_cases c3 : isI w 0 1 = 0
      · simp [c1, c2, c3]
      · simp [c1, c2, c3]
    · simp [c1, c2]
theorem Rn_doorWanted (s : Mm) (a n w : Int32) : f_R_doorWanted s a n w = k_R_doorWanted_36 a n w (fst3 (gNo (s 176 11) a) (btw n 0 60) (wNo w 1)) s := by
  unfold f_R_doorWanted k_R_doorWanted_16
  simp only [isFriend_e, bn_s, notMonths_e, isIn_e, wNo_isI]
  unfold gNo fst3
  by_cases c1 : inN (s 176 11) a = 0
  · simp [c1]
  · by_cases c2 : btw n 0 60 = 0
    · by_cases c3 : isI w 0 1 = 0
      · simp [c1, c2, c3]
      · simp [c1, c2, c3]
    · simp [c1, c2]
theorem Rn_given (s : Mm) (a w : Int32) : f_R_given s a w = k_R_given_27 a w (fst3 (gNo (s 176 12) a) (wNo w 1) 0) s := by
  unfold f_R_given
  simp only [isGift_e, bn_s, isIn_e, wNo_isI]
  unfold gNo fst3
  by_cases c1 : inN (s 176 12) a = 0
  · simp [c1]
  · by_cases c3 : isI w 0 1 = 0
    · simp [c1, c3]
    · simp [c1, c3]
theorem Rn_whatItWas (s : Mm) (a w : Int32) : f_R_whatItWas s a w = k_R_whatItWas_27 a w (fst3 (gNo (s 176 12) a) (wNo w 2) 0) s := by
  unfold f_R_whatItWas
  simp only [isGift_e, bn_s, isIn_e, wNo_isI]
  unfold gNo fst3
  by_cases c1 : inN (s 176 12) a = 0
  · simp [c1]
  · by_cases c3 : isI w 0 2 = 0
    · simp [c1, c3]
    · simp [c1, c3]
theorem Rn_whoHad (s : Mm) (a w : Int32) : f_R_whoHad s a w = k_R_whoHad_27 a w (fst3 (gNo (s 176 12) a) (wNo w 1) 0) s := by
  unfold f_R_whoHad
  simp only [isGift_e, bn_s, isIn_e, wNo_isI]
  unfold gNo fst3
  by_cases c1 : inN (s 176 12) a = 0
  · simp [c1]
  · by_cases c3 : isI w 0 1 = 0
    · simp [c1, c3]
    · simp [c1, c3]
theorem Rn_chain (s : Mm) (a w : Int32) : f_R_chain s a w = k_R_chain_27 a w (fst3 (gNo (s 176 11) a) (wNo w 1) 0) s := by
  unfold f_R_chain
  simp only [isFriend_e, bn_s, isIn_e, wNo_isI]
  unfold gNo fst3
  by_cases c1 : inN (s 176 11) a = 0
  · simp [c1]
  · by_cases c3 : isI w 0 1 = 0
    · simp [c1, c3]
    · simp [c1, c3]
theorem Rn_doorsFor (s : Mm) (a b n : Int32) : f_R_doorsFor s a b n = k_R_doorsFor_24 a b n (fst3 (gNo (s 176 12) a) (gNo (s 176 11) b) (btw n 0 60)) s := by
  unfold f_R_doorsFor
  simp only [isGift_e, isFriend_e, bn_s, notMonths_e]
  unfold gNo fst3
  by_cases c1 : inN (s 176 12) a = 0
  · simp [c1]
  · by_cases c2 : inN (s 176 11) b = 0
    · simp [c1, c2]
    · simp [c1, c2]
theorem Rn_two (s : Mm) (a b n : Int32) : f_R_two s a b n = k_R_two_17 a b n (fst3 (twN (s 176 11) a b) (btw n 0 60) 0) s := by
  unfold f_R_two
  simp only [areTwo_e, bn_s, notMonths_e]
  unfold fst3
  by_cases c1 : twN (s 176 11) a b = 0
  · by_cases c2 : btw n 0 60 = 0
    · simp [c1, c2]
    · simp [c1, c2]
  · have c : twN (s 176 11) a b = -1 := by
      unfold twN fst3 at c1 ⊢
      rcases gNo_c (s 176 11) a with h | h
      · rcases gNo_c (s 176 11) b with h2 | h2
        · rw [h, h2] at c1 ⊢
          simp only [if_true] at c1 ⊢
          by_cases h3 : a = b
          · rw [if_pos h3]
          · rw [if_neg h3] at c1; exact absurd rfl c1
        · rw [h, h2]; rfl
      · rw [h]; rfl
    simp [c]
theorem Rn_way (s : Mm) (a b : Int32) : f_R_way s a b = if twN (s 176 11) a b = 0 then f_R_wayTo s a b else f_R_no s (twN (s 176 11) a b) := by
  unfold f_R_way
  simp only [areTwo_e, bn_s, bn_eta]
  by_cases c1 : twN (s 176 11) a b = 0
  · simp [c1]
  · have c : twN (s 176 11) a b = -1 := by
      unfold twN fst3 at c1 ⊢
      rcases gNo_c (s 176 11) a with h | h
      · rcases gNo_c (s 176 11) b with h2 | h2
        · rw [h, h2] at c1 ⊢
          simp only [if_true] at c1 ⊢
          by_cases h3 : a = b
          · rw [if_pos h3]
          · rw [if_neg h3] at c1; exact absurd rfl c1
        · rw [h, h2]; rfl
      · rw [h]; rfl
    simp [c]
theorem Rn_then (s : Mm) (a n : Int32) : f_R_then s a n = k_R_then_21 a n (fst3 (oNo (s 176 11) a) (btw n 0 60) 0) s := by
  unfold f_R_then
  simp only [isFriend_e, bn_s, notMonths_e]
  unfold oNo gNo fst3
  by_cases c0 : a = -1
  · by_cases c2 : btw n 0 60 = 0
    · simp [c0, c2]
    · simp [c0, c2]
  · by_cases c1 : inN (s 176 11) a = 0
    · simp [c0, c1]
    · by_cases c2 : btw n 0 60 = 0
      · simp [c0, c1, c2]
      · simp [c0, c1, c2]
theorem Rn_added (s : Mm) (a n : Int32) : f_R_added s a n = k_R_added_21 a n (fst3 (oNo (s 176 11) a) (btw n 0 60) 0) s := by
  unfold f_R_added
  simp only [isFriend_e, bn_s, notMonths_e]
  unfold oNo gNo fst3
  by_cases c0 : a = -1
  · by_cases c2 : btw n 0 60 = 0
    · simp [c0, c2]
    · simp [c0, c2]
  · by_cases c1 : inN (s 176 11) a = 0
    · simp [c0, c1]
    · by_cases c2 : btw n 0 60 = 0
      · simp [c0, c1, c2]
      · simp [c0, c1, c2]
theorem Rn_comes (s : Mm) (a b : Int32) : f_R_comes2 s a b = if fst3 (gNo (s 176 12) a) (gNo (s 176 11) b) 0 = 0 then f_R_comesAt s a b 60 else f_R_no s (fst3 (gNo (s 176 12) a) (gNo (s 176 11) b) 0) := by
  unfold f_R_comes2
  simp only [isGift_e, isFriend_e, bn_s, bn_eta]
  unfold gNo fst3
  by_cases c1 : inN (s 176 12) a = 0
  · simp [c1]
  · by_cases c2 : inN (s 176 11) b = 0
    · simp [c1, c2]
    · simp [c1, c2]
theorem Rn_lots (s : Mm) (n z w : Int32) : f_R_lots s n z w = k_R_lots_27 n z w (fst3 (btw n 1 20) (wNo w 1) 0) s := by
  unfold f_R_lots
  simp only [bound_e, bn_s, isIn_e, wNo_isI]
  unfold fst3
  by_cases c2 : btw n 1 20 = 0
  · by_cases c3 : isI w 0 1 = 0
    · simp [c2, c3]
    · simp [c2, c3]
  · simp [c2]
/-- behind -/
def noBehind (a n w : Int32) (S : SV) : Int32 := fst3 (gNo (nI S.1.2.1) a) (btw n 0 60) (wNo w 3)
theorem op_behind (a n w : Int32) : OpI (fun s => f_X_behind s a n w) (fun s => f_R_behind s a n w) := by
  refine OpI.q2 (mx' := fun s => f_M_giftThen s a n w) (mr := fun s => k_R_behind_36 a n w 0 s) (noBehind a n w) (fun S => fG w (gIt S.1.2.2.2.1 (ix n) (S.1.2.2.2.2 (ix a)))) (fun S => Codes.fst (Codes.g _ _) (Codes.b _ _ _) (Codes.w _ _)) ?_ ?_ ?_ ?_
  · intro s S h
    unfold f_X_behind
    simp only [giftNo_e, bn_s, spanNo_e, whatNo_e, first_e, h.1.2.1.1, bn_eta]
    rfl
  · intro s S h
    show f_R_behind s a n w = _
    rw [Rn_behind, h.1.2.1.1]
    by_cases e : noBehind a n w S = 0
    · rw [if_pos e, show fst3 (gNo (nI S.1.2.1) a) (btw n 0 60) (wNo w 3) = 0 from e]
    · rw [if_neg e]
      unfold k_R_behind_36
      rw [if_neg (show ¬ fst3 (gNo (nI S.1.2.1) a) (btw n 0 60) (wNo w 3) = 0 from e), bn_eta]
      rfl
  · intro s S h e
    obtain ⟨e1, e2, e3⟩ := fst3_0 e
    obtain ⟨k, hk, rfl⟩ := gNo_0 (by have := h.2.1.2.1; omega) e1
    obtain ⟨N, -, hN, rfl⟩ := btw_0 (lo := 0) (hi := 60) (by omega) (by omega) e2
    have hv := h.2.1
    obtain ⟨s1, a1, a2, a3, a4, a5⟩ := recall_e h.1 hv
    have hm := hv.2.1
    obtain ⟨s2, b1, b2, b3, b4⟩ := passGift_e (N := N) a2.1 a2.2.1 hv.M.n (hv.H k hk) hv.1 hv.2.1 hk hN
    have hg := b3.at hk
    have hu : upG S.1.2.2.2.2 k (gIt S.1.2.2.2.1 N (S.1.2.2.2.2 k)) k = gIt S.1.2.2.2.1 N (S.1.2.2.2.2 k) := by unfold upG; simp
    rw [hu] at hg
    unfold f_M_giftThen
    rw [a1, bn_s, giftAt_e (by omega), bn_s, b1, bv_s, hg.1, hg.2.1, hg.2.2.1, hg.2.2.2.2.2, ix_nI (by omega), ix_nI (by omega)]
    refine ⟨s2, ?_, (a4.tr b4).q⟩
    unfold fG
    repeat' split
    all_goals rfl
  · intro s S ho h e
    obtain ⟨e1, e2, e3⟩ := fst3_0 e
    obtain ⟨k, hk, rfl⟩ := gNo_0 (by have := ho.1.2.1; omega) e1
    obtain ⟨N, -, hN, rfl⟩ := btw_0 (lo := 0) (hi := 60) (by omega) (by omega) e2
    have hv := ho.1
    have hm := hv.2.1
    obtain ⟨s1, s2, s3, a1, a2, a3, a4, a5, a6, a7, a8, -⟩ := thinkGo_e h.1 hv h.2.1 hN
    have hg := a4.at hk
    unfold k_R_behind_36
    simp only [if_true]
    rw [a1, bv_s, a2, bv_s, ix_nI (by omega), ix_nI (by omega)]
    simp only [gd_n (show k < 4 by omega) (show 4 < 2 ^ 31 by omega), nI_clamp (show k < 2 ^ 31 by omega), nm_s, a6, bv_s, hg.1, hg.2.1, hg.2.2.1, hg.2.2.2.2.2]
    refine ⟨s3, ?_, a7, a8.q (by omega) (by omega)⟩
    unfold fG
    repeat' split
    all_goals rfl
/-- then -/
def noThen (a n : Int32) (S : SV) : Int32 := fst3 (oNo (nI S.1.1) a) (btw n 0 60) 0
def vThen (a n : Int32) (S : SV) : Int32 := if a = -1 then sm S.1.2.1 (fun k => gW (gIt S.1.2.2.2.1 (ix n) (S.1.2.2.2.2 k))) else sm S.1.2.1 (fun k => hold1 a (gIt S.1.2.2.2.1 (ix n) (S.1.2.2.2.2 k)))
theorem op_then (a n : Int32) : OpI (fun s => f_X_then s a n) (fun s => f_R_then s a n) := by
  refine OpI.q2 (mx' := fun s => f_M_heldThen s a n) (mr := fun s => k_R_then_21 a n 0 s) (noThen a n) (vThen a n) (fun S => Codes.fst (Codes.o _ _) (Codes.b _ _ _) Codes.z) ?_ ?_ ?_ ?_
  · intro s S h
    unfold f_X_then
    simp only [friendOrAllNo_e, bn_s, spanNo_e, first_e, h.1.1.1, bn_eta]
    rfl
  · intro s S h
    show f_R_then s a n = _
    rw [Rn_then, h.1.1.1]
    by_cases e : noThen a n S = 0
    · rw [if_pos e, show fst3 (oNo (nI S.1.1) a) (btw n 0 60) 0 = 0 from e]
    · rw [if_neg e]
      unfold k_R_then_21
      rw [if_neg (show ¬ fst3 (oNo (nI S.1.1) a) (btw n 0 60) 0 = 0 from e), bn_eta]
      rfl
  · intro s S h e
    obtain ⟨e1, e2, e3⟩ := fst3_0 e
    obtain ⟨N, -, hN, rfl⟩ := btw_0 (lo := 0) (hi := 60) (by omega) (by omega) e2
    have hv := h.2.1
    have hm := hv.2.1
    obtain ⟨s1, a1, a2, a3, a4, a5⟩ := recall_e h.1 hv
    obtain ⟨s2, b1, b2, b3, b4, b5, b6⟩ := pass_e (N := N) a2.1 a2.2.1 a3 hv.M.n hv.H hv.1 hv.2.1 (by omega) hN
    unfold f_M_heldThen vThen
    simp only [a1, bn_s, b1, bv_s, allWorth_e b3 hm, holdsOf_e b3 hm, ix_nI (show N < 2 ^ 31 by omega)]
    refine ⟨s2, ?_, (a4.tr b6).q⟩
    split <;> rfl
  · intro s S ho h e
    obtain ⟨e1, e2, e3⟩ := fst3_0 e
    obtain ⟨N, -, hN, rfl⟩ := btw_0 (lo := 0) (hi := 60) (by omega) (by omega) e2
    have hv := ho.1
    have hm := hv.2.1
    obtain ⟨s1, s2, s3, a1, a2, a3, a4, a5, a6, a7, a8, -⟩ := thinkGo_e h.1 hv h.2.1 hN
    unfold k_R_then_21 vThen
    simp only [if_true, a1, a2, bv_s, Rholds_e a4 hm, RsumW_e a4 hm, bn_s, a6, ix_nI (show N < 2 ^ 31 by omega)]
    refine ⟨s3, ?_, a7, a8.q (by omega) (by omega)⟩
    by_cases c : a = -1
    · subst c
      rw [if_neg (by decide), if_pos rfl]
    · rw [if_neg c]
      unfold oNo at e1
      rw [if_neg c] at e1
      obtain ⟨p, hp, rfl⟩ := gNo_0 (by have := hv.1; omega) e1
      rw [if_pos (nI_pos' (by have := hv.1; omega))]
