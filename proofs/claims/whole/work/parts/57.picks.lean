/-! TOO_LARGE, DEAREST, HASTY, MEET -/
theorem cnt_s {p : Nat → Bool} {n : Nat} (h : p n = true) : cnt p (n + 1) = cnt p n + 1 := by
  show cnt p n + _ = _
  rw [h]; rfl
theorem cnt_n {p : Nat → Bool} {n : Nat} (h : p n = false) : cnt p (n + 1) = cnt p n := by
  show cnt p n + _ = _
  rw [h]; rfl
def pLarge (V : CV) (k j : Nat) : Bool := decide (¬ gZ' (V.2.2.2.2 k) ≤ fD (V.2.2.2.1 j))
theorem op_tooLarge (a : Int32) : OpI (fun s => f_X_tooLarge s a) (fun s => f_R_tooLarge s a) := by
  refine OpI.q2 (mx' := fun s => f_C_doorsTooNarrowFor s 0 a) (mr := fun s => k_R_tooLarge_18 KF a 0 0 s) (fun S => gNo (nI S.1.2.1) a) (fun S => nI (cnt (pLarge S.1 (ix a)) S.1.1)) (fun S => Codes.g _ _) ?_ ?_ ?_ ?_
  · intro s S h
    unfold f_X_tooLarge
    simp only [giftNo_e, bn_s, h.1.2.1.1, bn_eta]
  · intro s S h
    show f_R_tooLarge s a = _
    unfold f_R_tooLarge
    simp only [isGift_e, bn_s, h.1.2.1.1, bn_eta]
    unfold gNo
    by_cases c : inN (nI S.1.2.1) a = 0
    · simp [c]
    · simp [c]
  · intro s S h e
    have hm := h.2.1.2.1
    have hn := h.2.1.1
    obtain ⟨k, hk, rfl⟩ := gNo_0 (by omega) e
    unfold f_C_doorsTooNarrowFor
    simp only [ix_nI (show k < 2 ^ 31 by omega)]
    refine lp (fun n i (x : Int32) => k_C_doorsTooNarrowFor_4 n 0 (nI k) x (nI i) s) (fun i x => x = nI (cnt (pLarge S.1 k) i)) (fun r => ∃ s', r = some (nI (cnt (pLarge S.1 k) S.1.1), s') ∧ FrQX s s') S.1.1 ?_ ?_ KF 0 0 (by omega) (by rw [KF_1]; omega) rfl
    · intro n x e1
      unfold k_C_doorsTooNarrowFor_4
      rw [h.1.1.1, if_pos (nI_le (Nat.le_refl _) (by omega)), e1]
      exact ⟨s, rfl, FrQX.rf⟩
    · intro n i x hi e1 ih
      unfold k_C_doorsTooNarrowFor_4
      rw [h.1.1.1, if_neg (nI_ge hi (by omega)), giftAt_e (by omega), bn_s, friendAt_e (by omega), bn_s, (h.1.2.1.at hk).2.1, (h.1.1.at hi).2.2.1, e1]
      by_cases c : gZ' (S.1.2.2.2.2 k) ≤ fD (S.1.2.2.2.1 i)
      · rw [if_pos c, nI_1]
        exact ih _ (by rw [cnt_n (by unfold pLarge; simp [c])])
      · rw [if_neg c, nI_1, nI_1]
        exact ih _ (by rw [cnt_s (by unfold pLarge; simp [c])])
  · intro s S ho h e
    have hm := ho.1.2.1
    have hn := ho.1.1
    obtain ⟨k, hk, rfl⟩ := gNo_0 (by omega) e
    simp only [ix_nI (show k < 2 ^ 31 by omega)]
    refine lp (fun n i (x : Int32) => k_R_tooLarge_18 n (nI k) x (nI i) s) (fun i x => x = nI (cnt (pLarge S.1 k) i)) (fun r => ∃ s', r = some (nI (cnt (pLarge S.1 k) S.1.1), s') ∧ RV s' S.1 ∧ FrQR s s') S.1.1 ?_ ?_ KF 0 0 (by omega) (by rw [KF_1]; omega) rfl
    · intro n x e1
      unfold k_R_tooLarge_18
      rw [h.1.1.1, if_pos (nI_le (Nat.le_refl _) (by omega)), e1]
      exact ⟨s, rfl, h.1, FrQR.rf⟩
    · intro n i x hi e1 ih
      unfold k_R_tooLarge_18
      rw [h.1.1.1, if_neg (nI_ge hi (by omega)), gd_n (show k < 4 by omega) (by omega), gd_n (show i < 6 by omega) (by omega), nI_clamp (by omega), nI_clamp (by omega), (h.1.2.1.at hk).2.1, (h.1.1.2 i hi).2.2.1, e1]
      by_cases c : gZ' (S.1.2.2.2.2 k) ≤ fD (S.1.2.2.2.1 i)
      · rw [if_pos c, nm_s, Int32.add_zero, nI_1]
        exact ih _ (by rw [cnt_n (by unfold pLarge; simp [c])])
      · rw [if_neg c, nm_s, nI_1, nI_1]
        exact ih _ (by rw [cnt_s (by unfold pLarge; simp [c])])
/-- the first best -/
def pick (better : Nat → Nat → Bool) : Nat → Option Nat
  | 0 => none
  | m + 1 => match pick better m with
    | none => some m
    | some j => if better m j then some m else some j
theorem pick_lt {better : Nat → Nat → Bool} : ∀ m j, pick better m = some j → j < m
  | 0, j, h => by cases h
  | m + 1, j, h => by
    rw [pick] at h
    cases e : pick better m with
    | none =>
      rw [e] at h
      have h := Option.some.inj h
      omega
    | some q =>
      have := pick_lt m q e
      rw [e] at h
      simp only at h
      by_cases c : better m q = true
      · rw [if_pos c] at h
        have h := Option.some.inj h
        omega
      · rw [if_neg c] at h
        have h := Option.some.inj h
        omega
def pkI : Option Nat → Int32
  | none => -9
  | some j => nI j
def pkV (z : Int32) (val : Nat → Int32) : Option Nat → Int32
  | none => z
  | some j => val j
theorem pick_0 {better : Nat → Nat → Bool} {m : Nat} (h : pick better m = none) : pick better (m + 1) = some m := by rw [pick, h]
theorem pick_y {better : Nat → Nat → Bool} {m j : Nat} (h : pick better m = some j) (c : better m j = true) : pick better (m + 1) = some m := by rw [pick, h]; simp [c]
theorem pick_n {better : Nat → Nat → Bool} {m j : Nat} (h : pick better m = some j) (c : better m j = false) : pick better (m + 1) = some j := by rw [pick, h]; simp [c]
def dVal (V : CV) (w : Int32) (k : Nat) : Int32 := if w = 0 then gW (V.2.2.2.2 k) else gZ' (V.2.2.2.2 k)
def dBet (V : CV) (w : Int32) (m j : Nat) : Bool := decide (¬ dVal V w m ≤ dVal V w j)
theorem dVal_0 {V : CV} {w : Int32} {k : Nat} (hv : VOk V) (hk : k < V.2.1) : ¬ dVal V w k ≤ -1 := by
  obtain ⟨-, h1, h2, -, -⟩ := hv.G k hk
  rw [i32_le]
  unfold dVal
  have e : (-1 : Int32).toInt = -1 := rfl
  rw [e]
  split <;> omega
theorem wNo_k {a : Int32} (h : wNo a 1 = 0) : a = 0 ∨ a = 1 := by
  obtain ⟨k, hk, rfl⟩ := wNo_0 (m := 1) (by omega) h
  rcases (show k = 0 ∨ k = 1 by omega) with rfl | rfl
  · exact Or.inl rfl
  · exact Or.inr rfl
theorem isI_w {a : Int32} : isI a 0 1 = 0 ↔ ¬ wNo a 1 = 0 := by
  rw [wNo_isI]
  by_cases c : isI a 0 1 = 0
  · simp [c]
  · simp [c]
theorem wNo_m2 {a m : Int32} (h : ¬ wNo a m = 0) : wNo a m = -2 := by
  rcases wNo_c a m with c | c
  · exact absurd c h
  · exact c
theorem op_dearest (w : Int32) : OpI (fun s => f_X_dearest s w) (fun s => f_R_dearest s w) := by
  refine OpI.q2 (mx' := fun s => f_C_mostOfGifts s 0 w) (mr := fun s => k_R_dearest_21 KF w (-9) 0 s) (fun S => wNo w 1) (fun S => pkI (pick (dBet S.1 w) S.1.2.1)) (fun S => Codes.w _ _) ?_ ?_ ?_ ?_
  · intro s S h
    unfold f_X_dearest
    simp only [whatNo_e, bn_s, bn_eta]
  · intro s S h
    show f_R_dearest s w = _
    unfold f_R_dearest
    simp only [isIn_e, bn_s, bn_eta, isI_w]
    by_cases c : wNo w 1 = 0
    · simp [c]
    · simp [wNo_m2 c]
  · intro s S h e
    have hm := h.2.1.2.1
    unfold f_C_mostOfGifts
    refine lp (fun n i (x : Int32 × Int32) => k_C_mostOfGifts_8 n 0 w x.1 x.2 (nI i) s) (fun i x => x.1 = pkI (pick (dBet S.1 w) i) ∧ x.2 = pkV (-1) (dVal S.1 w) (pick (dBet S.1 w) i)) (fun r => ∃ s', r = some (pkI (pick (dBet S.1 w) S.1.2.1), s') ∧ FrQX s s') S.1.2.1 ?_ ?_ KF 0 (-9, -1) (by omega) (by rw [KF_1]; omega) ⟨rfl, rfl⟩
    · intro n x ⟨e1, e2⟩
      unfold k_C_mostOfGifts_8
      rw [h.1.2.1.1, if_pos (nI_le (Nat.le_refl _) (by omega)), e1]
      exact ⟨s, rfl, FrQX.rf⟩
    · intro n i x hi ⟨e1, e2⟩ ih
      unfold k_C_mostOfGifts_8
      have ht : f_G_tell s (110 + 5 * 0 + i) w = some (dVal S.1 w i, s) := by
        unfold f_G_tell dVal
        have hg := h.1.2.1.at hi
        rcases wNo_k e with c | c
        · subst c
          rw [if_pos rfl, if_pos rfl, hg.1]
        · subst c
          rw [if_neg (by decide), if_pos rfl, if_neg (by decide), hg.2.1]
      rw [h.1.2.1.1, if_neg (nI_ge hi (by omega)), giftAt_e (by omega), bn_s, ht, bn_s, nI_1]
      cases hp : pick (dBet S.1 w) i with
      | none =>
        rw [hp] at e1 e2
        have e2 : x.2 = -1 := e2
        rw [e2, if_neg (dVal_0 h.2.1 hi)]
        exact ih (nI i, dVal S.1 w i) (by rw [pick_0 hp]; exact ⟨rfl, rfl⟩)
      | some j =>
        rw [hp] at e1 e2
        have e2 : x.2 = dVal S.1 w j := e2
        by_cases c : dVal S.1 w i ≤ x.2
        · rw [if_pos c]
          rw [e2] at c
          exact ih x (by rw [pick_n hp (by unfold dBet; simp [c])]; exact ⟨e1, e2⟩)
        · rw [if_neg c]
          rw [e2] at c
          exact ih (nI i, dVal S.1 w i) (by rw [pick_y hp (by unfold dBet; simp [c])]; exact ⟨rfl, rfl⟩)
  · intro s S ho h e
    have hm := ho.1.2.1
    refine lp (fun n i (x : Int32) => k_R_dearest_21 n w x (nI i) s) (fun i x => x = pkI (pick (dBet S.1 w) i)) (fun r => ∃ s', r = some (pkI (pick (dBet S.1 w) S.1.2.1), s') ∧ RV s' S.1 ∧ FrQR s s') S.1.2.1 ?_ ?_ KF 0 (-9) (by omega) (by rw [KF_1]; omega) rfl
    · intro n x e1
      unfold k_R_dearest_21
      rw [h.1.2.1.1, if_pos (nI_le (Nat.le_refl _) (by omega)), e1]
      exact ⟨s, rfl, h.1, FrQR.rf⟩
    · intro n i x hi e1 ih
      unfold k_R_dearest_21
      rw [h.1.2.1.1, if_neg (nI_ge hi (by omega)), nI_1]
      cases hp : pick (dBet S.1 w) i with
      | none =>
        rw [hp] at e1
        have e1 : x = -9 := e1
        rw [e1, if_pos (by decide)]
        exact ih (nI i) (by rw [pick_0 hp]; rfl)
      | some j =>
        rw [hp] at e1
        have e1 : x = nI j := e1
        have hj := pick_lt _ _ hp
        rw [e1, if_neg (nI_pos (by omega))]
        have hgi := h.1.2.1.at hi
        have hgj := h.1.2.1.at (show j < S.1.2.1 by omega)
        simp only [gd_n (show i < 4 by omega) (show 4 < 2 ^ 31 by omega), gd_n (show j < 4 by omega) (show 4 < 2 ^ 31 by omega), nI_clamp (show i < 2 ^ 31 by omega), nI_clamp (show j < 2 ^ 31 by omega), hgi.1, hgi.2.1, hgj.1, hgj.2.1]
        have hd : (if w = 0 then (if gW (S.1.2.2.2.2 i) ≤ gW (S.1.2.2.2.2 j) then k_R_dearest_21 n w (nI j) (nI (i + 1)) s else k_R_dearest_21 n w (nI i) (nI (i + 1)) s) else (if gZ' (S.1.2.2.2.2 i) ≤ gZ' (S.1.2.2.2.2 j) then k_R_dearest_21 n w (nI j) (nI (i + 1)) s else k_R_dearest_21 n w (nI i) (nI (i + 1)) s)) = if dVal S.1 w i ≤ dVal S.1 w j then k_R_dearest_21 n w (nI j) (nI (i + 1)) s else k_R_dearest_21 n w (nI i) (nI (i + 1)) s := by
          unfold dVal
          by_cases c : w = 0
          · simp only [c, if_true]
          · simp only [c, if_false]
        rw [hd]
        by_cases c : dVal S.1 w i ≤ dVal S.1 w j
        · rw [if_pos c]
          exact ih (nI j) (by rw [pick_n hp (by unfold dBet; simp [c])]; rfl)
        · rw [if_neg c]
          exact ih (nI i) (by rw [pick_y hp (by unfold dBet; simp [c])]; rfl)
def hVal (V : CV) (w : Int32) (k : Nat) : Int32 := if w = 0 then wtK (fK (V.2.2.2.1 k)) (fI (V.2.2.2.1 k)) else fD (V.2.2.2.1 k)
def hBet (V : CV) (w : Int32) (m j : Nat) : Bool := decide (¬ hVal V w j ≤ hVal V w m)
theorem wtK_r {k f : Int32} (h : 0 ≤ f.toInt ∧ f.toInt ≤ 9) : 1 ≤ (wtK k f).toInt ∧ (wtK k f).toInt ≤ 12 := by
  unfold wtK
  repeat' split
  all_goals first
    | exact ⟨by decide, by decide⟩
    | (have e : (12 - f).toInt = 12 - f.toInt := i32_sub (by show -2147483648 ≤ (12 : Int) - _; omega) (by show (12 : Int) - _ < _; omega)
       rw [e]; omega)
theorem hVal_0 {V : CV} {w : Int32} {k : Nat} (hv : VOk V) (hk : k < V.1) : ¬ 100 ≤ hVal V w k := by
  obtain ⟨-, h1, h2, -⟩ := hv.F hk
  have := wtK_r (k := fK (V.2.2.2.1 k)) h1
  rw [i32_le]
  unfold hVal
  have e : (100 : Int32).toInt = 100 := rfl
  rw [e]
  split <;> omega
theorem op_hasty (w : Int32) : OpI (fun s => f_X_hasty s w) (fun s => f_R_hasty s w) := by
  refine OpI.q2 (mx' := fun s => f_C_leastOfFriends s 0 w) (mr := fun s => k_R_hasty_21 KF w (-9) 0 s) (fun S => wNo w 1) (fun S => pkI (pick (hBet S.1 w) S.1.1)) (fun S => Codes.w _ _) ?_ ?_ ?_ ?_
  · intro s S h
    unfold f_X_hasty
    simp only [whatNo_e, bn_s, bn_eta]
  · intro s S h
    show f_R_hasty s w = _
    unfold f_R_hasty
    simp only [isIn_e, bn_s, bn_eta, isI_w]
    by_cases c : wNo w 1 = 0
    · simp [c]
    · simp [wNo_m2 c]
  · intro s S h e
    have hn := h.2.1.1
    unfold f_C_leastOfFriends
    refine lp (fun n i (x : Int32 × Int32) => k_C_leastOfFriends_9 n 0 w x.1 x.2 (nI i) s) (fun i x => x.1 = pkI (pick (hBet S.1 w) i) ∧ x.2 = pkV 100 (hVal S.1 w) (pick (hBet S.1 w) i)) (fun r => ∃ s', r = some (pkI (pick (hBet S.1 w) S.1.1), s') ∧ FrQX s s') S.1.1 ?_ ?_ KF 0 (-9, 100) (by omega) (by rw [KF_1]; omega) ⟨rfl, rfl⟩
    · intro n x ⟨e1, e2⟩
      unfold k_C_leastOfFriends_9
      rw [h.1.1.1, if_pos (nI_le (Nat.le_refl _) (by omega)), e1]
      exact ⟨s, rfl, FrQX.rf⟩
    · intro n i x hi ⟨e1, e2⟩ ih
      unfold k_C_leastOfFriends_9
      rw [h.1.1.1, if_neg (nI_ge hi (by omega))]
      simp only [friendAt_e (show i < 6 by omega), bn_s, (h.1.1.2 i hi).2.1, (h.1.1.at hi).2.2.1]
      unfold k_C_leastOfFriends_43
      have hd : (if w = 0 then (if x.2 ≤ wtK (fK (S.1.2.2.2.1 i)) (fI (S.1.2.2.2.1 i)) then k_C_leastOfFriends_9 n 0 w x.1 x.2 (nI i + 1) s else k_C_leastOfFriends_9 n 0 w (nI i) (wtK (fK (S.1.2.2.2.1 i)) (fI (S.1.2.2.2.1 i))) (nI i + 1) s) else (if x.2 ≤ fD (S.1.2.2.2.1 i) then k_C_leastOfFriends_9 n 0 w x.1 x.2 (nI i + 1) s else k_C_leastOfFriends_9 n 0 w (nI i) (fD (S.1.2.2.2.1 i)) (nI i + 1) s)) = if x.2 ≤ hVal S.1 w i then k_C_leastOfFriends_9 n 0 w x.1 x.2 (nI (i + 1)) s else k_C_leastOfFriends_9 n 0 w (nI i) (hVal S.1 w i) (nI (i + 1)) s := by
        unfold hVal
        rw [nI_1]
        by_cases c : w = 0
        · simp only [c, if_true]
        · simp only [c, if_false]
      rw [hd]
      cases hp : pick (hBet S.1 w) i with
      | none =>
        rw [hp] at e1 e2
        have e2 : x.2 = 100 := e2
        rw [e2, if_neg (hVal_0 h.2.1 hi)]
        exact ih (nI i, hVal S.1 w i) (by rw [pick_0 hp]; exact ⟨rfl, rfl⟩)
      | some j =>
        rw [hp] at e1 e2
        have e2 : x.2 = hVal S.1 w j := e2
        by_cases c : x.2 ≤ hVal S.1 w i
        · rw [if_pos c]
          rw [e2] at c
          exact ih x (by rw [pick_n hp (by unfold hBet; simp [c])]; exact ⟨e1, e2⟩)
        · rw [if_neg c]
          rw [e2] at c
          exact ih (nI i, hVal S.1 w i) (by rw [pick_y hp (by unfold hBet; simp [c])]; exact ⟨rfl, rfl⟩)
  · intro s S ho h e
    have hn := ho.1.1
    refine lp (fun n i (x : Int32) => k_R_hasty_21 n w x (nI i) s) (fun i x => x = pkI (pick (hBet S.1 w) i)) (fun r => ∃ s', r = some (pkI (pick (hBet S.1 w) S.1.1), s') ∧ RV s' S.1 ∧ FrQR s s') S.1.1 ?_ ?_ KF 0 (-9) (by omega) (by rw [KF_1]; omega) rfl
    · intro n x e1
      unfold k_R_hasty_21
      rw [h.1.1.1, if_pos (nI_le (Nat.le_refl _) (by omega)), e1]
      exact ⟨s, rfl, h.1, FrQR.rf⟩
    · intro n i x hi e1 ih
      unfold k_R_hasty_21
      rw [h.1.1.1, if_neg (nI_ge hi (by omega)), nI_1]
      cases hp : pick (hBet S.1 w) i with
      | none =>
        rw [hp] at e1
        have e1 : x = -9 := e1
        rw [e1, if_pos (by decide)]
        exact ih (nI i) (by rw [pick_0 hp]; rfl)
      | some j =>
        rw [hp] at e1
        have e1 : x = nI j := e1
        have hj := pick_lt _ _ hp
        rw [e1, if_neg (nI_pos (by omega))]
        have hgi := h.1.1.2 i hi
        have hgj := h.1.1.2 j (by omega)
        simp only [RwaitsOf_e (show i < 6 by omega), RwaitsOf_e (show j < 6 by omega), bn_s, gd_n (show i < 6 by omega) (show 6 < 2 ^ 31 by omega), gd_n (show j < 6 by omega) (show 6 < 2 ^ 31 by omega), nI_clamp (show i < 2 ^ 31 by omega), nI_clamp (show j < 2 ^ 31 by omega), hgi.1, hgi.2.1, hgi.2.2.1, hgj.1, hgj.2.1, hgj.2.2.1]
        have hd : (if w = 0 then (if wtK (fK (S.1.2.2.2.1 j)) (fI (S.1.2.2.2.1 j)) ≤ wtK (fK (S.1.2.2.2.1 i)) (fI (S.1.2.2.2.1 i)) then k_R_hasty_21 n w (nI j) (nI (i + 1)) s else k_R_hasty_21 n w (nI i) (nI (i + 1)) s) else (if fD (S.1.2.2.2.1 j) ≤ fD (S.1.2.2.2.1 i) then k_R_hasty_21 n w (nI j) (nI (i + 1)) s else k_R_hasty_21 n w (nI i) (nI (i + 1)) s)) = if hVal S.1 w j ≤ hVal S.1 w i then k_R_hasty_21 n w (nI j) (nI (i + 1)) s else k_R_hasty_21 n w (nI i) (nI (i + 1)) s := by
          unfold hVal
          by_cases c : w = 0
          · simp only [c, if_true]
          · simp only [c, if_false]
        rw [hd]
        by_cases c : hVal S.1 w j ≤ hVal S.1 w i
        · rw [if_pos c]
          exact ih (nI j) (by rw [pick_n hp (by unfold hBet; simp [c])]; rfl)
        · rw [if_neg c]
          exact ih (nI i) (by rw [pick_y hp (by unfold hBet; simp [c])]; rfl)
