/-! thinking month by month -/
def Thk (s : Mm) (V : CV) (G' : Nat → GV) (a : Mm) : Prop := RFv a V.1 V.2.2.2.1 ∧ RGv a V.2.1 G' ∧ SB a 2 V ∧ a 176 14 = 0 ∧ FrW 102 153 s a
theorem think0 {s : Mm} {V : CV} (h : RV s V) (hv : VOk V) (h14 : s 176 14 = 0) : ∃ a, f_R_thinks s = some a ∧ Thk s V V.2.2.2.2 a := by
  obtain ⟨s1, a1, a2, a3, a4, a5⟩ := thinks_e h hv.1 hv.2.1
  exact ⟨s1, a1, a2.1, a2.2.1, a3, by rw [a5.2 _ _ (by omega) (by omega) (by omega)]; exact h14, a5⟩
theorem Thk.mon {s a : Mm} {V : CV} {G' : Nat → GV} (h : Thk s V G' a) (hv : VOk V) (hG : ∀ k, k < V.2.1 → GI V.1 (G' k)) : ∃ a', f_R_goesMonth a 0 = some a' ∧ Thk s V (fun k => stepG V.2.2.2.1 (G' k)) a' := by
  obtain ⟨h1, h2, h3, h4, h5⟩ := h
  obtain ⟨s2, b1, b2, b3, b4, b5, b6⟩ := goesMonth_e (B := a 188) h1 h2 (fun _ _ => rfl) hv.M hv.1 hv.2.1 hG
  exact ⟨s2, b1, b2, b3, h3.eq hv.1 hv.2.1 (fun j _ _ => b6 _ _ (by omega) (by omega)), by rw [b6 _ _ (by omega) (by omega)]; exact h4, h5.tr b6.w⟩
theorem Thk.monL {s a : Mm} {V : CV} {G' : Nat → GV} (h : Thk s V G' a) (hv : VOk V) (hG : ∀ k, k < V.2.1 → GI V.1 (G' k)) : ∃ a', f_R_goesMonth a 1 = some a' ∧ Thk s V (fun k => keepG (G' k)) a' := by
  obtain ⟨h1, h2, h3, h4, h5⟩ := h
  obtain ⟨s2, b1, b2, b3, b6⟩ := goesMonthL_e h1 h2 hv.2.1 hG
  exact ⟨s2, b1, b2, b3, h3.eq hv.1 hv.2.1 (fun j _ _ => b6 _ _ (by omega) (by omega)), by rw [b6 _ _ (by omega) (by omega)]; exact h4, h5.tr b6.w⟩
theorem Thk.fin {s a : Mm} {V : CV} {G' : Nat → GV} (h : Thk s V G' a) (hv : VOk V) : ∃ s', f_R_forgets a = some s' ∧ RV s' V ∧ FrW 102 153 s s' := by
  obtain ⟨h1, h2, h3, h4, h5⟩ := h
  obtain ⟨s3, c1, c2, c3⟩ := forgets_e h3 hv.1 hv.2.1 h4 hv.T
  exact ⟨s3, c1, c2, h5.tr c3.w⟩
/-- one gift in mind, in the object: company 2 as it is thought -/
def Mnd (s : Mm) (V : CV) (k : Nat) (g : GV) (a : Mm) : Prop := HF a 2 V.1 V.2.2.2.1 ∧ HG a 2 V.2.1 (upG V.2.2.2.2 k g) ∧ Fr 2 s a
theorem upG_at (G : Nat → GV) (k : Nat) (g : GV) : upG G k g k = g := by unfold upG; simp
theorem upG_id (G : Nat → GV) (k : Nat) : upG G k (G k) = G := by
  funext q
  unfold upG
  by_cases h : q = k
  · subst h; simp
  · simp [h]
theorem Mnd.mon {s a : Mm} {V : CV} {k : Nat} {g : GV} (h : Mnd s V k g a) (hv : VOk V) (hg : HOk V.1 g) (hk : k < V.2.1) : ∃ a', f_G_passMonth a (110 + 5 * 2 + k) 2 = some a' ∧ Mnd s V k (stepG V.2.2.2.1 g) a' := by
  obtain ⟨h1, h2, h3⟩ := h
  obtain ⟨s', e1, e2, e3, e4, e5, e6⟩ := passK_e (B := fun q => a (33 + 7 * 2 + q) 8) h1 h2 (fun q _ => rfl) hv.M.n (k := k) (by rw [upG_at]; exact hg) hv.1 hv.2.1 hk (by omega)
  rw [upG_at] at e3
  refine ⟨s', e1, e2, ⟨e3.1, fun q hq => ?_⟩, h3.tr e6⟩
  rw [e3.2 q hq]
  unfold upG
  by_cases h : q = k
  · subst h; simp
  · simp [h]
theorem mind0 {s : Mm} {V : CV} {k : Nat} (h : HC s 0 V) (hv : VOk V) : ∃ a, f_M_recall s = some (2, a) ∧ Mnd s V k (V.2.2.2.2 k) a ∧ HC a 0 V ∧ HC a 2 V := by
  obtain ⟨s1, a1, a2, a3, a4, a5⟩ := recall_e h hv
  exact ⟨s1, a1, ⟨a2.1, by rw [upG_id]; exact a2.2.1, a4⟩, a5, a2⟩
theorem gIt_s (F : Nat → FV) : ∀ (n : Nat) (g : GV), gIt F n (stepG F g) = gIt F (n + 1) g
  | 0, _ => rfl
  | n + 1, g => by show stepG F (gIt F n (stepG F g)) = stepG F (gIt F (n + 1) g); rw [gIt_s F n g]
/-! GIVEN, ROUND -/
def awayS (F : Nat → FV) (h : Int32) : Nat → Nat → GV → Int32
  | 0, _, _ => -9
  | d + 1, m, g => if gH (stepG F g) = h then awayS F h d (m + 1) (stepG F g) else nI m
def roundS (F : Nat → FV) (h : Int32) : Nat → Nat → Bool → GV → Int32
  | 0, _, _, _ => -9
  | d + 1, m, aw, g => if gH (stepG F g) = h then (if aw then nI m else roundS F h d (m + 1) aw (stepG F g)) else roundS F h d (m + 1) true (stepG F g)
theorem firstAway_e {s a : Mm} {V : CV} {k : Nat} {g : GV} {h : Int32} (hm : Mnd s V k g a) (hv : VOk V) (hg : HOk V.1 g) (hk : k < V.2.1) : ∃ s', k_M_firstAway_17 KF (110 + 5 * 2 + k) h 1 a = some (awayS V.2.2.2.1 h 60 1 g, s') ∧ Fr 2 s s' := by
  obtain ⟨T, hT⟩ : ∃ T, T = awayS V.2.2.2.1 h 60 1 g := ⟨_, rfl⟩
  rw [← hT]
  refine lp (α := GV × Mm) (fun n m q => k_M_firstAway_17 n (110 + 5 * 2 + k) h (nI m) q.2) (fun m q => 1 ≤ m ∧ Mnd s V k q.1 q.2 ∧ HOk V.1 q.1 ∧ T = awayS V.2.2.2.1 h (61 - m) m q.1) (fun r => ∃ s', r = some (T, s') ∧ Fr 2 s s') 61 ?_ ?_ KF 1 (g, a) (by omega) (by rw [KF_1]; omega) ⟨by omega, hm, hg, hT⟩
  · intro n q ⟨h1, h2, h3, h4⟩
    unfold k_M_firstAway_17
    rw [if_pos (show (60 : Int32) < nI 61 from by decide), h4]
    exact ⟨q.2, rfl, h2.2.2⟩
  · intro n m q hlt ⟨h1, h2, h3, h4⟩ ih
    unfold k_M_firstAway_17
    rw [if_neg (show ¬ (60 : Int32) < nI m from nI_nlt (b := m) (a := 60) (by omega) (by omega))]
    obtain ⟨a', e1, e2⟩ := h2.mon hv h3 hk
    have eh : a' (110 + 5 * 2 + k) 2 = gH (stepG V.2.2.2.1 q.1) := by rw [(e2.2.1.at hk).2.2.1, upG_at]
    rw [e1, bv_s, eh]
    rw [show 61 - m = (60 - m) + 1 by omega] at h4
    unfold awayS at h4
    by_cases c : gH (stepG V.2.2.2.1 q.1) = h
    · rw [if_pos c, nI_1]
      rw [if_pos c] at h4
      exact ih (stepG V.2.2.2.1 q.1, a') ⟨by omega, e2, h3.step hv.M.n hv.1, by rw [show 61 - (m + 1) = 60 - m by omega]; exact h4⟩
    · rw [if_neg c]
      rw [if_neg c] at h4
      rw [h4]
      exact ⟨a', rfl, e2.2.2⟩
theorem firstRound_e {s a : Mm} {V : CV} {k : Nat} {g : GV} {h : Int32} (hm : Mnd s V k g a) (hv : VOk V) (hg : HOk V.1 g) (hk : k < V.2.1) : ∃ s', k_M_firstRound_20 KF (110 + 5 * 2 + k) h 0 1 a = some (roundS V.2.2.2.1 h 60 1 false g, s') ∧ Fr 2 s s' := by
  obtain ⟨T, hT⟩ : ∃ T, T = roundS V.2.2.2.1 h 60 1 false g := ⟨_, rfl⟩
  rw [← hT]
  refine lp (α := Bool × GV × Mm) (fun n m q => k_M_firstRound_20 n (110 + 5 * 2 + k) h (if q.1 then 1 else 0) (nI m) q.2.2) (fun m q => 1 ≤ m ∧ Mnd s V k q.2.1 q.2.2 ∧ HOk V.1 q.2.1 ∧ T = roundS V.2.2.2.1 h (61 - m) m q.1 q.2.1) (fun r => ∃ s', r = some (T, s') ∧ Fr 2 s s') 61 ?_ ?_ KF 1 (false, g, a) (by omega) (by rw [KF_1]; omega) ⟨by omega, hm, hg, hT⟩
  · intro n q ⟨h1, h2, h3, h4⟩
    unfold k_M_firstRound_20
    rw [if_pos (show (60 : Int32) < nI 61 from by decide), h4]
    exact ⟨q.2.2, rfl, h2.2.2⟩
  · intro n m q hlt ⟨h1, h2, h3, h4⟩ ih
    obtain ⟨aw, gq, aq⟩ := q
    unfold k_M_firstRound_20
    rw [if_neg (show ¬ (60 : Int32) < nI m from nI_nlt (b := m) (a := 60) (by omega) (by omega))]
    obtain ⟨a', e1, e2⟩ := h2.mon hv h3 hk
    have eh : a' (110 + 5 * 2 + k) 2 = gH (stepG V.2.2.2.1 gq) := by rw [(e2.2.1.at hk).2.2.1, upG_at]
    rw [e1, bv_s, eh]
    rw [show 61 - m = (60 - m) + 1 by omega] at h4
    unfold roundS at h4
    have hs : HOk V.1 (stepG V.2.2.2.1 gq) := h3.step hv.M.n hv.1
    by_cases c : gH (stepG V.2.2.2.1 gq) = h
    · rw [if_pos c]
      simp only [c, if_true] at h4
      cases aw with
      | false =>
        simp only [Bool.false_eq_true, if_false] at h4 ⊢
        rw [nI_1]
        exact ih (false, stepG V.2.2.2.1 gq, a') ⟨by omega, e2, hs, by rw [show 61 - (m + 1) = 60 - m by omega]; exact h4⟩
      | true =>
        simp only [if_true] at h4 ⊢
        rw [if_neg (by decide), h4]
        exact ⟨a', rfl, e2.2.2⟩
    · rw [if_neg c, nI_1]
      simp only [c, if_false] at h4
      exact ih (true, stepG V.2.2.2.1 gq, a') ⟨by omega, e2, hs, by rw [show 61 - (m + 1) = 60 - m by omega]; exact h4⟩
def vGiven (a w : Int32) (S : SV) : Int32 := if w = 0 then awayS S.1.2.2.2.1 (gH (S.1.2.2.2.2 (ix a))) 60 1 (S.1.2.2.2.2 (ix a)) else roundS S.1.2.2.2.1 (gH (S.1.2.2.2.2 (ix a))) 60 1 false (S.1.2.2.2.2 (ix a))
theorem nn_nI {n : Nat} (h : n < 2 ^ 31) : 0 ≤ nI n := nI_pos' h
theorem nn_m9 : ¬ (0 : Int32) ≤ -9 := by decide
theorem RgivenA_e {s a : Mm} {V : CV} {k : Nat} {h : Int32} (ht : Thk s V V.2.2.2.2 a) (hv : VOk V) (hk : k < V.2.1) : ∃ s', k_R_givenAt_21 KF (nI k) 0 h 0 (-9) 1 a = some (awayS V.2.2.2.1 h 60 1 (V.2.2.2.2 k), s') ∧ RV s' V ∧ FrW 102 153 s s' := by
  obtain ⟨T, hT⟩ : ∃ T, T = awayS V.2.2.2.1 h 60 1 (V.2.2.2.2 k) := ⟨_, rfl⟩
  rw [← hT]
  have hk4 : k < 4 := by have := hv.2.1; omega
  refine lp (α := Int32 × Int32 × (Nat → GV) × Mm) (fun n m q => k_R_givenAt_21 n (nI k) 0 h q.1 q.2.1 (nI m) q.2.2.2) (fun m q => 1 ≤ m ∧ Thk s V q.2.2.1 q.2.2.2 ∧ (∀ i, i < V.2.1 → GI V.1 (q.2.2.1 i)) ∧ ((q.1 = 0 ∧ q.2.1 = -9 ∧ T = awayS V.2.2.2.1 h (61 - m) m (q.2.2.1 k)) ∨ (0 ≤ q.2.1 ∧ q.2.1 = T))) (fun r => ∃ s', r = some (T, s') ∧ RV s' V ∧ FrW 102 153 s s') 61 ?_ ?_ KF 1 (0, -9, V.2.2.2.2, a) (by omega) (by rw [KF_1]; omega) ⟨by omega, ht, hv.G, Or.inl ⟨rfl, rfl, hT⟩⟩
  · intro n q ⟨h1, h2, h3, h4⟩
    unfold k_R_givenAt_21
    obtain ⟨s', e1, e2, e3⟩ := h2.fin hv
    rw [if_pos (show (60 : Int32) < nI 61 from by decide), e1, bv_s]
    rcases h4 with ⟨x1, x2, x3⟩ | ⟨x1, x2⟩
    · rw [x2, x3]; exact ⟨s', rfl, e2, e3⟩
    · rw [x2]; exact ⟨s', rfl, e2, e3⟩
  · intro n m q hlt ⟨h1, h2, h3, h4⟩ ih
    obtain ⟨hl, fd, G', aq⟩ := q
    unfold k_R_givenAt_21
    rw [if_neg (show ¬ (60 : Int32) < nI m from nI_nlt (b := m) (a := 60) (by omega) (by omega))]
    rcases h4 with ⟨x1, x2, x3⟩ | ⟨x1, x2⟩
    · have x1 : hl = 0 := x1
      have x2 : fd = -9 := x2
      subst x1; subst x2
      rw [if_neg nn_m9]
      obtain ⟨a', e1, e2⟩ := h2.mon hv h3
      have eh : a' 184 k = gH (stepG V.2.2.2.1 (G' k)) := (e2.2.1.at hk).2.2.1
      rw [e1, bv_s, if_pos rfl, gd_n hk4 (by omega), nI_clamp (by omega), eh]
      rw [show 61 - m = (60 - m) + 1 by omega] at x3
      unfold awayS at x3
      have hs : ∀ i, i < V.2.1 → GI V.1 (stepG V.2.2.2.1 (G' i)) := fun i hi => (h3 i hi).step hv.M hv.1
      by_cases c : gH (stepG V.2.2.2.1 (G' k)) = h
      · rw [if_pos c]
        simp only [c, if_true] at x3
        unfold k_R_givenAt_58
        rw [if_pos rfl, nI_1]
        exact ih (0, -9, _, a') ⟨by omega, e2, hs, Or.inl ⟨rfl, rfl, by rw [show 61 - (m + 1) = 60 - m by omega]; exact x3⟩⟩
      · rw [if_neg c]
        simp only [c, if_false] at x3
        unfold k_R_givenAt_58
        rw [if_neg (by decide), if_pos rfl, nI_1]
        exact ih (1, nI m, _, a') ⟨by omega, e2, hs, Or.inr ⟨nn_nI (by omega), x3.symm⟩⟩
    · rw [if_pos x1]
      obtain ⟨s', e1, e2, e3⟩ := h2.fin hv
      rw [e1, bv_s]
      exact ⟨s', by rw [x2], e2, e3⟩
theorem RgivenR_e {s a : Mm} {V : CV} {k : Nat} {h : Int32} (ht : Thk s V V.2.2.2.2 a) (hv : VOk V) (hk : k < V.2.1) : ∃ s', k_R_givenAt_21 KF (nI k) 1 h 0 (-9) 1 a = some (roundS V.2.2.2.1 h 60 1 false (V.2.2.2.2 k), s') ∧ RV s' V ∧ FrW 102 153 s s' := by
  obtain ⟨T, hT⟩ : ∃ T, T = roundS V.2.2.2.1 h 60 1 false (V.2.2.2.2 k) := ⟨_, rfl⟩
  rw [← hT]
  have hk4 : k < 4 := by have := hv.2.1; omega
  refine lp (α := Bool × Int32 × (Nat → GV) × Mm) (fun n m q => k_R_givenAt_21 n (nI k) 1 h (if q.1 then 1 else 0) q.2.1 (nI m) q.2.2.2) (fun m q => 1 ≤ m ∧ Thk s V q.2.2.1 q.2.2.2 ∧ (∀ i, i < V.2.1 → GI V.1 (q.2.2.1 i)) ∧ ((q.2.1 = -9 ∧ T = roundS V.2.2.2.1 h (61 - m) m q.1 (q.2.2.1 k)) ∨ (0 ≤ q.2.1 ∧ q.2.1 = T))) (fun r => ∃ s', r = some (T, s') ∧ RV s' V ∧ FrW 102 153 s s') 61 ?_ ?_ KF 1 (false, -9, V.2.2.2.2, a) (by omega) (by rw [KF_1]; omega) ⟨by omega, ht, hv.G, Or.inl ⟨rfl, hT⟩⟩
  · intro n q ⟨h1, h2, h3, h4⟩
    unfold k_R_givenAt_21
    obtain ⟨s', e1, e2, e3⟩ := h2.fin hv
    rw [if_pos (show (60 : Int32) < nI 61 from by decide), e1, bv_s]
    rcases h4 with ⟨x2, x3⟩ | ⟨x1, x2⟩
    · rw [x2, x3]; exact ⟨s', rfl, e2, e3⟩
    · rw [x2]; exact ⟨s', rfl, e2, e3⟩
  · intro n m q hlt ⟨h1, h2, h3, h4⟩ ih
    obtain ⟨hl, fd, G', aq⟩ := q
    unfold k_R_givenAt_21
    rw [if_neg (show ¬ (60 : Int32) < nI m from nI_nlt (b := m) (a := 60) (by omega) (by omega))]
    rcases h4 with ⟨x2, x3⟩ | ⟨x1, x2⟩
    · have x2 : fd = -9 := x2
      subst x2
      rw [if_neg nn_m9]
      obtain ⟨a', e1, e2⟩ := h2.mon hv h3
      have eh : a' 184 k = gH (stepG V.2.2.2.1 (G' k)) := (e2.2.1.at hk).2.2.1
      rw [e1, bv_s]
      rw [show 61 - m = (60 - m) + 1 by omega] at x3
      unfold roundS at x3
      have hs : ∀ i, i < V.2.1 → GI V.1 (stepG V.2.2.2.1 (G' i)) := fun i hi => (h3 i hi).step hv.M hv.1
      by_cases c : gH (stepG V.2.2.2.1 (G' k)) = h
      · simp only [c, if_true] at x3
        cases hl with
        | false =>
          simp only [Bool.false_eq_true, if_false] at x3 ⊢
          rw [if_pos trivial, gd_n hk4 (by omega), nI_clamp (by omega), eh, if_pos c]
          unfold k_R_givenAt_58
          rw [if_pos rfl, nI_1]
          exact ih (false, -9, _, a') ⟨by omega, e2, hs, Or.inl ⟨rfl, by rw [show 61 - (m + 1) = 60 - m by omega]; exact x3⟩⟩
        | true =>
          simp only [if_true] at x3 ⊢
          rw [if_neg (by decide)]
          unfold k_R_givenAt_58
          rw [if_neg (by decide), if_neg (by decide), gd_n hk4 (by omega), nI_clamp (by omega), eh, if_pos c, nI_1]
          exact ih (true, nI m, _, a') ⟨by omega, e2, hs, Or.inr ⟨nn_nI (by omega), x3.symm⟩⟩
      · simp only [c, if_false] at x3
        cases hl with
        | false =>
          simp only [Bool.false_eq_true, if_false]
          rw [if_pos trivial, gd_n hk4 (by omega), nI_clamp (by omega), eh, if_neg c]
          unfold k_R_givenAt_58
          rw [if_neg (by decide), if_neg (by decide), gd_n hk4 (by omega), nI_clamp (by omega), eh, if_neg c, nI_1]
          exact ih (true, -9, _, a') ⟨by omega, e2, hs, Or.inl ⟨rfl, by rw [show 61 - (m + 1) = 60 - m by omega]; exact x3⟩⟩
        | true =>
          simp only [if_true]
          rw [if_neg (by decide)]
          unfold k_R_givenAt_58
          rw [if_neg (by decide), if_neg (by decide), gd_n hk4 (by omega), nI_clamp (by omega), eh, if_neg c, nI_1]
          exact ih (true, -9, _, a') ⟨by omega, e2, hs, Or.inl ⟨rfl, by rw [show 61 - (m + 1) = 60 - m by omega]; exact x3⟩⟩
    · rw [if_pos x1]
      obtain ⟨s', e1, e2, e3⟩ := h2.fin hv
      rw [e1, bv_s]
      exact ⟨s', by rw [x2], e2, e3⟩
def noGW (m : Int32) (a w : Int32) (S : SV) : Int32 := fst3 (gNo (nI S.1.2.1) a) (wNo w m) 0
theorem op_given (a w : Int32) : OpI (fun s => f_X_given s a w) (fun s => f_R_given s a w) := by
  refine OpI.q2 (mx' := fun s => if w = 0 then f_M_firstAway s a else f_M_firstRound s a) (mr := fun s => k_R_given_27 a w 0 s) (noGW 1 a w) (vGiven a w) (fun S => Codes.fst (Codes.g _ _) (Codes.w _ _) Codes.z) ?_ ?_ ?_ ?_
  · intro s S h
    unfold f_X_given
    simp only [giftNo_e, bn_s, whatNo_e, first_e, h.1.2.1.1, bn_eta]
    rfl
  · intro s S h
    show f_R_given s a w = _
    rw [Rn_given, h.1.2.1.1]
    by_cases e : noGW 1 a w S = 0
    · rw [if_pos e, show fst3 (gNo (nI S.1.2.1) a) (wNo w 1) 0 = 0 from e]
    · rw [if_neg e]
      unfold k_R_given_27
      rw [if_neg (show ¬ fst3 (gNo (nI S.1.2.1) a) (wNo w 1) 0 = 0 from e), bn_eta]
      rfl
  · intro s S h e
    obtain ⟨e1, e2, e3⟩ := fst3_0 e
    obtain ⟨k, hk, rfl⟩ := gNo_0 (by have := h.2.1.2.1; omega) e1
    have hv := h.2.1
    have hm := hv.2.1
    obtain ⟨s1, a1, a2, a3, a4⟩ := mind0 (k := k) h.1 hv
    have eh : s1 (110 + 5 * 2 + k) 2 = gH (S.1.2.2.2.2 k) := (a4.2.1.at hk).2.2.1
    unfold vGiven
    simp only [ix_nI (show k < 2 ^ 31 by omega)]
    by_cases c : w = 0
    · simp only [c, if_true]
      unfold f_M_firstAway
      rw [a1, bn_s, giftAt_e (by omega), bn_s, nm_s, eh]
      obtain ⟨s', b1, b2⟩ := firstAway_e (h := gH (S.1.2.2.2.2 k)) a2 hv (hv.H k hk) hk
      exact ⟨s', b1, b2.q⟩
    · simp only [c, if_false]
      unfold f_M_firstRound
      rw [a1, bn_s, giftAt_e (by omega), bn_s, nm_s, eh]
      obtain ⟨s', b1, b2⟩ := firstRound_e (h := gH (S.1.2.2.2.2 k)) a2 hv (hv.H k hk) hk
      exact ⟨s', b1, b2.q⟩
  · intro s S ho h e
    obtain ⟨e1, e2, e3⟩ := fst3_0 e
    obtain ⟨k, hk, rfl⟩ := gNo_0 (by have := ho.1.2.1; omega) e1
    obtain ⟨j, hj, rfl⟩ := wNo_0 (m := 1) (by omega) e2
    have hv := ho.1
    have hm := hv.2.1
    obtain ⟨s1, a1, a2⟩ := think0 h.1 hv h.2.1
    have eh : s 184 k = gH (S.1.2.2.2.2 k) := (h.1.2.1.at hk).2.2.1
    unfold vGiven k_R_given_27 f_R_givenAt
    simp only [if_true, bn_eta, gd_n (show k < 4 by omega) (show 4 < 2 ^ 31 by omega), nI_clamp (show k < 2 ^ 31 by omega), nm_s, a1, bv_s, eh, ix_nI (show k < 2 ^ 31 by omega)]
    rcases (show j = 0 ∨ j = 1 by omega) with rfl | rfl
    · rw [if_neg (by decide), if_pos (by decide)]
      obtain ⟨s', b1, b2, b3⟩ := RgivenA_e (h := gH (S.1.2.2.2.2 k)) a2 hv hk
      exact ⟨s', b1, b2, b3.q (by omega) (by omega)⟩
    · rw [if_pos (by decide), if_neg (by decide)]
      obtain ⟨s', b1, b2, b3⟩ := RgivenR_e (h := gH (S.1.2.2.2.2 k)) a2 hv hk
      exact ⟨s', b1, b2, b3.q (by omega) (by omega)⟩
