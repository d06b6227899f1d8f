/-! searches month by month: the first that is so -/
def srch (F : Nat → FV) (p : Nat → GV → Bool) : Nat → Nat → GV → Int32
  | 0, _, _ => -9
  | d + 1, m, g => if p m g then nI m else srch F p d (m + 1) (stepG F g)
theorem arrival_e {s a : Mm} {V : CV} {k N : Nat} {g : GV} {x : Int32} (hm : Mnd s V k g a) (hv : VOk V) (hg : HOk V.1 g) (hk : k < V.2.1) (hN : N ≤ 60) : ∃ s', k_M_arrival_13 KF x (nI N) (110 + 5 * 2 + k) 0 a = some (srch V.2.2.2.1 (fun _ g => decide (gH g = x)) (N + 1) 0 g, s') ∧ Fr 2 s s' := by
  obtain ⟨T, hT⟩ : ∃ T, T = srch V.2.2.2.1 (fun _ g => decide (gH g = x)) (N + 1) 0 g := ⟨_, rfl⟩
  rw [← hT]
  refine lp (α := GV × Mm) (fun n m q => k_M_arrival_13 n x (nI N) (110 + 5 * 2 + k) (nI m) q.2) (fun m q => Mnd s V k q.1 q.2 ∧ HOk V.1 q.1 ∧ T = srch V.2.2.2.1 (fun _ g => decide (gH g = x)) (N + 1 - m) m q.1) (fun r => ∃ s', r = some (T, s') ∧ Fr 2 s s') (N + 1) ?_ ?_ KF 0 (g, a) (by omega) (by rw [KF_1]; omega) ⟨hm, hg, hT⟩
  · intro n q ⟨h2, h3, h4⟩
    unfold k_M_arrival_13
    rw [if_pos (nI_lt (by omega) (by omega)), h4, Nat.sub_self]
    exact ⟨q.2, rfl, h2.2.2⟩
  · intro n m q hlt ⟨h2, h3, h4⟩ ih
    unfold k_M_arrival_13
    have eh : q.2 (110 + 5 * 2 + k) 2 = gH q.1 := by rw [(h2.2.1.at hk).2.2.1, upG_at]
    rw [if_neg (nI_nlt (by omega) (by omega)), eh]
    rw [show N + 1 - m = (N - m) + 1 by omega] at h4
    unfold srch at h4
    by_cases c : gH q.1 = x
    · rw [if_pos c]
      simp only [c, decide_true, if_true] at h4
      rw [h4]
      exact ⟨q.2, rfl, h2.2.2⟩
    · rw [if_neg c]
      simp only [c, decide_false, Bool.false_eq_true, if_false] at h4
      obtain ⟨a', e1, e2⟩ := h2.mon hv h3 hk
      rw [e1, bv_s, nI_1]
      exact ih (stepG V.2.2.2.1 q.1, a') ⟨e2, h3.step hv.M.n hv.1, by rw [show N + 1 - (m + 1) = N - m by omega]; exact h4⟩
theorem Rarrival_e {s a : Mm} {V : CV} {k N : Nat} {x : Int32} (ht : Thk s V V.2.2.2.2 a) (hv : VOk V) (hk : k < V.2.1) (hN : N ≤ 60) : ∃ s', k_R_comesAt_11 KF (nI k) x (nI N) (-9) 0 a = some (srch V.2.2.2.1 (fun _ g => decide (gH g = x)) (N + 1) 0 (V.2.2.2.2 k), s') ∧ RV s' V ∧ FrW 102 153 s s' := by
  have hk4 : k < 4 := by have := hv.2.1; omega
  obtain ⟨T, hT⟩ : ∃ T, T = srch V.2.2.2.1 (fun _ g => decide (gH g = x)) (N + 1) 0 (V.2.2.2.2 k) := ⟨_, rfl⟩
  rw [← hT]
  refine lp (α := Int32 × (Nat → GV) × Mm) (fun n m q => k_R_comesAt_11 n (nI k) x (nI N) q.1 (nI m) q.2.2) (fun m q => Thk s V q.2.1 q.2.2 ∧ (∀ i, i < V.2.1 → GI V.1 (q.2.1 i)) ∧ ((q.1 = -9 ∧ T = srch V.2.2.2.1 (fun _ g => decide (gH g = x)) (N + 1 - m) m (q.2.1 k)) ∨ (0 ≤ q.1 ∧ q.1 = T))) (fun r => ∃ s', r = some (T, s') ∧ RV s' V ∧ FrW 102 153 s s') (N + 1) ?_ ?_ KF 0 (-9, V.2.2.2.2, a) (by omega) (by rw [KF_1]; omega) ⟨ht, hv.G, Or.inl ⟨rfl, hT⟩⟩
  · intro n q ⟨h2, h3, h4⟩
    unfold k_R_comesAt_11
    obtain ⟨s', e1, e2, e3⟩ := h2.fin hv
    rw [if_pos (nI_lt (by omega) (by omega)), e1, bv_s]
    rcases h4 with ⟨x2, x3⟩ | ⟨x1, x2⟩
    · rw [x2, x3, Nat.sub_self]; exact ⟨s', rfl, e2, e3⟩
    · rw [x2]; exact ⟨s', rfl, e2, e3⟩
  · intro n m q hlt ⟨h2, h3, h4⟩ ih
    obtain ⟨fd, G', aq⟩ := q
    try dsimp only at h2 h3 h4 ⊢
    unfold k_R_comesAt_11
    rw [if_neg (nI_nlt (by omega) (by omega))]
    rcases h4 with ⟨x2, x3⟩ | ⟨x1, x2⟩
    · have x2 : fd = -9 := x2
      subst x2
      obtain ⟨a', e1, e2⟩ := h2.mon hv h3
      have eh : aq 184 k = gH (G' k) := (h2.2.1.at hk).2.2.1
      rw [if_neg nn_m9, gd_n hk4 (by omega), nI_clamp (by omega), eh]
      rw [show N + 1 - m = (N - m) + 1 by omega] at x3
      unfold srch at x3
      have hs : ∀ i, i < V.2.1 → GI V.1 (stepG V.2.2.2.1 (G' i)) := fun i hi => (h3 i hi).step hv.M hv.1
      unfold k_R_comesAt_39
      try simp only [] at e1
      by_cases c : gH (G' k) = x
      · simp only [c, decide_true, if_true] at x3 ⊢
        rw [e1, bv_s, nI_1]
        exact ih (nI m, _, a') ⟨e2, hs, Or.inr ⟨nn_nI (by omega), x3.symm⟩⟩
      · simp only [c, decide_false, Bool.false_eq_true, if_false] at x3 ⊢
        rw [e1, bv_s, nI_1]
        exact ih (-9, _, a') ⟨e2, hs, Or.inl ⟨rfl, by rw [show N + 1 - (m + 1) = N - m by omega]; exact x3⟩⟩
    · rw [if_pos x1]
      obtain ⟨s', e1, e2, e3⟩ := h2.fin hv
      rw [e1, bv_s]
      exact ⟨s', by rw [x2], e2, e3⟩
theorem RcomesAt_e {s : Mm} {V : CV} {k N : Nat} {x : Int32} (h : RV s V) (h14 : s 176 14 = 0) (hv : VOk V) (hk : k < V.2.1) (hN : N ≤ 60) : ∃ s', f_R_comesAt s (nI k) x (nI N) = some (srch V.2.2.2.1 (fun _ g => decide (gH g = x)) (N + 1) 0 (V.2.2.2.2 k), s') ∧ RV s' V ∧ FrW 102 153 s s' := by
  obtain ⟨s1, a1, a2⟩ := think0 h hv h14
  unfold f_R_comesAt
  rw [a1, bv_s]
  exact Rarrival_e a2 hv hk hN
theorem op_comes (a b : Int32) : OpI (fun s => f_X_comes s a b) (fun s => f_R_comes2 s a b) := by
  refine OpI.q2 (mx' := fun s => f_M_firstWith s a b) (mr := fun s => f_R_comesAt s a b 60) (fun S => fst3 (gNo (nI S.1.2.1) a) (gNo (nI S.1.1) b) 0) (fun S => srch S.1.2.2.2.1 (fun _ g => decide (gH g = b)) 61 0 (S.1.2.2.2.2 (ix a))) (fun S => Codes.fst (Codes.g _ _) (Codes.g _ _) Codes.z) ?_ ?_ ?_ ?_
  · intro s S h
    unfold f_X_comes
    simp only [giftNo_e, friendNo_e, bn_s, first_e, h.1.2.1.1, h.1.1.1, bn_eta]
  · intro s S h
    show f_R_comes2 s a b = _
    rw [Rn_comes, h.1.2.1.1, h.1.1.1]
  · intro s S h e
    obtain ⟨e1, e2, e3⟩ := fst3_0 e
    obtain ⟨k, hk, rfl⟩ := gNo_0 (by have := h.2.1.2.1; omega) e1
    have hv := h.2.1
    have hm := hv.2.1
    obtain ⟨s1, a1, a2, a3, a4⟩ := mind0 (k := k) h.1 hv
    unfold f_M_firstWith f_M_arrival
    simp only [a1, bn_s, giftAt_e (show k < 4 by omega), ix_nI (show k < 2 ^ 31 by omega), bn_eta]
    obtain ⟨s', b1, b2⟩ := arrival_e (N := 60) (x := b) a2 hv (hv.H k hk) hk (by omega)
    exact ⟨s', b1, b2.q⟩
  · intro s S ho h e
    obtain ⟨e1, e2, e3⟩ := fst3_0 e
    obtain ⟨k, hk, rfl⟩ := gNo_0 (by have := ho.1.2.1; omega) e1
    have hv := ho.1
    have hm := hv.2.1
    obtain ⟨s', b1, b2, b3⟩ := RcomesAt_e (N := 60) (x := b) h.1 h.2.1 hv hk (by omega)
    simp only [ix_nI (show k < 2 ^ 31 by omega)]
    exact ⟨s', b1, b2, b3.q (by omega) (by omega)⟩
/-! the ROW beside the months -/
theorem numberAt_e {s : Mm} {i : Nat} (hi : i < 12) : f_N_numberAt s (nI i) = some (s 172 i, s) := by
  unfold f_N_numberAt
  rw [cellOf_e (o := 172) hi (by decide), bn_s]
def rowP (f : GV → Int32) (R : Nat → Int32) : Nat → GV → Bool := fun i g => decide (¬ f g = R i)
theorem notTold_e {s a : Mm} {V : CV} {k : Nat} {g : GV} {q : Nat × (Nat → Int32)} (hq : RowX a q) (hm : Mnd s V k g a) (hv : VOk V) (hg : HOk V.1 g) (hk : k < V.2.1) : ∃ s', k_M_firstNotAsTold_11 KF (110 + 5 * 2 + k) 0 a = some (srch V.2.2.2.1 (rowP gH q.2) q.1 0 g, s') ∧ Fr 2 s s' := by
  obtain ⟨nR, R⟩ := q
  obtain ⟨r1, r2, r3⟩ := hq
  obtain ⟨T, hT⟩ : ∃ T, T = srch V.2.2.2.1 (rowP gH R) nR 0 g := ⟨_, rfl⟩
  show ∃ s', _ = some (srch V.2.2.2.1 (rowP gH R) nR 0 g, s') ∧ _
  rw [← hT]
  have r1 : nR ≤ 12 := r1
  refine lp (α := GV × Mm) (fun n m q => k_M_firstNotAsTold_11 n (110 + 5 * 2 + k) (nI m) q.2) (fun m q => Mnd s V k q.1 q.2 ∧ HOk V.1 q.1 ∧ T = srch V.2.2.2.1 (rowP gH R) (nR - m) m q.1 ∧ (q.2 171 1 = nI nR ∧ ∀ i, i < nR → q.2 172 i = R i)) (fun r => ∃ s', r = some (T, s') ∧ Fr 2 s s') nR ?_ ?_ KF 0 (g, a) (by omega) (by rw [KF_1]; omega) ⟨hm, hg, hT, r2, r3⟩
  · intro n q ⟨h2, h3, h4, h5⟩
    unfold k_M_firstNotAsTold_11
    rw [h5.1, if_pos (nI_le (Nat.le_refl _) (by omega)), h4, Nat.sub_self]
    exact ⟨q.2, rfl, h2.2.2⟩
  · intro n m q hlt ⟨h2, h3, h4, h5⟩ ih
    unfold k_M_firstNotAsTold_11
    have eh : q.2 (110 + 5 * 2 + k) 2 = gH q.1 := by rw [(h2.2.1.at hk).2.2.1, upG_at]
    rw [h5.1, if_neg (nI_ge hlt (by omega)), numberAt_e (by omega), bn_s, eh, h5.2 m hlt]
    rw [show nR - m = (nR - (m + 1)) + 1 by omega] at h4
    unfold srch rowP at h4
    by_cases c : gH q.1 = R m
    · rw [if_pos c]
      simp only [c, not_true, decide_false, Bool.false_eq_true, if_false] at h4
      obtain ⟨a', e1, e2⟩ := h2.mon hv h3 hk
      rw [e1, bv_s, nI_1]
      have hfr : ∀ q' j, 165 ≤ q' → a' q' j = q.2 q' j := by
        intro q' j hq'
        obtain ⟨_, f1, f2, f3, f4, f5, f6⟩ := passK_e (B := fun z => q.2 (33 + 7 * 2 + z) 8) h2.1 h2.2.1 (fun z _ => rfl) hv.M.n (k := k) (by rw [upG_at]; exact h3) hv.1 hv.2.1 hk (by omega)
        rw [e1] at f1
        cases f1
        exact f6 q' j (by unfold own; omega)
      exact ih (stepG V.2.2.2.1 q.1, a') ⟨e2, h3.step hv.M.n hv.1, h4, (hfr 171 1 (by omega)).trans h5.1, fun i hi => (hfr 172 i (by omega)).trans (h5.2 i hi)⟩
    · rw [if_neg c]
      simp only [c, not_false_eq_true, decide_true, if_true] at h4
      rw [h4]
      exact ⟨q.2, rfl, h2.2.2⟩
theorem asTold_e {s a : Mm} {V : CV} {F : Nat → FV} {G : Nat → GV} {nF nG k : Nat} {q : Nat × (Nat → Int32)} (hq : RowX a q) (hF : HF a 2 nF F) (hG : HG a 2 nG G) (hfr : Fr 2 s a) (hN : NOk nF F) (hH : HOk nF (G k)) (hn : nF ≤ 6) (hm : nG ≤ 4) (hk : k < nG) : ∃ s', f_M_worthsAreAsTold a (nI k) = some (if srch F (rowP gW q.2) q.1 0 (G k) = -9 then 1 else 0, s') ∧ Fr 2 s s' := by
  obtain ⟨nR, R⟩ := q
  obtain ⟨r1, r2, r3⟩ := hq
  obtain ⟨T, hT⟩ : ∃ T, T = srch F (rowP gW R) nR 0 (G k) := ⟨_, rfl⟩
  show ∃ s', _ = some (if srch F (rowP gW R) nR 0 (G k) = -9 then 1 else 0, s') ∧ _
  rw [← hT]
  have r1 : nR ≤ 12 := r1
  unfold f_M_worthsAreAsTold
  rw [giftAt_e (by omega), bn_s]
  refine lp (α := GV × Mm) (fun n m q => k_M_worthsAreAsTold_11 n (110 + 5 * 2 + k) (nI m) q.2) (fun m q => HF q.2 2 nF F ∧ HG q.2 2 nG (upG G k q.1) ∧ Fr 2 s q.2 ∧ HOk nF q.1 ∧ T = srch F (rowP gW R) (nR - m) m q.1 ∧ (q.2 171 1 = nI nR ∧ ∀ i, i < nR → q.2 172 i = R i)) (fun r => ∃ s', r = some (if T = -9 then 1 else 0, s') ∧ Fr 2 s s') nR ?_ ?_ KF 0 (G k, a) (by omega) (by rw [KF_1]; omega) ⟨hF, by rw [upG_id]; exact hG, hfr, hH, hT, r2, r3⟩
  · intro n q ⟨h1, h2, h2', h3, h4, h5⟩
    unfold k_M_worthsAreAsTold_11
    rw [h5.1, if_pos (nI_le (Nat.le_refl _) (by omega)), h4, Nat.sub_self]
    exact ⟨q.2, rfl, h2'⟩
  · intro n m q hlt ⟨h1, h2, h2', h3, h4, h5⟩ ih
    unfold k_M_worthsAreAsTold_11
    have eh : q.2 (110 + 5 * 2 + k) 0 = gW q.1 := by rw [(h2.at hk).1, upG_at]
    rw [h5.1, if_neg (nI_ge hlt (by omega)), numberAt_e (by omega), bn_s, eh, h5.2 m hlt]
    rw [show nR - m = (nR - (m + 1)) + 1 by omega] at h4
    unfold srch rowP at h4
    by_cases c : gW q.1 = R m
    · rw [if_pos c]
      simp only [c, not_true, decide_false, Bool.false_eq_true, if_false] at h4
      obtain ⟨a', f1, f2, f3, f4, f5, f6⟩ := passK_e (B := fun z => q.2 (33 + 7 * 2 + z) 8) h1 h2 (fun z _ => rfl) hN (k := k) (by rw [upG_at]; exact h3) hn hm hk (by omega)
      rw [f1, bv_s, nI_1]
      have hfr' : ∀ q' j, 165 ≤ q' → a' q' j = q.2 q' j := fun q' j hq' => f6 q' j (by unfold own; omega)
      rw [upG_at] at f3
      refine ih (stepG F q.1, a') ⟨f2, ⟨f3.1, fun i hi => ?_⟩, h2'.tr f6, h3.step hN hn, h4, (hfr' 171 1 (by omega)).trans h5.1, fun i hi => (hfr' 172 i (by omega)).trans (h5.2 i hi)⟩
      rw [f3.2 i hi]
      unfold upG
      by_cases h : i = k
      · subst h; simp
      · simp [h]
    · rw [if_neg c]
      simp only [c, not_false_eq_true, decide_true, if_true] at h4
      rw [h4, if_neg (m9_ne (by omega))]
      exact ⟨q.2, rfl, h2'⟩
/-- the reference's search beside the ROW, by a row of its own -/
theorem RfirstOther_e {s : Mm} {V : CV} {k o : Nat} {f : GV → Int32} {q : Nat × (Nat → Int32)} (hq : RowR s q) (hq12 : q.1 ≤ 12) (h : RV s V) (h14 : s 176 14 = 0) (hv : VOk V) (hk : k < V.2.1) (ho : aL o = 4) (hof : ∀ (a : Mm) (G : Nat → GV), RGv a V.2.1 G → a o k = f (G k)) : ∃ s', f_R_firstOther s (nI k) o = some (srch V.2.2.2.1 (rowP f q.2) q.1 0 (V.2.2.2.2 k), s') ∧ RV s' V ∧ FrW 102 153 s s' := by
  have hk4 : k < 4 := by have := hv.2.1; omega
  obtain ⟨nR, R⟩ := q
  obtain ⟨r2, r3⟩ := hq
  have r1 : nR ≤ 12 := hq12
  obtain ⟨a, a1, a2⟩ := think0 h hv h14
  unfold f_R_firstOther
  rw [a1, bv_s]
  obtain ⟨T, hT⟩ : ∃ T, T = srch V.2.2.2.1 (rowP f R) nR 0 (V.2.2.2.2 k) := ⟨_, rfl⟩
  show ∃ s', _ = some (srch V.2.2.2.1 (rowP f R) nR 0 (V.2.2.2.2 k), s') ∧ _
  rw [← hT]
  have rowOf : ∀ {G' : Nat → GV} {b : Mm}, Thk s V G' b → b 176 29 = nI nR ∧ ∀ i, i < nR → b 194 i = R i := fun ht => ⟨by rw [ht.2.2.2.2.2 _ _ (by omega) (by omega) (by omega)]; exact r2, fun i hi => by rw [ht.2.2.2.2.2 _ _ (by omega) (by omega) (by omega)]; exact r3 i hi⟩
  refine lp (α := Int32 × (Nat → GV) × Mm) (fun n m q => k_R_firstOther_10 n (nI k) o q.1 (nI m) q.2.2) (fun m q => Thk s V q.2.1 q.2.2 ∧ (∀ i, i < V.2.1 → GI V.1 (q.2.1 i)) ∧ ((q.1 = -9 ∧ T = srch V.2.2.2.1 (rowP f R) (nR - m) m (q.2.1 k)) ∨ (0 ≤ q.1 ∧ q.1 = T))) (fun r => ∃ s', r = some (T, s') ∧ RV s' V ∧ FrW 102 153 s s') nR ?_ ?_ KF 0 (-9, V.2.2.2.2, a) (by omega) (by rw [KF_1]; omega) ⟨a2, hv.G, Or.inl ⟨rfl, hT⟩⟩
  · intro n q ⟨h2, h3, h4⟩
    unfold k_R_firstOther_10
    obtain ⟨s', e1, e2, e3⟩ := h2.fin hv
    rw [(rowOf h2).1, if_pos (nI_le (Nat.le_refl _) (by omega)), e1, bv_s]
    rcases h4 with ⟨x2, x3⟩ | ⟨x1, x2⟩
    · rw [x2, x3, Nat.sub_self]; exact ⟨s', rfl, e2, e3⟩
    · rw [x2]; exact ⟨s', rfl, e2, e3⟩
  · intro n m q hlt ⟨h2, h3, h4⟩ ih
    obtain ⟨fd, G', aq⟩ := q
    try dsimp only at h2 h3 h4 ⊢
    unfold k_R_firstOther_10
    have hr := rowOf h2
    try simp only [] at hr
    rw [hr.1, if_neg (nI_ge hlt (by omega))]
    rcases h4 with ⟨x2, x3⟩ | ⟨x1, x2⟩
    · have x2 : fd = -9 := x2
      subst x2
      obtain ⟨a', e1, e2⟩ := h2.mon hv h3
      have eh : aq o k = f (G' k) := hof aq G' h2.2.1
      rw [if_neg nn_m9, ho, gd_n hk4 (by omega), gd_n (show m < 12 by omega) (by omega), nI_clamp (by omega), nI_clamp (by omega), eh, hr.2 m hlt]
      rw [show nR - m = (nR - (m + 1)) + 1 by omega] at x3
      unfold srch rowP at x3
      have hs : ∀ i, i < V.2.1 → GI V.1 (stepG V.2.2.2.1 (G' i)) := fun i hi => (h3 i hi).step hv.M hv.1
      unfold k_R_firstOther_43
      try simp only [] at e1
      by_cases c : f (G' k) = R m
      · simp only [c, not_true, decide_false, Bool.false_eq_true, if_false] at x3
        rw [if_pos c, e1, bv_s, nI_1]
        exact ih (-9, _, a') ⟨e2, hs, Or.inl ⟨rfl, x3⟩⟩
      · simp only [c, not_false_eq_true, decide_true, if_true] at x3
        rw [if_neg c, e1, bv_s, nI_1]
        exact ih (nI m, _, a') ⟨e2, hs, Or.inr ⟨nn_nI (by omega), x3.symm⟩⟩
    · rw [if_pos x1]
      obtain ⟨s', e1, e2, e3⟩ := h2.fin hv
      rw [e1, bv_s]
      exact ⟨s', by rw [x2], e2, e3⟩
