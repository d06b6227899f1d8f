/-! worth after some months of a company altered in mind -/
theorem worthInG_e {s : Mm} {V : CV} {k N : Nat} (h : RV s V) (hv : VOk V) (h14 : s 176 14 = 0) (hk : k < V.2.1) (hN : N ≤ 60) : ∃ s', f_R_worthIn s (nI k) (nI N) = some (gW (gIt V.2.2.2.1 N (V.2.2.2.2 k)), s') ∧ RV s' V ∧ FrW 102 153 s s' := by
  have hm := hv.2.1
  obtain ⟨s1, s2, s3, a1, a2, a3, a4, a5, a6, a7, a8, -⟩ := thinkGo_e h hv h14 hN
  unfold f_R_worthIn
  rw [a1, bv_s, a2, bv_s, if_pos (nI_pos' (by omega)), gd_n (show k < 4 by omega) (by omega), nm_s, nI_clamp (by omega), a6, bv_s, (a4.at hk).1]
  exact ⟨s3, rfl, a7, a8⟩
theorem worthInA_e {s : Mm} {V : CV} {N : Nat} (h : RV s V) (hv : VOk V) (h14 : s 176 14 = 0) (hN : N ≤ 60) : ∃ s', f_R_worthIn s (-9) (nI N) = some (sm V.2.1 (fun k => gW (gIt V.2.2.2.1 N (V.2.2.2.2 k))), s') ∧ RV s' V ∧ FrW 102 153 s s' := by
  have hm := hv.2.1
  obtain ⟨s1, s2, s3, a1, a2, a3, a4, a5, a6, a7, a8, -⟩ := thinkGo_e h hv h14 hN
  unfold f_R_worthIn
  rw [a1, bv_s, a2, bv_s, if_neg (by decide), RsumW_e a4 hm, bn_s, a6, bv_s]
  exact ⟨s3, rfl, a7, a8⟩
theorem putsV_e {a : Mm} {V : CV} {k : Nat} {p : Int32} (h : RV a V) (hk : k < V.2.1) (hm : V.2.1 ≤ 4) : ∃ a2, f_R_puts a (nI k) p = some a2 ∧ RV a2 (V.1, V.2.1, V.2.2.1, V.2.2.2.1, upG V.2.2.2.2 k (goG p (V.2.2.2.2 k))) ∧ ∀ lo hi, FrW lo hi a a2 := by
  rw [puts_e (by omega)]
  obtain ⟨a2, ea⟩ : ∃ a2, a2 = mU (mU (mU a 184 k p) 185 k 0) 186 k 0 := ⟨_, rfl⟩
  rw [← ea]
  have o2 : ∀ q j, ¬ (184 ≤ q ∧ q ≤ 186) → a2 q j = a q j := fun q j hq => by rw [ea]; simp only [mU_get]; rw [if_neg (by omega), if_neg (by omega), if_neg (by omega)]
  refine ⟨a2, rfl, ⟨h.1.eq (o2 _ _ (by omega)) (o2 _ _ (by omega)) (fun z => ⟨o2 _ _ (by omega), o2 _ _ (by omega), o2 _ _ (by omega), o2 _ _ (by omega)⟩), h.2.1.up (o2 _ _ (by omega)) (fun z hz => ?_) ?_, by rw [o2 _ _ (by omega)]; exact h.2.2⟩, fun lo hi => ⟨fun j _ => o2 _ _ (by omega), fun q j h1 h2 h3 => o2 q j (by omega)⟩⟩
  · rw [ea]; simp [rRow, mU_get, hz]
  · have hg := h.2.1.at hk
    rw [ea]; simp [rRow, mU_get, goG, hg.1, hg.2.1, hg.2.2.2.2.2]
theorem chg_e {s : Mm} {V : CV} (h : RV s V) (hv : VOk V) (h14 : s 176 14 = 0) : ∃ a1, f_R_changes s = some a1 ∧ RV a1 V ∧ a1 176 14 = 0 ∧ FrW 51 153 s a1 ∧ ∀ a3, FrW 102 153 a1 a3 → ∃ a4, f_R_changesBack a3 = some a4 ∧ RV a4 V ∧ FrW 51 153 s a4 := by
  obtain ⟨a1, b1, b2, b3, b4⟩ := changes_e h hv.1 hv.2.1
  have f1 : FrW 51 153 s a1 := b4.w.wid (by omega) (by omega)
  refine ⟨a1, b1, b2, f1.z h14, f1, fun a3 hf => ?_⟩
  have f3 := f1.tr (hf.wid (lo' := 51) (hi' := 153) (by omega) (by omega))
  obtain ⟨a4, d1, d2, d3⟩ := changesBack_e (b3.w hv.1 hv.2.1 hf (by omega)) hv.1 hv.2.1 (f3.z h14) hv.T
  exact ⟨a4, d1, d2, f3.tr d3.w⟩
/-! the best of some -/
def bsO (val : Nat → Int32) (skip : Nat → Bool) : Nat → Option (Int32 × Int32)
  | 0 => none
  | m + 1 => if skip m then bsO val skip m else match bsO val skip m with
    | none => some (nI m, val m)
    | some q => if q.2 < val m then some (nI m, val m) else some q
def bsG (val : Nat → Int32) (skip : Nat → Bool) (z : Int32 × Int32) (m : Nat) : Int32 × Int32 := (bsO val skip m).getD z
theorem bs_skip {val : Nat → Int32} {skip : Nat → Bool} {z : Int32 × Int32} {m : Nat} (h : skip m = true) : bsG val skip z (m + 1) = bsG val skip z m := by
  unfold bsG
  rw [bsO, h]; rfl
theorem bs_yes {val : Nat → Int32} {skip : Nat → Bool} {z : Int32 × Int32} {m : Nat} (h : skip m = false) (hc : (bsG val skip z m).2 < val m) : bsG val skip z (m + 1) = (nI m, val m) := by
  unfold bsG at hc ⊢
  rw [bsO, h]
  cases e : bsO val skip m with
  | none => rfl
  | some q =>
    rw [e] at hc
    have hc : q.2 < val m := hc
    simp [hc]
theorem bs_no {val : Nat → Int32} {skip : Nat → Bool} {z : Int32 × Int32} {m : Nat} (h : skip m = false) (hz : z.2 < 0) (hp : 0 ≤ val m) (hc : ¬ (bsG val skip z m).2 < val m) : bsG val skip z (m + 1) = bsG val skip z m := by
  unfold bsG at hc ⊢
  rw [bsO, h]
  cases e : bsO val skip m with
  | none =>
    rw [e] at hc
    exact absurd (Int32.lt_of_lt_of_le hz hp) hc
  | some q =>
    rw [e] at hc
    have hc : ¬ q.2 < val m := hc
    simp [hc]
theorem bs_some {val : Nat → Int32} {skip : Nat → Bool} {m0 : Nat} (h : skip m0 = false) : ∀ m, m0 < m → ∃ q, bsO val skip m = some q
  | 0, hm => absurd hm (by omega)
  | m + 1, hm => by
    rw [bsO]
    by_cases e : m0 = m
    · subst e
      rw [h]
      cases bsO val skip m0 with
      | none => exact ⟨_, rfl⟩
      | some q => simp only [Bool.false_eq_true, if_false]; split <;> exact ⟨_, rfl⟩
    · obtain ⟨q, hq⟩ := bs_some h m (by omega)
      rw [hq]
      split
      · exact ⟨_, rfl⟩
      · simp only; split <;> exact ⟨_, rfl⟩
theorem bs_same {val : Nat → Int32} {skip : Nat → Bool} {m0 m : Nat} (h : skip m0 = false) (hm : m0 < m) (z z' : Int32 × Int32) : bsG val skip z m = bsG val skip z' m := by
  obtain ⟨q, hq⟩ := bs_some (val := val) h m hm
  unfold bsG
  rw [hq]; rfl
theorem bs_pos {val : Nat → Int32} {skip : Nat → Bool} : ∀ m q, (∀ j, j < m → skip j = false → 0 ≤ val j) → bsO val skip m = some q → 0 ≤ q.2
  | 0, q, _, h => by cases h
  | m + 1, q, hp, h => by
    have ih := fun q => bs_pos (val := val) (skip := skip) m q (fun j hj => hp j (by omega))
    rw [bsO] at h
    cases hs : skip m with
    | true =>
      rw [hs, if_pos rfl] at h
      exact ih q h
    | false =>
      rw [hs, if_neg (by decide)] at h
      have hm := hp m (by omega) hs
      cases e : bsO val skip m with
      | none =>
        rw [e] at h
        have h := Option.some.inj h
        rw [← h]
        exact hm
      | some q2 =>
        rw [e] at h
        simp only at h
        by_cases c : q2.2 < val m
        · rw [if_pos c] at h
          have h := Option.some.inj h
          rw [← h]
          exact hm
        · rw [if_neg c] at h
          have h := Option.some.inj h
          rw [← h]
          exact ih q2 e
theorem bsG_r {val : Nat → Int32} {skip : Nat → Bool} {z : Int32 × Int32} {m : Nat} (hp : ∀ j, j < m → skip j = false → 0 ≤ val j) : bsG val skip z m = z ∨ 0 ≤ (bsG val skip z m).2 := by
  unfold bsG
  cases e : bsO val skip m with
  | none => exact Or.inl rfl
  | some q => exact Or.inr (bs_pos m q hp e)
theorem i32_nlt {a b : Int32} : (¬ a ≤ b) = (b < a) := by rw [i32_le, i32_lt]; exact propext ⟨fun h => by omega, fun h => by omega⟩
theorem GI.w0 {n : Nat} {g : GV} (h : GI n g) : 0 ≤ gW g := by rw [i32_le, l0]; exact h.2.1.1
/-- BEST_START -/
def wStart (V : CV) (k N j : Nat) : Int32 := gW (gIt V.2.2.2.1 N (goG (nI j) (V.2.2.2.2 k)))
theorem bestStartX_e {s : Mm} {V : CV} {k N : Nat} {w : Int32} (h : HC s 0 V) (hv : VOk V) (hk : k < V.2.1) (hN : N ≤ 60) : ∃ s', f_M_startOfMostWorth s (nI k) (nI N) w = some (if w = 0 then (bsG (wStart V k N) (fun _ => false) (-9, -1) V.1).1 else (bsG (wStart V k N) (fun _ => false) (-9, -1) V.1).2, s') ∧ Fr 2 s s' := by
  have hk4 : k < 4 := by have := hv.2.1; omega
  have hn6 := hv.1
  unfold f_M_startOfMostWorth
  refine lp (α := (Int32 × Int32) × Mm) (fun n i x => k_M_startOfMostWorth_10 n (nI k) (nI N) w x.1.1 x.1.2 (nI i) x.2) (fun i x => x.1 = bsG (wStart V k N) (fun _ => false) (-9, -1) i ∧ Fr 2 s x.2) (fun r => ∃ s', r = some (if w = 0 then (bsG (wStart V k N) (fun _ => false) (-9, -1) V.1).1 else (bsG (wStart V k N) (fun _ => false) (-9, -1) V.1).2, s') ∧ Fr 2 s s') V.1 ?_ ?_ KF 0 ((-9, -1), s) (by omega) (by rw [KF_1]; omega) ⟨rfl, Fr.rf⟩
  · intro n x ⟨e1, e2⟩
    unfold k_M_startOfMostWorth_10
    rw [(h.fr hv e2 (by omega) (by omega) (by omega)).1.1, if_pos (nI_le (Nat.le_refl _) (by omega)), e1]
    refine ⟨x.2, ?_, e2⟩
    by_cases c : w = 0
    · simp only [c, if_true]
    · simp only [c, if_false]
  · intro n i x hi ⟨e1, e2⟩ ih
    have h0 := h.fr hv e2 (by omega) (by omega) (by omega)
    unfold k_M_startOfMostWorth_10
    rw [h0.1.1, if_neg (nI_ge hi (by omega))]
    obtain ⟨a1, b1, b2, b3, b4⟩ := mind0 (k := k) h0 hv
    rw [b1, bn_s, giftAt_e hk4, bn_s, goTo_e, bv_s]
    obtain ⟨a2, ea⟩ : ∃ a2, a2 = mU (mU (mU a1 (110 + 5 * 2 + k) 2 (nI i)) (110 + 5 * 2 + k) 3 0) (110 + 5 * 2 + k) 4 0 := ⟨_, rfl⟩
    rw [← ea]
    have hm : Mnd x.2 V k (goG (nI i) (V.2.2.2.2 k)) a2 := by
      have hg := b2.2.1.at hk
      rw [upG_id] at hg
      refine b2.put hk4 hv.2.1 hn6 (fun q j hq => by rw [ea]; simp [mU_get, hq]) ?_
      rw [ea]
      simp only [gRow, mU_get, goG]
      simp [hg.1, hg.2.1, hg.2.2.2.2.2]
    have hgo : GI V.1 (goG (nI i) (V.2.2.2.2 k)) := (hv.G k hk).go hi
    obtain ⟨m1, m2, m3⟩ := hm
    obtain ⟨s', c1, c2, c3, c4⟩ := passGift_e (N := N) m1 m2 hv.M.n (by rw [upG_at]; exact hgo.1) hv.1 hv.2.1 hk hN
    have hw := (c3.at hk).1
    rw [upG_at, upG_at] at hw
    have hw : s' (110 + 5 * 2 + k) 0 = wStart V k N i := hw
    have f' := e2.tr (m3.tr c4)
    have hpos : 0 ≤ wStart V k N i := (hgo.it hv.M hn6 N).w0
    rw [c1, bv_s, hw, nI_1]
    by_cases c : wStart V k N i ≤ x.1.2
    · rw [if_pos c]
      rw [e1] at c
      exact ih (x.1, s') ⟨e1.trans (@bs_no (wStart V k N) (fun _ => false) (-9, -1) i rfl (show (-1 : Int32) < 0 by decide) hpos (fun z => by rw [← i32_nlt] at z; exact z c)).symm, f'⟩
    · rw [if_neg c, nm_s]
      rw [e1, i32_nlt] at c
      exact ih ((nI i, wStart V k N i), s') ⟨(@bs_yes (wStart V k N) (fun _ => false) (-9, -1) i rfl c).symm, f'⟩
theorem bestStartR_e {s : Mm} {V : CV} {k N : Nat} {w : Int32} (h : RV s V) (hv : VOk V) (h14 : s 176 14 = 0) (hk : k < V.2.1) (hN : N ≤ 60) : ∃ s', k_R_bestStart_59 KF (nI k) (nI N) w (-9) (-9) 0 s = some (if w = 0 then (bsG (wStart V k N) (fun _ => false) (-9, -9) V.1).1 else (bsG (wStart V k N) (fun _ => false) (-9, -9) V.1).2, s') ∧ RV s' V ∧ FrW 51 153 s s' := by
  have hn6 := hv.1
  refine lp (α := (Int32 × Int32) × Mm) (fun n i x => k_R_bestStart_59 n (nI k) (nI N) w x.1.1 x.1.2 (nI i) x.2) (fun i x => x.1 = bsG (wStart V k N) (fun _ => false) (-9, -9) i ∧ RV x.2 V ∧ FrW 51 153 s x.2) (fun r => ∃ s', r = some (if w = 0 then (bsG (wStart V k N) (fun _ => false) (-9, -9) V.1).1 else (bsG (wStart V k N) (fun _ => false) (-9, -9) V.1).2, s') ∧ RV s' V ∧ FrW 51 153 s s') V.1 ?_ ?_ KF 0 ((-9, -9), s) (by omega) (by rw [KF_1]; omega) ⟨rfl, h, FrW.rf⟩
  · intro n x ⟨e1, e2, e3⟩
    unfold k_R_bestStart_59
    rw [e2.1.1, if_pos (nI_le (Nat.le_refl _) (by omega)), e1]
    refine ⟨x.2, ?_, e2, e3⟩
    by_cases c : w = 0
    · simp only [c, if_true]
    · simp only [c, if_false]
  · intro n i x hi ⟨e1, e2, e3⟩ ih
    unfold k_R_bestStart_59 f_R_worthFrom
    rw [e2.1.1, if_neg (nI_ge hi (by omega))]
    obtain ⟨a1, b1, b2, b3, b4, b5⟩ := chg_e e2 hv (e3.z h14)
    obtain ⟨a2, c1, c2, c3⟩ := putsV_e (p := nI i) b2 hk hv.2.1
    have hgo : GI V.1 (goG (nI i) (V.2.2.2.2 k)) := (hv.G k hk).go hi
    obtain ⟨a3, d1, d2, d3⟩ := worthInG_e (k := k) c2 (hv.gUp hgo) ((c3 102 153).z b3) hk hN
    simp only [upG_at] at d1
    obtain ⟨a4, g1, g2, g3⟩ := b5 a3 ((c3 102 153).tr d3)
    have d1' : f_R_worthIn a2 (nI k) (nI N) = some (wStart V k N i, a3) := d1
    rw [b1, bv_s, c1, bv_s, d1', bn_s, g1, bv_s, bn_s, nI_1]
    have hpos : 0 ≤ wStart V k N i := (hgo.it hv.M hn6 N).w0
    by_cases c : x.1.2 < wStart V k N i
    · rw [if_pos c]
      rw [e1] at c
      exact ih ((nI i, wStart V k N i), a4) ⟨(@bs_yes (wStart V k N) (fun _ => false) (-9, -9) i rfl c).symm, g2, e3.tr g3⟩
    · rw [if_neg c]
      rw [e1] at c
      exact ih (x.1, a4) ⟨e1.trans (@bs_no (wStart V k N) (fun _ => false) (-9, -9) i rfl (show (-9 : Int32) < 0 by decide) hpos c).symm, g2, e3.tr g3⟩
def noGSW (a n w : Int32) (S : SV) : Int32 := fst3 (gNo (nI S.1.2.1) a) (btw n 0 60) (wNo w 1)
def vBestStart (a n w : Int32) (S : SV) : Int32 := if w = 0 then (bsG (wStart S.1 (ix a) (ix n)) (fun _ => false) (-9, -9) S.1.1).1 else (bsG (wStart S.1 (ix a) (ix n)) (fun _ => false) (-9, -9) S.1.1).2
theorem op_bestStart (a n w : Int32) : OpI (fun s => f_X_bestStart s a n w) (fun s => f_R_bestStart s a n w) := by
  refine OpI.q2 (mx' := fun s => f_M_startOfMostWorth s a n w) (mr := fun s => k_R_bestStart_36 a n w 0 s) (noGSW a n w) (vBestStart a n w) (fun S => Codes.fst (Codes.g _ _) (Codes.b _ _ _) (Codes.w _ _)) ?_ ?_ ?_ ?_
  · intro s S h
    unfold f_X_bestStart
    simp only [giftNo_e, bn_s, spanNo_e, whatNo_e, first_e, h.1.2.1.1, bn_eta]
    rfl
  · intro s S h
    show f_R_bestStart s a n w = _
    rw [Rn_bestStart, h.1.2.1.1]
    by_cases e : noGSW a n w S = 0
    · rw [if_pos e, show fst3 (gNo (nI S.1.2.1) a) (btw n 0 60) (wNo w 1) = 0 from e]
    · rw [if_neg e]
      unfold k_R_bestStart_36
      rw [if_neg (show ¬ fst3 (gNo (nI S.1.2.1) a) (btw n 0 60) (wNo w 1) = 0 from e), bn_eta]
      rfl
  · intro s S h e
    obtain ⟨e1, e2, e3⟩ := fst3_0 e
    obtain ⟨k, hk, rfl⟩ := gNo_0 (by have := h.2.1.2.1; omega) e1
    obtain ⟨N, -, hN, rfl⟩ := btw_0 (lo := 0) (hi := 60) (by omega) (by omega) e2
    have hv := h.2.1
    have hm := hv.2.1
    obtain ⟨⟨p, hp, hh⟩, -⟩ := hv.H k hk
    obtain ⟨s', c1, c2⟩ := bestStartX_e (w := w) h.1 hv hk hN
    rw [bs_same (m0 := p) rfl hp (-9, -1) (-9, -9)] at c1
    unfold vBestStart
    rw [ix_nI (by omega), ix_nI (by omega)]
    exact ⟨s', c1, c2.q⟩
  · intro s S ho h e
    obtain ⟨e1, e2, e3⟩ := fst3_0 e
    obtain ⟨k, hk, rfl⟩ := gNo_0 (by have := ho.1.2.1; omega) e1
    obtain ⟨N, -, hN, rfl⟩ := btw_0 (lo := 0) (hi := 60) (by omega) (by omega) e2
    have hv := ho.1
    have hm := hv.2.1
    obtain ⟨s', c1, c2, c3⟩ := bestStartR_e (w := w) h.1 hv h.2.1 hk hN
    unfold vBestStart
    rw [ix_nI (by omega), ix_nI (by omega)]
    exact ⟨s', c1, c2, c3.q (by omega) (by omega)⟩
