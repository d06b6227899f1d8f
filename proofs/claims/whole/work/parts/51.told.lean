/-! told by the ROW: WHO_HAD, WHAT_IT_WAS -/
theorem become_e {s : Mm} {o : Nat} {a b : Int32} : ∃ s', f_F_become s o a b = some s' ∧ fRow s' o = (a, b, s o 2, s o 3, s o 7) ∧ s' o 4 = wtK a b ∧ s' o 5 = adK a b ∧ s' o 6 = swK a b ∧ s' o 8 = s o 8 ∧ ∀ q j, q ≠ o → s' q j = s q j := by
  unfold f_F_become
  simp only [nm_s, waitsOf_e, addsOf_e, swellsOf_e, bn_s]
  refine ⟨_, rfl, ?_, ?_, ?_, ?_, ?_, fun q j hq => ?_⟩
  all_goals simp [mU_get, fRow]
  all_goals simp [hq]
theorem Mnd.put {s a a' : Mm} {V : CV} {k : Nat} {g g' : GV} (h : Mnd s V k g a) (hk : k < 4) (hm : V.2.1 ≤ 4) (hn : V.1 ≤ 6) (he : ∀ q j, q ≠ 110 + 5 * 2 + k → a' q j = a q j) (h1 : gRow a' (110 + 5 * 2 + k) = g') : Mnd s V k g' a' := by
  obtain ⟨x1, x2, x3⟩ := h
  refine ⟨x1.o hn (by omega) (fun q j hq => he q j (by omega)), ?_, x3.tr (fun q j hq => he q j (fun e => hq (e ▸ ownG (c := 2) (by omega))))⟩
  have := x2.up hk hm (by omega) he h1
  rw [upG_up] at this
  exact this
theorem RowX.fr {s a : Mm} {q : Nat × (Nat → Int32)} (h : RowX s q) (hf : Fr 2 s a) : RowX a q := by
  obtain ⟨r1, r2, r3⟩ := h
  exact ⟨r1, by rw [hf 171 _ (by unfold own; omega)]; exact r2, fun i hi => by rw [hf 172 _ (by unfold own; omega)]; exact r3 i hi⟩
theorem RowR.w {s a : Mm} {q : Nat × (Nat → Int32)} {lo hi : Nat} (h : RowR s q) (hf : FrW lo hi s a) : RowR a q := by
  obtain ⟨r2, r3⟩ := h
  exact ⟨by rw [hf.2 _ _ (by omega) (by omega) (by omega)]; exact r2, fun i hi => by rw [hf.2 _ _ (by omega) (by omega) (by omega)]; exact r3 i hi⟩
theorem FrW.z {lo hi : Nat} {s a : Mm} (hf : FrW lo hi s a) (h : s 176 14 = 0) : a 176 14 = 0 := by rw [hf.2 _ _ (by omega) (by omega) (by omega)]; exact h
/-- WHO_HAD's starts -/
def pStart (V : CV) (k : Nat) (q : Nat × (Nat → Int32)) (j : Nat) : Bool := decide (srch V.2.2.2.1 (rowP gH q.2) q.1 0 (goG (nI j) (V.2.2.2.2 k)) = -9)
theorem startsTold_e {s : Mm} {V : CV} {k : Nat} {q : Nat × (Nat → Int32)} (h : HC s 0 V) (hv : VOk V) (hq : RowX s q) (hk : k < V.2.1) : ∃ s', f_M_startsToldBy s (nI k) = some (nI (BS (pStart V k q) V.1), s') ∧ Fr 2 s s' := by
  have hk4 : k < 4 := by have := hv.2.1; omega
  have hn6 := hv.1
  unfold f_M_startsToldBy
  refine lp (α := Int32 × Mm) (fun n i x => k_M_startsToldBy_4 n (nI k) x.1 (nI i) x.2) (fun i x => x.1 = nI (BS (pStart V k q) i) ∧ Fr 2 s x.2) (fun r => ∃ s', r = some (nI (BS (pStart V k q) V.1), s') ∧ Fr 2 s s') V.1 ?_ ?_ KF 0 (0, s) (by omega) (by rw [KF_1]; omega) ⟨rfl, Fr.rf⟩
  · intro n x ⟨e1, e2⟩
    unfold k_M_startsToldBy_4
    rw [(h.fr hv e2 (by omega) (by omega) (by omega)).1.1, if_pos (nI_le (Nat.le_refl _) (by omega)), e1]
    exact ⟨x.2, rfl, e2⟩
  · intro n i x hi ⟨e1, e2⟩ ih
    have h0 := h.fr hv e2 (by omega) (by omega) (by omega)
    unfold k_M_startsToldBy_4
    rw [h0.1.1, if_neg (nI_ge hi (by omega))]
    obtain ⟨a1, b1, b2, b3, b4⟩ := mind0 (k := k) h0 hv
    rw [b1, bn_s, giftAt_e hk4, bn_s, goTo_e, bv_s]
    obtain ⟨a2, ea⟩ : ∃ a2, a2 = mU (mU (mU a1 (110 + 5 * 2 + k) 2 (nI i)) (110 + 5 * 2 + k) 3 0) (110 + 5 * 2 + k) 4 0 := ⟨_, rfl⟩
    rw [← ea]
    have hm : Mnd x.2 V k (goG (nI i) (V.2.2.2.2 k)) a2 := by
      have hg := b2.2.1.at hk
      rw [upG_id] at hg
      refine b2.put hk4 hv.2.1 hn6 (fun q j hq => by rw [ea]; simp [mU_get, hq]) ?_
      rw [ea]
      simp only [gRow, mU_get, goG]
      simp [hg.1, hg.2.1, hg.2.2.2.2.2]
    have hgo : HOk V.1 (goG (nI i) (V.2.2.2.2 k)) := ⟨⟨i, hi, rfl⟩, Or.inl rfl⟩
    obtain ⟨s', c1, c2⟩ := notTold_e (hq.fr (e2.tr hm.2.2)) hm hv hgo hk
    unfold f_M_firstNotAsTold
    rw [giftAt_e hk4, bn_s, c1, bn_s, nI_1]
    by_cases c : srch V.2.2.2.1 (rowP gH q.2) q.1 0 (goG (nI i) (V.2.2.2.2 k)) = -9
    · rw [if_pos c, e1, nm_s, BS_s (by unfold pStart; rw [c]; rfl) (by omega)]
      exact ih (_, s') ⟨rfl, e2.tr c2⟩
    · rw [if_neg c]
      exact ih (x.1, s') ⟨by rw [BS_n (by unfold pStart; simp [c])]; exact e1, e2.tr c2⟩
theorem srch_r (F : Nat → FV) (p : Nat → GV → Bool) : ∀ (d m : Nat) (g : GV), srch F p d m g = -9 ∨ ∃ j, m ≤ j ∧ j < m + d ∧ srch F p d m g = nI j
  | 0, _, _ => Or.inl rfl
  | d + 1, m, g => by
    unfold srch
    by_cases c : p m g = true
    · rw [if_pos c]; exact Or.inr ⟨m, by omega, by omega, rfl⟩
    · rw [if_neg c]
      rcases srch_r F p d (m + 1) (stepG F g) with h | ⟨j, h1, h2, h3⟩
      · exact Or.inl h
      · exact Or.inr ⟨j, by omega, by omega, h3⟩
theorem srch_0 {F : Nat → FV} {p : Nat → GV → Bool} {d m : Nat} {g : GV} (h : d + m < 2 ^ 31) : (0 ≤ srch F p d m g) = ¬ (srch F p d m g = -9) := by
  rcases srch_r F p d m g with e | ⟨j, h1, h2, e⟩
  · rw [e]; simp
  · rw [e]
    exact propext ⟨fun _ => m9_ne (by omega), fun _ => nI_pos' (by omega)⟩
theorem RstartsOf_e {s : Mm} {V : CV} {k : Nat} {q : Nat × (Nat → Int32)} (h : RV s V) (hv : VOk V) (h14 : s 176 14 = 0) (hq : RowR s q) (hq12 : q.1 ≤ 12) (hk : k < V.2.1) : ∃ s', f_R_startsOf s (nI k) = some (nI (BS (pStart V k q) V.1), s') ∧ RV s' V ∧ FrW 51 153 s s' := by
  have hk4 : k < 4 := by have := hv.2.1; omega
  have hn6 := hv.1
  unfold f_R_startsOf
  refine lp (α := Int32 × Mm) (fun n i x => k_R_startsOf_4 n (nI k) x.1 (nI i) x.2) (fun i x => x.1 = nI (BS (pStart V k q) i) ∧ RV x.2 V ∧ FrW 51 153 s x.2) (fun r => ∃ s', r = some (nI (BS (pStart V k q) V.1), s') ∧ RV s' V ∧ FrW 51 153 s s') V.1 ?_ ?_ KF 0 (0, s) (by omega) (by rw [KF_1]; omega) ⟨rfl, h, FrW.rf⟩
  · intro n x ⟨e1, e2, e3⟩
    unfold k_R_startsOf_4
    rw [e2.1.1, if_pos (nI_le (Nat.le_refl _) (by omega)), e1]
    exact ⟨x.2, rfl, e2, e3⟩
  · intro n i x hi ⟨e1, e2, e3⟩ ih
    unfold k_R_startsOf_4
    rw [e2.1.1, if_neg (nI_ge hi (by omega))]
    obtain ⟨a1, b1, b2, b3, b4⟩ := changes_e e2 hv.1 hv.2.1
    rw [b1, bv_s, puts_e hk4, bv_s]
    obtain ⟨a2, ea⟩ : ∃ a2, a2 = mU (mU (mU a1 184 k (nI i)) 185 k 0) 186 k 0 := ⟨_, rfl⟩
    rw [← ea]
    have f2 : FrW 51 153 a1 a2 := ⟨fun j _ => by rw [ea]; simp [mU_get], fun q j h1 h2 h3 => by rw [ea]; simp only [mU_get]; rw [if_neg (by omega), if_neg (by omega), if_neg (by omega)]⟩
    have o2 : ∀ q j, ¬ (184 ≤ q ∧ q ≤ 186) → a2 q j = a1 q j := fun q j hq => by rw [ea]; simp only [mU_get]; rw [if_neg (by omega), if_neg (by omega), if_neg (by omega)]
    have hi' : GI V.1 (goG (nI i) (V.2.2.2.2 k)) := (hv.G k hk).go hi
    have hv' : VOk (V.1, V.2.1, V.2.2.1, V.2.2.2.1, upG V.2.2.2.2 k (goG (nI i) (V.2.2.2.2 k))) := hv.gUp hi'
    have hr : RV a2 (V.1, V.2.1, V.2.2.1, V.2.2.2.1, upG V.2.2.2.2 k (goG (nI i) (V.2.2.2.2 k))) := by
      refine ⟨b2.1.eq (o2 _ _ (by omega)) (o2 _ _ (by omega)) (fun z => ⟨o2 _ _ (by omega), o2 _ _ (by omega), o2 _ _ (by omega), o2 _ _ (by omega)⟩), b2.2.1.up (o2 _ _ (by omega)) (fun z hz => ?_) ?_, by rw [o2 _ _ (by omega)]; exact b2.2.2⟩
      · rw [ea]; simp [rRow, mU_get, hz]
      · have hg := b2.2.1.at hk
        rw [ea]; simp [rRow, mU_get, goG, hg.1, hg.2.1, hg.2.2.2.2.2]
    have f02 : FrW 51 153 s a2 := (e3.tr (b4.w.wid (by omega) (by omega))).tr f2
    obtain ⟨a3, c1, c2, c3⟩ := RfirstOther_e (o := 184) (f := gH) (k := k) (hq.w f02) hq12 hr (f02.z h14) hv' hk rfl (fun a G hG => (hG.at hk).2.2.1)
    simp only [upG_at] at c1
    have f03 : FrW 51 153 s a3 := f02.tr (c3.wid (by omega) (by omega))
    have hs : SB a3 1 V := (b3.w hv.1 hv.2.1 (FrW.tr (hi := 153) (⟨fun j _ => o2 _ _ (by omega), f2.2⟩ : FrW 102 153 a1 a2) c3) (by omega))
    obtain ⟨a4, d1, d2, d3⟩ := changesBack_e hs hv.1 hv.2.1 (f03.z h14) hv.T
    have f04 : FrW 51 153 s a4 := f03.tr d3.w
    rw [c1, bn_s]
    simp only [srch_0 (show q.1 + 0 < 2 ^ 31 by omega)]
    unfold k_R_startsOf_42
    simp only [d1, bv_s, nm_s, nI_1, or0]
    by_cases c : srch V.2.2.2.1 (rowP gH q.2) q.1 0 (goG (nI i) (V.2.2.2.2 k)) = -9
    · rw [if_neg (not_not_intro c), e1, BS_s (by unfold pStart; rw [c]; rfl) (by omega)]
      exact ih (_, a4) ⟨rfl, d2, f04⟩
    · rw [if_pos c]
      exact ih (x.1, a4) ⟨by rw [BS_n (by unfold pStart; simp [c])]; exact e1, d2, f04⟩
def vWho (a w : Int32) (S : SV) : Int32 := if w = 0 then srch S.1.2.2.2.1 (rowP gH S.2.2.2.2.1.2) S.2.2.2.2.1.1 0 (S.1.2.2.2.2 (ix a)) else nI (BS (pStart S.1 (ix a) S.2.2.2.2.1) S.1.1)
theorem op_whoHad (a w : Int32) : OpI (fun s => f_X_whoHad s a w) (fun s => f_R_whoHad s a w) := by
  refine OpI.q2 (mx' := fun s => if w = 0 then f_M_firstNotWith s a else f_M_startsToldBy s a) (mr := fun s => k_R_whoHad_27 a w 0 s) (noGW 1 a w) (vWho a w) (fun S => Codes.fst (Codes.g _ _) (Codes.w _ _) Codes.z) ?_ ?_ ?_ ?_
  · intro s S h
    unfold f_X_whoHad
    simp only [giftNo_e, bn_s, whatNo_e, first_e, h.1.2.1.1, bn_eta]
    rfl
  · intro s S h
    show f_R_whoHad s a w = _
    rw [Rn_whoHad, h.1.2.1.1]
    by_cases e : noGW 1 a w S = 0
    · rw [if_pos e, show fst3 (gNo (nI S.1.2.1) a) (wNo w 1) 0 = 0 from e]
    · rw [if_neg e]
      unfold k_R_whoHad_27
      rw [if_neg (show ¬ fst3 (gNo (nI S.1.2.1) a) (wNo w 1) 0 = 0 from e), bn_eta]
      rfl
  · intro s S h e
    obtain ⟨e1, e2, e3⟩ := fst3_0 e
    obtain ⟨k, hk, rfl⟩ := gNo_0 (by have := h.2.1.2.1; omega) e1
    have hv := h.2.1
    have hm := hv.2.1
    have hrow := h.2.2.2.2.2.1
    unfold vWho
    simp only [ix_nI (show k < 2 ^ 31 by omega)]
    by_cases c : w = 0
    · simp only [c, if_true]
      obtain ⟨s1, a1, a2, a3, a4⟩ := mind0 (k := k) h.1 hv
      unfold f_M_firstNotWith f_M_firstNotAsTold
      simp only [a1, bn_s, giftAt_e (show k < 4 by omega), bn_eta]
      obtain ⟨s', c1, c2⟩ := notTold_e (hrow.fr a2.2.2) a2 hv (hv.H k hk) hk
      exact ⟨s', c1, c2.q⟩
    · simp only [c, if_false]
      obtain ⟨s', c1, c2⟩ := startsTold_e h.1 hv hrow hk
      exact ⟨s', c1, c2.q⟩
  · intro s S ho h e
    obtain ⟨e1, e2, e3⟩ := fst3_0 e
    obtain ⟨k, hk, rfl⟩ := gNo_0 (by have := ho.1.2.1; omega) e1
    have hv := ho.1
    have hm := hv.2.1
    have hrow := h.2.2.2.2.2.1
    unfold vWho k_R_whoHad_27
    simp only [ix_nI (show k < 2 ^ 31 by omega), if_true, bn_eta]
    by_cases c : w = 0
    · simp only [c, if_true]
      obtain ⟨s', c1, c2, c3⟩ := RfirstOther_e (o := 184) (f := gH) (k := k) hrow ho.2.2.2.2 h.1 h.2.1 hv hk rfl (fun a G hG => (hG.at hk).2.2.1)
      exact ⟨s', c1, c2, c3.q (by omega) (by omega)⟩
    · simp only [c, if_false]
      obtain ⟨s', c1, c2, c3⟩ := RstartsOf_e h.1 hv h.2.1 hrow ho.2.2.2.2 hk
      exact ⟨s', c1, c2, c3.q (by omega) (by omega)⟩
/-- WHAT_IT_WAS -/
def pWas (Vx : Int32 → CV) (k : Nat) (q : Nat × (Nat → Int32)) (j : Nat) : Bool := decide (srch (Vx (nI j)).2.2.2.1 (rowP gW q.2) q.1 0 ((Vx (nI j)).2.2.2.2 k) = -9)
theorem bitsFor_e {s : Mm} {V : CV} {Vx : Int32 → CV} {o i k N : Nat} {q : Nat × (Nat → Int32)} (h : RV s V) (h14 : s 176 14 = 0) (hq : RowR s q) (hq12 : q.1 ≤ 12) (hN : N ≤ 13) (hi : i < aL o) (ha : aL o < 2 ^ 31) (ho : 178 ≤ o ∧ o ≤ 188) (h0 : Vx (s o i) = V) (hup : ∀ a x v, RV a (Vx x) → RV (mU a o i v) (Vx v)) (hok : ∀ j, j < N → VOk (Vx (nI j))) (hk : ∀ x, k < (Vx x).2.1) : ∃ s', f_R_bitsFor s o (nI i) (nI N) (nI k) = some (nI (BS (pWas Vx k q) N), s') ∧ RV s' V ∧ FrW 102 153 s s' := by
  unfold f_R_bitsFor
  rw [gd_n hi ha, nm_s, nI_clamp (by omega)]
  have fm : ∀ (a : Mm) (v : Int32), FrW 102 153 a (mU a o i v) := fun a v => ⟨fun j _ => by rw [mU_get, if_neg (by omega)], fun z j h1 h2 h3 => by rw [mU_get, if_neg (by omega)]⟩
  refine lp (α := Int32 × Int32 × Mm) (fun n m x => k_R_bitsFor_11 n o (nI i) (nI N) (nI k) (s o i) x.1 (nI m) x.2.2) (fun m x => x.1 = nI (BS (pWas Vx k q) m) ∧ RV x.2.2 (Vx x.2.1) ∧ FrW 102 153 s x.2.2) (fun r => ∃ s', r = some (nI (BS (pWas Vx k q) N), s') ∧ RV s' V ∧ FrW 102 153 s s') N ?_ ?_ KF 0 (0, s o i, s) (by omega) (by rw [KF_1]; omega) ⟨rfl, by rw [h0]; exact h, FrW.rf⟩
  · intro n x ⟨e1, e2, e3⟩
    unfold k_R_bitsFor_11
    rw [if_pos (nI_le (Nat.le_refl _) (by omega)), gd_n hi ha, nm_s, nI_clamp (by omega), e1]
    have := hup x.2.2 _ (s o i) e2
    rw [h0] at this
    exact ⟨_, rfl, this, e3.tr (fm _ _)⟩
  · intro n m x hm ⟨e1, e2, e3⟩ ih
    unfold k_R_bitsFor_11
    rw [if_neg (nI_ge hm (by omega)), gd_n hi ha, nm_s, nI_clamp (by omega)]
    have hr := hup x.2.2 _ (nI m) e2
    have f2 := e3.tr (fm x.2.2 (nI m))
    obtain ⟨a3, c1, c2, c3⟩ := RfirstOther_e (o := 182) (f := gW) (k := k) (hq.w f2) hq12 hr (f2.z h14) (hok m hm) (hk _) rfl (fun a G hG => (hG.at (hk _)).1)
    rw [c1, bn_s]
    simp only [srch_0 (show q.1 + 0 < 2 ^ 31 by omega), nm_s, nI_1, or0]
    by_cases c : srch (Vx (nI m)).2.2.2.1 (rowP gW q.2) q.1 0 ((Vx (nI m)).2.2.2.2 k) = -9
    · rw [if_neg (not_not_intro c), e1, BS_s (by unfold pWas; rw [c]; rfl) (by omega)]
      exact ih (_, nI m, a3) ⟨rfl, c2, f2.tr c3⟩
    · rw [if_pos c]
      exact ih (x.1, nI m, a3) ⟨by rw [BS_n (by unfold pWas; simp [c])]; exact e1, c2, f2.tr c3⟩
def VxK (V : CV) (p : Nat) (x : Int32) : CV := (V.1, V.2.1, V.2.2.1, upF V.2.2.2.1 p (x, fI (V.2.2.2.1 p), fD (V.2.2.2.1 p), fN (V.2.2.2.1 p), fT (V.2.2.2.1 p)), V.2.2.2.2)
def VxI (V : CV) (p : Nat) (x : Int32) : CV := (V.1, V.2.1, V.2.2.1, upF V.2.2.2.1 p (fK (V.2.2.2.1 p), x, fD (V.2.2.2.1 p), fN (V.2.2.2.1 p), fT (V.2.2.2.1 p)), V.2.2.2.2)
def VxG (V : CV) (k : Nat) (x : Int32) : CV := (V.1, V.2.1, V.2.2.1, V.2.2.2.1, upG V.2.2.2.2 k (gW (V.2.2.2.2 k), gZ' (V.2.2.2.2 k), gH (V.2.2.2.2 k), x, gB (V.2.2.2.2 k), gP (V.2.2.2.2 k)))
theorem nIr {j N : Nat} (h : j < N) (hN : N < 2 ^ 31) : 0 ≤ (nI j).toInt ∧ (nI j).toInt ≤ N - 1 := by
  rw [nI_toInt (by omega)]; omega
theorem VxK.ok {V : CV} {p j : Nat} (h : VOk V) (hp : p < V.1) (hj : j < 6) : VOk (VxK V p (nI j)) := h.fUp (by
  obtain ⟨h1, h2, h3, h4, h5⟩ := h.F hp
  exact ⟨nIr (N := 6) hj (by omega), h2, h3, h4, h5⟩)
theorem VxI.ok {V : CV} {p j : Nat} (h : VOk V) (hp : p < V.1) (hj : j < 10) : VOk (VxI V p (nI j)) := h.fUp (by
  obtain ⟨h1, h2, h3, h4, h5⟩ := h.F hp
  exact ⟨h1, nIr (N := 10) hj (by omega), h3, h4, h5⟩)
theorem VxG.ok {V : CV} {k j : Nat} (h : VOk V) (hk : k < V.2.1) (hj : j < 13) : VOk (VxG V k (nI j)) := h.gUp (by
  obtain ⟨h1, h2, h3, h4, h5⟩ := h.G k hk
  have := nIr (N := 13) hj (by omega)
  exact ⟨h1, h2, h3, ⟨this.1, by show (nI j).toInt ≤ 99; omega⟩, h5⟩)
theorem VxK.up {V : CV} {p : Nat} (hp : p < V.1) (a : Mm) (x v : Int32) (h : RV a (VxK V p x)) : RV (mU a 178 p v) (VxK V p v) := by
  obtain ⟨h1, h2, h3⟩ := h
  refine ⟨?_, h2.eq rfl (fun z => rfl), h3⟩
  have e := RFv.up (s := a) (s' := mU a 178 p v) (k := p) (f := (v, fI (V.2.2.2.1 p), fD (V.2.2.2.1 p), fN (V.2.2.2.1 p), fT (V.2.2.2.1 p))) h1 hp rfl rfl (by simp only [VxK, upF_at]) (fun z hz => ⟨by rw [mU_get, if_neg (by omega)], rfl, rfl, rfl⟩) (by simp [mU_get])
  have hb := h1.2 p hp
  simp only [VxK, upF_at, upF_up] at e hb
  exact e hb.2.1 hb.2.2.1 hb.2.2.2.1
theorem VxI.up {V : CV} {p : Nat} (hp : p < V.1) (a : Mm) (x v : Int32) (h : RV a (VxI V p x)) : RV (mU a 179 p v) (VxI V p v) := by
  obtain ⟨h1, h2, h3⟩ := h
  refine ⟨?_, h2.eq rfl (fun z => rfl), h3⟩
  have hb := h1.2 p hp
  have e := fun y => RFv.up (s := a) (s' := mU a 179 p v) (k := p) (f := (fK (V.2.2.2.1 p), v, fD (V.2.2.2.1 p), fN (V.2.2.2.1 p), fT (V.2.2.2.1 p))) h1 hp rfl rfl (by simp only [VxI, upF_at]) (fun z hz => ⟨rfl, by rw [mU_get, if_neg (by omega)], rfl, rfl⟩) y (by simp [mU_get])
  simp only [VxI, upF_at, upF_up] at e hb
  exact e hb.1 hb.2.2.1 hb.2.2.2.1
theorem VxG.up {V : CV} {k : Nat} (hk : k < V.2.1) (a : Mm) (x v : Int32) (h : RV a (VxG V k x)) : RV (mU a 185 k v) (VxG V k v) := by
  obtain ⟨h1, h2, h3⟩ := h
  refine ⟨h1.eq rfl rfl (fun z => ⟨rfl, rfl, rfl, rfl⟩), ?_, h3⟩
  have hb := h2.at hk
  have e := RGv.up (s := a) (s' := mU a 185 k v) (k := k) (g := (gW (V.2.2.2.2 k), gZ' (V.2.2.2.2 k), gH (V.2.2.2.2 k), v, gB (V.2.2.2.2 k), gP (V.2.2.2.2 k))) h2 rfl (fun z hz => by simp [rRow, mU_get, hz])
  simp only [VxG, upG_at, upG_up] at e hb
  refine e ?_
  simp [rRow, mU_get, hb.1, hb.2.1, hb.2.2.1, hb.2.2.2.2.1, hb.2.2.2.2.2]
theorem VxK.id {V : CV} (p : Nat) : VxK V p (fK (V.2.2.2.1 p)) = V := by unfold VxK; rw [upF_id]
theorem VxI.id {V : CV} (p : Nat) : VxI V p (fI (V.2.2.2.1 p)) = V := by unfold VxI; rw [upF_id]
theorem VxG.id {V : CV} (k : Nat) : VxG V k (gK (V.2.2.2.2 k)) = V := by unfold VxG; rw [upG_id]
/-- the object's, one kind or figure tried -/
theorem holderOf_e {s : Mm} {V : CV} {k p : Nat} (h : HC s 0 V) (hv : VOk V) (hk : k < V.2.1) (hp : p < V.1) (hh : gH (V.2.2.2.2 k) = nI p) : ∃ a, f_M_holderOf s (nI k) = some (33 + 7 * 2 + p, a) ∧ HC a 2 V ∧ HC a 0 V ∧ Fr 2 s a := by
  obtain ⟨s1, a1, a2, a3, a4, a5⟩ := recall_e h hv
  unfold f_M_holderOf
  have := hv.2.1
  have := hv.1
  rw [a1, bn_s, giftAt_e (by omega), bn_s, (a2.2.1.at hk).2.2.1, hh, friendAt_e (by omega), bn_s]
  exact ⟨s1, rfl, a2, a5, a4⟩
theorem becomeV_e {s a : Mm} {V : CV} {p : Nat} {x y : Int32} (h : HC a 2 V) (hv : VOk V) (hp : p < V.1) (hf : Fr 2 s a) : ∃ a', f_F_become a (33 + 7 * 2 + p) x y = some a' ∧ HF a' 2 V.1 (upF V.2.2.2.1 p (x, y, fD (V.2.2.2.1 p), fN (V.2.2.2.1 p), fT (V.2.2.2.1 p))) ∧ HG a' 2 V.2.1 V.2.2.2.2 ∧ Fr 2 s a' := by
  have hn6 := hv.1
  obtain ⟨s', e1, e2, e3, e4, e5, e6, e7⟩ := become_e (s := a) (o := 33 + 7 * 2 + p) (a := x) (b := y)
  have hb := h.1.at hp
  rw [hb.2.2.1, hb.2.2.2.1, hb.2.2.2.2] at e2
  refine ⟨s', e1, h.1.up (by omega) hn6 (by omega) e7 e2 e3 e4 e5, h.2.1.o hv.2.1 (by omega) (fun q j hq => e7 q j (by omega)), hf.tr (fun q j hq => e7 q j (fun z => hq (z ▸ ownF (c := 2) (by omega))))⟩
