/-! x -/
/-- DOOR_WANTED -/
def skD (j : Nat) : Bool := decide (j = 0)
def wD (V : CV) (p N j : Nat) : Int32 := wDr V p N (nI j)
theorem dr {j : Nat} (h1 : 1 ≤ j) (h2 : j < 100) : 1 ≤ (nI j).toInt ∧ (nI j).toInt ≤ 99 := by rw [nI_toInt (by omega)]; omega
theorem doorX_e {s : Mm} {V : CV} {p N : Nat} {w : Int32} (h : HC s 0 V) (hv : VOk V) (hp : p < V.1) (hN : N ≤ 60) : ∃ s', f_M_doorOfMostHands s (nI p) (nI N) w = some (if w = 0 then (bsG (wD V p N) skD (1, -1) 100).1 else (bsG (wD V p N) skD (1, -1) 100).2, s') ∧ Fr 2 s s' := by
  have hn6 := hv.1
  unfold f_M_doorOfMostHands
  refine lp (α := (Int32 × Int32) × Mm) (fun n i x => k_M_doorOfMostHands_9 n (nI p) (nI N) w x.1.1 x.1.2 (nI i) x.2) (fun i x => 1 ≤ i ∧ x.1 = bsG (wD V p N) skD (1, -1) i ∧ Fr 2 s x.2) (fun r => ∃ s', r = some (if w = 0 then (bsG (wD V p N) skD (1, -1) 100).1 else (bsG (wD V p N) skD (1, -1) 100).2, s') ∧ Fr 2 s s') 100 ?_ ?_ KF 1 ((1, -1), s) (by omega) (by rw [KF_1]; omega) ⟨by omega, rfl, Fr.rf⟩
  · intro n x ⟨h1, e1, e2⟩
    unfold k_M_doorOfMostHands_9
    rw [if_pos (show (99 : Int32) < nI 100 from by decide), e1]
    refine ⟨x.2, ?_, e2⟩
    by_cases d : w = 0
    · simp only [d, if_true]
    · simp only [d, if_false]
  · intro n i x hi ⟨h1, e1, e2⟩ ih
    have h0 := h.fr hv e2 (by omega) (by omega) (by omega)
    unfold k_M_doorOfMostHands_9
    rw [if_neg (show ¬ (99 : Int32) < nI i from nI_nlt (a := 99) (by omega) (by omega))]
    obtain ⟨s1, a1, a2, a3, a4, a5⟩ := recall_e h0 hv
    rw [a1, bn_s, friendAt_e (by omega), bn_s, nm_s]
    have hb := a2.1.at hp
    obtain ⟨b1, b2, b3⟩ := HF.set (j := 2) (x := nI i) (f := (fK (V.2.2.2.1 p), fI (V.2.2.2.1 p), nI i, fN (V.2.2.2.1 p), fT (V.2.2.2.1 p))) a2 hv hp (Or.inl rfl) (by simp [fRow, mU_get, hb.1, hb.2.1, hb.2.2.2.1, hb.2.2.2.2]) rfl rfl
    have hv' := VxD.ok hv hp (dr h1 hi)
    obtain ⟨s2, c1, c2, c3, c4, c5, c6⟩ := pass_e (N := N) b1 b2 (fun q _ => rfl) hv'.M.n hv'.H hv.1 hv.2.1 (by omega) hN
    rw [c1, bv_s, allHands_e c3 hv.2.1, bn_s, nI_1]
    have f' : Fr 2 s s2 := e2.tr ((a4.tr b3).tr c6)
    have hsk : skD i = false := decide_eq_false (by omega)
    have hpos : 0 ≤ wD V p N i := hv'.sP N
    show ∃ s', (if wD V p N i ≤ x.1.2 then _ else k_M_doorOfMostHands_9 n (nI p) (nI N) w (nI i) (wD V p N i) (nI (i + 1)) s2) = _ ∧ _
    by_cases c : wD V p N i ≤ x.1.2
    · rw [if_pos c]
      rw [e1] at c
      exact ih (x.1, s2) ⟨by omega, e1.trans (@bs_no (wD V p N) skD (1, -1) i hsk (show (-1 : Int32) < 0 by decide) hpos (fun z => by rw [← i32_nlt] at z; exact z c)).symm, f'⟩
    · rw [if_neg c]
      rw [e1, i32_nlt] at c
      exact ih ((nI i, wD V p N i), s2) ⟨by omega, (@bs_yes (wD V p N) skD (1, -1) i hsk c).symm, f'⟩
theorem doorR_e {s : Mm} {V : CV} {p N : Nat} {w : Int32} (h : RV s V) (hv : VOk V) (h14 : s 176 14 = 0) (hp : p < V.1) (hN : N ≤ 60) : ∃ s', k_R_doorWanted_67 KF (nI p) (nI N) w (fD (V.2.2.2.1 p)) (-9) (-9) 1 s = some (if w = 0 then (bsG (wD V p N) skD (-9, -9) 100).1 else (bsG (wD V p N) skD (-9, -9) 100).2, s') ∧ RV s' V ∧ FrW 102 153 s s' := by
  have hn6 := hv.1
  have fm : ∀ (a : Mm) (v : Int32), FrW 102 153 a (mU a 180 p v) := fun a v => ⟨fun j _ => by rw [mU_get, if_neg (by omega)], fun z j h1 h2 h3 => by rw [mU_get, if_neg (by omega)]⟩
  refine lp (α := Int32 × (Int32 × Int32) × Mm) (fun n i x => k_R_doorWanted_67 n (nI p) (nI N) w (fD (V.2.2.2.1 p)) x.2.1.1 x.2.1.2 (nI i) x.2.2) (fun i x => 1 ≤ i ∧ x.2.1 = bsG (wD V p N) skD (-9, -9) i ∧ RV x.2.2 (VxD V p x.1) ∧ FrW 102 153 s x.2.2) (fun r => ∃ s', r = some (if w = 0 then (bsG (wD V p N) skD (-9, -9) 100).1 else (bsG (wD V p N) skD (-9, -9) 100).2, s') ∧ RV s' V ∧ FrW 102 153 s s') 100 ?_ ?_ KF 1 (fD (V.2.2.2.1 p), (-9, -9), s) (by omega) (by rw [KF_1]; omega) ⟨by omega, rfl, by rw [VxD.id]; exact h, FrW.rf⟩
  · intro n x ⟨h1, e1, e2, e3⟩
    unfold k_R_doorWanted_67
    rw [if_pos (show (99 : Int32) < nI 100 from by decide), gd_n (show p < 6 by omega) (by omega), nm_s, nI_clamp (by omega), e1]
    have := VxD.up hp x.2.2 _ (fD (V.2.2.2.1 p)) e2
    rw [VxD.id] at this
    refine ⟨mU x.2.2 180 p (fD (V.2.2.2.1 p)), ?_, this, e3.tr (fm _ _)⟩
    by_cases d : w = 0
    · simp only [d, if_true]
    · simp only [d, if_false]
  · intro n i x hi ⟨h1, e1, e2, e3⟩ ih
    unfold k_R_doorWanted_67 f_R_handsIn
    rw [if_neg (show ¬ (99 : Int32) < nI i from nI_nlt (a := 99) (by omega) (by omega)), gd_n (show p < 6 by omega) (by omega), nm_s, nI_clamp (by omega)]
    have hr := VxD.up hp x.2.2 _ (nI i) e2
    have f1 := e3.tr (fm x.2.2 (nI i))
    have hv' := VxD.ok hv hp (dr h1 hi)
    obtain ⟨s1, s2, s3, a1, a2, a3, a4, a5, a6, a7, a8, -⟩ := thinkGo_e hr hv' (f1.z h14) hN
    rw [a1, bv_s, a2, bv_s, RsumP_e a4 hv.2.1, bn_s, a6, bv_s, bn_s, nI_1]
    have hsk : skD i = false := decide_eq_false (by omega)
    have hpos : 0 ≤ wD V p N i := hv'.sP N
    show ∃ s', (if x.2.1.2 < wD V p N i then k_R_doorWanted_67 n (nI p) (nI N) w (fD (V.2.2.2.1 p)) (nI i) (wD V p N i) (nI (i + 1)) s3 else _) = _ ∧ _
    by_cases c : x.2.1.2 < wD V p N i
    · rw [if_pos c]
      rw [e1] at c
      exact ih (nI i, (nI i, wD V p N i), s3) ⟨by omega, (@bs_yes (wD V p N) skD (-9, -9) i hsk c).symm, a7, f1.tr a8⟩
    · rw [if_neg c]
      rw [e1] at c
      exact ih (nI i, x.2.1, s3) ⟨by omega, e1.trans (@bs_no (wD V p N) skD (-9, -9) i hsk (show (-9 : Int32) < 0 by decide) hpos c).symm, a7, f1.tr a8⟩
def vDoorW (a n w : Int32) (S : SV) : Int32 := if w = 0 then (bsG (wD S.1 (ix a) (ix n)) skD (-9, -9) 100).1 else (bsG (wD S.1 (ix a) (ix n)) skD (-9, -9) 100).2
theorem op_doorWanted (a n w : Int32) : OpI (fun s => f_X_doorWanted s a n w) (fun s => f_R_doorWanted s a n w) := by
  refine OpI.q2 (mx' := fun s => f_M_doorOfMostHands s a n w) (mr := fun s => k_R_doorWanted_36 a n w 0 s) (noFSW a n w) (vDoorW a n w) (fun S => Codes.fst (Codes.g _ _) (Codes.b _ _ _) (Codes.w _ _)) ?_ ?_ ?_ ?_
  · intro s S h
    unfold f_X_doorWanted
    simp only [friendNo_e, bn_s, spanNo_e, whatNo_e, first_e, h.1.1.1, bn_eta]
    rfl
  · intro s S h
    show f_R_doorWanted s a n w = _
    rw [Rn_doorWanted, h.1.1.1]
    by_cases e : noFSW a n w S = 0
    · rw [if_pos e, show fst3 (gNo (nI S.1.1) a) (btw n 0 60) (wNo w 1) = 0 from e]
    · rw [if_neg e]
      unfold k_R_doorWanted_36
      rw [if_neg (show ¬ fst3 (gNo (nI S.1.1) a) (btw n 0 60) (wNo w 1) = 0 from e), bn_eta]
      rfl
  · intro s S h e
    obtain ⟨e1, e2, e3⟩ := fst3_0 e
    have hn := h.2.1.1
    obtain ⟨k, hk, rfl⟩ := gNo_0 (by omega) e1
    obtain ⟨N, -, hN, rfl⟩ := btw_0 (lo := 0) (hi := 60) (by omega) (by omega) e2
    have hv := h.2.1
    obtain ⟨s', c1, c2⟩ := doorX_e (w := w) h.1 hv hk hN
    rw [bs_same (skip := skD) (m0 := 1) (m := 100) rfl (by omega) (1, -1) (-9, -9)] at c1
    unfold vDoorW
    rw [ix_nI (by omega), ix_nI (by omega)]
    exact ⟨s', c1, c2.q⟩
  · intro s S ho h e
    obtain ⟨e1, e2, e3⟩ := fst3_0 e
    have hn := ho.1.1
    obtain ⟨k, hk, rfl⟩ := gNo_0 (by omega) e1
    obtain ⟨N, -, hN, rfl⟩ := btw_0 (lo := 0) (hi := 60) (by omega) (by omega) e2
    obtain ⟨s', c1, c2, c3⟩ := doorR_e (w := w) h.1 ho.1 h.2.1 hk hN
    unfold vDoorW k_R_doorWanted_36
    rw [ix_nI (by omega), ix_nI (by omega), if_pos rfl, gd_n (show k < 6 by omega) (by omega), nm_s, nI_clamp (by omega), (h.1.1.2 k hk).2.2.1]
    exact ⟨s', c1, c2, c3.q (by omega) (by omega)⟩
