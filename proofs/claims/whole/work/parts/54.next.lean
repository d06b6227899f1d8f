/-! BEST_NEXT, DOOR_WANTED, YEAR -/
theorem sm_r {f : Nat → Int32} : ∀ n, n ≤ 1000 → (∀ k, k < n → 0 ≤ (f k).toInt ∧ (f k).toInt ≤ 999) → 0 ≤ (sm n f).toInt ∧ (sm n f).toInt ≤ 999 * n
  | 0, _, _ => ⟨show (0 : Int) ≤ (0 : Int32).toInt by decide, show (0 : Int32).toInt ≤ 999 * ((0 : Nat) : Int) by decide⟩
  | n + 1, hn, h => by
    have ih := sm_r n (by omega) (fun k hk => h k (by omega))
    have hk := h n (by omega)
    have e : (sm (n + 1) f).toInt = (sm n f).toInt + (f n).toInt := i32_add (by omega) (by omega)
    rw [e]
    omega
theorem sm_0 {f : Nat → Int32} {n : Nat} (hn : n ≤ 1000) (h : ∀ k, k < n → 0 ≤ (f k).toInt ∧ (f k).toInt ≤ 999) : 0 ≤ sm n f := by
  rw [i32_le, l0]; exact (sm_r n hn h).1
theorem VOk.sW {V : CV} (h : VOk V) (N : Nat) : 0 ≤ sm V.2.1 (fun k => gW (gIt V.2.2.2.1 N (V.2.2.2.2 k))) :=
  sm_0 (by have := h.2.1; omega) (fun k hk => ((h.G k hk).it h.M h.1 N).2.1)
theorem VOk.sP {V : CV} (h : VOk V) (N : Nat) : 0 ≤ sm V.2.1 (fun k => gP (gIt V.2.2.2.1 N (V.2.2.2.2 k))) :=
  sm_0 (by have := h.2.1; omega) (fun k hk => by have := ((h.G k hk).it h.M h.1 N).2.2.2.2; show _ ≤ (gP _).toInt ∧ (gP _).toInt ≤ _; omega)
def VxN (V : CV) (p : Nat) (x : Int32) : CV := (V.1, V.2.1, V.2.2.1, upF V.2.2.2.1 p (fK (V.2.2.2.1 p), fI (V.2.2.2.1 p), fD (V.2.2.2.1 p), x, fT (V.2.2.2.1 p)), V.2.2.2.2)
def VxD (V : CV) (p : Nat) (x : Int32) : CV := (V.1, V.2.1, V.2.2.1, upF V.2.2.2.1 p (fK (V.2.2.2.1 p), fI (V.2.2.2.1 p), x, fN (V.2.2.2.1 p), fT (V.2.2.2.1 p)), V.2.2.2.2)
theorem VxN.ok {V : CV} {p : Nat} {x : Int32} (h : VOk V) (hp : p < V.1) (hx : x = -1 ∨ ∃ q, q < V.1 ∧ q ≠ p ∧ x = nI q) : VOk (VxN V p x) := h.fUp (by
  obtain ⟨h1, h2, h3, h4, h5⟩ := h.F hp
  exact ⟨h1, h2, h3, hx, h5⟩)
theorem VxD.ok {V : CV} {p : Nat} {x : Int32} (h : VOk V) (hp : p < V.1) (hx : 1 ≤ x.toInt ∧ x.toInt ≤ 99) : VOk (VxD V p x) := h.fUp (by
  obtain ⟨h1, h2, h3, h4, h5⟩ := h.F hp
  exact ⟨h1, h2, hx, h4, h5⟩)
theorem VxN.up {V : CV} {p : Nat} (hp : p < V.1) (a : Mm) (x v y : Int32) (hy : v = nx y) (h : RV a (VxN V p x)) : RV (mU a 181 p v) (VxN V p y) := by
  obtain ⟨h1, h2, h3⟩ := h
  refine ⟨?_, h2.eq rfl (fun z => rfl), h3⟩
  have hb := h1.2 p hp
  have e := fun y1 y2 y3 => RFv.up (s := a) (s' := mU a 181 p v) (k := p) (f := (fK (V.2.2.2.1 p), fI (V.2.2.2.1 p), fD (V.2.2.2.1 p), y, fT (V.2.2.2.1 p))) h1 hp rfl rfl (by simp only [VxN, upF_at]) (fun z hz => ⟨rfl, rfl, rfl, by rw [mU_get, if_neg (by omega)]⟩) y1 y2 y3 (by simp [mU_get, hy])
  simp only [VxN, upF_at, upF_up] at e hb
  exact e hb.1 hb.2.1 hb.2.2.1
theorem VxD.up {V : CV} {p : Nat} (hp : p < V.1) (a : Mm) (x v : Int32) (h : RV a (VxD V p x)) : RV (mU a 180 p v) (VxD V p v) := by
  obtain ⟨h1, h2, h3⟩ := h
  refine ⟨?_, h2.eq rfl (fun z => rfl), h3⟩
  have hb := h1.2 p hp
  have e := fun y1 y2 => RFv.up (s := a) (s' := mU a 180 p v) (k := p) (f := (fK (V.2.2.2.1 p), fI (V.2.2.2.1 p), v, fN (V.2.2.2.1 p), fT (V.2.2.2.1 p))) h1 hp rfl rfl (by simp only [VxD, upF_at]) (fun z hz => ⟨rfl, rfl, by rw [mU_get, if_neg (by omega)], rfl⟩) y1 y2 (by simp [mU_get])
  simp only [VxD, upF_at, upF_up] at e hb
  exact e hb.1 hb.2.1 hb.2.2.2.1
theorem VxN.id {V : CV} (p : Nat) : VxN V p (fN (V.2.2.2.1 p)) = V := by unfold VxN; rw [upF_id]
theorem VxD.id {V : CV} (p : Nat) : VxD V p (fD (V.2.2.2.1 p)) = V := by unfold VxD; rw [upF_id]
theorem HF.set {s : Mm} {V : CV} {p j : Nat} {x : Int32} {f : FV} (h : HC s 2 V) (hv : VOk V) (hp : p < V.1) (hj : j = 2 ∨ j = 3) (hf : fRow (mU s (33 + 7 * 2 + p) j x) (33 + 7 * 2 + p) = f) (h0 : fK f = fK (V.2.2.2.1 p)) (h1 : fI f = fI (V.2.2.2.1 p)) : HF (mU s (33 + 7 * 2 + p) j x) 2 V.1 (upF V.2.2.2.1 p f) ∧ HG (mU s (33 + 7 * 2 + p) j x) 2 V.2.1 V.2.2.2.2 ∧ Fr 2 s (mU s (33 + 7 * 2 + p) j x) := by
  have hn := hv.1
  have he : ∀ q i, q ≠ 33 + 7 * 2 + p → mU s (33 + 7 * 2 + p) j x q i = s q i := fun q i hq => by rw [mU_get, if_neg (fun z => hq z.1)]
  have h4 : ∀ i, i ≠ j → mU s (33 + 7 * 2 + p) j x (33 + 7 * 2 + p) i = s (33 + 7 * 2 + p) i := fun i hi => by rw [mU_get, if_neg (fun z => hi z.2)]
  obtain ⟨b1, b2, b3, b4⟩ := h.1.2 p hp
  refine ⟨h.1.up (by omega) hn (by omega) he hf (by rw [h4 _ (by omega), h0, h1]; exact b2) (by rw [h4 _ (by omega), h0, h1]; exact b3) (by rw [h4 _ (by omega), h0, h1]; exact b4), h.2.1.o hv.2.1 (by omega) (fun q i hq => he q i (by omega)), fun q i hq => he q i (fun z => hq (z ▸ ownF (c := 2) (by omega)))⟩
def wNx (V : CV) (p N : Nat) (x : Int32) : Int32 := sm V.2.1 (fun k => gW (gIt (VxN V p x).2.2.2.1 N (V.2.2.2.2 k)))
def wDr (V : CV) (p N : Nat) (x : Int32) : Int32 := sm V.2.1 (fun k => gP (gIt (VxD V p x).2.2.2.1 N (V.2.2.2.2 k)))
theorem wNextX_e {s : Mm} {V : CV} {p N : Nat} {x : Int32} (h : HC s 0 V) (hv : VOk V) (hp : p < V.1) (hx : x = -1 ∨ ∃ q, q < V.1 ∧ q ≠ p ∧ x = nI q) (hN : N ≤ 60) : ∃ s', f_M_worthWithNext s (nI p) x (nI N) = some (wNx V p N x, s') ∧ Fr 2 s s' := by
  have hn := hv.1
  obtain ⟨s1, a1, a2, a3, a4, a5⟩ := recall_e h hv
  unfold f_M_worthWithNext
  rw [a1, bn_s, friendAt_e (by omega), bn_s, nm_s]
  have hb := a2.1.at hp
  obtain ⟨b1, b2, b3⟩ := HF.set (j := 3) (x := x) (f := (fK (V.2.2.2.1 p), fI (V.2.2.2.1 p), fD (V.2.2.2.1 p), x, fT (V.2.2.2.1 p))) a2 hv hp (Or.inr rfl) (by simp [fRow, mU_get, hb.1, hb.2.1, hb.2.2.1, hb.2.2.2.2]) rfl rfl
  have hv' := VxN.ok hv hp hx
  obtain ⟨s2, c1, c2, c3, c4, c5, c6⟩ := pass_e (N := N) b1 b2 (fun q _ => rfl) hv'.M.n hv'.H hv.1 hv.2.1 (by omega) hN
  rw [c1, bv_s, allWorth_e c3 hv.2.1, bn_s]
  exact ⟨s2, rfl, (a4.tr b3).tr c6⟩
theorem wNextR_e {s : Mm} {V : CV} {p N : Nat} {x v : Int32} (h : RV s V) (hv : VOk V) (h14 : s 176 14 = 0) (hp : p < V.1) (hx : x = -1 ∨ ∃ q, q < V.1 ∧ q ≠ p ∧ x = nI q) (hy : v = nx x) (hN : N ≤ 60) : ∃ s', f_R_worthNext s (nI p) v (nI N) = some (wNx V p N x, s') ∧ RV s' V ∧ FrW 102 153 s s' := by
  have hn := hv.1
  unfold f_R_worthNext
  simp only [gd_n (show p < 6 by omega) (show 6 < 2 ^ 31 by omega), nm_s, nI_clamp (show p < 2 ^ 31 by omega)]
  have h1 := VxN.up hp s (fN (V.2.2.2.1 p)) v x hy (by rw [VxN.id]; exact h)
  have fm : ∀ (a : Mm) (v : Int32), FrW 102 153 a (mU a 181 p v) := fun a v => ⟨fun j _ => by rw [mU_get, if_neg (by omega)], fun z j h1 h2 h3 => by rw [mU_get, if_neg (by omega)]⟩
  obtain ⟨s2, c1, c2, c3⟩ := worthInA_e (N := N) h1 (VxN.ok hv hp hx) ((fm s v).z h14) hN
  rw [c1, bn_s]
  have h2 := VxN.up hp s2 x (s 181 p) (fN (V.2.2.2.1 p)) (h.1.2 p hp).2.2.2.1 c2
  rw [VxN.id] at h2
  exact ⟨_, rfl, h2, ((fm _ _).tr c3).tr (fm _ _)⟩
def skS (a j : Nat) : Bool := decide (j = a)
def wN (V : CV) (p N j : Nat) : Int32 := wNx V p N (nI j)
def finN (V : CV) (p N : Nat) (w : Int32) (z : Int32 × Int32) : Int32 := if wNx V p N (-1) ≤ (bsG (wN V p N) (skS p) z V.1).2 then (if w = 0 then (bsG (wN V p N) (skS p) z V.1).1 else (bsG (wN V p N) (skS p) z V.1).2) else (if w = 0 then 9 else wNx V p N (-1))
theorem wN_0 {V : CV} {p N j : Nat} (hv : VOk V) (hp : p < V.1) (hj : j < V.1) (hs : skS p j = false) : 0 ≤ wN V p N j :=
  (VxN.ok hv hp (Or.inr ⟨j, hj, of_decide_eq_false hs, rfl⟩)).sW N
theorem finN_same {V : CV} {p N : Nat} {w : Int32} {z z' : Int32 × Int32} (hv : VOk V) (hp : p < V.1) (hz : z.2 < 0) (hz' : z'.2 < 0) : finN V p N w z = finN V p N w z' := by
  have h0 : 0 ≤ wNx V p N (-1) := (VxN.ok hv hp (Or.inl rfl)).sW N
  have hl : ∀ y : Int32 × Int32, y.2 < 0 → ¬ wNx V p N (-1) ≤ y.2 := fun y hy c => by
    rw [i32_le] at h0 c
    rw [i32_lt] at hy
    omega
  unfold finN bsG
  cases e : bsO (wN V p N) (skS p) V.1 with
  | none =>
    simp only [Option.getD_none]
    rw [if_neg (hl z hz), if_neg (hl z' hz')]
  | some q => rfl
theorem nextX_e {s : Mm} {V : CV} {p N : Nat} {w : Int32} (h : HC s 0 V) (hv : VOk V) (hp : p < V.1) (hN : N ≤ 60) : ∃ s', f_M_nextOfMostWorth s (nI p) (nI N) w = some (finN V p N w (9, -1), s') ∧ Fr 2 s s' := by
  have hn6 := hv.1
  unfold f_M_nextOfMostWorth
  refine lp (α := (Int32 × Int32) × Mm) (fun n i x => k_M_nextOfMostWorth_10 n (nI p) (nI N) w x.1.1 x.1.2 (nI i) x.2) (fun i x => x.1 = bsG (wN V p N) (skS p) (9, -1) i ∧ Fr 2 s x.2) (fun r => ∃ s', r = some (finN V p N w (9, -1), s') ∧ Fr 2 s s') V.1 ?_ ?_ KF 0 ((9, -1), s) (by omega) (by rw [KF_1]; omega) ⟨rfl, Fr.rf⟩
  · intro n x ⟨e1, e2⟩
    have h0 := h.fr hv e2 (by omega) (by omega) (by omega)
    unfold k_M_nextOfMostWorth_10
    obtain ⟨s', c1, c2⟩ := wNextX_e (N := N) h0 hv hp (Or.inl rfl) hN
    rw [h0.1.1, if_pos (nI_le (Nat.le_refl _) (by omega)), c1, bn_s, e1]
    refine ⟨s', ?_, e2.tr c2⟩
    unfold finN
    by_cases c : wNx V p N (-1) ≤ (bsG (wN V p N) (skS p) (9, -1) V.1).2
    · rw [if_pos c, if_pos c]
      by_cases d : w = 0
      · simp only [d, if_true]
      · simp only [d, if_false]
    · rw [if_neg c, if_neg c]
      by_cases d : w = 0
      · simp only [d, if_true]
      · simp only [d, if_false]
  · intro n i x hi ⟨e1, e2⟩ ih
    have h0 := h.fr hv e2 (by omega) (by omega) (by omega)
    unfold k_M_nextOfMostWorth_10
    rw [h0.1.1, if_neg (nI_ge hi (by omega))]
    by_cases ci : i = p
    · subst ci
      have hsk : skS i i = true := decide_eq_true rfl
      have hlow : (-1 : Int32) ≤ x.1.2 := by
        rw [e1]
        rcases bsG_r (val := wN V i N) (skip := skS i) (z := (9, -1)) (m := i) (fun j hj hs => wN_0 hv hp (by omega) hs) with c | c
        · rw [c]; decide
        · rw [i32_le] at c ⊢; rw [l0] at c; show (-1 : Int) ≤ _; omega
      rw [if_pos rfl]
      unfold k_M_nextOfMostWorth_40
      rw [if_pos hlow, nI_1]
      exact ih x ⟨e1.trans (@bs_skip (wN V i N) (skS i) (9, -1) i hsk).symm, e2⟩
    · have hsk : skS p i = false := decide_eq_false ci
      obtain ⟨s', c1, c2⟩ := wNextX_e (N := N) (x := nI i) h0 hv hp (Or.inr ⟨i, hi, ci, rfl⟩) hN
      rw [if_neg (fun z => ci ((nI_eq (by omega) (by omega)).mp z)), c1, bn_s]
      unfold k_M_nextOfMostWorth_40
      have hpos : 0 ≤ wN V p N i := wN_0 hv hp hi hsk
      show ∃ s', (if wN V p N i ≤ x.1.2 then _ else _) = _ ∧ _
      rw [nI_1]
      by_cases c : wN V p N i ≤ x.1.2
      · rw [if_pos c]
        rw [e1] at c
        exact ih (x.1, s') ⟨e1.trans (@bs_no (wN V p N) (skS p) (9, -1) i hsk (show (-1 : Int32) < 0 by decide) hpos (fun z => by rw [← i32_nlt] at z; exact z c)).symm, e2.tr c2⟩
      · rw [if_neg c]
        rw [e1, i32_nlt] at c
        exact ih ((nI i, wN V p N i), s') ⟨(@bs_yes (wN V p N) (skS p) (9, -1) i hsk c).symm, e2.tr c2⟩
theorem nx_nI {j : Nat} (h : j < 2 ^ 31) : nI j = nx (nI j) := by unfold nx; rw [if_neg (m1_ne h)]
theorem nx_m1 : (-9 : Int32) = nx (-1) := by unfold nx; rw [if_pos rfl]
theorem nextR_e {s : Mm} {V : CV} {p N : Nat} {w : Int32} (h : RV s V) (hv : VOk V) (h14 : s 176 14 = 0) (hp : p < V.1) (hN : N ≤ 60) : ∃ s', k_R_bestNext_59 KF (nI p) (nI N) w (-9) (-9) 0 s = some (finN V p N w (-9, -9), s') ∧ RV s' V ∧ FrW 102 153 s s' := by
  have hn6 := hv.1
  refine lp (α := (Int32 × Int32) × Mm) (fun n i x => k_R_bestNext_59 n (nI p) (nI N) w x.1.1 x.1.2 (nI i) x.2) (fun i x => x.1 = bsG (wN V p N) (skS p) (-9, -9) i ∧ RV x.2 V ∧ FrW 102 153 s x.2) (fun r => ∃ s', r = some (finN V p N w (-9, -9), s') ∧ RV s' V ∧ FrW 102 153 s s') V.1 ?_ ?_ KF 0 ((-9, -9), s) (by omega) (by rw [KF_1]; omega) ⟨rfl, h, FrW.rf⟩
  · intro n x ⟨e1, e2, e3⟩
    unfold k_R_bestNext_59
    obtain ⟨s', c1, c2, c3⟩ := wNextR_e (N := N) (v := -9) e2 hv (e3.z h14) hp (Or.inl rfl) nx_m1 hN
    rw [e2.1.1, if_pos (nI_le (Nat.le_refl _) (by omega)), c1, bn_s, e1]
    refine ⟨s', ?_, c2, e3.tr c3⟩
    unfold finN
    by_cases c : wNx V p N (-1) ≤ (bsG (wN V p N) (skS p) (-9, -9) V.1).2
    · rw [if_pos c, if_pos c]
      by_cases d : w = 0
      · simp only [d, if_true]
      · simp only [d, if_false]
    · rw [if_neg c, if_neg c]
      by_cases d : w = 0
      · simp only [d, if_true]
      · simp only [d, if_false]
  · intro n i x hi ⟨e1, e2, e3⟩ ih
    unfold k_R_bestNext_59
    rw [e2.1.1, if_neg (nI_ge hi (by omega))]
    by_cases ci : i = p
    · subst ci
      have hsk : skS i i = true := decide_eq_true rfl
      have hlow : ¬ x.1.2 < (-9 : Int32) := by
        rw [e1]
        rcases bsG_r (val := wN V i N) (skip := skS i) (z := (-9, -9)) (m := i) (fun j hj hs => wN_0 hv hp (by omega) hs) with c | c
        · rw [c]; decide
        · rw [i32_le] at c; rw [i32_lt]; rw [l0] at c; show ¬ _ < (-9 : Int); omega
      rw [if_pos rfl]
      unfold k_R_bestNext_87
      rw [if_neg hlow, nI_1]
      exact ih x ⟨e1.trans (@bs_skip (wN V i N) (skS i) (-9, -9) i hsk).symm, e2, e3⟩
    · have hsk : skS p i = false := decide_eq_false ci
      obtain ⟨s', c1, c2, c3⟩ := wNextR_e (N := N) (x := nI i) (v := nI i) e2 hv (e3.z h14) hp (Or.inr ⟨i, hi, ci, rfl⟩) (nx_nI (by omega)) hN
      rw [if_neg (fun z => ci ((nI_eq (by omega) (by omega)).mp z)), c1, bn_s]
      unfold k_R_bestNext_87
      have hpos : 0 ≤ wN V p N i := wN_0 hv hp hi hsk
      show ∃ s', (if x.1.2 < wN V p N i then _ else _) = _ ∧ _
      rw [nI_1]
      by_cases c : x.1.2 < wN V p N i
      · rw [if_pos c]
        rw [e1] at c
        exact ih ((nI i, wN V p N i), s') ⟨(@bs_yes (wN V p N) (skS p) (-9, -9) i hsk c).symm, c2, e3.tr c3⟩
      · rw [if_neg c]
        rw [e1] at c
        exact ih (x.1, s') ⟨e1.trans (@bs_no (wN V p N) (skS p) (-9, -9) i hsk (show (-9 : Int32) < 0 by decide) hpos c).symm, c2, e3.tr c3⟩
def noFSW (a n w : Int32) (S : SV) : Int32 := fst3 (gNo (nI S.1.1) a) (btw n 0 60) (wNo w 1)
def vBestNext (a n w : Int32) (S : SV) : Int32 := finN S.1 (ix a) (ix n) w (-9, -9)
theorem op_bestNext (a n w : Int32) : OpI (fun s => f_X_bestNext s a n w) (fun s => f_R_bestNext s a n w) := by
  refine OpI.q2 (mx' := fun s => f_M_nextOfMostWorth s a n w) (mr := fun s => k_R_bestNext_36 a n w 0 s) (noFSW a n w) (vBestNext a n w) (fun S => Codes.fst (Codes.g _ _) (Codes.b _ _ _) (Codes.w _ _)) ?_ ?_ ?_ ?_
  · intro s S h
    unfold f_X_bestNext
    simp only [friendNo_e, bn_s, spanNo_e, whatNo_e, first_e, h.1.1.1, bn_eta]
    rfl
  · intro s S h
    show f_R_bestNext s a n w = _
    rw [Rn_bestNext, h.1.1.1]
    by_cases e : noFSW a n w S = 0
    · rw [if_pos e, show fst3 (gNo (nI S.1.1) a) (btw n 0 60) (wNo w 1) = 0 from e]
    · rw [if_neg e]
      unfold k_R_bestNext_36
      rw [if_neg (show ¬ fst3 (gNo (nI S.1.1) a) (btw n 0 60) (wNo w 1) = 0 from e), bn_eta]
      rfl
  · intro s S h e
    obtain ⟨e1, e2, e3⟩ := fst3_0 e
    have hn := h.2.1.1
    obtain ⟨k, hk, rfl⟩ := gNo_0 (by omega) e1
    obtain ⟨N, -, hN, rfl⟩ := btw_0 (lo := 0) (hi := 60) (by omega) (by omega) e2
    have hv := h.2.1
    obtain ⟨s', c1, c2⟩ := nextX_e (w := w) h.1 hv hk hN
    rw [@finN_same S.1 k N w (9, -1) (-9, -9) hv hk (show (-1 : Int32) < 0 by decide) (show (-9 : Int32) < 0 by decide)] at c1
    unfold vBestNext
    rw [ix_nI (by omega), ix_nI (by omega)]
    exact ⟨s', c1, c2.q⟩
  · intro s S ho h e
    obtain ⟨e1, e2, e3⟩ := fst3_0 e
    have hn := ho.1.1
    obtain ⟨k, hk, rfl⟩ := gNo_0 (by omega) e1
    obtain ⟨N, -, hN, rfl⟩ := btw_0 (lo := 0) (hi := 60) (by omega) (by omega) e2
    obtain ⟨s', c1, c2, c3⟩ := nextR_e (w := w) h.1 ho.1 h.2.1 hk hN
    unfold vBestNext
    rw [ix_nI (by omega), ix_nI (by omega)]
    exact ⟨s', c1, c2, c3.q (by omega) (by omega)⟩
