/-! WHAT_IT_WAS: the object's kinds, figures, months kept -/
theorem kinds_e {s : Mm} {V : CV} {k p : Nat} {q : Nat × (Nat → Int32)} (h : HC s 0 V) (hv : VOk V) (hq : RowX s q) (hk : k < V.2.1) (hp : p < V.1) (hh : gH (V.2.2.2.2 k) = nI p) : ∃ s', f_M_kindsToldBy s (nI k) = some (nI (BS (pWas (VxK V p) k q) 6), s') ∧ Fr 2 s s' := by
  have hk4 : k < 4 := by have := hv.2.1; omega
  have hn6 := hv.1
  unfold f_M_kindsToldBy
  refine lp (α := Int32 × Mm) (fun n i x => k_M_kindsToldBy_4 n (nI k) x.1 (nI i) x.2) (fun i x => x.1 = nI (BS (pWas (VxK V p) k q) i) ∧ Fr 2 s x.2) (fun r => ∃ s', r = some (nI (BS (pWas (VxK V p) k q) 6), s') ∧ Fr 2 s s') 6 ?_ ?_ KF 0 (0, s) (by omega) (by rw [KF_1]; omega) ⟨rfl, Fr.rf⟩
  · intro n x ⟨e1, e2⟩
    unfold k_M_kindsToldBy_4
    rw [if_pos (show (5 : Int32) < nI 6 from by decide), e1]
    exact ⟨x.2, rfl, e2⟩
  · intro n i x hi ⟨e1, e2⟩ ih
    unfold k_M_kindsToldBy_4
    rw [if_neg (show ¬ (5 : Int32) < nI i from nI_nlt (a := 5) (by omega) (by omega))]
    obtain ⟨a1, b1, b2, b3, b4⟩ := holderOf_e (h.fr hv e2 (by omega) (by omega) (by omega)) hv hk hp hh
    rw [b1, bn_s, (b2.1.at hp).2.1]
    obtain ⟨a2, c1, c2, c3, c4⟩ := becomeV_e (x := nI i) (y := fI (V.2.2.2.1 p)) b2 hv hp (e2.tr b4)
    have hvx := VxK.ok hv hp hi
    obtain ⟨s', d1, d2⟩ := asTold_e (V := V) (hq.fr c4) c2 c3 c4 hvx.2.2.2.1.n (hvx.H k hk) hv.1 hv.2.1 hk
    rw [c1, bv_s, d1, bn_s, nI_1]
    by_cases c : pWas (VxK V p) k q i = true
    · have c' : srch (upF V.2.2.2.1 p (nI i, fI (V.2.2.2.1 p), fD (V.2.2.2.1 p), fN (V.2.2.2.1 p), fT (V.2.2.2.1 p))) (rowP gW q.2) q.1 0 (V.2.2.2.2 k) = -9 := of_decide_eq_true c
      rw [if_pos c', if_neg (by decide), e1, nm_s, BS_s c (by omega)]
      exact ih (_, s') ⟨rfl, d2⟩
    · have c' : ¬ srch (upF V.2.2.2.1 p (nI i, fI (V.2.2.2.1 p), fD (V.2.2.2.1 p), fN (V.2.2.2.1 p), fT (V.2.2.2.1 p))) (rowP gW q.2) q.1 0 (V.2.2.2.2 k) = -9 := fun z => c (decide_eq_true z)
      rw [if_neg c', if_pos rfl]
      exact ih (x.1, s') ⟨by rw [BS_n (by simpa using c)]; exact e1, d2⟩
theorem figures_e {s : Mm} {V : CV} {k p : Nat} {q : Nat × (Nat → Int32)} (h : HC s 0 V) (hv : VOk V) (hq : RowX s q) (hk : k < V.2.1) (hp : p < V.1) (hh : gH (V.2.2.2.2 k) = nI p) : ∃ s', f_M_figuresToldBy s (nI k) = some (nI (BS (pWas (VxI V p) k q) 10), s') ∧ Fr 2 s s' := by
  have hk4 : k < 4 := by have := hv.2.1; omega
  have hn6 := hv.1
  unfold f_M_figuresToldBy
  refine lp (α := Int32 × Mm) (fun n i x => k_M_figuresToldBy_4 n (nI k) x.1 (nI i) x.2) (fun i x => x.1 = nI (BS (pWas (VxI V p) k q) i) ∧ Fr 2 s x.2) (fun r => ∃ s', r = some (nI (BS (pWas (VxI V p) k q) 10), s') ∧ Fr 2 s s') 10 ?_ ?_ KF 0 (0, s) (by omega) (by rw [KF_1]; omega) ⟨rfl, Fr.rf⟩
  · intro n x ⟨e1, e2⟩
    unfold k_M_figuresToldBy_4
    rw [if_pos (show (9 : Int32) < nI 10 from by decide), e1]
    exact ⟨x.2, rfl, e2⟩
  · intro n i x hi ⟨e1, e2⟩ ih
    unfold k_M_figuresToldBy_4
    rw [if_neg (show ¬ (9 : Int32) < nI i from nI_nlt (a := 9) (by omega) (by omega))]
    obtain ⟨a1, b1, b2, b3, b4⟩ := holderOf_e (h.fr hv e2 (by omega) (by omega) (by omega)) hv hk hp hh
    rw [b1, bn_s, (b2.1.at hp).1]
    obtain ⟨a2, c1, c2, c3, c4⟩ := becomeV_e (x := fK (V.2.2.2.1 p)) (y := nI i) b2 hv hp (e2.tr b4)
    have hvx := VxI.ok hv hp hi
    obtain ⟨s', d1, d2⟩ := asTold_e (V := V) (hq.fr c4) c2 c3 c4 hvx.2.2.2.1.n (hvx.H k hk) hv.1 hv.2.1 hk
    rw [c1, bv_s, d1, bn_s, nI_1]
    by_cases c : pWas (VxI V p) k q i = true
    · have c' : srch (upF V.2.2.2.1 p (fK (V.2.2.2.1 p), nI i, fD (V.2.2.2.1 p), fN (V.2.2.2.1 p), fT (V.2.2.2.1 p))) (rowP gW q.2) q.1 0 (V.2.2.2.2 k) = -9 := of_decide_eq_true c
      rw [if_pos c', if_neg (by decide), e1, nm_s, BS_s c (by omega)]
      exact ih (_, s') ⟨rfl, d2⟩
    · have c' : ¬ srch (upF V.2.2.2.1 p (fK (V.2.2.2.1 p), nI i, fD (V.2.2.2.1 p), fN (V.2.2.2.1 p), fT (V.2.2.2.1 p))) (rowP gW q.2) q.1 0 (V.2.2.2.2 k) = -9 := fun z => c (decide_eq_true z)
      rw [if_neg c', if_pos rfl]
      exact ih (x.1, s') ⟨by rw [BS_n (by simpa using c)]; exact e1, d2⟩
theorem kepts_e {s : Mm} {V : CV} {k : Nat} {q : Nat × (Nat → Int32)} (h : HC s 0 V) (hv : VOk V) (hq : RowX s q) (hk : k < V.2.1) : ∃ s', f_M_keptsToldBy s (nI k) = some (nI (cnt (pWas (VxG V k) k q) 13), s') ∧ Fr 2 s s' := by
  have hk4 : k < 4 := by have := hv.2.1; omega
  have hn6 := hv.1
  unfold f_M_keptsToldBy
  refine lp (α := Int32 × Mm) (fun n i x => k_M_keptsToldBy_4 n (nI k) x.1 (nI i) x.2) (fun i x => x.1 = nI (cnt (pWas (VxG V k) k q) i) ∧ Fr 2 s x.2) (fun r => ∃ s', r = some (nI (cnt (pWas (VxG V k) k q) 13), s') ∧ Fr 2 s s') 13 ?_ ?_ KF 0 (0, s) (by omega) (by rw [KF_1]; omega) ⟨rfl, Fr.rf⟩
  · intro n x ⟨e1, e2⟩
    unfold k_M_keptsToldBy_4
    rw [if_pos (show (12 : Int32) < nI 13 from by decide), e1]
    exact ⟨x.2, rfl, e2⟩
  · intro n i x hi ⟨e1, e2⟩ ih
    unfold k_M_keptsToldBy_4
    rw [if_neg (show ¬ (12 : Int32) < nI i from nI_nlt (a := 12) (by omega) (by omega))]
    obtain ⟨a1, b1, b2, b3, b4⟩ := mind0 (k := k) (h.fr hv e2 (by omega) (by omega) (by omega)) hv
    have hg := b4.2.1.at hk
    have hvx := VxG.ok hv hk hi
    have hm : Mnd x.2 V k (gW (V.2.2.2.2 k), gZ' (V.2.2.2.2 k), gH (V.2.2.2.2 k), nI i, gB (V.2.2.2.2 k), gP (V.2.2.2.2 k)) (mU a1 (110 + 5 * 2 + k) 3 (nI i)) := b2.put hk4 hv.2.1 hn6 (fun z j hz => by rw [mU_get, if_neg (fun y => hz y.1)]) (by simp [gRow, mU_get, hg.1, hg.2.1, hg.2.2.1, hg.2.2.2.2.1, hg.2.2.2.2.2])
    obtain ⟨m1, m2, m3⟩ := hm
    obtain ⟨s', d1, d2⟩ := asTold_e (V := V) (k := k) (hq.fr (e2.tr m3)) m1 m2 (e2.tr m3) hv.M.n (hvx.H k hk) hv.1 hv.2.1 hk
    rw [b1, bn_s, giftAt_e hk4, bn_s, nm_s, d1, bn_s, nI_1]
    by_cases c : pWas (VxG V k) k q i = true
    · have c' := of_decide_eq_true c
      simp only [VxG] at c'
      rw [if_pos c', if_neg (by decide), e1, nI_1]
      exact ih (_, s') ⟨by show _ = nI (cnt _ i + (if pWas (VxG V k) k q i = true then 1 else 0)); rw [if_pos c]; rfl, d2⟩
    · have c' : ¬ srch V.2.2.2.1 (rowP gW q.2) q.1 0 (upG V.2.2.2.2 k (gW (V.2.2.2.2 k), gZ' (V.2.2.2.2 k), gH (V.2.2.2.2 k), nI i, gB (V.2.2.2.2 k), gP (V.2.2.2.2 k)) k) = -9 := fun z => c (decide_eq_true z)
      rw [if_neg c', if_pos rfl]
      exact ih (x.1, s') ⟨by show _ = nI (cnt _ i + (if pWas (VxG V k) k q i = true then 1 else 0)); rw [if_neg c]; exact e1, d2⟩
def vWas (a w : Int32) (S : SV) : Int32 := if w = 0 then nI (BS (pWas (VxK S.1 (ix (gH (S.1.2.2.2.2 (ix a))))) (ix a) S.2.2.2.2.1) 6) else if w = 1 then nI (BS (pWas (VxI S.1 (ix (gH (S.1.2.2.2.2 (ix a))))) (ix a) S.2.2.2.2.1) 10) else nI (cnt (pWas (VxG S.1 (ix a)) (ix a) S.2.2.2.2.1) 13)
theorem op_whatItWas (a w : Int32) : OpI (fun s => f_X_whatItWas s a w) (fun s => f_R_whatItWas s a w) := by
  refine OpI.q2 (mx' := fun s => if w = 0 then f_M_kindsToldBy s a else if w = 1 then f_M_figuresToldBy s a else f_M_keptsToldBy s a) (mr := fun s => k_R_whatItWas_27 a w 0 s) (noGW 2 a w) (vWas a w) (fun S => Codes.fst (Codes.g _ _) (Codes.w _ _) Codes.z) ?_ ?_ ?_ ?_
  · intro s S h
    unfold f_X_whatItWas
    simp only [giftNo_e, bn_s, whatNo_e, first_e, h.1.2.1.1, bn_eta]
    rfl
  · intro s S h
    show f_R_whatItWas s a w = _
    rw [Rn_whatItWas, h.1.2.1.1]
    by_cases e : noGW 2 a w S = 0
    · rw [if_pos e, show fst3 (gNo (nI S.1.2.1) a) (wNo w 2) 0 = 0 from e]
    · rw [if_neg e]
      unfold k_R_whatItWas_27
      rw [if_neg (show ¬ fst3 (gNo (nI S.1.2.1) a) (wNo w 2) 0 = 0 from e), bn_eta]
      rfl
  · intro s S h e
    obtain ⟨e1, e2, e3⟩ := fst3_0 e
    obtain ⟨k, hk, rfl⟩ := gNo_0 (by have := h.2.1.2.1; omega) e1
    have hv := h.2.1
    have hm := hv.2.1
    have hrow := h.2.2.2.2.2.1
    obtain ⟨⟨p, hp, hh⟩, -⟩ := hv.H k hk
    have hn := hv.1
    unfold vWas
    simp only [ix_nI (show k < 2 ^ 31 by omega), hh, ix_nI (show p < 2 ^ 31 by omega)]
    by_cases c : w = 0
    · simp only [c, if_true]
      obtain ⟨s', c1, c2⟩ := kinds_e h.1 hv hrow hk hp hh
      exact ⟨s', c1, c2.q⟩
    · by_cases c' : w = 1
      · simp only [c, c', if_true, if_false]
        obtain ⟨s', c1, c2⟩ := figures_e h.1 hv hrow hk hp hh
        exact ⟨s', c1, c2.q⟩
      · simp only [c, c', if_false]
        obtain ⟨s', c1, c2⟩ := kepts_e h.1 hv hrow hk
        exact ⟨s', c1, c2.q⟩
  · intro s S ho h e
    obtain ⟨e1, e2, e3⟩ := fst3_0 e
    obtain ⟨k, hk, rfl⟩ := gNo_0 (by have := ho.1.2.1; omega) e1
    have hv := ho.1
    have hm := hv.2.1
    have hrow := h.2.2.2.2.2.1
    obtain ⟨⟨p, hp, hh⟩, -⟩ := hv.H k hk
    have hn := hv.1
    have hgk := h.1.2.1.at hk
    have hfp := h.1.1.2 p hp
    unfold vWas k_R_whatItWas_27
    simp only [ix_nI (show k < 2 ^ 31 by omega), if_true, bn_eta, gd_n (show k < 4 by omega) (show 4 < 2 ^ 31 by omega), nI_clamp (show k < 2 ^ 31 by omega), nm_s, hgk.2.2.1, hh, ix_nI (show p < 2 ^ 31 by omega)]
    by_cases c : w = 0
    · simp only [c, if_true]
      obtain ⟨s', c1, c2, c3⟩ := bitsFor_e (V := S.1) (Vx := VxK S.1 p) (o := 178) (i := p) (k := k) (N := 6) h.1 h.2.1 hrow ho.2.2.2.2 (by omega) (show p < 6 by omega) (by decide) (by omega) (by rw [hfp.1]; exact VxK.id p) (VxK.up hp) (fun j hj => VxK.ok hv hp hj) (fun x => hk)
      exact ⟨s', c1, c2, c3.q (by omega) (by omega)⟩
    · by_cases c' : w = 1
      · simp only [c, c', if_true, if_false]
        obtain ⟨s', c1, c2, c3⟩ := bitsFor_e (V := S.1) (Vx := VxI S.1 p) (o := 179) (i := p) (k := k) (N := 10) h.1 h.2.1 hrow ho.2.2.2.2 (by omega) (show p < 6 by omega) (by decide) (by omega) (by rw [hfp.2.1]; exact VxI.id p) (VxI.up hp) (fun j hj => VxI.ok hv hp hj) (fun x => hk)
        exact ⟨s', c1, c2, c3.q (by omega) (by omega)⟩
      · simp only [c, c', if_false]
        obtain ⟨s', c1, c2, c3⟩ := bitsFor_e (V := S.1) (Vx := VxG S.1 k) (o := 185) (i := k) (k := k) (N := 13) h.1 h.2.1 hrow ho.2.2.2.2 (by omega) (show k < 4 by omega) (by decide) (by omega) (by rw [hgk.2.2.2.1]; exact VxG.id k) (VxG.up hk) (fun j hj => VxG.ok hv hk hj) (fun x => hk)
        have c1' : f_R_bitsFor s 185 (nI k) 13 (nI k) = some (nI (BS (pWas (VxG S.1 k) k S.2.2.2.2.1) 13), s') := c1
        rw [c1', bn_s, bits_e (BS_31 (by omega)), pcN_hi _ 13 (BS_lt _ _) 31 (by omega), cnt_pc _ 13 13 (by omega)]
        exact ⟨s', rfl, c2, c3.q (by omega) (by omega)⟩
