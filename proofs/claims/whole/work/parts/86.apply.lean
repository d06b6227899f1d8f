/-! STATEMENTS applied -/
theorem inN_d {n d : Nat} (hn : n < 2 ^ 31) (hd : d < 2 ^ 31) : inN (nI n) (nI d) = if d < n then 1 else 0 := by
  by_cases c : d < n
  · rw [if_pos c, inN_nI c hn]
  · rw [if_neg c, inN_n (by omega) hd]
def apD (V : CV) (d w : Nat) : Option CV := if d < V.1 then (if w = 0 then none else some (VxD V d (nI w))) else none
def apF (V : CV) (k f w : Nat) : Option CV := if 5 < k then none else if w = 0 then none else if V.1 = 6 then none else some (fAdd V (newF (nI k) (nI f) (nI w)))
def apG (V : CV) (w z d : Nat) : Option CV := if d < V.1 then (if z = 0 then none else if V.2.1 = 4 then none else some (gAdd V (newG (nI d) (nI w) (nI z)))) else none
def apH (V : CV) (g d : Nat) : Option CV := if g < V.2.1 then (if d < V.1 then some (V.1, V.2.1, V.2.2.1, V.2.2.2.1, upG V.2.2.2.2 g (goG (nI d) (V.2.2.2.2 g))) else none) else none
def apM (V : CV) (m : Nat) : Option CV := if m = 0 then none else if 60 < m then none else if V.2.2.1 + nI m ≤ 999 then some (moV V m) else none
def apN (V : CV) (d e : Nat) : Option CV := if d < V.1 then (if e < V.1 then (if d = e then none else some (VxN V d (tuN V d (nI e)))) else none) else none
def apS (V : CV) (q : LV) (p : Nat) : Option CV :=
  if ltA q p = 100 then apD V (tvN q (p + 1) 1) (tvN q (p + 2) 2)
  else if ltA q p = 102 then apF V (tvN q (p + 1) 1) (tvN q (p + 2) 1) (tvN q (p + 3) 2)
  else if ltA q p = 103 then apG V (tvN q (p + 1) 2) (tvN q (p + 3) 2) (tvN q (p + 5) 1)
  else if ltA q p = 104 then apH V (tvN q (p + 1) 1) (tvN q (p + 2) 1)
  else if ltA q p = 109 then apM V (tvN q (p + 1) 2)
  else apN V (tvN q (p + 1) 1) (tvN q (p + 2) 1)
theorem tv1 {q : LV} {p : Nat} : tvN q p 1 = dN q p := by
  show 10 * 0 + dN q (p + 0) = _
  rw [Nat.add_zero, Nat.mul_zero, Nat.zero_add]
theorem tv2 {q : LV} {p : Nat} : tvN q p 2 = 10 * dN q p + dN q (p + 1) := by
  show 10 * tvN q p 1 + dN q (p + 1) = _
  rw [tv1]
theorem tv1_le {q : LV} {p : Nat} (h : dgT q p) : tvN q p 1 ≤ 9 := by rw [tv1]; exact (dg_n h).2
theorem tv2_le {q : LV} {p : Nat} (h : dgT q p) (h2 : dgT q (p + 1)) : tvN q p 2 ≤ 99 := by
  have a := (dg_n h).2
  have b := (dg_n h2).2
  rw [tv2]; omega
theorem nI_r {k m : Nat} (h : k ≤ m) (hm : m < 2 ^ 31) : 0 ≤ (nI k).toInt ∧ (nI k).toInt ≤ m := by
  rw [nI_toInt (by omega)]; omega
/-! they keep what holds -/
theorem apD_ok {V W : CV} {d w : Nat} (hv : VOk V) (hw : w ≤ 99) (e : apD V d w = some W) : VOk W := by
  unfold apD at e
  by_cases c : d < V.1
  · rw [if_pos c] at e
    by_cases c2 : w = 0
    · rw [if_pos c2] at e; cases e
    · rw [if_neg c2] at e
      cases e
      exact VxD.ok hv c (by rw [nI_toInt (by omega)]; omega)
  · rw [if_neg c] at e; cases e
theorem newF_ok {n k f w : Nat} (hk : k ≤ 5) (hf : f ≤ 9) (hw : 1 ≤ w ∧ w ≤ 99) : FO (n + 1) n (newF (nI k) (nI f) (nI w)) :=
  ⟨nI_r (m := 5) hk (by omega), nI_r (m := 9) hf (by omega), by show 1 ≤ (nI w).toInt ∧ (nI w).toInt ≤ 99; rw [nI_toInt (by omega)]; omega, Or.inl rfl, rfl⟩
theorem apF_ok {V W : CV} {k f w : Nat} (hv : VOk V) (hf : f ≤ 9) (hw : w ≤ 99) (e : apF V k f w = some W) : VOk W := by
  have hn := hv.1
  unfold apF at e
  by_cases c : 5 < k
  · rw [if_pos c] at e; cases e
  · rw [if_neg c] at e
    by_cases c2 : w = 0
    · rw [if_pos c2] at e; cases e
    · rw [if_neg c2] at e
      by_cases c3 : V.1 = 6
      · rw [if_pos c3] at e; cases e
      · rw [if_neg c3] at e
        cases e
        exact hv.fAdd (by omega) (newF_ok (by omega) hf (by omega))
theorem apG_ok {V W : CV} {w z d : Nat} (hv : VOk V) (hw : w ≤ 99) (hz : z ≤ 99) (e : apG V w z d = some W) : VOk W := by
  have hm := hv.2.1
  unfold apG at e
  by_cases c : d < V.1
  · rw [if_pos c] at e
    by_cases c2 : z = 0
    · rw [if_pos c2] at e; cases e
    · rw [if_neg c2] at e
      by_cases c3 : V.2.1 = 4
      · rw [if_pos c3] at e; cases e
      · rw [if_neg c3] at e
        cases e
        exact hv.gAdd (by omega) (newG_ok c (nI_r (m := 99) hw (by omega)) (by rw [nI_toInt (by omega)]; omega))
  · rw [if_neg c] at e; cases e
theorem apH_ok {V W : CV} {g d : Nat} (hv : VOk V) (e : apH V g d = some W) : VOk W := by
  unfold apH at e
  by_cases c : g < V.2.1
  · rw [if_pos c] at e
    by_cases c2 : d < V.1
    · rw [if_pos c2] at e
      cases e
      exact hv.gUp ((hv.G g c).go c2)
    · rw [if_neg c2] at e; cases e
  · rw [if_neg c] at e; cases e
theorem apM_ok {V W : CV} {m : Nat} (hv : VOk V) (e : apM V m = some W) : VOk W := by
  unfold apM at e
  by_cases c : m = 0
  · rw [if_pos c] at e; cases e
  · rw [if_neg c] at e
    by_cases c2 : 60 < m
    · rw [if_pos c2] at e; cases e
    · rw [if_neg c2] at e
      by_cases c3 : V.2.2.1 + nI m ≤ 999
      · rw [if_pos c3] at e
        cases e
        exact moV_ok hv (by omega) c3
      · rw [if_neg c3] at e; cases e
theorem tuN_ok {V : CV} {d e : Nat} (he : e < V.1) (hne : ¬ d = e) : tuN V d (nI e) = -1 ∨ ∃ r, r < V.1 ∧ r ≠ d ∧ tuN V d (nI e) = nI r := by
  unfold tuN
  by_cases c : fN (V.2.2.2.1 d) = nI e
  · rw [if_pos c]; exact Or.inl rfl
  · rw [if_neg c]; exact Or.inr ⟨e, he, fun z => hne z.symm, rfl⟩
theorem apN_ok {V W : CV} {d e : Nat} (hv : VOk V) (h : apN V d e = some W) : VOk W := by
  unfold apN at h
  by_cases c : d < V.1
  · rw [if_pos c] at h
    by_cases c2 : e < V.1
    · rw [if_pos c2] at h
      by_cases c3 : d = e
      · rw [if_pos c3] at h; cases h
      · rw [if_neg c3] at h
        cases h
        exact VxN.ok hv c (tuN_ok c2 c3)
    · rw [if_neg c2] at h; cases h
  · rw [if_neg c] at h; cases h
theorem apS_ok {V W : CV} {q : LV} {p : Nat} (hv : VOk V) (hw : WfA q p) (e : apS V q p = some W) : VOk W := by
  obtain ⟨w1, w2, -⟩ := hw
  unfold apS at e
  by_cases c1 : ltA q p = 100
  · rw [c1] at w2
    have w2 : ∀ i, i < 3 → dgT q (p + 1 + i) := w2
    rw [if_pos c1] at e
    exact apD_ok hv (tv2_le (w2 1 (by omega)) (w2 2 (by omega))) e
  · rw [if_neg c1] at e
    by_cases c2 : ltA q p = 102
    · rw [c2] at w2
      have w2 : ∀ i, i < 4 → dgT q (p + 1 + i) := w2
      rw [if_pos c2] at e
      exact apF_ok hv (tv1_le (w2 1 (by omega))) (tv2_le (w2 2 (by omega)) (w2 3 (by omega))) e
    · rw [if_neg c2] at e
      by_cases c3 : ltA q p = 103
      · rw [c3] at w2
        have w2 : ∀ i, i < 5 → dgT q (p + 1 + i) := w2
        rw [if_pos c3] at e
        exact apG_ok hv (tv2_le (w2 0 (by omega)) (w2 1 (by omega))) (tv2_le (w2 2 (by omega)) (w2 3 (by omega))) e
      · rw [if_neg c3] at e
        by_cases c4 : ltA q p = 104
        · rw [if_pos c4] at e; exact apH_ok hv e
        · rw [if_neg c4] at e
          by_cases c5 : ltA q p = 109
          · rw [if_pos c5] at e; exact apM_ok hv e
          · rw [if_neg c5] at e; exact apN_ok hv e
/-! the object -/
def RX (a : Mm) (r : Option CV) (f : Option (Int32 × Mm)) : Prop := (r = none → f = some (0, a)) ∧ ∀ W, r = some W → ∃ a', f = some (1, a') ∧ Fr 2 a a' ∧ HC a' 2 W
theorem RX.n {a : Mm} {f : Option (Int32 × Mm)} (h : f = some (0, a)) : RX a none f := ⟨fun _ => h, fun W e => by cases e⟩
theorem RX.s {a a' : Mm} {W : CV} {f : Option (Int32 × Mm)} (h : f = some (1, a')) (h1 : Fr 2 a a') (h2 : HC a' 2 W) : RX a (some W) f := ⟨fun e => (by cases e), fun W' e => (by cases e; exact ⟨a', h, h1, h2⟩)⟩
theorem digit_e {s : Mm} {q : LV} {p : Nat} (h : LetX s q) (hp : p < 900) (hd : dgT q p) : f_L_digitAt s (nI p) = some (nI (tvN q p 1), s) := by
  unfold f_L_digitAt
  rw [letterAt_e h (by omega), bn_s, (dg_n hd).1, show (48 : Int32) = nI 48 from rfl, pk_sub (by omega), tv1, show 48 + dN q p - 48 = dN q p by omega]
theorem two_e {s : Mm} {q : LV} {p : Nat} (h : LetX s q) (hp : p < 800) (hd : dgT q p) (hd2 : dgT q (p + 1)) : f_L_twoDigitsAt s (nI p) = some (nI (tvN q p 2), s) := by
  unfold f_L_twoDigitsAt
  rw [digit_e h (by omega) hd, bn_s, nI_1, digit_e h (by omega) hd2, bn_s, tv1, tv1, show (10 : Int32) * nI (dN q p) = nI (10 * dN q p) from pk_mul 10 _, nI_add, tv2]
theorem addF_e {s : Mm} {c : Nat} {V : CV} {k f w : Int32} (h : HC s c V) (hv : VOk V) (hn : V.1 < 6) (hc : c < 11) : ∃ s', f_C_addFriend s c k f w = some (nI V.1, s') ∧ HC s' c (fAdd V (newF k f w)) ∧ Fr c s s' := by
  unfold f_C_addFriend
  rw [nm_s, h.1.1, friendAt_e hn, bn_s]
  unfold f_F_begin
  obtain ⟨s2, b1, b2, b3, b4, b5, b6, b7⟩ := become_e (s := s) (o := 33 + 7 * c + V.1) (a := k) (b := f)
  rw [b1, bv_s]
  simp only [nm_s, bv_s]
  obtain ⟨s3, es3⟩ : ∃ s3, s3 = mU (mU (mU (mU s2 (33 + 7 * c + V.1) 2 w) (33 + 7 * c + V.1) 3 (-1)) (33 + 7 * c + V.1) 7 1) (33 + 7 * c + V.1) 8 0 := ⟨_, rfl⟩
  rw [← es3]
  have f3 : ∀ z j, z ≠ 33 + 7 * c + V.1 → s3 z j = s2 z j := fun z j hz => by rw [es3]; simp [mU_get, hz]
  have r0 : s2 (33 + 7 * c + V.1) 0 = k := congrArg (fun x : FV => x.1) b2
  have r1 : s2 (33 + 7 * c + V.1) 1 = f := congrArg (fun x : FV => x.2.1) b2
  have w4 : s3 c 4 = nI V.1 := by rw [f3 _ _ (by omega), b7 _ _ (by omega)]; exact h.1.1
  obtain ⟨s4, es4⟩ : ∃ s4, s4 = mU s3 c 4 (s3 c 4 + 1) := ⟨_, rfl⟩
  rw [← es4]
  have f4 : ∀ z j, ¬ (z = c ∧ j = 4) → s4 z j = s3 z j := fun z j hz => by rw [es4, mU_get, if_neg hz]
  have ff : ∀ z j, z ≠ 33 + 7 * c + V.1 → ¬ (z = c ∧ j = 4) → s4 z j = s z j := fun z j h1 h2 => by rw [f4 _ _ h2, f3 _ _ h1, b7 _ _ h1]
  have k4 : ∀ j, s4 (33 + 7 * c + V.1) j = s3 (33 + 7 * c + V.1) j := fun j => f4 _ _ (by omega)
  have hF : HF s4 c (V.1 + 1) (upF V.2.2.2.1 V.1 (newF k f w)) := by
    refine h.1.add hn hc ff (by rw [es4, mU_get, if_pos ⟨rfl, rfl⟩, w4, nI_1]) ?_ ?_ ?_ ?_
    · simp only [fRow, k4]
      rw [es3]
      simp [mU_get, r0, r1, newF]
    · rw [k4, es3]; simp [mU_get, b3, newF]
    · rw [k4, es3]; simp [mU_get, b4, newF]
    · rw [k4, es3]; simp [mU_get, b5, newF]
  have hm := hv.2.1
  refine ⟨s4, rfl, ⟨hF, ⟨by rw [ff _ _ (by omega) (by omega)]; exact h.2.1.1, fun z hz => ?_⟩, by rw [ff _ _ (by omega) (by omega)]; exact h.2.2⟩, fun z j hz => ff z j (fun y => hz (y ▸ ownF (by omega))) (fun y => hz (y.1 ▸ ownC))⟩
  have hz' : z < V.2.1 := hz
  have := h.2.1.2 z hz
  simp only [gRow, fun j => ff (110 + 5 * c + z) j (by omega) (by omega)] at this ⊢
  exact this
theorem addG_e {s : Mm} {c : Nat} {V : CV} {a w z : Int32} (h : HC s c V) (hv : VOk V) (hm : V.2.1 < 4) (hc : c < 11) : ∃ s', f_C_addGift s c a w z = some (nI V.2.1, s') ∧ HC s' c (gAdd V (newG a w z)) ∧ Fr c s s' := by
  unfold f_C_addGift
  rw [nm_s, h.2.1.1, giftAt_e hm, bn_s]
  unfold f_G_begin
  simp only [nm_s, bv_s]
  obtain ⟨s3, es3⟩ : ∃ s3, s3 = mU (mU (mU (mU (mU (mU s (110 + 5 * c + V.2.1) 0 w) (110 + 5 * c + V.2.1) 1 z) (110 + 5 * c + V.2.1) 2 a) (110 + 5 * c + V.2.1) 3 0) (110 + 5 * c + V.2.1) 4 0) (110 + 5 * c + V.2.1) 5 0 := ⟨_, rfl⟩
  rw [← es3]
  have f3 : ∀ y j, y ≠ 110 + 5 * c + V.2.1 → s3 y j = s y j := fun y j hy => by rw [es3]; simp [mU_get, hy]
  have w4 : s3 c 5 = nI V.2.1 := by rw [f3 _ _ (by omega)]; exact h.2.1.1
  obtain ⟨s4, es4⟩ : ∃ s4, s4 = mU s3 c 5 (s3 c 5 + 1) := ⟨_, rfl⟩
  rw [← es4]
  have f4 : ∀ y j, ¬ (y = c ∧ j = 5) → s4 y j = s3 y j := fun y j hy => by rw [es4, mU_get, if_neg hy]
  have ff : ∀ y j, y ≠ 110 + 5 * c + V.2.1 → ¬ (y = c ∧ j = 5) → s4 y j = s y j := fun y j h1 h2 => by rw [f4 _ _ h2, f3 _ _ h1]
  have k4 : ∀ j, s4 (110 + 5 * c + V.2.1) j = s3 (110 + 5 * c + V.2.1) j := fun j => f4 _ _ (by omega)
  have hG : HG s4 c (V.2.1 + 1) (upG V.2.2.2.2 V.2.1 (newG a w z)) := by
    refine h.2.1.add hm hc ff (by rw [es4, mU_get, if_pos ⟨rfl, rfl⟩, w4, nI_1]) ?_
    simp only [gRow, k4]
    rw [es3]
    simp [mU_get, newG]
  have hn := hv.1
  refine ⟨s4, rfl, ⟨⟨by rw [ff _ _ (by omega) (by omega)]; exact h.1.1, fun y hy => ?_⟩, hG, by rw [ff _ _ (by omega) (by omega)]; exact h.2.2⟩, fun y j hy => ff y j (fun x => hy (x ▸ ownG (by omega))) (fun x => hy (x.1 ▸ ownC))⟩
  have hy' : y < V.1 := hy
  have := h.1.2 y hy
  simp only [fRow, fun j => ff (33 + 7 * c + y) j (by omega) (by omega)] at this ⊢
  exact this
theorem tellDoor_e {a : Mm} {q : LV} {V : CV} {p : Nat} (hL : LetX a q) (h : HC a 2 V) (hv : VOk V) (hp : p < 200) (h0 : dgT q p) (h1 : dgT q (p + 1)) (h2 : dgT q (p + 2)) : RX a (apD V (tvN q p 1) (tvN q (p + 1) 2)) (f_L_tellDoor a 2 (nI p)) := by
  have hn := hv.1
  have b1 := tv1_le h0
  have b2 := tv2_le h1 h2
  unfold f_L_tellDoor apD
  rw [digit_e hL (by omega) h0, bn_s, nI_1, two_e hL (by omega) h1 h2, bn_s, hasFriend_e, bn_s, h.1.1, inN_d (by omega) (by omega)]
  by_cases c : tvN q p 1 < V.1
  · rw [if_pos c, if_neg (show ¬ (if tvN q p 1 < V.1 then (1 : Int32) else 0) = 0 by rw [if_pos c]; decide)]
    by_cases d : tvN q (p + 1) 2 = 0
    · rw [if_pos d, if_neg (show ¬ (1 : Int32) ≤ nI (tvN q (p + 1) 2) by rw [d]; decide)]
      exact RX.n rfl
    · rw [if_neg d, if_pos (show (1 : Int32) ≤ nI (tvN q (p + 1) 2) from nI_le (a := 1) (by omega) (by omega)), friendAt_e (by omega), bn_s, nm_s]
      have hb := h.1.at c
      obtain ⟨y1, y2, y3⟩ := HF.set (j := 2) (x := nI (tvN q (p + 1) 2)) (f := (fK (V.2.2.2.1 (tvN q p 1)), fI (V.2.2.2.1 (tvN q p 1)), nI (tvN q (p + 1) 2), fN (V.2.2.2.1 (tvN q p 1)), fT (V.2.2.2.1 (tvN q p 1)))) h hv c (Or.inl rfl) (by simp [fRow, mU_get, hb.1, hb.2.1, hb.2.2.2.1, hb.2.2.2.2]) rfl rfl
      exact RX.s rfl y3 ⟨y1, y2, by rw [mU_get, if_neg (by omega)]; exact h.2.2⟩
  · rw [if_neg c, if_pos (show (if tvN q p 1 < V.1 then (1 : Int32) else 0) = 0 by rw [if_neg c])]
    exact RX.n rfl
theorem tellFriend_e {a : Mm} {q : LV} {V : CV} {p : Nat} (hL : LetX a q) (h : HC a 2 V) (hv : VOk V) (hp : p < 200) (h0 : dgT q p) (h1 : dgT q (p + 1)) (h2 : dgT q (p + 2)) (h3 : dgT q (p + 3)) : RX a (apF V (tvN q p 1) (tvN q (p + 1) 1) (tvN q (p + 2) 2)) (f_L_tellFriend a 2 (nI p)) := by
  have hn := hv.1
  have b1 := tv1_le h0
  have b2 := tv2_le h2 h3
  unfold f_L_tellFriend apF
  rw [digit_e hL (by omega) h0, bn_s, show nI p + 2 = nI (p + 2) from nI_add p 2, two_e hL (by omega) h2 h3, bn_s]
  by_cases c : 5 < tvN q p 1
  · rw [if_pos c, if_pos (show (5 : Int32) < nI (tvN q p 1) from nI_lt (a := 5) c (by omega))]
    exact RX.n rfl
  · rw [if_neg c, if_neg (show ¬ (5 : Int32) < nI (tvN q p 1) from nI_nlt (a := 5) (by omega) (by omega))]
    by_cases d : tvN q (p + 2) 2 = 0
    · rw [if_pos d, if_pos (show nI (tvN q (p + 2) 2) < 1 by rw [d]; decide)]
      exact RX.n rfl
    · rw [if_neg d, if_neg (show ¬ nI (tvN q (p + 2) 2) < 1 from nI_nlt (b := 1) (by omega) (by omega))]
      unfold f_C_friendsAreFull
      rw [h.1.1]
      by_cases e : V.1 = 6
      · rw [if_pos e, if_neg (show ¬ nI V.1 < 6 by rw [e]; decide), bn_s, if_neg (by decide)]
        exact RX.n rfl
      · rw [if_neg e, if_pos (show nI V.1 < 6 from nI_lt (b := 6) (by omega) (by omega)), bn_s, if_pos rfl, nI_1, digit_e hL (by omega) h1, bn_s]
        obtain ⟨s', y1, y2, y3⟩ := addF_e (k := nI (tvN q p 1)) (f := nI (tvN q (p + 1) 1)) (w := nI (tvN q (p + 2) 2)) h hv (by omega) (by omega)
        rw [y1, bn_s]
        exact RX.s rfl y3 y2
theorem tellGift_e {a : Mm} {q : LV} {V : CV} {p : Nat} (hL : LetX a q) (h : HC a 2 V) (hv : VOk V) (hp : p < 200) (h0 : dgT q p) (h1 : dgT q (p + 1)) (h2 : dgT q (p + 2)) (h3 : dgT q (p + 3)) (h4 : dgT q (p + 4)) : RX a (apG V (tvN q p 2) (tvN q (p + 2) 2) (tvN q (p + 4) 1)) (f_L_tellGift a 2 (nI p)) := by
  have hn := hv.1
  have hm := hv.2.1
  have b1 := tv1_le h4
  have b2 := tv2_le h2 h3
  unfold f_L_tellGift apG
  rw [show nI p + 2 = nI (p + 2) from nI_add p 2, two_e hL (by omega) h2 h3, bn_s, show nI p + 4 = nI (p + 4) from nI_add p 4, digit_e hL (by omega) h4, bn_s]
  by_cases d : tvN q (p + 2) 2 = 0
  · rw [if_pos d, if_pos (show nI (tvN q (p + 2) 2) < 1 by rw [d]; decide)]
    by_cases c : tvN q (p + 4) 1 < V.1
    · rw [if_pos c]; exact RX.n rfl
    · rw [if_neg c]; exact RX.n rfl
  · rw [if_neg d, if_neg (show ¬ nI (tvN q (p + 2) 2) < 1 from nI_nlt (b := 1) (by omega) (by omega)), hasFriend_e, bn_s, h.1.1, inN_d (by omega) (by omega)]
    by_cases c : tvN q (p + 4) 1 < V.1
    · rw [if_pos c, if_neg (show ¬ (if tvN q (p + 4) 1 < V.1 then (1 : Int32) else 0) = 0 by rw [if_pos c]; decide)]
      unfold f_C_giftsAreFull
      rw [h.2.1.1]
      by_cases e : V.2.1 = 4
      · rw [if_pos e, if_neg (show ¬ nI V.2.1 < 4 by rw [e]; decide), bn_s, if_neg (by decide)]
        exact RX.n rfl
      · rw [if_neg e, if_pos (show nI V.2.1 < 4 from nI_lt (b := 4) (by omega) (by omega)), bn_s, if_pos rfl, two_e hL (by omega) h0 h1, bn_s]
        obtain ⟨s', y1, y2, y3⟩ := addG_e (a := nI (tvN q (p + 4) 1)) (w := nI (tvN q p 2)) (z := nI (tvN q (p + 2) 2)) h hv (by omega) (by omega)
        rw [y1, bn_s]
        exact RX.s rfl y3 y2
    · rw [if_neg c, if_pos (show (if tvN q (p + 4) 1 < V.1 then (1 : Int32) else 0) = 0 by rw [if_neg c])]
      exact RX.n rfl
theorem tellHands_e {a : Mm} {q : LV} {V : CV} {p : Nat} (hL : LetX a q) (h : HC a 2 V) (hv : VOk V) (hp : p < 200) (h0 : dgT q p) (h1 : dgT q (p + 1)) : RX a (apH V (tvN q p 1) (tvN q (p + 1) 1)) (f_L_tellHands a 2 (nI p)) := by
  have hn := hv.1
  have hm := hv.2.1
  have b0 := tv1_le h0
  have b1 := tv1_le h1
  unfold f_L_tellHands apH
  rw [digit_e hL (by omega) h0, bn_s, nI_1, digit_e hL (by omega) h1, bn_s, hasGift_e, bn_s, h.2.1.1, inN_d (by omega) (by omega)]
  by_cases c : tvN q p 1 < V.2.1
  · rw [if_pos c, if_neg (show ¬ (if tvN q p 1 < V.2.1 then (1 : Int32) else 0) = 0 by rw [if_pos c]; decide), hasFriend_e, bn_s, h.1.1, inN_d (by omega) (by omega)]
    by_cases d : tvN q (p + 1) 1 < V.1
    · rw [if_pos d, if_neg (show ¬ (if tvN q (p + 1) 1 < V.1 then (1 : Int32) else 0) = 0 by rw [if_pos d]; decide), giftAt_e (by omega), bn_s, goTo_e, bv_s]
      obtain ⟨z1, z2⟩ := h.go (x := nI (tvN q (p + 1) 1)) hv c
      exact RX.s rfl z2 z1
    · rw [if_neg d, if_pos (show (if tvN q (p + 1) 1 < V.1 then (1 : Int32) else 0) = 0 by rw [if_neg d])]
      exact RX.n rfl
  · rw [if_neg c, if_pos (show (if tvN q p 1 < V.2.1 then (1 : Int32) else 0) = 0 by rw [if_neg c])]
    exact RX.n rfl
theorem tellMonths_e {a : Mm} {q : LV} {V : CV} {p : Nat} (hL : LetX a q) (h : HC a 2 V) (hv : VOk V) (hp : p < 200) (h0 : dgT q p) (h1 : dgT q (p + 1)) : RX a (apM V (tvN q p 2)) (f_L_tellMonths a 2 (nI p)) := by
  have b0 := tv2_le h0 h1
  unfold f_L_tellMonths apM
  rw [two_e hL (by omega) h0 h1, bn_s]
  by_cases c : tvN q p 2 = 0
  · rw [if_pos c, if_pos (show nI (tvN q p 2) < 1 by rw [c]; decide)]
    exact RX.n rfl
  · rw [if_neg c, if_neg (show ¬ nI (tvN q p 2) < 1 from nI_nlt (b := 1) (by omega) (by omega))]
    by_cases d : 60 < tvN q p 2
    · rw [if_pos d, if_pos (show (60 : Int32) < nI (tvN q p 2) from nI_lt (a := 60) d (by omega))]
      exact RX.n rfl
    · rw [if_neg d, if_neg (show ¬ (60 : Int32) < nI (tvN q p 2) from nI_nlt (a := 60) (by omega) (by omega)), h.2.2]
      by_cases e : V.2.2.1 + nI (tvN q p 2) ≤ 999
      · rw [if_pos e, if_pos e]
        obtain ⟨s3, c1, c2, c3, c4, c5, c6⟩ := pass_e (N := tvN q p 2) h.1 h.2.1 (fun q _ => rfl) hv.M.n hv.H hv.1 hv.2.1 (by omega) (by omega)
        rw [c1, bv_s]
        exact RX.s rfl c6 ⟨c2, c3, by rw [c5, h.2.2]; rfl⟩
      · rw [if_neg e, if_neg e]
        exact RX.n rfl
theorem tellNext_e {a : Mm} {q : LV} {V : CV} {p : Nat} (hL : LetX a q) (h : HC a 2 V) (hv : VOk V) (hp : p < 200) (h0 : dgT q p) (h1 : dgT q (p + 1)) : RX a (apN V (tvN q p 1) (tvN q (p + 1) 1)) (f_L_tellNext a 2 (nI p)) := by
  have hn := hv.1
  have b0 := tv1_le h0
  have b1 := tv1_le h1
  unfold f_L_tellNext apN
  rw [digit_e hL (by omega) h0, bn_s, nI_1, digit_e hL (by omega) h1, bn_s, hasFriend_e, bn_s, h.1.1, inN_d (by omega) (by omega)]
  by_cases c : tvN q p 1 < V.1
  · rw [if_pos c, if_neg (show ¬ (if tvN q p 1 < V.1 then (1 : Int32) else 0) = 0 by rw [if_pos c]; decide), hasFriend_e, bn_s, h.1.1, inN_d (by omega) (by omega)]
    by_cases d : tvN q (p + 1) 1 < V.1
    · rw [if_pos d, if_neg (show ¬ (if tvN q (p + 1) 1 < V.1 then (1 : Int32) else 0) = 0 by rw [if_pos d]; decide)]
      by_cases e : tvN q p 1 = tvN q (p + 1) 1
      · rw [if_pos e, if_pos (show nI (tvN q p 1) = nI (tvN q (p + 1) 1) by rw [e])]
        exact RX.n rfl
      · rw [if_neg e, if_neg (show ¬ nI (tvN q p 1) = nI (tvN q (p + 1) 1) from fun z => e ((nI_eq (by omega) (by omega)).mp z))]
        have hb := h.1.at c
        unfold f_C_turnNext k_C_turnNext_19 tuN
        rw [friendAt_e (by omega), bn_s, hb.2.2.2.1]
        by_cases y : fN (V.2.2.2.1 (tvN q p 1)) = nI (tvN q (p + 1) 1)
        · rw [if_pos y, if_pos y, if_neg (show ¬ (1 : Int32) = 0 by decide), nm_s, if_neg (show ¬ (1 : Int32) = 0 by decide), bn_s]
          obtain ⟨z1, z2⟩ := h.next (x := -1) hv c
          exact RX.s rfl z2 z1
        · rw [if_neg y, if_neg y, if_pos (show (0 : Int32) = 0 from rfl), nm_s, if_pos (show (0 : Int32) = 0 from rfl), bn_s]
          obtain ⟨z1, z2⟩ := h.next (x := nI (tvN q (p + 1) 1)) hv c
          exact RX.s rfl z2 z1
    · rw [if_neg d, if_pos (show (if tvN q (p + 1) 1 < V.1 then (1 : Int32) else 0) = 0 by rw [if_neg d])]
      exact RX.n rfl
  · rw [if_neg c, if_pos (show (if tvN q p 1 < V.1 then (1 : Int32) else 0) = 0 by rw [if_neg c])]
    exact RX.n rfl
theorem RX.b {a : Mm} {r : Option CV} {f : Option (Int32 × Mm)} (h : RX a r f) : RX a r (bn f fun x s' => gb x <| some (x, s')) := by
  refine ⟨fun e => ?_, fun W e => ?_⟩
  · rw [h.1 e, bn_s, gb_0]
  · obtain ⟨a', h1, h2⟩ := h.2 W e
    exact ⟨a', by rw [h1, bn_s, gb_1], h2⟩
theorem tellX_e {a : Mm} {q : LV} {V : CV} {p : Nat} (hL : LetX a q) (h : HC a 2 V) (hv : VOk V) (hw : WfA q p) : RX a (apS V q p) (f_L_tellStatement a 2 (nI p)) := by
  have h96 := hL.1
  have hf := hw.fit
  obtain ⟨w1, w2, -⟩ := hw
  unfold f_L_tellStatement apS
  rw [letterAt_e hL (by omega), bn_s, nI_1]
  rcases kind6 w1 with e | e | e | e | e | e
  · rw [e] at w2 ⊢
    have w2 : ∀ i, i < 3 → dgT q (p + 1 + i) := w2
    rw [if_pos rfl, if_pos rfl]
    exact (tellDoor_e hL h hv (by omega) (w2 0 (by omega)) (w2 1 (by omega)) (w2 2 (by omega))).b
  · rw [e] at w2 ⊢
    have w2 : ∀ i, i < 4 → dgT q (p + 1 + i) := w2
    rw [if_neg (by decide), if_pos rfl, if_neg (by decide), if_pos rfl]
    exact (tellFriend_e hL h hv (by omega) (w2 0 (by omega)) (w2 1 (by omega)) (w2 2 (by omega)) (w2 3 (by omega))).b
  · rw [e] at w2 ⊢
    have w2 : ∀ i, i < 5 → dgT q (p + 1 + i) := w2
    rw [if_neg (by decide), if_neg (by decide), if_pos rfl, if_neg (by decide), if_neg (by decide), if_pos rfl]
    exact (tellGift_e hL h hv (by omega) (w2 0 (by omega)) (w2 1 (by omega)) (w2 2 (by omega)) (w2 3 (by omega)) (w2 4 (by omega))).b
  · rw [e] at w2 ⊢
    have w2 : ∀ i, i < 2 → dgT q (p + 1 + i) := w2
    rw [if_neg (by decide), if_neg (by decide), if_neg (by decide), if_pos rfl, if_neg (by decide), if_neg (by decide), if_neg (by decide), if_pos rfl]
    exact (tellHands_e hL h hv (by omega) (w2 0 (by omega)) (w2 1 (by omega))).b
  · rw [e] at w2 ⊢
    have w2 : ∀ i, i < 2 → dgT q (p + 1 + i) := w2
    rw [if_neg (by decide), if_neg (by decide), if_neg (by decide), if_neg (by decide), if_pos rfl, if_neg (by decide), if_neg (by decide), if_neg (by decide), if_neg (by decide), if_pos rfl]
    exact (tellMonths_e hL h hv (by omega) (w2 0 (by omega)) (w2 1 (by omega))).b
  · rw [e] at w2 ⊢
    have w2 : ∀ i, i < 2 → dgT q (p + 1 + i) := w2
    rw [if_neg (by decide), if_neg (by decide), if_neg (by decide), if_neg (by decide), if_neg (by decide), if_pos rfl, if_neg (by decide), if_neg (by decide), if_neg (by decide), if_neg (by decide), if_neg (by decide)]
    exact (tellNext_e hL h hv (by omega) (w2 0 (by omega)) (w2 1 (by omega))).b
