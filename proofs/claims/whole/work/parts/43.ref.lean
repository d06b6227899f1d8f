/-! the reference's months -/
/-- what the months need of friends, of a gift -/
def FM (nF : Nat) (F : Nat → FV) : Prop := ∀ k, k < nF → (0 ≤ (fI (F k)).toInt ∧ (fI (F k)).toInt ≤ 9) ∧ (fT (F k) = 1 ∨ fT (F k) = 2) ∧ (fN (F k) = -1 ∨ ∃ p, p < nF ∧ fN (F k) = nI p)
def GI (nF : Nat) (g : GV) : Prop := HOk nF g ∧ (0 ≤ (gW g).toInt ∧ (gW g).toInt ≤ 999) ∧ (1 ≤ (gZ' g).toInt ∧ (gZ' g).toInt ≤ 999) ∧ (0 ≤ (gK g).toInt ∧ (gK g).toInt ≤ 99) ∧ (0 ≤ (gP g).toInt ∧ (gP g).toInt ≤ 99)
theorem FM.n {nF : Nat} {F : Nat → FV} (h : FM nF F) : NOk nF F := fun k hk => (h k hk).2.2
theorem FsOk.m {nF : Nat} {F : Nat → FV} (h : FsOk nF F) : FM nF F := fun k hk => ⟨(h k hk).2.1, Or.inl (h k hk).2.2.2.2, h.n k hk⟩
theorem l0 : (0 : Int32).toInt = 0 := rfl
theorem l1 : (1 : Int32).toInt = 1 := rfl
theorem l2 : (2 : Int32).toInt = 2 := rfl
theorem l99 : (99 : Int32).toInt = 99 := rfl
theorem l999 : (999 : Int32).toInt = 999 := rfl
theorem l5 : (5 : Int32).toInt = 5 := rfl
theorem hld_k {x : Int32} (h : 0 ≤ x.toInt ∧ x.toInt ≤ 99) : hld (x + 1) 0 99 = mn (x + 1) 99 := by
  have e : (x + 1).toInt = x.toInt + 1 := i32_add (by rw [l1]; omega) (by rw [l1]; omega)
  unfold hld mn
  simp only [i32_le, i32_lt, e, l0, l99]
  split <;> split <;> first | rfl | omega | (split <;> first | rfl | omega)
theorem hld_z (x : Int32) : hld x 1 999 = mx 1 (mn x 999) := by
  unfold hld mn mx
  simp only [i32_le, i32_lt, l1, l999]
  by_cases h1 : 999 < x.toInt
  · simp only [h1, if_true]
    rw [if_pos (by omega), if_neg (by omega), if_pos (by decide)]
  · simp only [h1, if_false]
    by_cases h2 : 1 ≤ x.toInt
    · rw [if_pos h2, if_pos (by omega)]
      by_cases h3 : 1 < x.toInt
      · rw [if_pos h3]
      · rw [if_neg h3, i32_eq, l1]; omega
    · rw [if_neg h2, if_neg (by omega)]
theorem adK_r {k f : Int32} (h : 0 ≤ f.toInt ∧ f.toInt ≤ 9) : 0 ≤ (adK k f).toInt ∧ (adK k f).toInt ≤ 10 := by
  have e : (f + 1).toInt = f.toInt + 1 := i32_add (by rw [l1]; omega) (by rw [l1]; omega)
  have e' : (1 + f).toInt = 1 + f.toInt := i32_add (by rw [l1]; omega) (by rw [l1]; omega)
  have e2 : ((f + 1) / 2).toInt = (f.toInt + 1) / 2 := by
    rw [Int32.toInt_div, e, l2, Int.tdiv_eq_ediv_of_nonneg (by omega)]
    exact Int.bmod_eq_of_le (by omega) (by omega)
  unfold adK
  repeat' split
  · decide
  · decide
  · decide
  · rw [e']; omega
  · rw [e2]; omega
  · rw [e]; omega
theorem moreG_r {f : FV} {w : Int32} (h : 0 ≤ (fI f).toInt ∧ (fI f).toInt ≤ 9) (hT : fT f = 1 ∨ fT f = 2) (hw : 0 ≤ w.toInt ∧ w.toInt ≤ 999) : (adK (fK f) (fI f) * fT f).toInt = (adK (fK f) (fI f)).toInt * (fT f).toInt ∧ 0 ≤ (moreG f w).toInt ∧ (w + moreG f w).toInt = w.toInt + (moreG f w).toInt ∧ w.toInt + (moreG f w).toInt ≤ 999 ∧ hld (w + adK (fK f) (fI f) * fT f) 0 999 = w + moreG f w := by
  have ha := adK_r (k := fK f) h
  have e1 : (adK (fK f) (fI f) * fT f).toInt = (adK (fK f) (fI f)).toInt * (fT f).toInt := by
    apply i32_mul
    · rcases hT with q | q <;> rw [q] <;> simp only [l1, l2] <;> omega
    · rcases hT with q | q <;> rw [q] <;> simp only [l1, l2] <;> omega
  have b : 0 ≤ (adK (fK f) (fI f) * fT f).toInt ∧ (adK (fK f) (fI f) * fT f).toInt ≤ 20 := by
    rw [e1]
    rcases hT with q | q <;> rw [q] <;> simp only [l1, l2] <;> omega
  have e2 : (999 - w).toInt = 999 - w.toInt := by
    rw [i32_sub] <;> rw [l999] <;> omega
  have em : moreG f w = mn (adK (fK f) (fI f) * fT f) (999 - w) := rfl
  rw [em]
  refine ⟨e1, ?_⟩
  clear em e1
  generalize adK (fK f) (fI f) * fT f = a at b ⊢
  have e3 : (w + a).toInt = w.toInt + a.toInt := i32_add (by omega) (by omega)
  unfold mn hld
  simp only [i32_lt, i32_le, e2, e3, l0, l999]
  by_cases hc : 999 - w.toInt < a.toInt
  · have e4 : (w + (999 - w)).toInt = 999 := by rw [i32_add] <;> rw [e2] <;> omega
    simp only [hc, if_true]
    rw [if_pos (by omega), if_neg (by omega)]
    refine ⟨by omega, by rw [e4, e2]; omega, by omega, ?_⟩
    rw [i32_eq, e4, l999]
  · simp only [hc, if_false]
    rw [if_pos (by omega), if_pos (by omega)]
    exact ⟨by omega, e3, by omega, rfl⟩
theorem mx_mn_r (x : Int32) : 1 ≤ (mx 1 (mn x 999)).toInt ∧ (mx 1 (mn x 999)).toInt ≤ 999 := by
  rw [← hld_z]
  unfold hld
  simp only [i32_le, l1, l999]
  split
  · split <;> first | (rw [l999]; omega) | omega
  · rw [l1]; omega
theorem mn_r {x : Int32} (h : 0 ≤ x.toInt ∧ x.toInt ≤ 99) : 0 ≤ (mn (x + 1) 99).toInt ∧ (mn (x + 1) 99).toInt ≤ 99 := by
  have e : (x + 1).toInt = x.toInt + 1 := i32_add (by rw [l1]; omega) (by rw [l1]; omega)
  unfold mn
  simp only [i32_lt, e, l99]
  split
  · rw [l99]; omega
  · rw [e]; omega
theorem GI.keep {nF : Nat} {g : GV} (h : GI nF g) : GI nF (keepG g) := ⟨h.1, h.2.1, h.2.2.1, mn_r h.2.2.2.1, h.2.2.2.2⟩
theorem GI.bet {nF : Nat} {g : GV} {f : FV} (h : GI nF g) (hf : 0 ≤ (fI f).toInt ∧ (fI f).toInt ≤ 9) (hT : fT f = 1 ∨ fT f = 2) : GI nF (betG f g) := by
  have hm := moreG_r hf hT h.2.1
  have hw := h.2.1
  refine ⟨h.1.bet, ?_⟩
  unfold betG
  split
  · exact ⟨⟨by show 0 ≤ (gW g + moreG f (gW g)).toInt; omega, by show (gW g + moreG f (gW g)).toInt ≤ 999; omega⟩, mx_mn_r _, h.2.2.2.1, h.2.2.2.2⟩
  · exact h.2
theorem GI.go {nF p : Nat} {g : GV} (h : GI nF g) (hp : p < nF) : GI nF (goG (nI p) g) := ⟨⟨⟨p, hp, rfl⟩, Or.inl rfl⟩, h.2.1, h.2.2.1, by show 0 ≤ (0 : Int32).toInt ∧ (0 : Int32).toInt ≤ 99; decide, h.2.2.2.2⟩
theorem GI.give {nF : Nat} {g : GV} {F : Nat → FV} (h : GI nF g) (hN : NOk nF F) (hn : nF ≤ 6) : GI nF (giveG F g) := by
  refine ⟨h.1.give hN hn, ?_⟩
  unfold giveG
  split
  · exact h.2
  · split
    · exact h.2
    · exact ⟨h.2.1, h.2.2.1, by show 0 ≤ (0 : Int32).toInt ∧ (0 : Int32).toInt ≤ 99; decide, mn_r h.2.2.2.2⟩
theorem GI.step {nF : Nat} {g : GV} {F : Nat → FV} (h : GI nF g) (hM : FM nF F) (hn : nF ≤ 6) : GI nF (stepG F g) := by
  obtain ⟨p, hp, e⟩ := h.1.1
  unfold stepG
  rw [e, ix_nI (by omega)]
  split
  · exact (GI.bet h.keep (hM p hp).1 (hM p hp).2.1).give hM.n hn
  · exact h.keep
theorem GI.it {nF : Nat} {g : GV} {F : Nat → FV} (h : GI nF g) (hM : FM nF F) (hn : nF ≤ 6) : ∀ n, GI nF (gIt F n g)
  | 0 => h
  | n + 1 => (GI.it h hM hn n).step hM hn
/-- the reference's rows -/
def nx (x : Int32) : Int32 := if x = -1 then -9 else x
def rRow (s : Mm) (k : Nat) : GV := (s 182 k, s 183 k, s 184 k, s 185 k, s 186 k, s 187 k)
def RFv (s : Mm) (nF : Nat) (F : Nat → FV) : Prop := s 176 11 = nI nF ∧ ∀ k, k < nF → s 178 k = fK (F k) ∧ s 179 k = fI (F k) ∧ s 180 k = fD (F k) ∧ s 181 k = nx (fN (F k)) ∧ hasB (s 176 14) (nI k) = if fT (F k) = 2 then 1 else 0
def RGv (s : Mm) (nG : Nat) (G : Nat → GV) : Prop := s 176 12 = nI nG ∧ ∀ k, k < nG → rRow s k = G k
def RBv (s : Mm) (nF : Nat) (B : Nat → Int32) : Prop := ∀ k, k < nF → s 188 k = B k
theorem RGv.at {s : Mm} {nG k : Nat} {G : Nat → GV} (h : RGv s nG G) (hk : k < nG) : s 182 k = gW (G k) ∧ s 183 k = gZ' (G k) ∧ s 184 k = gH (G k) ∧ s 185 k = gK (G k) ∧ s 186 k = gB (G k) ∧ s 187 k = gP (G k) := by
  have e := h.2 k hk
  exact ⟨by rw [← e]; rfl, by rw [← e]; rfl, by rw [← e]; rfl, by rw [← e]; rfl, by rw [← e]; rfl, by rw [← e]; rfl⟩
theorem puts_e {s : Mm} {k : Nat} (hk : k < 4) (p : Int32) : f_R_puts s (nI k) p = some (mU (mU (mU s 184 k p) 185 k 0) 186 k 0) := by
  unfold f_R_puts
  simp only [gd_n hk (by omega : 4 < 2 ^ 31), nm_s, nI_clamp (show k < 2 ^ 31 by omega)]
theorem sizeBehind_e {s : Mm} {k p : Nat} {F : Nat → FV} {nF : Nat} (hF : RFv s nF F) (hn : nF ≤ 6) (hk : k < 4) (hp : p < nF) (hh : s 184 k = nI p) : f_R_sizeBehind s (nI k) = some (if s 186 k = 1 then s 183 k else mx 1 (mn (s 183 k + swK (fK (F p)) (fI (F p))) 999), s) := by
  unfold f_R_sizeBehind
  simp only [gd_n hk (by omega : 4 < 2 ^ 31), nI_clamp (show k < 2 ^ 31 by omega)]
  by_cases h : s 186 k = 1
  · rw [if_pos h, if_pos h]
  · rw [if_neg h, if_neg h, hh, RswellsOf_e (by omega), bn_s, held_e, bn_s, (hF.2 p hp).1, (hF.2 p hp).2.1, hld_z]
/-- what a month writes -/
def FrM (s s' : Mm) : Prop := ∀ q j, ¬ (182 ≤ q ∧ q ≤ 188) → s' q j = s q j
theorem RFv.fr {s s' : Mm} {nF : Nat} {F : Nat → FV} (h : RFv s nF F) (hf : FrM s s') : RFv s' nF F := by
  refine ⟨by rw [hf _ _ (by omega)]; exact h.1, fun k hk => ?_⟩
  rw [hf 178 k (by omega), hf 179 k (by omega), hf 180 k (by omega), hf 181 k (by omega), hf 176 14 (by omega)]
  exact h.2 k hk
theorem betters_e {s : Mm} {k p : Nat} {F : Nat → FV} {nF : Nat} {g : GV} (hF : RFv s nF F) (hM : FM nF F) (hn : nF ≤ 6) (hk : k < 4) (hp : p < nF) (hg : rRow s k = g) (hh : gH g = nI p) (hi : GI nF g) :
    ∃ s', f_R_betters s (nI k) = some s' ∧ rRow s' k = betG (F p) g ∧ (∀ i, i ≠ k → rRow s' i = rRow s i) ∧ s' 188 p = s 188 p + (gW (betG (F p) g) - gW g) ∧ (∀ i, i ≠ p → s' 188 i = s 188 i) ∧ FrM s s' := by
  have a0 : s 182 k = gW g := by rw [← hg]; rfl
  have a1 : s 183 k = gZ' g := by rw [← hg]; rfl
  have a2 : s 184 k = nI p := by rw [← hh, ← hg]; rfl
  have a3 : s 185 k = gK g := by rw [← hg]; rfl
  have a4 : s 186 k = gB g := by rw [← hg]; rfl
  have a5 : s 187 k = gP g := by rw [← hg]; rfl
  obtain ⟨b1, b2, b3, b4, b5⟩ := hF.2 p hp
  obtain ⟨m1, m2, m3⟩ := hM p hp
  have hz : ∀ a b : Int32, a + (b - b) = a := fun a b => by rw [Int32.sub_self, Int32.add_zero]
  unfold f_R_betters betG
  simp only [gd_n hk (by omega : 4 < 2 ^ 31), nI_clamp (show k < 2 ^ 31 by omega)]
  rw [a4]
  rcases hi.1.2 with e | e
  · rw [if_neg (by rw [e]; decide), if_pos e, nm_s, a2, RaddsOf_e (by omega), bn_s, has_e, bn_s, b5, b1, b2, a0]
    have key : ∀ v : Int32, v = fT (F p) → ∃ s', k_R_betters_45 (nI k) (nI p) v (adK (fK (F p)) (fI (F p))) (gW g) s = some s' ∧ rRow s' k = (gW g + moreG (F p) (gW g), mx 1 (mn (gZ' g + swK (fK (F p)) (fI (F p))) 999), gH g, gK g, 1, gP g) ∧ (∀ i, i ≠ k → rRow s' i = rRow s i) ∧ s' 188 p = s 188 p + (gW g + moreG (F p) (gW g) - gW g) ∧ (∀ i, i ≠ p → s' 188 i = s 188 i) ∧ FrM s s' := by
      intro v hv
      subst hv
      unfold k_R_betters_45
      simp only [gd_n hk (by omega : 4 < 2 ^ 31), gd_n (show p < 6 by omega) (by omega : 6 < 2 ^ 31), nI_clamp (show k < 2 ^ 31 by omega), nI_clamp (show p < 2 ^ 31 by omega), held_e, bn_s, nm_s]
      rw [(moreG_r m1 m2 hi.2.1).2.2.2.2, a0]
      obtain ⟨s1, e1⟩ : ∃ s1, s1 = mU s 188 p (s 188 p + (gW g + moreG (F p) (gW g) - gW g)) := ⟨_, rfl⟩
      rw [← e1]
      have q1 : ∀ q j, q ≠ 188 → s1 q j = s q j := fun q j h => by rw [e1, mU_get, if_neg (fun z => h z.1)]
      have hF1 : RFv s1 nF F := by
        refine ⟨by rw [q1 _ _ (by omega)]; exact hF.1, fun i hi => ?_⟩
        rw [q1 178 i (by omega), q1 179 i (by omega), q1 180 i (by omega), q1 181 i (by omega), q1 176 14 (by omega)]
        exact hF.2 i hi
      rw [sizeBehind_e hF1 hn hk hp (by rw [q1 _ _ (by omega)]; exact a2), bn_s, q1 186 k (by omega), q1 183 k (by omega), a4, e, a1, if_neg (by decide)]
      refine ⟨_, rfl, ?_, ?_, ?_, ?_, ?_⟩
      · simp only [rRow, mU_get]
        simp [q1, a2, a3, a5, hh]
      · intro i hne
        simp only [rRow, mU_get]
        simp [q1, hne]
      · simp only [mU_get]
        simp [e1, mU_get]
      · intro i hne
        simp only [mU_get]
        simp [e1, mU_get, hne]
      · intro q j hq
        simp only [mU_get]
        rw [if_neg (by omega), if_neg (by omega), if_neg (by omega)]
        exact q1 q j (by omega)
    rcases m2 with t | t
    · rw [t, if_pos (by decide)]
      exact key 1 t.symm
    · rw [t, if_neg (by decide)]
      exact key 2 t.symm
  · rw [if_pos e, if_neg (by rw [e]; decide)]
    exact ⟨s, rfl, hg, fun _ _ => rfl, (hz _ _).symm, fun _ _ => rfl, fun _ _ _ => rfl⟩
theorem goesOn_e {s : Mm} {k nG : Nat} {F : Nat → FV} {nF : Nat} {G : Nat → GV} {B : Nat → Int32} (hF : RFv s nF F) (hG : RGv s nG G) (hB : RBv s nF B) (hM : FM nF F) (hn : nF ≤ 6) (hm : nG ≤ 4) (hk : k < nG) (hi : GI nF (G k)) :
    ∃ s', f_R_goesOn s (nI k) 0 = some s' ∧ RFv s' nF F ∧ RGv s' nG (fun q => if q = k then stepG F (G k) else G q) ∧ RBv s' nF (bst F (G k) B) ∧ FrM s s' := by
  obtain ⟨⟨p, hp, hh⟩, hb⟩ := hi.1
  have hk4 : k < 4 := by omega
  have hz : ∀ a b : Int32, a + (b - b) = a := fun a b => by rw [Int32.sub_self, Int32.add_zero]
  obtain ⟨a0, a1, a2, a3, a4, a5⟩ := hG.at hk
  have hF0 : F (ix (gH (G k))) = F p := by rw [hh, ix_nI (by omega)]
  -- what is wanted of the end, by the row
  have fin : ∀ s' : Mm, rRow s' k = stepG F (G k) → (∀ i, i ≠ k → rRow s' i = rRow s i) → s' 188 p = s 188 p + (gW (stepG F (G k)) - gW (G k)) → (∀ i, i ≠ p → s' 188 i = s 188 i) → FrM s s' → RFv s' nF F ∧ RGv s' nG (fun q => if q = k then stepG F (G k) else G q) ∧ RBv s' nF (bst F (G k) B) ∧ FrM s s' := by
    intro s' h1 h2 h3 h4 h5
    refine ⟨hF.fr h5, ⟨by rw [h5 _ _ (by omega)]; exact hG.1, fun i hi => ?_⟩, fun i hi => ?_, h5⟩
    · by_cases h : i = k
      · subst h; rw [h1]; simp
      · rw [h2 i h, hG.2 i hi]; simp [h]
    · unfold bst
      rw [hh, ix_nI (by omega)]
      by_cases h : i = p
      · subst h
        rw [if_pos rfl, h3, hB i hi]
      · rw [if_neg h, h4 i h]
        exact hB i hi
  unfold f_R_goesOn
  simp only [gd_n hk4 (by omega : 4 < 2 ^ 31), nI_clamp (show k < 2 ^ 31 by omega), held_e, bn_s, nm_s, if_true]
  rw [a3, hld_k hi.2.2.2.1]
  obtain ⟨s1, e1⟩ : ∃ s1, s1 = mU s 185 k (mn (gK (G k) + 1) 99) := ⟨_, rfl⟩
  rw [← e1]
  have q1 : ∀ q j, ¬ (q = 185 ∧ j = k) → s1 q j = s q j := fun q j h => by rw [e1, mU_get, if_neg h]
  have r1 : rRow s1 k = keepG (G k) := by
    have h5 : s1 185 k = mn (gK (G k) + 1) 99 := by rw [e1, mU_get, if_pos ⟨rfl, rfl⟩]
    simp only [rRow, h5, q1 182 k (by omega), q1 183 k (by omega), q1 184 k (by omega), q1 186 k (by omega), q1 187 k (by omega), a0, a1, a2, a4, a5]
    rfl
  have o1 : ∀ i, i ≠ k → rRow s1 i = rRow s i := fun i h => by
    simp only [rRow, q1 182 i (by omega), q1 183 i (by omega), q1 184 i (by omega), q1 185 i (by omega), q1 186 i (by omega), q1 187 i (by omega)]
  have m1 : FrM s s1 := fun q j h => q1 q j (by omega)
  have hF1 : RFv s1 nF F := hF.fr m1
  have b1 : ∀ i, s1 188 i = s 188 i := fun i => q1 _ _ (by omega)
  have t2 : s1 184 k = nI p := by rw [q1 _ _ (by omega), a2, hh]
  have t5 : s1 185 k = gK (keepG (G k)) := by rw [← r1]; rfl
  rw [t2, RwaitsOf_e (by omega), bn_s, (hF1.2 p hp).1, (hF1.2 p hp).2.1, t5]
  by_cases hw : wtK (fK (F p)) (fI (F p)) ≤ gK (keepG (G k))
  · rw [if_pos hw]
    have est1 : stepG F (G k) = giveG F (betG (F p) (keepG (G k))) := by unfold stepG; rw [hF0, if_pos hw]
    obtain ⟨s2, c1, c2, c3, c4, c5, c6⟩ := betters_e hF1 hM hn hk4 hp r1 (show gH (keepG (G k)) = nI p from hh) hi.keep
    rw [c1, bv_s]
    have hg2 : GI nF (betG (F p) (keepG (G k))) := hi.keep.bet (hM p hp).1 (hM p hp).2.1
    have hF2 : RFv s2 nF F := hF1.fr c6
    have hh2 : gH (betG (F p) (keepG (G k))) = nI p := by unfold betG; split <;> exact hh
    have t2' : s2 184 k = nI p := by rw [← hh2, ← c2]; rfl
    simp only [t2', gd_n (show p < 6 by omega) (by omega : 6 < 2 ^ 31), nI_clamp (show p < 2 ^ 31 by omega)]
    rw [(hF2.2 p hp).2.2.2.1]
    have hgk : gW (keepG (G k)) = gW (G k) := rfl
    have hi2 : F (ix (gH (betG (F p) (keepG (G k))))) = F p := by rw [hh2, ix_nI (by omega)]
    rcases (hM p hp).2.2 with e | ⟨r, hr, e⟩
    · have : nx (fN (F p)) < 0 := by rw [e]; decide
      rw [if_pos this]
      have est2 : stepG F (G k) = betG (F p) (keepG (G k)) := by rw [est1]; unfold giveG; rw [hi2, if_pos e]
      exact ⟨s2, rfl, fin s2 (by rw [est2]; exact c2) (fun i h => by rw [c3 i h, o1 i h]) (by rw [est2, c4, b1, hgk]) (fun i h => by rw [c5 i h, b1]) (fun q j h => by rw [c6 q j h, m1 q j h])⟩
    · have e9 : nx (fN (F p)) = nI r := by rw [e]; unfold nx; rw [if_neg (m1_ne (by omega))]
      rw [e9, if_neg (nI_pos (by omega))]
      have em : ¬ fN (F p) = -1 := by rw [e]; exact m1_ne (by omega)
      simp only [gd_n (show r < 6 by omega) (by omega : 6 < 2 ^ 31), nI_clamp (show r < 2 ^ 31 by omega)]
      have t1 : s2 183 k = gZ' (betG (F p) (keepG (G k))) := by rw [← c2]; rfl
      rw [t1, (hF2.2 r hr).2.2.1]
      by_cases hd : fD (F r) < gZ' (betG (F p) (keepG (G k)))
      · have : ¬ gZ' (betG (F p) (keepG (G k))) ≤ fD (F r) := by rw [i32_le]; rw [i32_lt] at hd; omega
        rw [if_neg this]
        have est2 : stepG F (G k) = betG (F p) (keepG (G k)) := by rw [est1]; unfold giveG; rw [hi2, if_neg em, e, ix_nI (by omega), if_pos hd]
        exact ⟨s2, rfl, fin s2 (by rw [est2]; exact c2) (fun i h => by rw [c3 i h, o1 i h]) (by rw [est2, c4, b1, hgk]) (fun i h => by rw [c5 i h, b1]) (fun q j h => by rw [c6 q j h, m1 q j h])⟩
      · have : gZ' (betG (F p) (keepG (G k))) ≤ fD (F r) := by rw [i32_le]; rw [i32_lt] at hd; omega
        rw [if_pos this]
        have est2 : stepG F (G k) = (gW (betG (F p) (keepG (G k))), gZ' (betG (F p) (keepG (G k))), nI r, 0, 0, mn (gP (betG (F p) (keepG (G k))) + 1) 99) := by rw [est1]; unfold giveG; rw [hi2, if_neg em, e, ix_nI (by omega), if_neg hd]
        rw [puts_e hk4, bv_s]
        have t6 : s2 187 k = gP (betG (F p) (keepG (G k))) := by rw [← c2]; rfl
        have t0 : s2 182 k = gW (betG (F p) (keepG (G k))) := by rw [← c2]; rfl
        refine ⟨_, rfl, fin _ ?_ (fun i h => ?_) ?_ (fun i h => ?_) (fun q j h => ?_)⟩
        · rw [est2]
          simp only [rRow, mU_get]
          simp [t0, t1, t6, hld_k hg2.2.2.2.2]
        · rw [← o1 i h, ← c3 i h]
          simp only [rRow, mU_get]
          simp [h]
        · rw [est2]
          simp only [mU_get]
          simp [c4, b1, hgk]
        · simp only [mU_get]
          simp [c5 i h, b1]
        · simp only [mU_get]
          rw [if_neg (by omega), if_neg (by omega), if_neg (by omega), if_neg (by omega), c6 q j h, m1 q j h]
  · rw [if_neg hw]
    have est1 : stepG F (G k) = keepG (G k) := by unfold stepG; rw [hF0, if_neg hw]
    exact ⟨s1, rfl, fin s1 (by rw [est1]; exact r1) o1 (by rw [est1, b1]; exact (hz _ _).symm) (fun i _ => b1 i) m1⟩
/-- a month in which nothing is given or bettered -/
theorem goesOnL_e {s : Mm} {k nG : Nat} {G : Nat → GV} {nF : Nat} (hG : RGv s nG G) (hm : nG ≤ 4) (hk : k < nG) (hi : GI nF (G k)) :
    ∃ s', f_R_goesOn s (nI k) 1 = some s' ∧ RGv s' nG (fun q => if q = k then keepG (G k) else G q) ∧ FrM s s' := by
  have hk4 : k < 4 := by omega
  obtain ⟨a0, a1, a2, a3, a4, a5⟩ := hG.at hk
  unfold f_R_goesOn
  simp only [gd_n hk4 (by omega : 4 < 2 ^ 31), nI_clamp (show k < 2 ^ 31 by omega), held_e, bn_s, nm_s]
  rw [if_neg (by decide), a3, hld_k hi.2.2.2.1]
  refine ⟨_, rfl, ⟨by rw [mU_get, if_neg (by omega)]; exact hG.1, fun i hi => ?_⟩, fun q j h => by rw [mU_get, if_neg (by omega)]⟩
  by_cases h : i = k
  · subst h
    simp only [rRow, mU_get]
    simp [a0, a1, a2, a4, a5, keepG]
  · rw [← show rRow s i = (fun q => if q = k then keepG (G k) else G q) i by rw [hG.2 i hi]; simp [h]]
    simp only [rRow, mU_get]
    simp [h]
/-- what calls in mind write besides the company's rows: 176 13 (the month) -/
def FrT (s s' : Mm) : Prop := ∀ q j, ¬ (182 ≤ q ∧ q ≤ 188) → ¬ (q = 176 ∧ j = 13) → s' q j = s q j
theorem FrT.rf {s : Mm} : FrT s s := fun _ _ _ _ => rfl
theorem FrT.tr {s s1 s2 : Mm} (h : FrT s s1) (h2 : FrT s1 s2) : FrT s s2 := fun q j a b => (h2 q j a b).trans (h q j a b)
theorem FrM.t {s s' : Mm} (h : FrM s s') : FrT s s' := fun q j a _ => h q j a
theorem RFv.frT {s s' : Mm} {nF : Nat} {F : Nat → FV} (h : RFv s nF F) (hf : FrT s s') : RFv s' nF F := by
  refine ⟨by rw [hf _ _ (by omega) (by omega)]; exact h.1, fun k hk => ?_⟩
  rw [hf 178 k (by omega) (by omega), hf 179 k (by omega) (by omega), hf 180 k (by omega) (by omega), hf 181 k (by omega) (by omega), hf 176 14 (by omega) (by omega)]
  exact h.2 k hk
theorem goesMonth_e {s : Mm} {F : Nat → FV} {G : Nat → GV} {B : Nat → Int32} {nF nG : Nat} (hF : RFv s nF F) (hG : RGv s nG G) (hB : RBv s nF B) (hM : FM nF F) (hn : nF ≤ 6) (hm : nG ≤ 4) (hi : ∀ k, k < nG → GI nF (G k)) :
    ∃ s', f_R_goesMonth s 0 = some s' ∧ RFv s' nF F ∧ RGv s' nG (fun k => stepG F (G k)) ∧ RBv s' nF (bMon F G nG B) ∧ s' 176 13 = s 176 13 + 1 ∧ FrT s s' := by
  unfold f_R_goesMonth
  rw [nm_s]
  obtain ⟨s1, e1⟩ : ∃ s1, s1 = mU s 176 13 (s 176 13 + 1) := ⟨_, rfl⟩
  rw [← e1]
  have g1 : ∀ q j, ¬ (q = 176 ∧ j = 13) → s1 q j = s q j := fun q j h => by rw [e1, mU_get, if_neg h]
  have t1 : FrT s s1 := fun q j _ h => g1 q j h
  have m1 : s1 176 13 = s 176 13 + 1 := by rw [e1, mU_get, if_pos ⟨rfl, rfl⟩]
  refine lp (fun n i a => k_R_goesMonth_12 n 0 (nI i) a) (fun i a => RFv a nF F ∧ RGv a nG (fun k => if k < i then stepG F (G k) else G k) ∧ RBv a nF (bMon F G i B) ∧ FrM s1 a) (fun r => ∃ s', r = some s' ∧ RFv s' nF F ∧ RGv s' nG (fun k => stepG F (G k)) ∧ RBv s' nF (bMon F G nG B) ∧ s' 176 13 = s 176 13 + 1 ∧ FrT s s') nG ?_ ?_ KF 0 s1 (by omega) (by rw [KF_1]; omega) ⟨hF.frT t1, ⟨by rw [g1 _ _ (by omega)]; exact hG.1, fun k hk => ?_⟩, fun k hk => by rw [g1 _ _ (by omega)]; exact hB k hk, fun _ _ _ => rfl⟩
  · intro n a ⟨h1, h2, h3, h4⟩
    unfold k_R_goesMonth_12
    rw [h2.1, if_pos (nI_le (Nat.le_refl _) (by omega))]
    exact ⟨a, rfl, h1, ⟨h2.1, fun k hk => by have := h2.2 k hk; simp only [hk, if_true] at this; exact this⟩, h3, by rw [h4 _ _ (by omega)]; exact m1, t1.tr h4.t⟩
  · intro n i a hlt ⟨h1, h2, h3, h4⟩ ih
    unfold k_R_goesMonth_12
    rw [h2.1, if_neg (nI_ge hlt (by omega))]
    have hg : GI nF ((fun k => if k < i then stepG F (G k) else G k) i) := by simp only [Nat.lt_irrefl, if_false]; exact hi i hlt
    obtain ⟨s', c1, c2, c3, c4, c5⟩ := goesOn_e h1 h2 h3 hM hn hm hlt hg
    rw [c1, bv_s, nI_1]
    refine ih s' ⟨c2, ⟨c3.1, fun k hk => ?_⟩, ?_, fun q j h => by rw [c5 q j h, h4 q j h]⟩
    · rw [c3.2 k hk]
      by_cases h : k = i
      · subst h; simp
      · simp only [h, if_false]
        by_cases h2 : k < i
        · rw [if_pos h2, if_pos (by omega)]
        · rw [if_neg h2, if_neg (by omega)]
    · have : bst F ((fun k => if k < i then stepG F (G k) else G k) i) (bMon F G i B) = bMon F G (i + 1) B := by simp only [Nat.lt_irrefl, if_false]; rfl
      rw [← this]
      exact c4
  · show _ = if k < 0 then _ else _
    rw [if_neg (by omega), ← hG.2 k hk]
    simp only [rRow, g1 182 k (by omega), g1 183 k (by omega), g1 184 k (by omega), g1 185 k (by omega), g1 186 k (by omega), g1 187 k (by omega)]
theorem goesMonthL_e {s : Mm} {F : Nat → FV} {G : Nat → GV} {nF nG : Nat} (hF : RFv s nF F) (hG : RGv s nG G) (hm : nG ≤ 4) (hi : ∀ k, k < nG → GI nF (G k)) :
    ∃ s', f_R_goesMonth s 1 = some s' ∧ RFv s' nF F ∧ RGv s' nG (fun k => keepG (G k)) ∧ FrT s s' := by
  unfold f_R_goesMonth
  rw [nm_s]
  obtain ⟨s1, e1⟩ : ∃ s1, s1 = mU s 176 13 (s 176 13 + 1) := ⟨_, rfl⟩
  rw [← e1]
  have g1 : ∀ q j, ¬ (q = 176 ∧ j = 13) → s1 q j = s q j := fun q j h => by rw [e1, mU_get, if_neg h]
  have t1 : FrT s s1 := fun q j _ h => g1 q j h
  refine lp (fun n i a => k_R_goesMonth_12 n 1 (nI i) a) (fun i a => RGv a nG (fun k => if k < i then keepG (G k) else G k) ∧ FrM s1 a) (fun r => ∃ s', r = some s' ∧ RFv s' nF F ∧ RGv s' nG (fun k => keepG (G k)) ∧ FrT s s') nG ?_ ?_ KF 0 s1 (by omega) (by rw [KF_1]; omega) ⟨⟨by rw [g1 _ _ (by omega)]; exact hG.1, fun k hk => ?_⟩, fun _ _ _ => rfl⟩
  · intro n a ⟨h2, h4⟩
    unfold k_R_goesMonth_12
    rw [h2.1, if_pos (nI_le (Nat.le_refl _) (by omega))]
    exact ⟨a, rfl, hF.frT (t1.tr h4.t), ⟨h2.1, fun k hk => by have := h2.2 k hk; simp only [hk, if_true] at this; exact this⟩, t1.tr h4.t⟩
  · intro n i a hlt ⟨h2, h4⟩ ih
    unfold k_R_goesMonth_12
    rw [h2.1, if_neg (nI_ge hlt (by omega))]
    have hg : GI nF ((fun k => if k < i then keepG (G k) else G k) i) := by simp only [Nat.lt_irrefl, if_false]; exact hi i hlt
    obtain ⟨s', c1, c3, c5⟩ := goesOnL_e h2 hm hlt hg
    rw [c1, bv_s, nI_1]
    refine ih s' ⟨⟨c3.1, fun k hk => ?_⟩, fun q j h => by rw [c5 q j h, h4 q j h]⟩
    rw [c3.2 k hk]
    by_cases h : k = i
    · subst h; simp
    · simp only [h, if_false]
      by_cases h2 : k < i
      · rw [if_pos h2, if_pos (by omega)]
      · rw [if_neg h2, if_neg (by omega)]
  · show _ = if k < 0 then _ else _
    rw [if_neg (by omega), ← hG.2 k hk]
    simp only [rRow, g1 182 k (by omega), g1 183 k (by omega), g1 184 k (by omega), g1 185 k (by omega), g1 186 k (by omega), g1 187 k (by omega)]
theorem goes_e {s : Mm} {N : Nat} {F : Nat → FV} {G : Nat → GV} {B : Nat → Int32} {nF nG : Nat} (hF : RFv s nF F) (hG : RGv s nG G) (hB : RBv s nF B) (hM : FM nF F) (hn : nF ≤ 6) (hm : nG ≤ 4) (hi : ∀ k, k < nG → GI nF (G k)) (hN : N ≤ 60) :
    ∃ s', f_R_goes s (nI N) = some s' ∧ RFv s' nF F ∧ RGv s' nG (fun k => gIt F N (G k)) ∧ RBv s' nF (bIt F nG G B N) ∧ s' 176 13 = s 176 13 + nI N ∧ FrT s s' := by
  unfold f_R_goes
  refine lp (fun n i a => k_R_goes_2 n (nI N) (nI i) a) (fun i a => RFv a nF F ∧ RGv a nG (fun k => gIt F i (G k)) ∧ RBv a nF (bIt F nG G B i) ∧ a 176 13 = s 176 13 + nI i ∧ FrT s a) (fun r => ∃ s', r = some s' ∧ RFv s' nF F ∧ RGv s' nG (fun k => gIt F N (G k)) ∧ RBv s' nF (bIt F nG G B N) ∧ s' 176 13 = s 176 13 + nI N ∧ FrT s s') N ?_ ?_ KF 0 s (by omega) (by rw [KF_1]; omega) ⟨hF, hG, hB, by rw [nI_0, Int32.add_zero], FrT.rf⟩
  · intro n a h
    unfold k_R_goes_2
    rw [if_pos (nI_le (Nat.le_refl _) (by omega))]
    exact ⟨a, rfl, h⟩
  · intro n i a hlt ⟨h1, h2, h3, h4, h5⟩ ih
    unfold k_R_goes_2
    rw [if_neg (nI_ge hlt (by omega))]
    obtain ⟨s', c1, c2, c3, c4, c5, c6⟩ := goesMonth_e h1 h2 h3 hM hn hm (fun k hk => (hi k hk).it hM hn i)
    rw [c1, bv_s, nI_1]
    exact ih s' ⟨c2, c3, c4, by rw [c5, h4, Int32.add_assoc, nI_1], h5.tr c6⟩
