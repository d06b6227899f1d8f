/-! friends and gifts as rows; a month of one gift -/
abbrev FV : Type := Int32 × Int32 × Int32 × Int32 × Int32
abbrev GV : Type := Int32 × Int32 × Int32 × Int32 × Int32 × Int32
abbrev fK (f : FV) : Int32 := f.1
abbrev fI (f : FV) : Int32 := f.2.1
abbrev fD (f : FV) : Int32 := f.2.2.1
abbrev fN (f : FV) : Int32 := f.2.2.2.1
abbrev fT (f : FV) : Int32 := f.2.2.2.2
abbrev gW (g : GV) : Int32 := g.1
abbrev gZ' (g : GV) : Int32 := g.2.1
abbrev gH (g : GV) : Int32 := g.2.2.1
abbrev gK (g : GV) : Int32 := g.2.2.2.1
abbrev gB (g : GV) : Int32 := g.2.2.2.2.1
abbrev gP (g : GV) : Int32 := g.2.2.2.2.2
def ix (x : Int32) : Nat := x.toNatClampNeg
theorem ix_nI {n : Nat} (h : n < 2 ^ 31) : ix (nI n) = n := nI_clamp h
def moreG (f : FV) (w : Int32) : Int32 := mn (adK (fK f) (fI f) * fT f) (999 - w)
/-- bettered, if it isn't yet -/
def betG (f : FV) (g : GV) : GV := if gB g = 0 then (gW g + moreG f (gW g), mx 1 (mn (gZ' g + swK (fK f) (fI f)) 999), gH g, gK g, 1, gP g) else g
def giveG (F : Nat → FV) (g : GV) : GV := if fN (F (ix (gH g))) = -1 then g else if fD (F (ix (fN (F (ix (gH g)))))) < gZ' g then g else (gW g, gZ' g, fN (F (ix (gH g))), 0, 0, mn (gP g + 1) 99)
def keepG (g : GV) : GV := (gW g, gZ' g, gH g, mn (gK g + 1) 99, gB g, gP g)
def stepG (F : Nat → FV) (g : GV) : GV := if wtK (fK (F (ix (gH g)))) (fI (F (ix (gH g)))) ≤ gK (keepG g) then giveG F (betG (F (ix (gH g))) (keepG g)) else keepG g
def goG (p : Int32) (g : GV) : GV := (gW g, gZ' g, p, 0, 0, gP g)
def gRow (s : Mm) (o : Nat) : GV := (s o 0, s o 1, s o 2, s o 3, s o 4, s o 5)
def fRow (s : Mm) (o : Nat) : FV := (s o 0, s o 1, s o 2, s o 3, s o 7)
/-- the friends of company c -/
def HF (s : Mm) (c nF : Nat) (F : Nat → FV) : Prop := s c 4 = nI nF ∧ ∀ k, k < nF → fRow s (33 + 7 * c + k) = F k ∧ s (33 + 7 * c + k) 4 = wtK (fK (F k)) (fI (F k)) ∧ s (33 + 7 * c + k) 5 = adK (fK (F k)) (fI (F k)) ∧ s (33 + 7 * c + k) 6 = swK (fK (F k)) (fI (F k))
def HG (s : Mm) (c nG : Nat) (G : Nat → GV) : Prop := s c 5 = nI nG ∧ ∀ k, k < nG → gRow s (110 + 5 * c + k) = G k
def HB (s : Mm) (c nF : Nat) (B : Nat → Int32) : Prop := ∀ k, k < nF → s (33 + 7 * c + k) 8 = B k
/-- a next is none, or one that there is -/
def NOk (nF : Nat) (F : Nat → FV) : Prop := ∀ k, k < nF → fN (F k) = -1 ∨ ∃ p, p < nF ∧ fN (F k) = nI p
theorem keep_e (s : Mm) (o : Nat) : f_G_keep s o = some (mU s o 3 (mn (s o 3 + 1) 99)) := rfl
theorem goTo_e (s : Mm) (o : Nat) (p : Int32) : f_G_goTo s o p = some (mU (mU (mU s o 2 p) o 3 0) o 4 0) := rfl
theorem better_e {s : Mm} {o x : Nat} (h : x ≠ o) (hn : s o 4 = 0) {f : FV} (h0 : fRow s x = f) (h5 : s x 5 = adK (fK f) (fI f)) (h6 : s x 6 = swK (fK f) (fI f)) :
    ∃ s', f_G_better s o x = some s' ∧ gRow s' o = betG f (gRow s o) ∧ s' x 8 = s x 8 + (gW (betG f (gRow s o)) - s o 0) ∧ ∀ q j, q ≠ o → ¬ (q = x ∧ j = 8) → s' q j = s q j := by
  have h' : o ≠ x := Ne.symm h
  have h7 : s x 7 = fT f := by rw [← h0]; rfl
  refine ⟨_, rfl, ?_, ?_, fun q j hq hj => ?_⟩
  · simp only [gRow, betG, moreG, mU_get]
    simp [h, h', h5, h6, h7, hn]
  · simp only [gRow, betG, moreG, mU_get]
    simp [h, h', h5, h6, h7, hn]
    rw [Int32.add_comm (s o 0), Int32.add_sub_cancel]
  · simp only [mU_get]
    simp [hq]
    intro a b
    exact absurd ⟨a, b⟩ hj
theorem give_e {s : Mm} {o c p : Nat} {F : Nat → FV} {nF : Nat} (hF : HF s c nF F) (hN : NOk nF F) (hn : nF ≤ 6) (hp : p < nF) (ho : 110 ≤ o) (hc : c < 11) (hh : s o 2 = nI p) :
    ∃ s', k_G_passMonth_42 o c (33 + 7 * c + p) s = some s' ∧ gRow s' o = giveG F (gRow s o) ∧ ∀ q j, q ≠ o → s' q j = s q j := by
  have e := (hF.2 p hp).1
  have e3 : s (33 + 7 * c + p) 3 = fN (F p) := by rw [← e]; rfl
  have hi : F (ix (gH (gRow s o))) = F p := by
    show F (ix (s o 2)) = F p
    rw [hh, ix_nI (by omega)]
  unfold k_G_passMonth_42 giveG
  rw [nm_s, e3, hi]
  by_cases h1 : fN (F p) = -1
  · rw [if_pos h1, if_pos h1]
    exact ⟨s, rfl, rfl, fun _ _ _ => rfl⟩
  · rw [if_neg h1, if_neg h1]
    rcases hN p hp with h | ⟨r, hr, h⟩
    · exact absurd h h1
    · rw [h, friendAt_e (by omega), bn_s, ix_nI (by omega)]
      have e2 : s (33 + 7 * c + r) 2 = fD (F r) := by rw [← (hF.2 r hr).1]; rfl
      rw [e2]
      show ∃ s', (if fD (F r) < s o 1 then _ else _) = some s' ∧ gRow s' o = (if fD (F r) < s o 1 then _ else _) ∧ _
      by_cases h2 : fD (F r) < s o 1
      · rw [if_pos h2, if_pos h2]
        exact ⟨s, rfl, rfl, fun _ _ _ => rfl⟩
      · rw [if_neg h2, if_neg h2, goTo_e, bv_s, nm_s]
        refine ⟨_, rfl, ?_, fun q j hq => ?_⟩
        · simp [gRow, mU_get]
        · simp [mU_get, hq]
theorem passMonth_e {s : Mm} {o c p : Nat} {F : Nat → FV} {nF : Nat} (hF : HF s c nF F) (hN : NOk nF F) (hn : nF ≤ 6) (hp : p < nF) (ho : 110 ≤ o) (hc : c < 11) (hh : s o 2 = nI p) (hb : s o 4 = 0 ∨ s o 4 = 1) :
    ∃ s', f_G_passMonth s o c = some s' ∧ gRow s' o = stepG F (gRow s o) ∧ s' (33 + 7 * c + p) 8 = s (33 + 7 * c + p) 8 + (gW (stepG F (gRow s o)) - s o 0) ∧ ∀ q j, q ≠ o → ¬ (q = 33 + 7 * c + p ∧ j = 8) → s' q j = s q j := by
  have hx : 33 + 7 * c + p ≠ o := by omega
  obtain ⟨e, e4, e5, e6⟩ := hF.2 p hp
  have hi : F (ix (gH (gRow s o))) = F p := by
    show F (ix (s o 2)) = F p
    rw [hh, ix_nI (by omega)]
  have hz : ∀ a b : Int32, a + (b - b) = a := fun a b => by rw [Int32.sub_self, Int32.add_zero]
  unfold f_G_passMonth
  rw [keep_e, bv_s]
  obtain ⟨s1, hs1⟩ : ∃ s1, s1 = mU s o 3 (mn (s o 3 + 1) 99) := ⟨_, rfl⟩
  rw [← hs1]
  have g1 : ∀ q j, s1 q j = if q = o ∧ j = 3 then mn (s o 3 + 1) 99 else s q j := by intro q j; rw [hs1, mU_get]
  have q1 : ∀ q j, q ≠ o → s1 q j = s q j := fun q j h => by rw [g1]; simp [h]
  have r1 : gRow s1 o = keepG (gRow s o) := by simp [gRow, keepG, g1]
  have hh1 : s1 o 2 = nI p := by rw [g1]; simp [hh]
  have hF1 : HF s1 c nF F := by
    refine ⟨by rw [q1 c 4 (by omega)]; exact hF.1, fun k hk => ?_⟩
    have hne : 33 + 7 * c + k ≠ o := by omega
    have := hF.2 k hk
    simp only [fRow, q1 _ _ hne] at this ⊢
    exact this
  rw [hh1, friendAt_e (by omega), bn_s]
  have e4' : s1 (33 + 7 * c + p) 4 = wtK (fK (F p)) (fI (F p)) := by rw [q1 _ _ hx]; exact e4
  have e43 : s1 o 3 = gK (keepG (gRow s o)) := by rw [← r1]; rfl
  rw [e4', e43]
  unfold stepG
  rw [hi]
  by_cases hw : wtK (fK (F p)) (fI (F p)) ≤ gK (keepG (gRow s o))
  · rw [if_pos hw, if_pos hw]
    have hb1 : s1 o 4 = s o 4 := by rw [g1]; simp
    by_cases h4 : s1 o 4 = 0
    · rw [if_pos h4]
      obtain ⟨s2, b1, b2, b3, b4⟩ := better_e (s := s1) (o := o) (x := 33 + 7 * c + p) hx h4 (f := F p) (hF1.2 p hp).1 (hF1.2 p hp).2.2.1 (hF1.2 p hp).2.2.2
      rw [b1, bv_s]
      have hF2 : HF s2 c nF F := by
        refine ⟨by rw [b4 c 4 (by omega) (by omega)]; exact hF1.1, fun k hk => ?_⟩
        have hne : 33 + 7 * c + k ≠ o := by omega
        have := hF1.2 k hk
        have hj : ∀ j, j ≠ 8 → s2 (33 + 7 * c + k) j = s1 (33 + 7 * c + k) j := fun j hj => b4 _ _ hne (fun h => hj h.2)
        simp only [fRow] at this ⊢
        rw [hj 0 (by omega), hj 1 (by omega), hj 2 (by omega), hj 3 (by omega), hj 4 (by omega), hj 5 (by omega), hj 6 (by omega), hj 7 (by omega)]
        exact this
      have hh2 : s2 o 2 = nI p := by
        have : gH (gRow s2 o) = gH (betG (F p) (gRow s1 o)) := by rw [b2]
        rw [show s2 o 2 = gH (gRow s2 o) from rfl, this]
        unfold betG
        split <;> exact hh1
      obtain ⟨s3, c1, c2, c3⟩ := give_e hF2 hN hn hp ho hc hh2
      refine ⟨s3, c1, by rw [c2, b2, r1], ?_, fun q j hq hj => ?_⟩
      · have hgw : ∀ g, gW (giveG F g) = gW g := by
          intro g; unfold giveG; repeat' split
          all_goals rfl
        rw [c3 _ _ hx, b3, q1 _ _ hx, hgw, r1]
        congr 2
        rw [g1]
        simp
      · rw [c3 q j hq, b4 q j hq hj, q1 q j hq]
    · rw [if_neg h4]
      obtain ⟨s3, c1, c2, c3⟩ := give_e hF1 hN hn hp ho hc hh1
      have hbt : betG (F p) (keepG (gRow s o)) = keepG (gRow s o) := by
        unfold betG
        rw [if_neg (show ¬ gB (keepG (gRow s o)) = 0 from fun h => h4 (by rw [hb1]; exact h))]
      refine ⟨s3, c1, by rw [c2, r1, hbt], ?_, fun q j hq hj => ?_⟩
      · have hgw : ∀ g, gW (giveG F g) = gW g := by
          intro g; unfold giveG; repeat' split
          all_goals rfl
        rw [c3 _ _ hx, q1 _ _ hx, hgw, hbt]
        exact (hz _ _).symm
      · rw [c3 q j hq, q1 q j hq]
  · rw [if_neg hw, if_neg hw]
    exact ⟨s1, rfl, r1, by rw [q1 _ _ hx]; exact (hz _ _).symm, fun q j hq _ => q1 q j hq⟩
/-- what a company's calls may change -/
def own (c q : Nat) : Prop := q = c ∨ (33 + 7 * c ≤ q ∧ q < 40 + 7 * c) ∨ (110 + 5 * c ≤ q ∧ q < 115 + 5 * c)
def Fr (c : Nat) (s s' : Mm) : Prop := ∀ q j, ¬ own c q → s' q j = s q j
theorem Fr.rf {c : Nat} {s : Mm} : Fr c s s := fun _ _ _ => rfl
theorem Fr.tr {c : Nat} {s s1 s2 : Mm} (h : Fr c s s1) (h2 : Fr c s1 s2) : Fr c s s2 := fun q j hq => (h2 q j hq).trans (h q j hq)
theorem own_ap {c c' k : Nat} (hc : c < 11) (hc' : c' < 11) (hne : c' ≠ c) (hk : k < 7) : ¬ own c c' ∧ ¬ own c (33 + 7 * c' + k) ∧ (k < 5 → ¬ own c (110 + 5 * c' + k)) := by
  unfold own
  refine ⟨by omega, by omega, fun h => by omega⟩
theorem HF.fr {s s' : Mm} {c c' nF : Nat} {F : Nat → FV} (h : HF s c' nF F) (hf : Fr c s s') (hc : c < 11) (hc' : c' < 11) (hne : c' ≠ c) (hn : nF ≤ 6) : HF s' c' nF F := by
  refine ⟨by rw [hf _ _ (own_ap hc hc' hne (k := 0) (by omega)).1]; exact h.1, fun k hk => ?_⟩
  have := h.2 k hk
  have e := fun j => hf (33 + 7 * c' + k) j (own_ap hc hc' hne (by omega)).2.1
  simp only [fRow, e] at this ⊢
  exact this
theorem HG.fr {s s' : Mm} {c c' nG : Nat} {G : Nat → GV} (h : HG s c' nG G) (hf : Fr c s s') (hc : c < 11) (hc' : c' < 11) (hne : c' ≠ c) (hn : nG ≤ 4) : HG s' c' nG G := by
  refine ⟨by rw [hf _ _ (own_ap hc hc' hne (k := 0) (by omega)).1]; exact h.1, fun k hk => ?_⟩
  have := h.2 k hk
  have e := fun j => hf (110 + 5 * c' + k) j ((own_ap hc hc' hne (by omega)).2.2 (by omega))
  simp only [gRow, e] at this ⊢
  exact this
theorem fr_m {s s' : Mm} {c c' : Nat} (hf : Fr c s s') (hc : c < 11) (hc' : c' < 11) (hne : c' ≠ c) (j : Nat) : s' c' j = s c' j := hf _ _ (own_ap hc hc' hne (k := 0) (by omega)).1
def HOk (nF : Nat) (g : GV) : Prop := (∃ p, p < nF ∧ gH g = nI p) ∧ (gB g = 0 ∨ gB g = 1)
theorem HOk.keep {nF : Nat} {g : GV} (h : HOk nF g) : HOk nF (keepG g) := h
theorem HOk.bet {nF : Nat} {g : GV} {f : FV} (h : HOk nF g) : HOk nF (betG f g) := by
  unfold betG
  split
  · exact ⟨h.1, Or.inr rfl⟩
  · exact h
theorem HOk.give {nF : Nat} {g : GV} {F : Nat → FV} (h : HOk nF g) (hN : NOk nF F) (hn : nF ≤ 6) : HOk nF (giveG F g) := by
  obtain ⟨p, hp, e⟩ := h.1
  unfold giveG
  split
  · exact h
  · next h1 =>
    split
    · exact h
    · rw [e, ix_nI (by omega)] at h1 ⊢
      rcases hN p hp with h2 | ⟨r, hr, h2⟩
      · exact absurd h2 h1
      · exact ⟨⟨r, hr, h2⟩, Or.inl rfl⟩
theorem HOk.step {nF : Nat} {g : GV} {F : Nat → FV} (h : HOk nF g) (hN : NOk nF F) (hn : nF ≤ 6) : HOk nF (stepG F g) := by
  unfold stepG
  split
  · exact (HOk.bet h.keep).give hN hn
  · exact h.keep
def gIt (F : Nat → FV) : Nat → GV → GV
  | 0, g => g
  | n + 1, g => stepG F (gIt F n g)
theorem HOk.it {nF : Nat} {g : GV} {F : Nat → FV} (h : HOk nF g) (hN : NOk nF F) (hn : nF ≤ 6) : ∀ n, HOk nF (gIt F n g)
  | 0 => h
  | n + 1 => (HOk.it h hN hn n).step hN hn
def bst (F : Nat → FV) (g : GV) (B : Nat → Int32) : Nat → Int32 := fun q => if q = ix (gH g) then B q + (gW (stepG F g) - gW g) else B q
def bMon (F : Nat → FV) (G : Nat → GV) : Nat → (Nat → Int32) → (Nat → Int32)
  | 0, B => B
  | n + 1, B => bst F (G n) (bMon F G n B)
def bIt (F : Nat → FV) (nG : Nat) (G : Nat → GV) (B : Nat → Int32) : Nat → (Nat → Int32)
  | 0 => B
  | n + 1 => bMon F (fun k => gIt F n (G k)) nG (bIt F nG G B n)
/-- a month of gift k of company c -/
theorem passK_e {s : Mm} {c k : Nat} {F : Nat → FV} {G : Nat → GV} {B : Nat → Int32} {nF nG : Nat} (hF : HF s c nF F) (hG : HG s c nG G) (hB : HB s c nF B) (hN : NOk nF F) (hH : HOk nF (G k)) (hn : nF ≤ 6) (hm : nG ≤ 4) (hk : k < nG) (hc : c < 11) :
    ∃ s', f_G_passMonth s (110 + 5 * c + k) c = some s' ∧ HF s' c nF F ∧ HG s' c nG (fun q => if q = k then stepG F (G k) else G q) ∧ HB s' c nF (bst F (G k) B) ∧ (∀ j, s' c j = s c j) ∧ Fr c s s' := by
  obtain ⟨⟨p, hp, e⟩, hb⟩ := hH
  have hr := hG.2 k hk
  have hh : s (110 + 5 * c + k) 2 = nI p := by rw [← e, ← hr]; rfl
  have hb' : s (110 + 5 * c + k) 4 = 0 ∨ s (110 + 5 * c + k) 4 = 1 := by rw [← hr] at hb; exact hb
  obtain ⟨s', h1, h2, h3, h4⟩ := passMonth_e hF hN hn hp (o := 110 + 5 * c + k) (by omega) hc hh hb'
  rw [hr] at h2 h3
  have h0 : s (110 + 5 * c + k) 0 = gW (G k) := by rw [← hr]; rfl
  rw [h0] at h3
  refine ⟨s', h1, ?_, ?_, ?_, fun j => h4 _ _ (by omega) (by omega), fun q j hq => ?_⟩
  · refine ⟨by rw [h4 _ _ (by omega) (by omega)]; exact hF.1, fun i hi => ?_⟩
    have := hF.2 i hi
    have hj : ∀ j, j ≠ 8 → s' (33 + 7 * c + i) j = s (33 + 7 * c + i) j := fun j hj => h4 _ _ (by omega) (fun h => hj h.2)
    simp only [fRow] at this ⊢
    rw [hj 0 (by omega), hj 1 (by omega), hj 2 (by omega), hj 3 (by omega), hj 4 (by omega), hj 5 (by omega), hj 6 (by omega), hj 7 (by omega)]
    exact this
  · refine ⟨by rw [h4 _ _ (by omega) (by omega)]; exact hG.1, fun i hi => ?_⟩
    by_cases h : i = k
    · subst h
      rw [h2]
      simp
    · show _ = if i = k then _ else _
      rw [if_neg h, ← hG.2 i hi]
      have hj : ∀ j, s' (110 + 5 * c + i) j = s (110 + 5 * c + i) j := fun j => h4 _ _ (by omega) (by omega)
      simp only [gRow, hj]
  · intro i hi
    unfold bst
    rw [e, ix_nI (by omega)]
    by_cases h : i = p
    · subst h
      rw [if_pos rfl, h3, hB i hi]
    · rw [if_neg h, h4 _ _ (by omega) (by omega)]
      exact hB i hi
  · refine h4 q j (fun h => hq ?_) (fun h => hq ?_)
    · unfold own; omega
    · unfold own; omega
theorem month_e {kc : Nat → Int32 → Int32 → Mm → Option Mm} {s : Mm} {c : Nat} {v1 v2 : Int32} {F : Nat → FV} {G : Nat → GV} {B : Nat → Int32} {nF nG : Nat} {Done : Option Mm → Prop} (hF : HF s c nF F) (hG : HG s c nG G) (hB : HB s c nF B) (hN : NOk nF F) (hH : ∀ k, k < nG → HOk nF (G k)) (hn : nF ≤ 6) (hm : nG ≤ 4) (hc : c < 11)
    (hk : ∀ s' : Mm, HF s' c nF F → HG s' c nG (fun k => stepG F (G k)) → HB s' c nF (bMon F G nG B) → s' c 6 = s c 6 → Fr c s s' → Done (kc c v1 (v2 + 1) s')) : Done (k_C_pass_19 kc KF c v1 v2 0 s) := by
  refine lp (fun n i a => k_C_pass_19 kc n c v1 v2 (nI i) a) (fun i a => HF a c nF F ∧ HG a c nG (fun k => if k < i then stepG F (G k) else G k) ∧ HB a c nF (bMon F G i B) ∧ a c 6 = s c 6 ∧ Fr c s a) Done nG ?_ ?_ KF 0 s (by omega) (by rw [KF_1]; omega) ⟨hF, ⟨hG.1, fun k hk => by show _ = if k < 0 then _ else _; rw [if_neg (by omega)]; exact hG.2 k hk⟩, hB, rfl, Fr.rf⟩
  · intro n a ⟨h1, h2, h3, h4, h5⟩
    show Done (k_C_pass_19 kc (n + 1) c v1 v2 (nI nG) a)
    unfold k_C_pass_19
    rw [h2.1, if_pos (nI_le (Nat.le_refl _) (by omega))]
    exact hk a h1 ⟨h2.1, fun k hk => by have := h2.2 k hk; simp only [hk, if_true] at this; exact this⟩ h3 h4 h5
  · intro n i a hi ⟨h1, h2, h3, h4, h5⟩ ih
    show Done (k_C_pass_19 kc (n + 1) c v1 v2 (nI i) a)
    unfold k_C_pass_19
    rw [h2.1, if_neg (nI_ge hi (by omega)), giftAt_e (by omega), bn_s]
    have hg : HOk nF (if i < i then stepG F (G i) else G i) := by rw [if_neg (Nat.lt_irrefl _)]; exact hH i hi
    obtain ⟨s', e1, e2, e3, e4, e5, e6⟩ := passK_e h1 h2 h3 hN hg hn hm hi hc
    rw [e1, bv_s, nI_1]
    refine ih s' ⟨e2, ⟨e3.1, fun k hk => ?_⟩, ?_, by rw [e5]; exact h4, h5.tr e6⟩
    · rw [e3.2 k hk]
      by_cases h : k = i
      · subst h; simp
      · simp only [h, if_false]
        by_cases h2 : k < i
        · rw [if_pos h2, if_pos (by omega)]
        · rw [if_neg h2, if_neg (by omega)]
    · have : bst F (if i < i then stepG F (G i) else G i) (bMon F G i B) = bMon F G (i + 1) B := by rw [if_neg (Nat.lt_irrefl _)]; rfl
      rw [← this]
      exact e4
theorem pass_e {s : Mm} {c N : Nat} {F : Nat → FV} {G : Nat → GV} {B : Nat → Int32} {nF nG : Nat} (hF : HF s c nF F) (hG : HG s c nG G) (hB : HB s c nF B) (hN : NOk nF F) (hH : ∀ k, k < nG → HOk nF (G k)) (hn : nF ≤ 6) (hm : nG ≤ 4) (hc : c < 11) (hNn : N ≤ 60) :
    ∃ s', f_C_pass s c (nI N) = some s' ∧ HF s' c nF F ∧ HG s' c nG (fun k => gIt F N (G k)) ∧ HB s' c nF (bIt F nG G B N) ∧ s' c 6 = s c 6 + nI N ∧ Fr c s s' := by
  unfold f_C_pass
  refine lp (fun n i a => k_C_pass_2 n c (nI N) (nI i) a) (fun i a => HF a c nF F ∧ HG a c nG (fun k => gIt F i (G k)) ∧ HB a c nF (bIt F nG G B i) ∧ a c 6 = s c 6 + nI i ∧ Fr c s a) (fun r => ∃ s', r = some s' ∧ HF s' c nF F ∧ HG s' c nG (fun k => gIt F N (G k)) ∧ HB s' c nF (bIt F nG G B N) ∧ s' c 6 = s c 6 + nI N ∧ Fr c s s') N ?_ ?_ KF 0 s (by omega) (by rw [KF_1]; omega) ⟨hF, hG, hB, by rw [nI_0, Int32.add_zero], Fr.rf⟩
  · intro n a h
    unfold k_C_pass_2
    rw [if_pos (nI_le (Nat.le_refl _) (by omega))]
    exact ⟨a, rfl, h⟩
  · intro n i a hi ⟨h1, h2, h3, h4, h5⟩ ih
    unfold k_C_pass_2
    rw [if_neg (nI_ge hi (by omega)), nm_s]
    obtain ⟨s1, e1⟩ : ∃ s1, s1 = mU a c 6 (a c 6 + 1) := ⟨_, rfl⟩
    rw [← e1]
    have g1 : ∀ q j, ¬ (q = c ∧ j = 6) → s1 q j = a q j := fun q j h => by rw [e1, mU_get, if_neg h]
    have hF1 : HF s1 c nF F := by
      refine ⟨by rw [g1 _ _ (by omega)]; exact h1.1, fun k hk => ?_⟩
      have := h1.2 k hk
      have hj : ∀ j, s1 (33 + 7 * c + k) j = a (33 + 7 * c + k) j := fun j => g1 _ _ (by omega)
      simp only [fRow, hj] at this ⊢
      exact this
    have hG1 : HG s1 c nG (fun k => gIt F i (G k)) := by
      refine ⟨by rw [g1 _ _ (by omega)]; exact h2.1, fun k hk => ?_⟩
      have := h2.2 k hk
      have hj : ∀ j, s1 (110 + 5 * c + k) j = a (110 + 5 * c + k) j := fun j => g1 _ _ (by omega)
      simp only [gRow, hj] at this ⊢
      exact this
    have hB1 : HB s1 c nF (bIt F nG G B i) := fun k hk => by rw [g1 _ _ (by omega)]; exact h3 k hk
    refine month_e (Done := fun r => ∃ s', r = some s' ∧ HF s' c nF F ∧ HG s' c nG (fun k => gIt F N (G k)) ∧ HB s' c nF (bIt F nG G B N) ∧ s' c 6 = s c 6 + nI N ∧ Fr c s s') hF1 hG1 hB1 hN (fun k hk => (hH k hk).it hN hn i) hn hm hc (fun s' k1 k2 k3 k4 k5 => ?_)
    rw [nI_1]
    refine ih s' ⟨k1, k2, k3, ?_, h5.tr (Fr.tr (fun q j hq => g1 q j (fun h => hq (by unfold own; omega))) k5)⟩
    rw [k4, e1, mU_get, if_pos ⟨rfl, rfl⟩, h4, Int32.add_assoc, nI_1]
