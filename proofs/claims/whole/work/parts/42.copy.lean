/-! copies -/
theorem HF.at {s : Mm} {c nF k : Nat} {F : Nat → FV} (h : HF s c nF F) (hk : k < nF) : s (33 + 7 * c + k) 0 = fK (F k) ∧ s (33 + 7 * c + k) 1 = fI (F k) ∧ s (33 + 7 * c + k) 2 = fD (F k) ∧ s (33 + 7 * c + k) 3 = fN (F k) ∧ s (33 + 7 * c + k) 7 = fT (F k) := by
  have e := (h.2 k hk).1
  exact ⟨by rw [← e]; rfl, by rw [← e]; rfl, by rw [← e]; rfl, by rw [← e]; rfl, by rw [← e]; rfl⟩
theorem HG.at {s : Mm} {c nG k : Nat} {G : Nat → GV} (h : HG s c nG G) (hk : k < nG) : s (110 + 5 * c + k) 0 = gW (G k) ∧ s (110 + 5 * c + k) 1 = gZ' (G k) ∧ s (110 + 5 * c + k) 2 = gH (G k) ∧ s (110 + 5 * c + k) 3 = gK (G k) ∧ s (110 + 5 * c + k) 4 = gB (G k) ∧ s (110 + 5 * c + k) 5 = gP (G k) := by
  have e := h.2 k hk
  exact ⟨by rw [← e]; rfl, by rw [← e]; rfl, by rw [← e]; rfl, by rw [← e]; rfl, by rw [← e]; rfl, by rw [← e]; rfl⟩
theorem Fcopy_e {s : Mm} {o x : Nat} (h : o ≠ x) : ∃ s', f_F_copyFrom s o x = some s' ∧ (∀ j, j < 7 → s' o j = s x j) ∧ s' o 7 = 1 ∧ s' o 8 = 0 ∧ ∀ q j, q ≠ o → s' q j = s q j := by
  have h' : x ≠ o := Ne.symm h
  refine ⟨_, rfl, fun j hj => ?_, ?_, ?_, fun q j hq => ?_⟩
  · rcases (show j = 0 ∨ j = 1 ∨ j = 2 ∨ j = 3 ∨ j = 4 ∨ j = 5 ∨ j = 6 by omega) with rfl | rfl | rfl | rfl | rfl | rfl | rfl <;> simp [mU_get, h, h']
  · simp [mU_get]
  · simp [mU_get]
  · simp [mU_get, hq]
theorem Gcopy_e {s : Mm} {o x : Nat} (h : o ≠ x) (hb : s x 4 = 0 ∨ s x 4 = 1) : ∃ s', f_G_copyFrom s o x = some s' ∧ gRow s' o = gRow s x ∧ ∀ q j, q ≠ o → s' q j = s q j := by
  have h' : x ≠ o := Ne.symm h
  unfold f_G_copyFrom
  simp only [nm_s]
  rw [gb_s (by simp [mU_get, h']; exact hb)]
  refine ⟨_, rfl, ?_, fun q j hq => ?_⟩
  · simp [gRow, mU_get, h']
  · simp [mU_get, hq]
theorem ownF {c k : Nat} (hk : k < 7) : own c (33 + 7 * c + k) := by unfold own; omega
theorem ownG {c k : Nat} (hk : k < 5) : own c (110 + 5 * c + k) := by unfold own; omega
theorem ownC {c : Nat} : own c c := Or.inl rfl
theorem fr_of {c o : Nat} {s s' : Mm} (ho : own c o) (h : ∀ q j, q ≠ o → s' q j = s q j) : Fr c s s' := fun q j hq => h q j (fun e => hq (e ▸ ho))
theorem copyG_e {s : Mm} {c d : Nat} {G : Nat → GV} {nG : Nat} (hG : HG s d nG G) (h5 : s c 5 = nI nG) (hb : ∀ k, k < nG → gB (G k) = 0 ∨ gB (G k) = 1) (hm : nG ≤ 4) (hc : c < 11) (hd : d < 11) (hne : d ≠ c) :
    ∃ s', k_C_copyFrom_60 KF c d 0 s = some s' ∧ HG s' c nG G ∧ (∀ q j, ¬ (110 + 5 * c ≤ q ∧ q < 115 + 5 * c) → s' q j = s q j) := by
  refine lp (fun n i a => k_C_copyFrom_60 n c d (nI i) a) (fun i a => (∀ k, k < i → gRow a (110 + 5 * c + k) = G k) ∧ (∀ q j, ¬ (110 + 5 * c ≤ q ∧ q < 115 + 5 * c) → a q j = s q j)) (fun r => ∃ s', r = some s' ∧ HG s' c nG G ∧ (∀ q j, ¬ (110 + 5 * c ≤ q ∧ q < 115 + 5 * c) → s' q j = s q j)) nG ?_ ?_ KF 0 s (by omega) (by rw [KF_1]; omega) ⟨fun k hk => absurd hk (by omega), fun _ _ _ => rfl⟩
  · intro n a ⟨h1, h2⟩
    unfold k_C_copyFrom_60
    rw [h2 c 5 (by omega), h5, if_pos (nI_le (Nat.le_refl _) (by omega))]
    exact ⟨a, rfl, ⟨by rw [h2 c 5 (by omega)]; exact h5, h1⟩, h2⟩
  · intro n i a hi ⟨h1, h2⟩ ih
    unfold k_C_copyFrom_60
    rw [h2 c 5 (by omega), h5, if_neg (nI_ge hi (by omega)), giftAt_e (by omega), bn_s, giftAt_e (by omega), bn_s]
    have ed : ∀ j, a (110 + 5 * d + i) j = s (110 + 5 * d + i) j := fun j => h2 _ j (by omega)
    obtain ⟨s', e1, e2, e3⟩ := Gcopy_e (s := a) (o := 110 + 5 * c + i) (x := 110 + 5 * d + i) (by omega) (by rw [ed, (hG.at hi).2.2.2.2.1]; exact hb i hi)
    rw [e1, bv_s, nI_1]
    refine ih s' ⟨fun k hk => ?_, fun q j hq => by rw [e3 q j (by omega)]; exact h2 q j hq⟩
    by_cases h : k = i
    · subst h
      rw [e2, ← hG.2 k hi]
      simp only [gRow, ed]
    · rw [← h1 k (by omega)]
      have : ∀ j, s' (110 + 5 * c + k) j = a (110 + 5 * c + k) j := fun j => e3 _ _ (by omega)
      simp only [gRow, this]
theorem copy_e {s : Mm} {c d : Nat} {F : Nat → FV} {G : Nat → GV} {nF nG : Nat} (hF : HF s d nF F) (hG : HG s d nG G) (hT : ∀ k, k < nF → fT (F k) = 1) (hb : ∀ k, k < nG → gB (G k) = 0 ∨ gB (G k) = 1) (hn : nF ≤ 6) (hm : nG ≤ 4) (hc : c < 11) (hd : d < 11) (hne : d ≠ c) :
    ∃ s', f_C_copyFrom s c d = some s' ∧ HF s' c nF F ∧ HG s' c nG G ∧ HB s' c nF (fun _ => 0) ∧ s' c 6 = s d 6 ∧ Fr c s s' := by
  unfold f_C_copyFrom
  simp only [nm_s]
  obtain ⟨s0, e0⟩ : ∃ s0, s0 = mU (mU (mU s c 4 (s d 4)) c 5 (mU s c 4 (s d 4) d 5)) c 6 (mU (mU s c 4 (s d 4)) c 5 (mU s c 4 (s d 4) d 5) d 6) := ⟨_, rfl⟩
  rw [← e0]
  have f0 : ∀ q j, q ≠ c → s0 q j = s q j := fun q j hq => by rw [e0]; simp [mU_get, hq]
  have f4 : s0 c 4 = nI nF := by rw [e0, ← hF.1]; simp [mU_get]
  have f5 : s0 c 5 = nI nG := by rw [e0, ← hG.1]; simp [mU_get, hne]
  have f6 : s0 c 6 = s d 6 := by rw [e0]; simp [mU_get, hne]
  have hfr0 : Fr c s s0 := fr_of ownC f0
  have hF0 : HF s0 d nF F := hF.fr hfr0 hc hd hne hn
  have hG0 : HG s0 d nG G := hG.fr hfr0 hc hd hne hm
  refine lp (fun n i a => k_C_copyFrom_31 n c d (nI i) a) (fun i a => (∀ k, k < i → (∀ j, j < 7 → a (33 + 7 * c + k) j = s0 (33 + 7 * d + k) j) ∧ a (33 + 7 * c + k) 7 = 1 ∧ a (33 + 7 * c + k) 8 = 0) ∧ (∀ q j, ¬ (33 + 7 * c ≤ q ∧ q < 40 + 7 * c) → a q j = s0 q j)) (fun r => ∃ s', r = some s' ∧ HF s' c nF F ∧ HG s' c nG G ∧ HB s' c nF (fun _ => 0) ∧ s' c 6 = s d 6 ∧ Fr c s s') nF ?_ ?_ KF 0 s0 (by omega) (by rw [KF_1]; omega) ⟨fun k hk => absurd hk (by omega), fun _ _ _ => rfl⟩
  · intro n a ⟨h1, h2⟩
    unfold k_C_copyFrom_31
    rw [h2 c 4 (by omega), f4, if_pos (nI_le (Nat.le_refl _) (by omega))]
    have hfa : Fr c s0 a := fun q j hq => h2 q j (fun h => hq (by unfold own; omega))
    obtain ⟨s', e1, e2, e3⟩ := copyG_e (s := a) (c := c) (d := d) (hG0.fr hfa hc hd hne hm) (by rw [h2 c 5 (by omega)]; exact f5) hb hm hc hd hne
    rw [e1]
    have hj : ∀ k j, k < nF → s' (33 + 7 * c + k) j = a (33 + 7 * c + k) j := fun k j hk => e3 _ _ (by omega)
    refine ⟨s', rfl, ⟨by rw [e3 c 4 (by omega), h2 c 4 (by omega)]; exact f4, fun k hk => ?_⟩, e2, fun k hk => ?_, by rw [e3 c 6 (by omega), h2 c 6 (by omega)]; exact f6, (hfr0.tr hfa).tr (fun q j hq => e3 q j (fun h => hq (by unfold own; omega)))⟩
    · obtain ⟨a1, a2, a3⟩ := h1 k hk
      obtain ⟨b1, b2, b3, b4⟩ := hF0.2 k hk
      obtain ⟨d0, d1, d2, d3, d7⟩ := hF0.at hk
      simp only [fRow, hj k _ hk]
      rw [a1 0 (by omega), a1 1 (by omega), a1 2 (by omega), a1 3 (by omega), a1 4 (by omega), a1 5 (by omega), a1 6 (by omega), a2, d0, d1, d2, d3]
      refine ⟨?_, b2, b3, b4⟩
      rw [← hT k hk]
    · rw [hj k 8 hk]
      exact (h1 k hk).2.2
  · intro n i a hi ⟨h1, h2⟩ ih
    unfold k_C_copyFrom_31
    rw [h2 c 4 (by omega), f4, if_neg (nI_ge hi (by omega)), friendAt_e (by omega), bn_s, friendAt_e (by omega), bn_s]
    obtain ⟨s', e1, e2, e3, e4, e5⟩ := Fcopy_e (s := a) (o := 33 + 7 * c + i) (x := 33 + 7 * d + i) (by omega)
    rw [e1, bv_s, nI_1]
    refine ih s' ⟨fun k hk => ?_, fun q j hq => by rw [e5 q j (by omega)]; exact h2 q j hq⟩
    by_cases h : k = i
    · subst h
      exact ⟨fun j hj => by rw [e2 j hj, h2 _ _ (by omega)], e3, e4⟩
    · obtain ⟨a1, a2, a3⟩ := h1 k (by omega)
      exact ⟨fun j hj => by rw [e5 _ _ (by omega)]; exact a1 j hj, by rw [e5 _ _ (by omega)]; exact a2, by rw [e5 _ _ (by omega)]; exact a3⟩
/-! the state of the object now: what the company holds, as long as nothing is thought -/
def FsOk (nF : Nat) (F : Nat → FV) : Prop := ∀ k, k < nF → (0 ≤ (fK (F k)).toInt ∧ (fK (F k)).toInt ≤ 5) ∧ (0 ≤ (fI (F k)).toInt ∧ (fI (F k)).toInt ≤ 9) ∧ (1 ≤ (fD (F k)).toInt ∧ (fD (F k)).toInt ≤ 99) ∧ (fN (F k) = -1 ∨ ∃ p, p < nF ∧ p ≠ k ∧ fN (F k) = nI p) ∧ fT (F k) = 1
def GsOk (nF nG : Nat) (G : Nat → GV) : Prop := ∀ k, k < nG → HOk nF (G k) ∧ (0 ≤ (gW (G k)).toInt ∧ (gW (G k)).toInt ≤ 999) ∧ (1 ≤ (gZ' (G k)).toInt ∧ (gZ' (G k)).toInt ≤ 999) ∧ (0 ≤ (gK (G k)).toInt ∧ (gK (G k)).toInt ≤ 99) ∧ (0 ≤ (gP (G k)).toInt ∧ (gP (G k)).toInt ≤ 99)
abbrev CV : Type := Nat × Nat × Int32 × (Nat → FV) × (Nat → GV)
def VOk (V : CV) : Prop := V.1 ≤ 6 ∧ V.2.1 ≤ 4 ∧ (0 ≤ V.2.2.1.toInt ∧ V.2.2.1.toInt ≤ 999) ∧ FsOk V.1 V.2.2.2.1 ∧ GsOk V.1 V.2.1 V.2.2.2.2
def HC (s : Mm) (c : Nat) (V : CV) : Prop := HF s c V.1 V.2.2.2.1 ∧ HG s c V.2.1 V.2.2.2.2 ∧ s c 6 = V.2.2.1
theorem FsOk.n {nF : Nat} {F : Nat → FV} (h : FsOk nF F) : NOk nF F := fun k hk => by
  rcases (h k hk).2.2.2.1 with e | ⟨p, hp, -, e⟩
  · exact Or.inl e
  · exact Or.inr ⟨p, hp, e⟩
theorem HC.fr {s s' : Mm} {c c' : Nat} {V : CV} (h : HC s c' V) (hv : VOk V) (hf : Fr c s s') (hc : c < 11) (hc' : c' < 11) (hne : c' ≠ c) : HC s' c' V := ⟨h.1.fr hf hc hc' hne hv.1, h.2.1.fr hf hc hc' hne hv.2.1, by rw [fr_m hf hc hc' hne]; exact h.2.2⟩
theorem Ccopy_e {s : Mm} {c d : Nat} {V : CV} (h : HC s d V) (hv : VOk V) (hc : c < 11) (hd : d < 11) (hne : d ≠ c) : ∃ s', f_C_copyFrom s c d = some s' ∧ HC s' c V ∧ HB s' c V.1 (fun _ => 0) ∧ Fr c s s' := by
  obtain ⟨s', h1, h2, h3, h4, h5, h6⟩ := copy_e h.1 h.2.1 (fun k hk => (hv.2.2.2.1 k hk).2.2.2.2) (fun k hk => (hv.2.2.2.2 k hk).1.2) hv.1 hv.2.1 hc hd hne
  exact ⟨s', h1, ⟨h2, h3, by rw [h5]; exact h.2.2⟩, h4, h6⟩
theorem recall_e {s : Mm} {V : CV} (h : HC s 0 V) (hv : VOk V) : ∃ s', f_M_recall s = some (2, s') ∧ HC s' 2 V ∧ HB s' 2 V.1 (fun _ => 0) ∧ Fr 2 s s' ∧ HC s' 0 V := by
  obtain ⟨s', h1, h2, h3, h4⟩ := Ccopy_e h hv (c := 2) (by omega) (by omega) (by omega)
  unfold f_M_recall
  rw [h1, bv_s]
  exact ⟨s', rfl, h2, h3, h4, h.fr hv h4 (by omega) (by omega) (by omega)⟩
/-! sums over gifts -/
def sm : Nat → (Nat → Int32) → Int32
  | 0, _ => 0
  | n + 1, f => sm n f + f n
theorem allWorth_e {s : Mm} {c nG : Nat} {G : Nat → GV} (h : HG s c nG G) (hm : nG ≤ 4) : f_C_allWorth s c = some (sm nG (fun k => gW (G k)), s) := by
  unfold f_C_allWorth
  refine lp (fun n i (a : Int32) => k_C_allWorth_4 n c a (nI i) s) (fun i a => a = sm i (fun k => gW (G k))) (fun r => r = some (sm nG (fun k => gW (G k)), s)) nG ?_ ?_ KF 0 0 (by omega) (by rw [KF_1]; omega) rfl
  · intro n a e
    unfold k_C_allWorth_4
    rw [h.1, if_pos (nI_le (Nat.le_refl _) (by omega)), e]
  · intro n i a hi e ih
    unfold k_C_allWorth_4
    rw [h.1, if_neg (nI_ge hi (by omega)), giftAt_e (by omega), bn_s, nm_s, nI_1, (h.at hi).1, e]
    exact ih _ rfl
theorem allSize_e {s : Mm} {c nG : Nat} {G : Nat → GV} (h : HG s c nG G) (hm : nG ≤ 4) : f_C_allSize s c = some (sm nG (fun k => gZ' (G k)), s) := by
  unfold f_C_allSize
  refine lp (fun n i (a : Int32) => k_C_allSize_4 n c a (nI i) s) (fun i a => a = sm i (fun k => gZ' (G k))) (fun r => r = some (sm nG (fun k => gZ' (G k)), s)) nG ?_ ?_ KF 0 0 (by omega) (by rw [KF_1]; omega) rfl
  · intro n a e
    unfold k_C_allSize_4
    rw [h.1, if_pos (nI_le (Nat.le_refl _) (by omega)), e]
  · intro n i a hi e ih
    unfold k_C_allSize_4
    rw [h.1, if_neg (nI_ge hi (by omega)), giftAt_e (by omega), bn_s, nm_s, nI_1, (h.at hi).2.1, e]
    exact ih _ rfl
theorem allHands_e {s : Mm} {c nG : Nat} {G : Nat → GV} (h : HG s c nG G) (hm : nG ≤ 4) : f_C_allHands s c = some (sm nG (fun k => gP (G k)), s) := by
  unfold f_C_allHands
  refine lp (fun n i (a : Int32) => k_C_allHands_4 n c a (nI i) s) (fun i a => a = sm i (fun k => gP (G k))) (fun r => r = some (sm nG (fun k => gP (G k)), s)) nG ?_ ?_ KF 0 0 (by omega) (by rw [KF_1]; omega) rfl
  · intro n a e
    unfold k_C_allHands_4
    rw [h.1, if_pos (nI_le (Nat.le_refl _) (by omega)), e]
  · intro n i a hi e ih
    unfold k_C_allHands_4
    rw [h.1, if_neg (nI_ge hi (by omega)), giftAt_e (by omega), bn_s, nm_s, nI_1, (h.at hi).2.2.2.2.2, e]
    exact ih _ rfl
def hold1 (p : Int32) (g : GV) : Int32 := if gH g = p then 1 else 0
theorem holdsOf_e {s : Mm} {c nG : Nat} {G : Nat → GV} (h : HG s c nG G) (hm : nG ≤ 4) (p : Int32) : f_C_holdsOf s c p = some (sm nG (fun k => hold1 p (G k)), s) := by
  unfold f_C_holdsOf
  refine lp (fun n i (a : Int32) => k_C_holdsOf_4 n c p a (nI i) s) (fun i a => a = sm i (fun k => hold1 p (G k))) (fun r => r = some (sm nG (fun k => hold1 p (G k)), s)) nG ?_ ?_ KF 0 0 (by omega) (by rw [KF_1]; omega) rfl
  · intro n a e
    unfold k_C_holdsOf_4
    rw [h.1, if_pos (nI_le (Nat.le_refl _) (by omega)), e]
  · intro n i a hi e ih
    unfold k_C_holdsOf_4
    rw [h.1, if_neg (nI_ge hi (by omega)), giftAt_e (by omega), bn_s, nI_1, (h.at hi).2.2.1, e]
    by_cases hp : gH (G i) = p
    · rw [if_pos hp]
      refine ih _ ?_
      show _ = sm i _ + hold1 p (G i)
      rw [hold1, if_pos hp]
    · rw [if_neg hp]
      refine ih _ ?_
      show _ = sm i _ + hold1 p (G i)
      rw [hold1, if_neg hp, Int32.add_zero]
def worth1 (p : Int32) (g : GV) : Int32 := if gH g = p then gW g else 0
theorem worthWith_e {s : Mm} {c nG : Nat} {G : Nat → GV} (h : HG s c nG G) (hm : nG ≤ 4) (p : Int32) : f_C_worthWith s c p = some (sm nG (fun k => worth1 p (G k)), s) := by
  unfold f_C_worthWith
  refine lp (fun n i (a : Int32) => k_C_worthWith_4 n c p a (nI i) s) (fun i a => a = sm i (fun k => worth1 p (G k))) (fun r => r = some (sm nG (fun k => worth1 p (G k)), s)) nG ?_ ?_ KF 0 0 (by omega) (by rw [KF_1]; omega) rfl
  · intro n a e
    unfold k_C_worthWith_4
    rw [h.1, if_pos (nI_le (Nat.le_refl _) (by omega)), e]
  · intro n i a hi e ih
    unfold k_C_worthWith_4
    rw [h.1, if_neg (nI_ge hi (by omega)), giftAt_e (by omega), bn_s, nI_1, (h.at hi).2.2.1, e]
    by_cases hp : gH (G i) = p
    · rw [if_pos hp, giftAt_e (by omega), bn_s, nm_s, (h.at hi).1]
      refine ih _ ?_
      show _ = sm i _ + worth1 p (G i)
      rw [worth1, if_pos hp]
    · rw [if_neg hp]
      refine ih _ ?_
      show _ = sm i _ + worth1 p (G i)
      rw [worth1, if_neg hp, Int32.add_zero]
