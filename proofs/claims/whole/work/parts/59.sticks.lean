/-! STICKS -/
def szB (V : CV) (p : Nat) (g : GV) : Int32 := if gB g = 1 then gZ' g else mx 1 (mn (gZ' g + swK (fK (V.2.2.2.1 p)) (fI (V.2.2.2.1 p))) 999)
def pSt (V : CV) (k : Nat) : Bool := decide (wtK (fK (V.2.2.2.1 (ix (gH (V.2.2.2.2 k))))) (fI (V.2.2.2.1 (ix (gH (V.2.2.2.2 k))))) ≤ gK (V.2.2.2.2 k) + 1 ∧ gH (stepG V.2.2.2.1 (V.2.2.2.2 k)) = gH (V.2.2.2.2 k))
theorem kadd {x : Int32} (h : 0 ≤ x.toInt ∧ x.toInt ≤ 99) : (x + 1).toInt = x.toInt + 1 := i32_add (by rw [l1]; omega) (by rw [l1]; omega)
theorem mn_le {x y m : Int32} (h : x ≤ y) (hm : x ≤ m) : x ≤ mn y m := by
  unfold mn
  repeat' split
  all_goals assumption
theorem pSt_iff {V : CV} {k p : Nat} (hv : VOk V) (hk : k < V.2.1) (hp : p < V.1) (hh : gH (V.2.2.2.2 k) = nI p) : pSt V k = decide (wtK (fK (V.2.2.2.1 p)) (fI (V.2.2.2.1 p)) ≤ gK (V.2.2.2.2 k) + 1 ∧ (fN (V.2.2.2.1 p) = -1 ∨ fD (V.2.2.2.1 (ix (fN (V.2.2.2.1 p)))) < szB V p (V.2.2.2.2 k))) := by
  have hn := hv.1
  obtain ⟨⟨-, hb⟩, -, -, hK, -⟩ := hv.G k hk
  obtain ⟨-, hI, -, hN, -⟩ := hv.F hp
  have hw := wtK_r (k := fK (V.2.2.2.1 p)) hI
  unfold pSt
  rw [hh, ix_nI (by omega)]
  congr 1
  apply propext
  have hix : ix (gH (V.2.2.2.2 k)) = p := by rw [hh, ix_nI (by omega)]
  have key : wtK (fK (V.2.2.2.1 p)) (fI (V.2.2.2.1 p)) ≤ gK (V.2.2.2.2 k) + 1 → (gH (stepG V.2.2.2.1 (V.2.2.2.2 k)) = nI p ↔ (fN (V.2.2.2.1 p) = -1 ∨ fD (V.2.2.2.1 (ix (fN (V.2.2.2.1 p)))) < szB V p (V.2.2.2.2 k))) := by
    intro hle
    have hle2 : wtK (fK (V.2.2.2.1 p)) (fI (V.2.2.2.1 p)) ≤ gK (keepG (V.2.2.2.2 k)) := mn_le hle (by rw [i32_le, l99]; omega)
    unfold stepG
    rw [hix, if_pos hle2]
    obtain ⟨g', eg⟩ : ∃ g', g' = betG (V.2.2.2.1 p) (keepG (V.2.2.2.2 k)) := ⟨_, rfl⟩
    have g1 : gH g' = nI p := by
      rw [eg, ← hh]
      unfold betG
      split <;> rfl
    have g2 : gZ' g' = szB V p (V.2.2.2.2 k) := by
      rw [eg]
      unfold betG szB
      rcases hb with b | b
      · rw [if_pos (show gB (keepG (V.2.2.2.2 k)) = 0 from b), b, if_neg (by decide)]
        rfl
      · rw [if_neg (show ¬ gB (keepG (V.2.2.2.2 k)) = 0 from by show ¬ gB (V.2.2.2.2 k) = 0; rw [b]; decide), b, if_pos rfl]
        rfl
    rw [← eg]
    unfold giveG
    rw [g1, ix_nI (by omega), g2]
    by_cases c1 : fN (V.2.2.2.1 p) = -1
    · rw [if_pos c1]
      exact ⟨fun _ => Or.inl c1, fun _ => g1⟩
    · rw [if_neg c1]
      by_cases c2 : fD (V.2.2.2.1 (ix (fN (V.2.2.2.1 p)))) < szB V p (V.2.2.2.2 k)
      · rw [if_pos c2]
        exact ⟨fun _ => Or.inr c2, fun _ => g1⟩
      · rw [if_neg c2]
        rcases hN with e | ⟨q, hq, hne, e⟩
        · exact absurd e c1
        · refine ⟨fun z => ?_, fun z => ?_⟩
          · have z : fN (V.2.2.2.1 p) = nI p := z
            rw [e] at z
            exact absurd ((nI_eq (by omega) (by omega)).mp z) hne
          · rcases z with z | z
            · exact absurd z c1
            · exact absurd z c2
  constructor
  · intro ⟨h1, h2⟩
    exact ⟨h1, (key h1).mp h2⟩
  · intro ⟨h1, h2⟩
    exact ⟨h1, (key h1).mpr h2⟩
theorem RisStuck_e {s : Mm} {V : CV} {k : Nat} (h : RV s V) (hv : VOk V) (hk : k < V.2.1) : f_R_isStuck s (nI k) = some (if pSt V k = true then 1 else 0, s) := by
  have hn := hv.1
  have hm := hv.2.1
  obtain ⟨⟨p, hp, hh⟩, -⟩ := hv.H k hk
  have hg := h.2.1.at hk
  have hf := h.1.2 p hp
  rw [pSt_iff hv hk hp hh]
  unfold f_R_isStuck
  simp only [gd_n (show k < 4 by omega) (show 4 < 2 ^ 31 by omega), nI_clamp (show k < 2 ^ 31 by omega), hg.2.2.1, hg.2.2.2.1, hh, RwaitsOf_e (show p < 6 by omega), bn_s, hf.1, hf.2.1, gd_n (show p < 6 by omega) (show 6 < 2 ^ 31 by omega), nI_clamp (show p < 2 ^ 31 by omega), nm_s, hf.2.2.2.1]
  by_cases c : wtK (fK (V.2.2.2.1 p)) (fI (V.2.2.2.1 p)) ≤ gK (V.2.2.2.2 k) + 1
  · simp only [c, if_true, true_and]
    rcases (hv.F hp).2.2.2.1 with e | ⟨q, hq, hne, e⟩
    · rw [e, ← nx_m1, if_pos (by decide)]
      simp
    · have hfq := h.1.2 q hq
      rw [e, ← nx_nI (by omega), if_neg (nI_pos (by omega)), sizeBehind_e h.1 hn (by omega) hp (by rw [hg.2.2.1]; exact hh), bn_s, gd_n (show q < 6 by omega) (by omega), nI_clamp (by omega), hfq.2.2.1, hg.2.2.2.2.1, hg.2.1, ix_nI (by omega)]
      show (if szB V p (V.2.2.2.2 k) ≤ fD (V.2.2.2.1 q) then _ else _) = _
      by_cases d : szB V p (V.2.2.2.2 k) ≤ fD (V.2.2.2.1 q)
      · rw [if_pos d]
        have d' : ¬ fD (V.2.2.2.1 q) < szB V p (V.2.2.2.2 k) := by rw [i32_le] at d; rw [i32_lt]; omega
        simp [m1_ne (show q < 2 ^ 31 by omega), d']
      · rw [if_neg d]
        rw [i32_nlt] at d
        simp [d]
  · simp only [c, if_false, false_and]
    simp
theorem op_sticks : OpI (fun s => f_X_sticks s) (fun s => f_R_sticks s) := by
  refine OpI.q0 (fun S => nI (BS (pSt S.1) S.1.2.1)) ?_ ?_
  · intro s S h
    have hv := h.2.1
    have hn := hv.1
    have hm := hv.2.1
    obtain ⟨s1, a1, a2, a3, a4, a5⟩ := recall_e h.1 hv
    unfold f_X_sticks f_M_stuck
    simp only [bn_eta, a1, bn_s]
    refine lp (α := Int32 × Mm) (fun n i x => k_M_stuck_9 n x.1 (nI i) x.2) (fun i x => x.1 = nI (BS (pSt S.1) i) ∧ HF x.2 2 S.1.1 S.1.2.2.2.1 ∧ HG x.2 2 S.1.2.1 (fun j => if j < i then stepG S.1.2.2.2.1 (S.1.2.2.2.2 j) else S.1.2.2.2.2 j) ∧ Fr 2 s x.2) (fun r => ∃ s', r = some (nI (BS (pSt S.1) S.1.2.1), s') ∧ FrQX s s') S.1.2.1 ?_ ?_ KF 0 (0, s1) (by omega) (by rw [KF_1]; omega) ⟨rfl, a2.1, a2.2.1, a4⟩
    · intro n x ⟨e1, e2, e3, e4⟩
      unfold k_M_stuck_9
      rw [e3.1, if_pos (nI_le (Nat.le_refl _) (by omega)), e1]
      exact ⟨x.2, rfl, e4.q⟩
    · intro n i x hi ⟨e1, e2, e3, e4⟩ ih
      obtain ⟨⟨p, hp, hh⟩, -⟩ := hv.H i hi
      have hg := e3.at hi
      simp only [Nat.lt_irrefl, if_false] at hg
      have hK := (hv.G i hi).2.2.2.1
      unfold k_M_stuck_9
      rw [e3.1, if_neg (nI_ge hi (by omega)), giftAt_e (by omega), bn_s, nm_s, hg.2.2.1, hh, friendAt_e (by omega), bn_s, hg.2.2.2.1, (e2.2 p hp).2.1]
      obtain ⟨s', b1, b2, b3, b4, b5, b6⟩ := passK_e (B := fun q => x.2 (33 + 7 * 2 + q) 8) e2 e3 (fun q _ => rfl) hv.M.n (k := i) (by simp only [Nat.lt_irrefl, if_false]; exact hv.H i hi) hv.1 hv.2.1 hi (by omega)
      have b3' : HG s' 2 S.1.2.1 (fun j => if j < i + 1 then stepG S.1.2.2.2.1 (S.1.2.2.2.2 j) else S.1.2.2.2.2 j) := by
        refine ⟨b3.1, fun q hq => ?_⟩
        rw [b3.2 q hq]
        by_cases c : q = i
        · subst c
          simp
        · by_cases d : q < i
          · simp [c, d, show q < i + 1 by omega]
          · simp [c, d, show ¬ q < i + 1 by omega]
      have hgs := (b3'.at hi).2.2.1
      rw [if_pos (show i < i + 1 by omega)] at hgs
      unfold k_M_stuck_61
      rw [b1, bv_s, bv_s, hgs, nI_1]
      have hix : ix (gH (S.1.2.2.2.2 i)) = p := by rw [hh, ix_nI (by omega)]
      by_cases c : gK (S.1.2.2.2.2 i) + 1 < wtK (fK (S.1.2.2.2.1 p)) (fI (S.1.2.2.2.1 p))
      · have hf : pSt S.1 i = false := by
          unfold pSt
          rw [hix]
          rw [i32_lt] at c
          exact decide_eq_false (fun z => by have := z.1; rw [i32_le] at this; omega)
        rw [if_pos c, if_pos rfl]
        exact ih (x.1, s') ⟨by rw [BS_n hf]; exact e1, b2, b3', e4.tr b6⟩
      · have c' : wtK (fK (S.1.2.2.2.1 p)) (fI (S.1.2.2.2.1 p)) ≤ gK (S.1.2.2.2.2 i) + 1 := by rw [i32_lt] at c; rw [i32_le]; omega
        rw [if_neg c, if_neg (by decide)]
        by_cases d : gH (stepG S.1.2.2.2.1 (S.1.2.2.2.2 i)) = nI p
        · have hf : pSt S.1 i = true := by
            unfold pSt
            rw [hix, hh]
            exact decide_eq_true ⟨c', d⟩
          rw [if_pos d, nm_s, e1, BS_s hf (by omega)]
          exact ih (_, s') ⟨rfl, b2, b3', e4.tr b6⟩
        · have hf : pSt S.1 i = false := by
            unfold pSt
            rw [hix, hh]
            exact decide_eq_false (fun z => d z.2)
          rw [if_neg d]
          exact ih (x.1, s') ⟨by rw [BS_n hf]; exact e1, b2, b3', e4.tr b6⟩
  · intro s S ho h
    have hm := ho.1.2.1
    unfold f_R_sticks
    refine lp (fun n i (x : Int32) => k_R_sticks_4 n x (nI i) s) (fun i x => x = nI (BS (pSt S.1) i)) (fun r => ∃ s', r = some (nI (BS (pSt S.1) S.1.2.1), s') ∧ RV s' S.1 ∧ FrQR s s') S.1.2.1 ?_ ?_ KF 0 0 (by omega) (by rw [KF_1]; omega) rfl
    · intro n x e1
      unfold k_R_sticks_4
      rw [h.1.2.1.1, if_pos (nI_le (Nat.le_refl _) (by omega)), e1]
      exact ⟨s, rfl, h.1, FrQR.rf⟩
    · intro n i x hi e1 ih
      unfold k_R_sticks_4
      rw [h.1.2.1.1, if_neg (nI_ge hi (by omega)), RisStuck_e h.1 ho.1 hi, bn_s, nI_1]
      cases hf : pSt S.1 i with
      | true =>
        rw [if_pos rfl, if_neg (by decide), nm_s, e1, BS_s hf (by omega)]
        exact ih _ rfl
      | false =>
        rw [if_neg (show ¬ (false = true) by decide), if_pos rfl, nm_s, or0, e1]
        exact ih _ (by rw [BS_n hf])
