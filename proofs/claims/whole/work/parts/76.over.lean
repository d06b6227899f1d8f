/-! PASSED_OVER -/
def ovX (V : CV) (p i : Nat) : Int32 := if fN (V.2.2.2.1 p) = nI i then -1 else fN (V.2.2.2.1 p)
def ovW (V : CV) (p : Nat) : Nat → CV
  | 0 => V
  | i + 1 => if fN (V.2.2.2.1 i) = nI p then VxN (ovW V p i) i (ovX V p i) else ovW V p i
theorem ovW_k {V : CV} {p : Nat} : ∀ i, (ovW V p i).1 = V.1 ∧ (ovW V p i).2.1 = V.2.1 ∧ (ovW V p i).2.2.2.2 = V.2.2.2.2 ∧ ∀ j, i ≤ j → (ovW V p i).2.2.2.1 j = V.2.2.2.1 j
  | 0 => ⟨rfl, rfl, rfl, fun _ _ => rfl⟩
  | i + 1 => by
    obtain ⟨h1, h2, h3, h4⟩ := ovW_k (V := V) (p := p) i
    unfold ovW
    by_cases c : fN (V.2.2.2.1 i) = nI p
    · rw [if_pos c]
      refine ⟨h1, h2, h3, fun j hj => ?_⟩
      show upF (ovW V p i).2.2.2.1 i _ j = _
      rw [upF_ne (by omega)]
      exact h4 j (by omega)
    · rw [if_neg c]
      exact ⟨h1, h2, h3, fun j hj => h4 j (by omega)⟩
theorem ovX_ok {V : CV} {p i : Nat} (h : VOk V) (hp : p < V.1) : ovX V p i = -1 ∨ ∃ q, q < V.1 ∧ q ≠ i ∧ ovX V p i = nI q := by
  unfold ovX
  by_cases c : fN (V.2.2.2.1 p) = nI i
  · rw [if_pos c]; exact Or.inl rfl
  · rw [if_neg c]
    obtain ⟨-, -, -, h4, -⟩ := h.2.2.2.1 p hp
    rcases h4 with e | ⟨q, h1, h2, h3⟩
    · exact Or.inl e
    · exact Or.inr ⟨q, h1, fun z => c (by rw [h3, z]), h3⟩
theorem ovW_ok {V : CV} {p : Nat} (h : VOk V) (hp : p < V.1) : ∀ i, i ≤ V.1 → VOk (ovW V p i)
  | 0, _ => h
  | i + 1, hi => by
    have ih := ovW_ok h hp i (by omega)
    have e := (ovW_k (V := V) (p := p) i).1
    unfold ovW
    by_cases c : fN (V.2.2.2.1 i) = nI p
    · rw [if_pos c]
      refine VxN.ok ih (by rw [e]; omega) ?_
      rw [e]
      exact ovX_ok h hp
    · rw [if_neg c]; exact ih
def ovH (W : CV) (p : Nat) (y : Int32) : Nat → CV
  | 0 => W
  | k + 1 => if gH (W.2.2.2.2 k) = nI p then ((ovH W p y k).1, (ovH W p y k).2.1, (ovH W p y k).2.2.1, (ovH W p y k).2.2.2.1, upG (ovH W p y k).2.2.2.2 k (goG y ((ovH W p y k).2.2.2.2 k))) else ovH W p y k
theorem ovH_k {W : CV} {p : Nat} {y : Int32} : ∀ i, (ovH W p y i).1 = W.1 ∧ (ovH W p y i).2.1 = W.2.1 ∧ (ovH W p y i).2.2.2.1 = W.2.2.2.1 ∧ ∀ j, i ≤ j → (ovH W p y i).2.2.2.2 j = W.2.2.2.2 j
  | 0 => ⟨rfl, rfl, rfl, fun _ _ => rfl⟩
  | i + 1 => by
    obtain ⟨h1, h2, h3, h4⟩ := ovH_k (W := W) (p := p) (y := y) i
    unfold ovH
    by_cases c : gH (W.2.2.2.2 i) = nI p
    · rw [if_pos c]
      refine ⟨h1, h2, h3, fun j hj => ?_⟩
      show upG (ovH W p y i).2.2.2.2 i _ j = _
      rw [upG_ne (by omega)]
      exact h4 j (by omega)
    · rw [if_neg c]
      exact ⟨h1, h2, h3, fun j hj => h4 j (by omega)⟩
theorem ovH_ok {W : CV} {p q : Nat} (h : VOk W) (hq : q < W.1) : ∀ i, i ≤ W.2.1 → VOk (ovH W p (nI q) i)
  | 0, _ => h
  | i + 1, hi => by
    have ih := ovH_ok (p := p) h hq i (by omega)
    obtain ⟨e1, e2, e3, e4⟩ := ovH_k (W := W) (p := p) (y := nI q) i
    unfold ovH
    by_cases c : gH (W.2.2.2.2 i) = nI p
    · rw [if_pos c]
      exact ih.gUp ((ih.G i (by omega)).go (by omega))
    · rw [if_neg c]; exact ih
def ovU (V : CV) (p : Nat) : CV := if fN (V.2.2.2.1 p) = -1 then ovW V p V.1 else ovH (ovW V p V.1) p (fN (V.2.2.2.1 p)) V.2.1
theorem ovU_ok {V : CV} {p : Nat} (h : VOk V) (hp : p < V.1) : VOk (ovU V p) := by
  unfold ovU
  have h0 := ovW_ok h hp V.1 (Nat.le_refl _)
  obtain ⟨e1, e2, e3, e4⟩ := ovW_k (V := V) (p := p) V.1
  by_cases c : fN (V.2.2.2.1 p) = -1
  · rw [if_pos c]; exact h0
  · rw [if_neg c]
    obtain ⟨-, -, -, h4, -⟩ := h.2.2.2.1 p hp
    rcases h4 with e | ⟨q, h1, h2, h3⟩
    · exact absurd e c
    · rw [h3]
      exact ovH_ok h0 (by omega) _ (by omega)
def ovV (V : CV) (N p : Nat) : Int32 := sm (ovU V p).2.1 (fun k => gW (gIt (ovU V p).2.2.2.1 N ((ovU V p).2.2.2.2 k)))
theorem HC.next {a : Mm} {W : CV} {i : Nat} {x : Int32} (h : HC a 2 W) (hv : VOk W) (hi : i < W.1) : HC (mU a (33 + 7 * 2 + i) 3 x) 2 (VxN W i x) ∧ Fr 2 a (mU a (33 + 7 * 2 + i) 3 x) := by
  have hb := h.1.at hi
  obtain ⟨b1, b2, b3⟩ := HF.set (j := 3) (x := x) (f := (fK (W.2.2.2.1 i), fI (W.2.2.2.1 i), fD (W.2.2.2.1 i), x, fT (W.2.2.2.1 i))) h hv hi (Or.inr rfl) (by simp [fRow, mU_get, hb.1, hb.2.1, hb.2.2.1, hb.2.2.2.2]) rfl rfl
  exact ⟨⟨b1, b2, by rw [mU_get, if_neg (by omega)]; exact h.2.2⟩, b3⟩
theorem HC.go {a : Mm} {W : CV} {k : Nat} {x : Int32} (h : HC a 2 W) (hv : VOk W) (hk : k < W.2.1) : HC (mU (mU (mU a (110 + 5 * 2 + k) 2 x) (110 + 5 * 2 + k) 3 0) (110 + 5 * 2 + k) 4 0) 2 (W.1, W.2.1, W.2.2.1, W.2.2.2.1, upG W.2.2.2.2 k (goG x (W.2.2.2.2 k))) ∧ Fr 2 a (mU (mU (mU a (110 + 5 * 2 + k) 2 x) (110 + 5 * 2 + k) 3 0) (110 + 5 * 2 + k) 4 0) := by
  have hm := hv.2.1
  obtain ⟨a2, ea⟩ : ∃ a2, a2 = mU (mU (mU a (110 + 5 * 2 + k) 2 x) (110 + 5 * 2 + k) 3 0) (110 + 5 * 2 + k) 4 0 := ⟨_, rfl⟩
  rw [← ea]
  have he : ∀ q j, q ≠ 110 + 5 * 2 + k → a2 q j = a q j := fun q j hq => by rw [ea]; simp [mU_get, hq]
  have hg := h.2.1.at hk
  refine ⟨⟨h.1.o hv.1 (by omega) (fun q j hq => he q j (by omega)), h.2.1.up (by omega) hm (by omega) he ?_, by rw [he _ _ (by omega)]; exact h.2.2⟩, fun q j hq => he q j (fun z => hq (z ▸ ownG (c := 2) (by omega)))⟩
  rw [ea]
  simp [gRow, mU_get, goG, hg.1, hg.2.1, hg.2.2.2.2.2]
theorem passOver_e {s : Mm} {V : CV} {p : Nat} (h : HC s 2 V) (hv : VOk V) (hp : p < V.1) : ∃ s', f_C_passOver s 2 (nI p) = some s' ∧ HC s' 2 (ovU V p) ∧ Fr 2 s s' := by
  have hn := hv.1
  have hm := hv.2.1
  have gifts : ∀ a, HC a 2 (ovW V p V.1) → Fr 2 s a → ∃ s', k_C_passOver_58 KF 2 (nI p) (fN (V.2.2.2.1 p)) 0 a = some s' ∧ HC s' 2 (ovU V p) ∧ Fr 2 s s' := by
    intro a h1 f1
    have h0 := ovW_ok hv hp V.1 (Nat.le_refl _)
    obtain ⟨e1, e2, e3, e4⟩ := ovW_k (V := V) (p := p) V.1
    unfold ovU
    by_cases c : fN (V.2.2.2.1 p) = -1
    · rw [if_pos c, KF_1]
      unfold k_C_passOver_58
      by_cases d : a 2 5 ≤ 0
      · rw [if_pos d]; exact ⟨a, rfl, h1, f1⟩
      · rw [if_neg d, if_pos c]; exact ⟨a, rfl, h1, f1⟩
    · rw [if_neg c]
      obtain ⟨q, hq, hy⟩ : ∃ q, q < V.1 ∧ fN (V.2.2.2.1 p) = nI q := by
        obtain ⟨-, -, -, h4, -⟩ := hv.2.2.2.1 p hp
        rcases h4 with e | ⟨q, h1, h2, h3⟩
        · exact absurd e c
        · exact ⟨q, h1, h3⟩
      rw [hy] at c ⊢
      refine lp (fun n i (x : Mm) => k_C_passOver_58 n 2 (nI p) (nI q) (nI i) x) (fun i x => HC x 2 (ovH (ovW V p V.1) p (nI q) i) ∧ Fr 2 s x) (fun r => ∃ s', r = some s' ∧ HC s' 2 (ovH (ovW V p V.1) p (nI q) V.2.1) ∧ Fr 2 s s') V.2.1 ?_ ?_ KF 0 a (by omega) (by rw [KF_1]; omega) ⟨h1, f1⟩
      · intro n x ⟨y1, y2⟩
        have k1 := (ovH_k (W := ovW V p V.1) (p := p) (y := nI q) V.2.1).2.1
        unfold k_C_passOver_58
        rw [y1.2.1.1, k1, e2, if_pos (nI_le (Nat.le_refl _) (by omega))]
        exact ⟨x, rfl, y1, y2⟩
      · intro n i x hi ⟨y1, y2⟩ ih
        obtain ⟨k1, k2, k3, k4⟩ := ovH_k (W := ovW V p V.1) (p := p) (y := nI q) i
        have ho := ovH_ok (p := p) h0 (show q < (ovW V p V.1).1 by omega) i (by omega)
        have hi' : i < (ovH (ovW V p V.1) p (nI q) i).2.1 := by omega
        have hg := (y1.2.1.at hi').2.2.1
        rw [k4 i (Nat.le_refl _)] at hg
        unfold k_C_passOver_58
        rw [y1.2.1.1, k2, e2, if_neg (nI_ge hi (by omega)), if_neg c, giftAt_e (by omega), bn_s, hg, nI_1]
        by_cases d : gH ((ovW V p V.1).2.2.2.2 i) = nI p
        · rw [if_pos d, giftAt_e (by omega), bn_s, goTo_e, bv_s]
          obtain ⟨z1, z2⟩ := y1.go (x := nI q) ho hi'
          refine ih _ ⟨?_, y2.tr z2⟩
          show HC _ 2 (ovH (ovW V p V.1) p (nI q) (i + 1))
          rw [ovH, if_pos d]
          exact z1
        · rw [if_neg d]
          refine ih x ⟨?_, y2⟩
          show HC _ 2 (ovH (ovW V p V.1) p (nI q) (i + 1))
          rw [ovH, if_neg d]
          exact y1
  unfold f_C_passOver
  rw [friendAt_e (by omega), bn_s, nm_s, (h.1.at hp).2.2.2.1]
  refine lp (fun n i (x : Mm) => k_C_passOver_11 n 2 (nI p) (fN (V.2.2.2.1 p)) (nI i) x) (fun i x => HC x 2 (ovW V p i) ∧ Fr 2 s x) (fun r => ∃ s', r = some s' ∧ HC s' 2 (ovU V p) ∧ Fr 2 s s') V.1 ?_ ?_ KF 0 s (by omega) (by rw [KF_1]; omega) ⟨h, Fr.rf⟩
  · intro n x ⟨y1, y2⟩
    unfold k_C_passOver_11
    rw [y1.1.1, (ovW_k (V := V) (p := p) V.1).1, if_pos (nI_le (Nat.le_refl _) (by omega))]
    exact gifts x y1 y2
  · intro n i x hi ⟨y1, y2⟩ ih
    obtain ⟨k1, k2, k3, k4⟩ := ovW_k (V := V) (p := p) i
    have ho := ovW_ok hv hp i (by omega)
    have hi' : i < (ovW V p i).1 := by omega
    have hb := (y1.1.at hi').2.2.2.1
    rw [k4 i (Nat.le_refl _)] at hb
    unfold k_C_passOver_11
    rw [y1.1.1, k1, if_neg (nI_ge hi (by omega)), friendAt_e (by omega), bn_s, hb, nI_1]
    by_cases c : fN (V.2.2.2.1 i) = nI p
    · rw [if_pos c]
      by_cases d : fN (V.2.2.2.1 p) = nI i
      · rw [if_pos d, nm_s]
        obtain ⟨z1, z2⟩ := y1.next (x := -1) ho hi'
        refine ih _ ⟨?_, y2.tr z2⟩
        show HC _ 2 (ovW V p (i + 1))
        rw [ovW, if_pos c, ovX, if_pos d]
        exact z1
      · rw [if_neg d, nm_s]
        obtain ⟨z1, z2⟩ := y1.next (x := fN (V.2.2.2.1 p)) ho hi'
        refine ih _ ⟨?_, y2.tr z2⟩
        show HC _ 2 (ovW V p (i + 1))
        rw [ovW, if_pos c, ovX, if_neg d]
        exact z1
    · rw [if_neg c]
      refine ih x ⟨?_, y2⟩
      show HC _ 2 (ovW V p (i + 1))
      rw [ovW, if_neg c]
      exact y1
def vOver (V : CV) (N : Nat) (z : Int32 × Int32) : Int32 := if V.1 < 2 then -9 else (bsG (ovV V N) (fun _ => false) z V.1).1
theorem overX_e {s : Mm} {V : CV} {N : Nat} (h : HC s 0 V) (hv : VOk V) (hN : N ≤ 60) : ∃ s', f_M_bestWithout s (nI N) = some (vOver V N (-9, -1), s') ∧ Fr 2 s s' := by
  have hn := hv.1
  unfold f_M_bestWithout vOver
  by_cases c2 : V.1 < 2
  · rw [if_pos c2, KF_1]
    unfold k_M_bestWithout_8
    by_cases d : s 0 4 ≤ 0
    · rw [if_pos d]; exact ⟨s, rfl, Fr.rf⟩
    · rw [if_neg d, if_pos (show s 0 4 < 2 by rw [h.1.1]; exact nI_lt (b := 2) c2 (by omega))]
      exact ⟨s, rfl, Fr.rf⟩
  · rw [if_neg c2]
    refine lp (α := (Int32 × Int32) × Mm) (fun n i x => k_M_bestWithout_8 n (nI N) x.1.1 x.1.2 (nI i) x.2) (fun i x => x.1 = bsG (ovV V N) (fun _ => false) (-9, -1) i ∧ Fr 2 s x.2) (fun r => ∃ s', r = some ((bsG (ovV V N) (fun _ => false) (-9, -1) V.1).1, s') ∧ Fr 2 s s') V.1 ?_ ?_ KF 0 ((-9, -1), s) (by omega) (by rw [KF_1]; omega) ⟨rfl, Fr.rf⟩
    · intro n x ⟨e1, e2⟩
      unfold k_M_bestWithout_8
      rw [(h.fr hv e2 (by omega) (by omega) (by omega)).1.1, if_pos (nI_le (Nat.le_refl _) (by omega)), e1]
      exact ⟨x.2, rfl, e2⟩
    · intro n i x hi ⟨e1, e2⟩ ih
      have h0 := h.fr hv e2 (by omega) (by omega) (by omega)
      unfold k_M_bestWithout_8
      obtain ⟨s1, a1, a2, a3, a4, a5⟩ := recall_e h0 hv
      obtain ⟨s2, b1, b2, b3⟩ := passOver_e a2 hv hi
      have hu := ovU_ok hv hi
      obtain ⟨s3, c1, -, c3, -, -, c6⟩ := pass_e (N := N) b2.1 b2.2.1 (fun q _ => rfl) hu.M.n hu.H hu.1 hu.2.1 (by omega) hN
      have hw := allWorth_e c3 hu.2.1
      have hw : f_C_allWorth s3 2 = some (ovV V N i, s3) := hw
      rw [h0.1.1, if_neg (nI_ge hi (by omega)), if_neg (show ¬ nI V.1 < 2 from fun z => c2 ((nI_ltI (by omega) (b := 2) (by omega)).mp z)), a1, bn_s, b1, bv_s, c1, bv_s, hw, bn_s, nI_1]
      have f' := e2.tr ((a4.tr b3).tr c6)
      have hpos : 0 ≤ ovV V N i := hu.sW N
      by_cases c : ovV V N i ≤ x.1.2
      · rw [if_pos c]
        rw [e1] at c
        exact ih (x.1, s3) ⟨e1.trans (@bs_no (ovV V N) (fun _ => false) (-9, -1) i rfl (show (-1 : Int32) < 0 by decide) hpos (fun z => by rw [← i32_nlt] at z; exact z c)).symm, f'⟩
      · rw [if_neg c]
        rw [e1, i32_nlt] at c
        exact ih ((nI i, ovV V N i), s3) ⟨(@bs_yes (ovV V N) (fun _ => false) (-9, -1) i rfl c).symm, f'⟩
theorem nx_eq {x : Int32} {k : Nat} (hk : k < 2 ^ 31) : (nx x = nI k) = (x = nI k) := by
  unfold nx
  by_cases c : x = -1
  · rw [if_pos c, c]
    exact propext ⟨fun z => absurd z.symm (m9_ne hk), fun z => absurd z.symm (m1_ne hk)⟩
  · rw [if_neg c]
theorem withoutR_e {s : Mm} {V : CV} {p N : Nat} (h : RV s V) (hv : VOk V) (h14 : s 176 14 = 0) (hp : p < V.1) (hN : N ≤ 60) : ∃ s', f_R_worthWithout s (nI p) (nI N) = some (ovV V N p, s') ∧ RV s' V ∧ FrW 51 153 s s' := by
  have hn := hv.1
  have hm := hv.2.1
  have h0 := ovW_ok hv hp V.1 (Nat.le_refl _)
  obtain ⟨e1, e2, e3, e4⟩ := ovW_k (V := V) (p := p) V.1
  obtain ⟨a1, b1, b2, b3, b4, b5⟩ := chg_e h hv h14
  have fin : ∀ n x v4, RV x (ovU V p) → FrW 102 153 a1 x → nI V.2.1 ≤ v4 → ∃ s', k_R_worthWithout_62 (n + 1) (nI p) (nI N) (nx (fN (V.2.2.2.1 p))) v4 x = some (ovV V N p, s') ∧ RV s' V ∧ FrW 51 153 s s' := by
    intro n x v4 y1 y2 hv4
    have hu := ovU_ok hv hp
    obtain ⟨s3, d1, d2, d3⟩ := worthInA_e (N := N) y1 hu (y2.z b3) hN
    have d1 : f_R_worthIn x (-9) (nI N) = some (ovV V N p, s3) := d1
    obtain ⟨a4, g1, g2, g3⟩ := b5 s3 (y2.tr d3)
    have hq : (ovU V p).2.1 = V.2.1 := by
      unfold ovU
      by_cases c : fN (V.2.2.2.1 p) = -1
      · rw [if_pos c]; exact e2
      · rw [if_neg c, (ovH_k _).2.1]; exact e2
    unfold k_R_worthWithout_62
    rw [y1.2.1.1, hq, if_pos hv4, d1, bn_s, g1, bv_s]
    exact ⟨a4, rfl, g2, g3⟩
  have gifts : ∀ a, RV a (ovW V p V.1) → FrW 102 153 a1 a → ∃ s', k_R_worthWithout_62 KF (nI p) (nI N) (nx (fN (V.2.2.2.1 p))) 0 a = some (ovV V N p, s') ∧ RV s' V ∧ FrW 51 153 s s' := by
    intro a h1 f1
    by_cases c : fN (V.2.2.2.1 p) = -1
    · have hu : ovU V p = ovW V p V.1 := by unfold ovU; rw [if_pos c]
      refine lp (fun n i (x : Mm) => k_R_worthWithout_62 n (nI p) (nI N) (nx (fN (V.2.2.2.1 p))) (nI i) x) (fun i x => x = a) (fun r => ∃ s', r = some (ovV V N p, s') ∧ RV s' V ∧ FrW 51 153 s s') V.2.1 ?_ ?_ KF 0 a (by omega) (by rw [KF_1]; omega) rfl
      · intro n x e
        rw [e]
        exact fin n a _ (by rw [hu]; exact h1) f1 (nI_le (Nat.le_refl _) (by omega))
      · intro n i x hi e ih
        rw [e]
        have hnx : nx (fN (V.2.2.2.1 p)) < 0 := by rw [c]; decide
        unfold k_R_worthWithout_62
        rw [h1.2.1.1, e2, if_neg (nI_ge hi (by omega)), gd_n (show i < 4 by omega) (by omega), if_pos hnx, nI_1]
        by_cases d : a 184 (nI i).toNatClampNeg = nI p
        · rw [if_pos d]; exact ih a rfl
        · rw [if_neg d]; exact ih a rfl
    · obtain ⟨q, hq, hy⟩ : ∃ q, q < V.1 ∧ fN (V.2.2.2.1 p) = nI q := by
        obtain ⟨-, -, -, h4, -⟩ := hv.2.2.2.1 p hp
        rcases h4 with e | ⟨q, h1, h2, h3⟩
        · exact absurd e c
        · exact ⟨q, h1, h3⟩
      have hu : ovU V p = ovH (ovW V p V.1) p (nI q) V.2.1 := by unfold ovU; rw [if_neg c, hy]
      have hnx : nx (fN (V.2.2.2.1 p)) = nI q := by rw [hy]; exact (nx_nI (by omega)).symm
      rw [hnx] at fin ⊢
      refine lp (fun n i (x : Mm) => k_R_worthWithout_62 n (nI p) (nI N) (nI q) (nI i) x) (fun i x => RV x (ovH (ovW V p V.1) p (nI q) i) ∧ FrW 102 153 a1 x) (fun r => ∃ s', r = some (ovV V N p, s') ∧ RV s' V ∧ FrW 51 153 s s') V.2.1 ?_ ?_ KF 0 a (by omega) (by rw [KF_1]; omega) ⟨h1, f1⟩
      · intro n x ⟨y1, y2⟩
        exact fin n x _ (by rw [hu]; exact y1) y2 (nI_le (Nat.le_refl _) (by omega))
      · intro n i x hi ⟨y1, y2⟩ ih
        obtain ⟨k1, k2, k3, k4⟩ := ovH_k (W := ovW V p V.1) (p := p) (y := nI q) i
        have ho := ovH_ok (p := p) h0 (show q < (ovW V p V.1).1 by omega) i (by omega)
        have hi' : i < (ovH (ovW V p V.1) p (nI q) i).2.1 := by omega
        have hg := (y1.2.1.at hi').2.2.1
        rw [k4 i (Nat.le_refl _)] at hg
        unfold k_R_worthWithout_62
        rw [y1.2.1.1, k2, e2, if_neg (nI_ge hi (by omega)), gd_n (show i < 4 by omega) (by omega), nI_clamp (by omega), hg, nI_1]
        by_cases d : gH ((ovW V p V.1).2.2.2.2 i) = nI p
        · rw [if_pos d, if_neg (nI_pos (by omega))]
          obtain ⟨a2, z1, z2, z3⟩ := putsV_e (p := nI q) y1 hi' ho.2.1
          rw [z1, bv_s]
          refine ih _ ⟨?_, y2.tr (z3 _ _)⟩
          show RV _ (ovH (ovW V p V.1) p (nI q) (i + 1))
          rw [ovH, if_pos d]
          exact z2
        · rw [if_neg d]
          refine ih x ⟨?_, y2⟩
          show RV _ (ovH (ovW V p V.1) p (nI q) (i + 1))
          rw [ovH, if_neg d]
          exact y1
  unfold f_R_worthWithout
  rw [b1, bv_s, gd_n (show p < 6 by omega) (by omega), nm_s, nI_clamp (by omega), (b2.1.2 p hp).2.2.2.1]
  have fm : ∀ (a : Mm) (i : Nat) (v : Int32), FrW 102 153 a (mU a 181 i v) := fun a i v => ⟨fun j _ => by rw [mU_get, if_neg (by omega)], fun z j h1 h2 h3 => by rw [mU_get, if_neg (by omega)]⟩
  refine lp (fun n i (x : Mm) => k_R_worthWithout_14 n (nI p) (nI N) (nx (fN (V.2.2.2.1 p))) (nI i) x) (fun i x => RV x (ovW V p i) ∧ FrW 102 153 a1 x) (fun r => ∃ s', r = some (ovV V N p, s') ∧ RV s' V ∧ FrW 51 153 s s') V.1 ?_ ?_ KF 0 a1 (by omega) (by rw [KF_1]; omega) ⟨b2, FrW.rf⟩
  · intro n x ⟨y1, y2⟩
    unfold k_R_worthWithout_14
    rw [y1.1.1, e1, if_pos (nI_le (Nat.le_refl _) (by omega))]
    exact gifts x y1 y2
  · intro n i x hi ⟨y1, y2⟩ ih
    obtain ⟨k1, k2, k3, k4⟩ := ovW_k (V := V) (p := p) i
    have ho := ovW_ok hv hp i (by omega)
    have hi' : i < (ovW V p i).1 := by omega
    have hb := (y1.1.2 i hi').2.2.2.1
    rw [k4 i (Nat.le_refl _)] at hb
    unfold k_R_worthWithout_14
    rw [y1.1.1, k1, if_neg (nI_ge hi (by omega))]
    simp only [gd_n (show i < 6 by omega) (show 6 < 2 ^ 31 by omega), nI_clamp (show i < 2 ^ 31 by omega), nm_s, hb, nx_eq (show p < 2 ^ 31 by omega), nx_eq (show i < 2 ^ 31 by omega), nI_1]
    have key : ∀ x' v, v = nx x' → RV (mU x 181 i v) (VxN (ovW V p i) i x') := fun x' v e => VxN.up hi' x (fN ((ovW V p i).2.2.2.1 i)) v x' e (by rw [VxN.id]; exact y1)
    by_cases c : fN (V.2.2.2.1 i) = nI p
    · rw [if_pos c]
      by_cases d : fN (V.2.2.2.1 p) = nI i
      · rw [if_pos d]
        refine ih _ ⟨?_, y2.tr (fm _ _ _)⟩
        show RV _ (ovW V p (i + 1))
        rw [ovW, if_pos c, ovX, if_pos d]
        exact key _ _ nx_m1
      · rw [if_neg d]
        refine ih _ ⟨?_, y2.tr (fm _ _ _)⟩
        show RV _ (ovW V p (i + 1))
        rw [ovW, if_pos c, ovX, if_neg d]
        exact key _ _ rfl
    · rw [if_neg c]
      refine ih x ⟨?_, y2⟩
      show RV _ (ovW V p (i + 1))
      rw [ovW, if_neg c]
      exact y1
theorem overR_e {s : Mm} {V : CV} {N : Nat} (h : RV s V) (hv : VOk V) (h14 : s 176 14 = 0) (hN : N ≤ 60) : ∃ s', k_R_passedOver_25 KF (nI N) (-9) (-9) 0 s = some (vOver V N (-9, -9), s') ∧ RV s' V ∧ FrW 51 153 s s' := by
  have hn := hv.1
  unfold vOver
  by_cases c2 : V.1 < 2
  · rw [if_pos c2, KF_1]
    unfold k_R_passedOver_25
    by_cases d : s 176 11 ≤ 0
    · rw [if_pos d]; exact ⟨s, rfl, h, FrW.rf⟩
    · rw [if_neg d, if_pos (show s 176 11 ≤ 1 by rw [h.1.1]; exact nI_le (b := 1) (by omega) (by omega))]
      exact ⟨s, rfl, h, FrW.rf⟩
  · rw [if_neg c2]
    refine lp (α := (Int32 × Int32) × Mm) (fun n i x => k_R_passedOver_25 n (nI N) x.1.1 x.1.2 (nI i) x.2) (fun i x => x.1 = bsG (ovV V N) (fun _ => false) (-9, -9) i ∧ RV x.2 V ∧ FrW 51 153 s x.2) (fun r => ∃ s', r = some ((bsG (ovV V N) (fun _ => false) (-9, -9) V.1).1, s') ∧ RV s' V ∧ FrW 51 153 s s') V.1 ?_ ?_ KF 0 ((-9, -9), s) (by omega) (by rw [KF_1]; omega) ⟨rfl, h, FrW.rf⟩
    · intro n x ⟨e1, e2, e3⟩
      unfold k_R_passedOver_25
      rw [e2.1.1, if_pos (nI_le (Nat.le_refl _) (by omega)), e1]
      exact ⟨x.2, rfl, e2, e3⟩
    · intro n i x hi ⟨e1, e2, e3⟩ ih
      obtain ⟨s1, d1, d2, d3⟩ := withoutR_e (N := N) e2 hv (e3.z h14) hi hN
      unfold k_R_passedOver_25
      rw [e2.1.1, if_neg (nI_ge hi (by omega)), if_neg (show ¬ nI V.1 ≤ 1 from fun z => by have := (nI_leI (by omega) (b := 1) (by omega)).mp z; omega), d1, bn_s, nI_1]
      have hpos : 0 ≤ ovV V N i := (ovU_ok hv hi).sW N
      by_cases c : x.1.2 < ovV V N i
      · rw [if_pos c]
        rw [e1] at c
        exact ih ((nI i, ovV V N i), s1) ⟨(@bs_yes (ovV V N) (fun _ => false) (-9, -9) i rfl c).symm, d2, e3.tr d3⟩
      · rw [if_neg c]
        rw [e1] at c
        exact ih (x.1, s1) ⟨e1.trans (@bs_no (ovV V N) (fun _ => false) (-9, -9) i rfl (show (-9 : Int32) < 0 by decide) hpos c).symm, d2, e3.tr d3⟩
theorem vOver_same {V : CV} {N : Nat} (z z' : Int32 × Int32) : vOver V N z = vOver V N z' := by
  unfold vOver
  by_cases c : V.1 < 2
  · rw [if_pos c, if_pos c]
  · rw [if_neg c, if_neg c, bs_same (m0 := 0) rfl (by omega) z z']
theorem op_passedOver (n : Int32) : OpI (fun s => f_X_passedOver s n) (fun s => f_R_passedOver s n) := by
  refine OpI.q2 (mx' := fun s => f_M_bestWithout s n) (mr := fun s => k_R_passedOver_25 KF n (-9) (-9) 0 s) (fun S => btw n 0 60) (fun S => vOver S.1 (ix n) (-9, -9)) (fun S => Codes.b _ _ _) ?_ ?_ ?_ ?_
  · intro s S h
    unfold f_X_passedOver
    simp only [spanNo_e, bn_s, bn_eta]
  · intro s S h
    show f_R_passedOver s n = _
    unfold f_R_passedOver
    simp only [notMonths_e, bn_s, bn_eta]
  · intro s S h e
    obtain ⟨N, -, hN, rfl⟩ := btw_0 (lo := 0) (hi := 60) (by omega) (by omega) e
    obtain ⟨s', c1, c2⟩ := overX_e h.1 h.2.1 hN
    rw [vOver_same (-9, -1) (-9, -9)] at c1
    rw [ix_nI (by omega)]
    exact ⟨s', c1, c2.q⟩
  · intro s S ho h e
    obtain ⟨N, -, hN, rfl⟩ := btw_0 (lo := 0) (hi := 60) (by omega) (by omega) e
    obtain ⟨s', c1, c2, c3⟩ := overR_e h.1 ho.1 h.2.1 hN
    rw [ix_nI (by omega)]
    exact ⟨s', c1, c2, c3.q (by omega) (by omega)⟩
