/-! DOORS_FOR -/
def wideF (F : Nat → FV) (X : Nat) : Nat → FV := fun k => if X / 2 ^ k % 2 = 1 then (fK (F k), fI (F k), 99, fN (F k), fT (F k)) else F k
def wideP (F : Nat → FV) (X i : Nat) : Nat → FV := fun k => if k < i then wideF F X k else F k
theorem wideP_at {F : Nat → FV} {X i : Nat} : wideP F X i i = F i := by unfold wideP; rw [if_neg (by omega)]
theorem wideP_s {F : Nat → FV} {X i : Nat} : upF (wideP F X i) i (wideF F X i) = wideP F X (i + 1) := by
  funext q
  unfold upF wideP
  by_cases h : q = i
  · subst h
    simp
  · by_cases h2 : q < i
    · simp [h, h2, show q < i + 1 by omega]
    · simp [h, h2, show ¬ q < i + 1 by omega]
theorem wideF_ok {nF : Nat} {F : Nat → FV} {X k : Nat} (h : FO nF k (F k)) : FO nF k (wideF F X k) := by
  unfold wideF
  by_cases c : X / 2 ^ k % 2 = 1
  · rw [if_pos c]
    exact ⟨h.1, h.2.1, by show 1 ≤ (99 : Int32).toInt ∧ (99 : Int32).toInt ≤ 99; decide, h.2.2.2⟩
  · rw [if_neg c]
    exact h
def wideV (V : CV) (F : Nat → FV) : CV := (V.1, V.2.1, V.2.2.1, F, V.2.2.2.2)
theorem wideV_ok {V : CV} {X i : Nat} (hv : VOk V) : VOk (wideV V (wideP V.2.2.2.1 X i)) := by
  refine ⟨hv.1, hv.2.1, hv.2.2.1, fun k hk => ?_, hv.2.2.2.2⟩
  show FO V.1 k (wideP V.2.2.2.1 X i k)
  unfold wideP
  by_cases c : k < i
  · rw [if_pos c]; exact wideF_ok (hv.F hk)
  · rw [if_neg c]; exact hv.F hk
/-- whether the gift comes with the friends of X widened -/
def pWide (V : CV) (k N : Nat) (x : Int32) (X : Nat) : Bool := decide (¬ srch (wideP V.2.2.2.1 X V.1) (fun _ g => decide (gH g = x)) (N + 1) 0 (V.2.2.2.2 k) = -9)
theorem comesWX_e {s : Mm} {V : CV} {k N X : Nat} {x : Int32} (h : HC s 0 V) (hv : VOk V) (hk : k < V.2.1) (hX : X < 64) (hN : N ≤ 60) : ∃ s', f_M_comesWithWidened s (nI k) x (nI N) (nI X) = some (if pWide V k N x X = true then 1 else 0, s') ∧ Fr 2 s s' := by
  have hn := hv.1
  obtain ⟨s1, a1, a2, a3, a4, a5⟩ := recall_e h hv
  unfold f_M_comesWithWidened
  rw [a1, bn_s]
  refine lp (fun n i y => k_M_comesWithWidened_8 n (nI k) x (nI N) (nI X) (nI i) y) (fun i y => HF y 2 V.1 (wideP V.2.2.2.1 X i) ∧ HG y 2 V.2.1 V.2.2.2.2 ∧ Fr 2 s y) (fun r => ∃ s', r = some (if pWide V k N x X = true then 1 else 0, s') ∧ Fr 2 s s') V.1 ?_ ?_ KF 0 s1 (by omega) (by rw [KF_1]; omega) ⟨?_, a2.2.1, a4⟩
  · intro n y ⟨e1, e2, e3⟩
    unfold k_M_comesWithWidened_8 f_M_arrival
    have hv' := wideV_ok (X := X) (i := V.1) hv
    have hm : Mnd y (wideV V (wideP V.2.2.2.1 X V.1)) k (V.2.2.2.2 k) y := ⟨e1, by rw [show (wideV V (wideP V.2.2.2.1 X V.1)).2.2.2.2 = V.2.2.2.2 from rfl, upG_id]; exact e2, Fr.rf⟩
    obtain ⟨s', c1, c2⟩ := arrival_e (N := N) (x := x) hm hv' (hv.H k hk) hk hN
    rw [e1.1, if_pos (nI_le (Nat.le_refl _) (by omega)), giftAt_e (by have := hv.2.1; omega), bn_s, c1, bn_s]
    refine ⟨s', ?_, e3.tr c2⟩
    show (if srch (wideP V.2.2.2.1 X V.1) (fun _ g => decide (gH g = x)) (N + 1) 0 (V.2.2.2.2 k) = -9 then _ else _) = _
    unfold pWide
    by_cases c : srch (wideP V.2.2.2.1 X V.1) (fun _ g => decide (gH g = x)) (N + 1) 0 (V.2.2.2.2 k) = -9
    · simp [c]
    · simp [c]
  · intro n i y hi ⟨e1, e2, e3⟩ ih
    unfold k_M_comesWithWidened_8
    rw [e1.1, if_neg (nI_ge hi (by omega)), bitK (by omega) (by omega), nI_1]
    have hb := e1.at hi
    rw [wideP_at] at hb
    by_cases c : X / 2 ^ i % 2 = 1
    · rw [c, if_pos (show nI 1 = 1 from rfl), friendAt_e (by omega), bn_s, nm_s]
      have he : ∀ z j, z ≠ 33 + 7 * 2 + i → mU y (33 + 7 * 2 + i) 2 99 z j = y z j := fun z j hq => by rw [mU_get, if_neg (fun w => hq w.1)]
      have h4 : ∀ j, j ≠ 2 → mU y (33 + 7 * 2 + i) 2 99 (33 + 7 * 2 + i) j = y (33 + 7 * 2 + i) j := fun j hi => by rw [mU_get, if_neg (fun z => hi z.2)]
      have hw : wideF V.2.2.2.1 X i = (fK (V.2.2.2.1 i), fI (V.2.2.2.1 i), 99, fN (V.2.2.2.1 i), fT (V.2.2.2.1 i)) := by unfold wideF; rw [if_pos c]
      obtain ⟨b1, b2, b3, b4⟩ := e1.2 i hi
      rw [wideP_at] at b2 b3 b4
      have := e1.up (f := wideF V.2.2.2.1 X i) (show i < 6 by omega) hn (by omega) he (by rw [hw]; simp [fRow, mU_get, hb.1, hb.2.1, hb.2.2.2.1, hb.2.2.2.2]) (by rw [h4 _ (by omega), hw]; exact b2) (by rw [h4 _ (by omega), hw]; exact b3) (by rw [h4 _ (by omega), hw]; exact b4)
      rw [wideP_s] at this
      exact ih _ ⟨this, e2.o hv.2.1 (by omega) (fun z j hq => he z j (by omega)), e3.tr (fun z j hq => he z j (fun w => hq (w ▸ ownF (c := 2) (by omega))))⟩
    · have hm : X / 2 ^ i % 2 < 2 := Nat.mod_lt _ (by decide)
      rw [show X / 2 ^ i % 2 = 0 by omega, if_neg (by decide)]
      have hw : wideF V.2.2.2.1 X i = V.2.2.2.1 i := by unfold wideF; rw [if_neg c]
      refine ih y ⟨?_, e2, e3⟩
      rw [← wideP_s, hw]
      have := upF_id (wideP V.2.2.2.1 X i) i
      rw [wideP_at] at this
      rw [this]
      exact e1
  · have : wideP V.2.2.2.1 X 0 = V.2.2.2.1 := by funext q; unfold wideP; rw [if_neg (by omega)]
    rw [this]
    exact a2.1
theorem comesWR_e {s : Mm} {V : CV} {k N X : Nat} {x : Int32} (h : RV s V) (hv : VOk V) (h14 : s 176 14 = 0) (hk : k < V.2.1) (hX : X < 64) (hN : N ≤ 60) : ∃ s', f_R_comesWide s (nI k) x (nI N) (nI X) = some (if pWide V k N x X = true then 1 else 0, s') ∧ RV s' V ∧ FrW 51 153 s s' := by
  have hn := hv.1
  obtain ⟨a1, b1, b2, b3, b4, b5⟩ := chg_e h hv h14
  unfold f_R_comesWide
  rw [b1, bv_s]
  have fm : ∀ (a : Mm) (i : Nat) (v : Int32), FrW 102 153 a (mU a 180 i v) := fun a i v => ⟨fun j _ => by rw [mU_get, if_neg (by omega)], fun z j h1 h2 h3 => by rw [mU_get, if_neg (by omega)]⟩
  refine lp (fun n i y => k_R_comesWide_7 n (nI k) x (nI N) (nI X) (nI i) y) (fun i y => RV y (wideV V (wideP V.2.2.2.1 X i)) ∧ FrW 102 153 a1 y) (fun r => ∃ s', r = some (if pWide V k N x X = true then 1 else 0, s') ∧ RV s' V ∧ FrW 51 153 s s') V.1 ?_ ?_ KF 0 a1 (by omega) (by rw [KF_1]; omega) ⟨?_, FrW.rf⟩
  · intro n y ⟨e1, e2⟩
    unfold k_R_comesWide_7
    have hv' := wideV_ok (X := X) (i := V.1) hv
    obtain ⟨s2, c1, c2, c3⟩ := RcomesAt_e (N := N) (x := x) (k := k) e1 (e2.z b3) hv' hk hN
    obtain ⟨a4, d1, d2, d3⟩ := b5 s2 (e2.tr c3)
    rw [show y 176 11 = nI V.1 from e1.1.1, if_pos (nI_le (Nat.le_refl _) (by omega)), c1, bn_s]
    show ∃ s', (if srch (wideP V.2.2.2.1 X V.1) (fun _ g => decide (gH g = x)) (N + 1) 0 (V.2.2.2.2 k) < 0 then _ else _) = _ ∧ _
    unfold pWide
    rw [d1, bv_s]
    rcases srch_r (wideP V.2.2.2.1 X V.1) (fun _ g => decide (gH g = x)) (N + 1) 0 (V.2.2.2.2 k) with c | ⟨j, j1, j2, c⟩
    · rw [c, if_pos (by decide)]
      exact ⟨a4, rfl, d2, d3⟩
    · rw [c, if_neg (nI_pos (by omega)), if_pos (decide_eq_true (m9_ne (by omega))), bv_s]
      exact ⟨a4, rfl, d2, d3⟩
  · intro n i y hi ⟨e1, e2⟩ ih
    unfold k_R_comesWide_7
    rw [show y 176 11 = nI V.1 from e1.1.1, if_neg (nI_ge hi (by omega)), has_e, bn_s, hasB_nI (by omega) (by omega), nI_1]
    have hb := e1.1.2 i hi
    have hb : y 178 i = fK (wideP V.2.2.2.1 X i i) ∧ y 179 i = fI (wideP V.2.2.2.1 X i i) ∧ y 180 i = fD (wideP V.2.2.2.1 X i i) ∧ y 181 i = nx (fN (wideP V.2.2.2.1 X i i)) ∧ _ := hb
    rw [wideP_at] at hb
    have hup : ∀ v, v = fD (wideF V.2.2.2.1 X i) → RV (mU y 180 i v) (wideV V (wideP V.2.2.2.1 X (i + 1))) := by
      intro v hv2
      refine ⟨?_, e1.2.1.eq rfl (fun z => rfl), e1.2.2⟩
      have hw : fK (wideF V.2.2.2.1 X i) = fK (V.2.2.2.1 i) ∧ fI (wideF V.2.2.2.1 X i) = fI (V.2.2.2.1 i) ∧ fN (wideF V.2.2.2.1 X i) = fN (V.2.2.2.1 i) ∧ fT (wideF V.2.2.2.1 X i) = fT (V.2.2.2.1 i) := by
        unfold wideF
        by_cases c : X / 2 ^ i % 2 = 1
        · rw [if_pos c]; exact ⟨rfl, rfl, rfl, rfl⟩
        · rw [if_neg c]; exact ⟨rfl, rfl, rfl, rfl⟩
      have := RFv.up (s := y) (s' := mU y 180 i v) (k := i) (f := wideF V.2.2.2.1 X i) e1.1 hi rfl rfl (by show _ = fT (wideP V.2.2.2.1 X i i); rw [wideP_at, hw.2.2.2]) (fun z hz => ⟨rfl, rfl, by rw [mU_get, if_neg (by omega)], rfl⟩) (by rw [hw.1]; exact hb.1) (by rw [hw.2.1]; exact hb.2.1) (by rw [mU_get, if_pos ⟨rfl, rfl⟩]; exact hv2) (by rw [hw.2.2.1]; exact hb.2.2.2.1)
      have this : RFv (mU y 180 i v) V.1 (upF (wideP V.2.2.2.1 X i) i (wideF V.2.2.2.1 X i)) := this
      rw [wideP_s] at this
      exact this
    by_cases c : X / 2 ^ i % 2 = 1
    · rw [if_pos c, if_neg (by decide), gd_n (show i < 6 by omega) (by omega), nm_s, nI_clamp (by omega)]
      exact ih _ ⟨hup 99 (by unfold wideF; rw [if_pos c]), e2.tr (fm _ _ _)⟩
    · rw [if_neg c, if_pos rfl, gd_n (show i < 6 by omega) (by omega), gd_n (show i < 6 by omega) (by omega), nm_s, nI_clamp (by omega)]
      exact ih _ ⟨hup _ (by unfold wideF; rw [if_neg c]; exact hb.2.2.1), e2.tr (fm _ _ _)⟩
  · have : wideP V.2.2.2.1 X 0 = V.2.2.2.1 := by funext q; unfold wideP; rw [if_neg (by omega)]
    rw [this]
    exact b2
/-- the fewest, first -/
def few (p : Nat → Bool) : Nat → Option Nat
  | 0 => none
  | m + 1 => if (match few p m with
    | none => true
    | some j => decide (pcN m 31 < pcN j 31)) && p m then some m else few p m
theorem few_c {p : Nat → Bool} {m : Nat} : few p (m + 1) = some m ∨ few p (m + 1) = few p m := by
  unfold few
  by_cases c : ((match few p m with
    | none => true
    | some j => decide (pcN m 31 < pcN j 31)) && p m) = true
  · rw [if_pos c]; exact Or.inl rfl
  · rw [if_neg c]
    cases m with
    | zero => exact Or.inr rfl
    | succ m => exact Or.inr rfl
theorem few_lt {p : Nat → Bool} : ∀ m j, few p m = some j → j < m
  | 0, j, h => by cases h
  | m + 1, j, h => by
    rcases few_c (p := p) (m := m) with c | c
    · rw [c] at h
      have h := Option.some.inj h
      omega
    · rw [c] at h
      have := few_lt m j h
      omega
theorem few_n0 {p : Nat → Bool} {m : Nat} (h : few p m = none) (c : p m = false) : few p (m + 1) = none := by rw [few, h]; simp [c]
theorem few_y0 {p : Nat → Bool} {m : Nat} (h : few p m = none) (c : p m = true) : few p (m + 1) = some m := by rw [few, h]; simp [c]
theorem few_k {p : Nat → Bool} {m j : Nat} (h : few p m = some j) (c : ¬ pcN m 31 < pcN j 31) : few p (m + 1) = some j := by rw [few, h]; simp [c]
theorem few_n {p : Nat → Bool} {m j : Nat} (h : few p m = some j) (c : p m = false) : few p (m + 1) = some j := by rw [few, h]; simp [c]
theorem few_y {p : Nat → Bool} {m j : Nat} (h : few p m = some j) (c : pcN m 31 < pcN j 31) (d : p m = true) : few p (m + 1) = some m := by rw [few, h]; simp [c, d]
def pcV : Option Nat → Int32
  | none => 7
  | some j => nI (pcN j 31)
theorem pc6 : ∀ X : Fin 64, pcN X.val 31 ≤ 6 := by decide +kernel
theorem p64 {n : Nat} (h : n ≤ 6) : 2 ^ n ≤ 64 := Nat.pow_le_pow_right (n := 2) (by decide) h
theorem doorsForX_e {s : Mm} {V : CV} {k N : Nat} {x : Int32} (h : HC s 0 V) (hv : VOk V) (hk : k < V.2.1) (hN : N ≤ 60) : ∃ s', f_M_fewestWidened s (nI k) x (nI N) = some (pkI (few (pWide V k N x) (2 ^ V.1)), s') ∧ Fr 2 s s' := by
  have hn := hv.1
  have h64 := p64 hn
  obtain ⟨C, hC⟩ : ∃ C, C = 2 ^ V.1 := ⟨_, rfl⟩
  unfold f_M_fewestWidened
  rw [← hC] at h64 ⊢
  refine lp (α := (Int32 × Int32) × Mm) (fun n i y => k_M_fewestWidened_11 n (nI k) x (nI N) y.1.1 y.1.2 (nI i) y.2) (fun i y => y.1.1 = pkI (few (pWide V k N x) i) ∧ y.1.2 = pcV (few (pWide V k N x) i) ∧ Fr 2 s y.2) (fun r => ∃ s', r = some (pkI (few (pWide V k N x) C), s') ∧ Fr 2 s s') C ?_ ?_ KF 0 ((-9, 7), s) (by omega) (by rw [KF_1]; omega) ⟨rfl, rfl, Fr.rf⟩
  · intro n y ⟨e1, e2, e3⟩
    unfold k_M_fewestWidened_11
    rw [(h.fr hv e3 (by omega) (by omega) (by omega)).1.1, sh1 (by omega), ← hC, if_pos (nI_le (Nat.le_refl _) (by omega)), e1]
    exact ⟨y.2, rfl, e3⟩
  · intro n i y hi ⟨e1, e2, e3⟩ ih
    have h0 := h.fr hv e3 (by omega) (by omega) (by omega)
    have hpi := pc6 ⟨i, by omega⟩
    have hpi : pcN i 31 ≤ 6 := hpi
    unfold k_M_fewestWidened_11
    rw [h0.1.1, sh1 (by omega), ← hC, if_neg (nI_ge hi (by omega)), bitCount_e (by omega), bn_s, nI_1]
    obtain ⟨s', c1, c2⟩ := comesWX_e (X := i) (N := N) (x := x) h0 hv hk (by omega) hN
    cases hf : few (pWide V k N x) i with
    | none =>
      rw [hf] at e1 e2
      rw [e2, if_neg (show ¬ pcV none ≤ nI (pcN i 31) from nI_ge (b := 7) (by omega) (by omega)), c1, bn_s]
      cases hp : pWide V k N x i with
      | false =>
        rw [if_neg (show ¬ false = true by decide), if_pos rfl]
        exact ih ((y.1.1, pcV none), s') ⟨by rw [few_n0 hf hp]; exact e1, by rw [few_n0 hf hp], e3.tr c2⟩
      | true =>
        rw [if_pos rfl, if_neg (by decide)]
        exact ih ((nI i, nI (pcN i 31)), s') ⟨by rw [few_y0 hf hp]; rfl, by rw [few_y0 hf hp]; rfl, e3.tr c2⟩
    | some j =>
      rw [hf] at e1 e2
      have hj := few_lt _ _ hf
      have hpj : pcN j 31 ≤ 6 := pc6 ⟨j, by omega⟩
      rw [e2]
      by_cases c : pcN i 31 < pcN j 31
      · rw [if_neg (show ¬ pcV (some j) ≤ nI (pcN i 31) from nI_ge c (by omega)), c1, bn_s]
        cases hp : pWide V k N x i with
        | false =>
          rw [if_neg (show ¬ false = true by decide), if_pos rfl]
          exact ih ((y.1.1, pcV (some j)), s') ⟨by rw [few_n hf hp]; exact e1, by rw [few_n hf hp], e3.tr c2⟩
        | true =>
          rw [if_pos rfl, if_neg (by decide)]
          exact ih ((nI i, nI (pcN i 31)), s') ⟨by rw [few_y hf c hp]; rfl, by rw [few_y hf c hp]; rfl, e3.tr c2⟩
      · rw [if_pos (show pcV (some j) ≤ nI (pcN i 31) from nI_le (by omega) (by omega))]
        exact ih ((y.1.1, pcV (some j)), y.2) ⟨by rw [few_k hf c]; exact e1, by rw [few_k hf c], e3⟩
theorem doorsForR_e {s : Mm} {V : CV} {k N : Nat} {x : Int32} (h : RV s V) (hv : VOk V) (h14 : s 176 14 = 0) (hk : k < V.2.1) (hN : N ≤ 60) : ∃ s', k_R_doorsFor_45 KF (nI k) x (nI N) (-9) 0 s = some (pkI (few (pWide V k N x) (2 ^ V.1)), s') ∧ RV s' V ∧ FrW 51 153 s s' := by
  have hn := hv.1
  have h64 := p64 hn
  obtain ⟨C, hC⟩ : ∃ C, C = 2 ^ V.1 := ⟨_, rfl⟩
  rw [← hC] at h64 ⊢
  refine lp (α := Int32 × Mm) (fun n i y => k_R_doorsFor_45 n (nI k) x (nI N) y.1 (nI i) y.2) (fun i y => y.1 = pkI (few (pWide V k N x) i) ∧ RV y.2 V ∧ FrW 51 153 s y.2) (fun r => ∃ s', r = some (pkI (few (pWide V k N x) C), s') ∧ RV s' V ∧ FrW 51 153 s s') C ?_ ?_ KF 0 (-9, s) (by omega) (by rw [KF_1]; omega) ⟨rfl, h, FrW.rf⟩
  · intro n y ⟨e1, e2, e3⟩
    unfold k_R_doorsFor_45
    rw [e2.1.1, sh1 (by omega), ← hC, if_pos (nI_le (Nat.le_refl _) (by omega)), e1]
    exact ⟨y.2, rfl, e2, e3⟩
  · intro n i y hi ⟨e1, e2, e3⟩ ih
    have hpi : pcN i 31 ≤ 6 := pc6 ⟨i, by omega⟩
    unfold k_R_doorsFor_45
    rw [e2.1.1, sh1 (by omega), ← hC, if_neg (nI_ge hi (by omega))]
    obtain ⟨s', c1, c2, c3⟩ := comesWR_e (X := i) (N := N) (x := x) e2 hv (e3.z h14) hk (by omega) hN
    cases hf : few (pWide V k N x) i with
    | none =>
      rw [hf] at e1
      have e1 : y.1 = -9 := e1
      unfold k_R_doorsFor_77
      rw [e1, if_pos (by decide), c1, bn_s, nI_1]
      cases hp : pWide V k N x i with
      | false =>
        rw [if_neg (show ¬ false = true by decide), if_pos rfl]
        exact ih (-9, s') ⟨by rw [few_n0 hf hp]; rfl, c2, e3.tr c3⟩
      | true =>
        rw [if_pos rfl, if_neg (by decide)]
        exact ih (nI i, s') ⟨by rw [few_y0 hf hp]; rfl, c2, e3.tr c3⟩
    | some j =>
      rw [hf] at e1
      have e1 : y.1 = nI j := e1
      have hj := few_lt _ _ hf
      have hpj : pcN j 31 ≤ 6 := pc6 ⟨j, by omega⟩
      rw [e1, if_neg (nI_pos (by omega)), bits_e (by omega), bn_s, bits_e (by omega), bn_s]
      unfold k_R_doorsFor_77
      rw [c1, bn_s, nI_1]
      by_cases c : pcN i 31 < pcN j 31
      · rw [if_pos (nI_lt c (by omega))]
        cases hp : pWide V k N x i with
        | false =>
          rw [if_neg (show ¬ false = true by decide), if_pos rfl]
          exact ih (nI j, s') ⟨by rw [few_n hf hp]; rfl, c2, e3.tr c3⟩
        | true =>
          rw [if_pos rfl, if_neg (by decide)]
          exact ih (nI i, s') ⟨by rw [few_y hf c hp]; rfl, c2, e3.tr c3⟩
      · rw [if_neg (nI_nlt (by omega) (by omega))]
        exact ih (nI j, y.2) ⟨by rw [few_k hf c]; rfl, e2, e3⟩
def noDF (a b n : Int32) (S : SV) : Int32 := fst3 (gNo (nI S.1.2.1) a) (gNo (nI S.1.1) b) (btw n 0 60)
def vDF (a b n : Int32) (S : SV) : Int32 := pkI (few (pWide S.1 (ix a) (ix n) b) (2 ^ S.1.1))
theorem op_doorsFor (a b n : Int32) : OpI (fun s => f_X_doorsFor s a b n) (fun s => f_R_doorsFor s a b n) := by
  refine OpI.q2 (mx' := fun s => f_M_fewestWidened s a b n) (mr := fun s => k_R_doorsFor_24 a b n 0 s) (noDF a b n) (vDF a b n) (fun S => Codes.fst (Codes.g _ _) (Codes.g _ _) (Codes.b _ _ _)) ?_ ?_ ?_ ?_
  · intro s S h
    unfold f_X_doorsFor
    simp only [giftNo_e, friendNo_e, bn_s, spanNo_e, first_e, h.1.1.1, h.1.2.1.1, bn_eta]
    rfl
  · intro s S h
    show f_R_doorsFor s a b n = _
    rw [Rn_doorsFor, h.1.1.1, h.1.2.1.1]
    by_cases e : noDF a b n S = 0
    · rw [if_pos e, show fst3 (gNo (nI S.1.2.1) a) (gNo (nI S.1.1) b) (btw n 0 60) = 0 from e]
    · rw [if_neg e]
      unfold k_R_doorsFor_24
      rw [if_neg (show ¬ fst3 (gNo (nI S.1.2.1) a) (gNo (nI S.1.1) b) (btw n 0 60) = 0 from e), bn_eta]
      rfl
  · intro s S h e
    obtain ⟨e1, e2, e3⟩ := fst3_0 e
    have hm := h.2.1.2.1
    obtain ⟨k, hk, rfl⟩ := gNo_0 (by omega) e1
    obtain ⟨N, -, hN, rfl⟩ := btw_0 (lo := 0) (hi := 60) (by omega) (by omega) e3
    obtain ⟨s', c1, c2⟩ := doorsForX_e (x := b) h.1 h.2.1 hk hN
    unfold vDF
    rw [ix_nI (by omega), ix_nI (by omega)]
    exact ⟨s', c1, c2.q⟩
  · intro s S ho h e
    obtain ⟨e1, e2, e3⟩ := fst3_0 e
    have hm := ho.1.2.1
    obtain ⟨k, hk, rfl⟩ := gNo_0 (by omega) e1
    obtain ⟨N, -, hN, rfl⟩ := btw_0 (lo := 0) (hi := 60) (by omega) (by omega) e3
    obtain ⟨s', c1, c2, c3⟩ := doorsForR_e (x := b) h.1 ho.1 h.2.1 hk hN
    unfold vDF k_R_doorsFor_24
    rw [ix_nI (by omega), ix_nI (by omega), if_pos rfl]
    exact ⟨s', c1, c2, c3.q (by omega) (by omega)⟩
