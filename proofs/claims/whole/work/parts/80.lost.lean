/-! LOST -/
def lstG (F : Nat → FV) (X : Nat) : Nat → Nat → GV → GV
  | 0, _, g => g
  | d + 1, m, g => lstG F X d (m + 1) (if X / 2 ^ m % 2 = 1 then keepG g else stepG F g)
def wyS (V : CV) (k p n t : Nat) : Nat → Nat
  | 0 => 0
  | j + 1 => wyS V k p n t j + (if gH (lstG V.2.2.2.1 j n 0 (V.2.2.2.2 k)) = nI p then (t - 1) ^ (n - pcN j n) else 0)
theorem wy_le {V : CV} {k p n t M : Nat} (hM : ∀ q, (t - 1) ^ (n - q) ≤ M) : ∀ j, wyS V k p n t j ≤ j * M
  | 0 => by rw [Nat.zero_mul]; exact Nat.le_refl _
  | j + 1 => by
    have ih := wy_le (V := V) (k := k) (p := p) hM j
    have h3 := hM (pcN j n)
    rw [Nat.succ_mul]
    unfold wyS
    by_cases c : gH (lstG V.2.2.2.1 j n 0 (V.2.2.2.2 k)) = nI p
    · rw [if_pos c]; exact Nat.add_le_add ih h3
    · rw [if_neg c]; exact Nat.add_le_add ih (Nat.zero_le _)
theorem lost_b {V : CV} {k p n t : Nat} (hn : n ≤ 8) (ht : 2 ≤ t ∧ t ≤ 20) : wyS V k p n t (2 ^ n) < 2 ^ 62 ∧ 0 < t ^ n ∧ t ^ n < 2 ^ 49 := by
  have hM : ∀ q, (t - 1) ^ (n - q) ≤ 2 ^ 40 := fun q => by
    have h1 : (t - 1) ^ (n - q) ≤ 32 ^ (n - q) := Nat.pow_le_pow_left (by omega) _
    have h2 : 32 ^ (n - q) ≤ 32 ^ 8 := Nat.pow_le_pow_right (by decide) (by omega)
    exact Nat.le_trans h1 (Nat.le_trans h2 (by decide +kernel))
  have hw := wy_le (V := V) (k := k) (p := p) hM (2 ^ n)
  have h8 : 2 ^ n ≤ 2 ^ 8 := Nat.pow_le_pow_right (by decide) hn
  have h9 : 2 ^ n * 2 ^ 40 ≤ 2 ^ 8 * 2 ^ 40 := Nat.mul_le_mul_right _ h8
  have h10 : 2 ^ 8 * 2 ^ 40 < 2 ^ 62 := by decide +kernel
  have h1 : t ^ n ≤ 32 ^ n := Nat.pow_le_pow_left (by omega) _
  have h2 : 32 ^ n ≤ 32 ^ 8 := Nat.pow_le_pow_right (by decide) hn
  have h3 : 32 ^ 8 < 2 ^ 49 := by decide +kernel
  exact ⟨Nat.lt_of_le_of_lt (Nat.le_trans hw h9) h10, Nat.pow_pos (by omega), Nat.lt_of_le_of_lt (Nat.le_trans h1 h2) h3⟩
theorem pow_e {s : Mm} {a b : Nat} (ha : a < 2 ^ 31) (hb : b ≤ 900) : f_X_power s (nI a) (nI b) = some (lN (a ^ b), s) := by
  unfold f_X_power
  refine lp (fun n i (x : Int64) => k_X_power_5 n (nI a) (nI b) x (nI i) s) (fun i x => x = lN (a ^ i)) (fun r => r = some (lN (a ^ b), s)) b ?_ ?_ KF 0 1 (by omega) (by rw [KF_1]; omega) (by rw [Nat.pow_zero]; rfl)
  · intro n x e
    unfold k_X_power_5
    rw [if_pos (nI_le (Nat.le_refl _) (by omega)), e]
  · intro n i x hi e ih
    unfold k_X_power_5
    rw [if_neg (nI_ge hi (by omega)), nm_s, nI_1, nI_l ha, e, lN_mul]
    exact ih _ (by rw [Nat.pow_succ])
theorem Mnd.keep {s a : Mm} {V : CV} {k : Nat} {g : GV} (h : Mnd s V k g a) (hv : VOk V) (hk : k < V.2.1) : ∃ a', f_G_keep a (110 + 5 * 2 + k) = some a' ∧ Mnd s V k (keepG g) a' := by
  have hm := hv.2.1
  rw [keep_e]
  have hg := h.2.1.at hk
  rw [upG_at] at hg
  refine ⟨_, rfl, h.put (by omega) hm hv.1 (fun q j hq => by rw [mU_get, if_neg (fun z => hq z.1)]) ?_⟩
  simp [gRow, mU_get, keepG, hg.1, hg.2.1, hg.2.2.1, hg.2.2.2.1, hg.2.2.2.2.1, hg.2.2.2.2.2]
theorem passLost_e {s a : Mm} {V : CV} {k n X : Nat} {g : GV} (h : Mnd s V k g a) (hv : VOk V) (hg : HOk V.1 g) (hk : k < V.2.1) (hn : n ≤ 8) (hX : X < 2 ^ 31) : ∃ a', f_M_passWithLost a (110 + 5 * 2 + k) (nI n) (nI X) = some a' ∧ Mnd s V k (lstG V.2.2.2.1 X n 0 g) a' := by
  unfold f_M_passWithLost
  obtain ⟨T, hT⟩ : ∃ T, T = lstG V.2.2.2.1 X n 0 g := ⟨_, rfl⟩
  rw [← hT]
  refine lp (α := GV × Mm) (fun t i x => k_M_passWithLost_3 t (110 + 5 * 2 + k) (nI n) (nI X) (nI i) x.2) (fun i x => Mnd s V k x.1 x.2 ∧ HOk V.1 x.1 ∧ T = lstG V.2.2.2.1 X (n - i) i x.1) (fun r => ∃ a', r = some a' ∧ Mnd s V k T a') n ?_ ?_ KF 0 (g, a) (by omega) (by rw [KF_1]; omega) ⟨h, hg, hT⟩
  · intro t x ⟨e1, e2, e3⟩
    unfold k_M_passWithLost_3
    rw [Nat.sub_self] at e3
    rw [if_pos (nI_le (Nat.le_refl _) (by omega)), e3]
    exact ⟨x.2, rfl, e1⟩
  · intro t i x hi ⟨e1, e2, e3⟩ ih
    unfold k_M_passWithLost_3
    have hb : X / 2 ^ i % 2 < 2 := Nat.mod_lt _ (by decide)
    rw [show n - i = (n - (i + 1)) + 1 by omega, lstG] at e3
    rw [if_neg (nI_ge hi (by omega)), bitK hX (by omega)]
    by_cases c : X / 2 ^ i % 2 = 1
    · rw [if_pos c] at e3
      rw [c, if_pos (show nI 1 = 1 from rfl)]
      obtain ⟨a', b1, b2⟩ := e1.keep hv hk
      rw [b1, bv_s, nI_1]
      exact ih (keepG x.1, a') ⟨b2, e2.keep, e3⟩
    · rw [if_neg c] at e3
      rw [show X / 2 ^ i % 2 = 0 by omega, if_neg (by decide)]
      obtain ⟨a', b1, b2⟩ := e1.mon hv e2 hk
      rw [b1, bv_s, nI_1]
      exact ih (stepG V.2.2.2.1 x.1, a') ⟨b2, e2.step hv.M.n hv.1, e3⟩
theorem pow8 {n : Nat} (h : n ≤ 8) : 2 ^ n ≤ 256 := Nat.pow_le_pow_right (n := 2) (by decide) h
theorem waysX_e {s : Mm} {V : CV} {k p n t : Nat} (h : HC s 0 V) (hv : VOk V) (hk : k < V.2.1) (hn : n ≤ 8) (ht : 2 ≤ t ∧ t ≤ 20) : ∃ s', f_M_waysWithLost s (nI k) (nI p) (nI n) (nI t) = some (lN (wyS V k p n t (2 ^ n)), s') ∧ Fr 2 s s' := by
  have hm := hv.2.1
  have hp := pow8 hn
  obtain ⟨a1, b1, b2, b3, b4⟩ := mind0 (k := k) h hv
  unfold f_M_waysWithLost
  rw [b1, bn_s, giftAt_e (by omega), bn_s]
  refine lp (α := Int64 × GV × Mm) (fun u j x => k_M_waysWithLost_21 u (nI k) (nI p) (nI n) (nI t) x.1 (110 + 5 * 2 + k) (nI j) x.2.2) (fun j x => x.1 = lN (wyS V k p n t j) ∧ Mnd s V k x.2.1 x.2.2) (fun r => ∃ s', r = some (lN (wyS V k p n t (2 ^ n)), s') ∧ Fr 2 s s') (2 ^ n) ?_ ?_ KF 0 (0, V.2.2.2.2 k, a1) (Nat.zero_le _) (by rw [KF_1]; omega) ⟨rfl, b2⟩
  · intro u x ⟨e1, e2⟩
    unfold k_M_waysWithLost_21
    rw [sh1 (by omega), if_pos (nI_le (Nat.le_refl _) (by omega)), e1]
    exact ⟨x.2.2, rfl, e2.2.2⟩
  · intro u j x hj ⟨e1, e2⟩ ih
    have h0 := h.fr hv e2.2.2 (by omega) (by omega) (by omega)
    have hr : gRow x.2.2 (110 + 5 * 0 + k) = V.2.2.2.2 k := h0.2.1.2 k hk
    have hg := h0.2.1.at hk
    obtain ⟨a2, c1, c2, c3⟩ := Gcopy_e (s := x.2.2) (o := 110 + 5 * 2 + k) (x := 110 + 5 * 0 + k) (by omega) (by rw [hg.2.2.2.2.1]; exact (hv.H k hk).2)
    have m2 : Mnd s V k (V.2.2.2.2 k) a2 := e2.put (by omega) hm hv.1 c3 (by rw [c2, hr])
    obtain ⟨a3, d1, d2⟩ := passLost_e (n := n) (X := j) m2 hv (hv.H k hk) hk hn (by omega)
    have hh := (d2.2.1.at hk).2.2.1
    rw [upG_at] at hh
    unfold k_M_waysWithLost_21
    rw [sh1 (by omega), if_neg (nI_ge hj (by omega)), giftAt_e (by omega), bn_s, c1, bv_s, d1, bv_s, hh, nI_1]
    by_cases c : gH (lstG V.2.2.2.1 j n 0 (V.2.2.2.2 k)) = nI p
    · have hle := pcN_le j n
      have ht1 : nI t - 1 = nI (t - 1) := by
        obtain ⟨t', rfl⟩ : ∃ t', t = t' + 1 := ⟨t - 1, by omega⟩
        exact nI_pred t'
      rw [if_pos c, bitCount_e (by omega), bn_s, pcN_hi j n hj 31 (by omega), pk_sub hle, ht1, pow_e (by omega) (by omega), bn_s, nm_s, e1, lN_add]
      refine ih (lN (wyS V k p n t j + (t - 1) ^ (n - pcN j n)), _, a3) ⟨?_, d2⟩
      show lN _ = lN (wyS V k p n t (j + 1))
      rw [wyS, if_pos c]
    · rw [if_neg c]
      refine ih (x.1, _, a3) ⟨?_, d2⟩
      show x.1 = lN (wyS V k p n t (j + 1))
      rw [wyS, if_neg c]
      exact e1
def noLost (a1 a2 a3 a4 a5 : Int32) (S : SV) : Int32 := if gNo (nI S.1.2.1) a1 = 0 then (if gNo (nI S.1.1) a2 = 0 then (if a3 < 0 then -4 else if 2 ≤ a4 then (if 8 < a3 then -6 else if a4 ≤ 20 then wNo a5 1 else -6) else -4) else -1) else -1
theorem noLost_c (a1 a2 a3 a4 a5 : Int32) (S : SV) : noLost a1 a2 a3 a4 a5 S = 0 ∨ Codes (noLost a1 a2 a3 a4 a5 S) := by
  unfold noLost
  repeat' split
  all_goals first
    | exact Codes.w _ _
    | exact Or.inr (by unfold Codes; decide)
theorem noLost_0 {a1 a2 a3 a4 a5 : Int32} {S : SV} (hn : S.1.1 ≤ 6) (hm : S.1.2.1 ≤ 4) (h : noLost a1 a2 a3 a4 a5 S = 0) : (∃ k, k < S.1.2.1 ∧ a1 = nI k) ∧ (∃ p, p < S.1.1 ∧ a2 = nI p) ∧ (∃ n, n ≤ 8 ∧ a3 = nI n) ∧ (∃ t, (2 ≤ t ∧ t ≤ 20) ∧ a4 = nI t) := by
  unfold noLost at h
  by_cases h1 : gNo (nI S.1.2.1) a1 = 0
  · rw [if_pos h1] at h
    by_cases h2 : gNo (nI S.1.1) a2 = 0
    · rw [if_pos h2] at h
      by_cases h3 : a3 < 0
      · rw [if_pos h3] at h; exact absurd h (by decide)
      · rw [if_neg h3] at h
        by_cases h4 : 2 ≤ a4
        · rw [if_pos h4] at h
          by_cases h5 : 8 < a3
          · rw [if_pos h5] at h; exact absurd h (by decide)
          · rw [if_neg h5] at h
            by_cases h6 : a4 ≤ 20
            · rw [i32_lt, l0] at h3
              rw [i32_le, show (2 : Int32).toInt = 2 by decide] at h4
              rw [i32_lt, show (8 : Int32).toInt = 8 by decide] at h5
              rw [i32_le, show (20 : Int32).toInt = 20 by decide] at h6
              obtain ⟨n, en, -, n2⟩ := i32_nI (x := a3) (by omega)
              obtain ⟨t, et, -, t2⟩ := i32_nI (x := a4) (by omega)
              exact ⟨gNo_0 (by omega) h1, gNo_0 (by omega) h2, ⟨n, by omega, en⟩, ⟨t, by omega, et⟩⟩
            · rw [if_neg h6] at h; exact absurd h (by decide)
        · rw [if_neg h4] at h; exact absurd h (by decide)
    · rw [if_neg h2] at h; exact absurd h (by decide)
  · rw [if_neg h1] at h; exact absurd h (by decide)
theorem lostR_e {s : Mm} {V : CV} {k p n t : Nat} {w : Int32} (h : RV s V) (hv : VOk V) (h14 : s 176 14 = 0) (hk : k < V.2.1) (hn : n ≤ 8) (ht : 2 ≤ t ∧ t ≤ 20) : ∃ s', k_R_lost_115 KF (nI k) (nI p) (nI n) (nI t) w 0 (lN (t ^ n)) 0 s = some (vPart (wyS V k p n t (2 ^ n)) (t ^ n) w, s') ∧ RV s' V ∧ FrW 102 153 s s' := by
  have hm := hv.2.1
  have hp := pow8 hn
  have ht1 : nI t - 1 = nI (t - 1) := by
    obtain ⟨t', rfl⟩ : ∃ t', t = t' + 1 := ⟨t - 1, by omega⟩
    exact nI_pred t'
  refine lp (α := Int64 × Mm) (fun u j x => k_R_lost_115 u (nI k) (nI p) (nI n) (nI t) w x.1 (lN (t ^ n)) (nI j) x.2) (fun j x => x.1 = lN (wyS V k p n t j) ∧ RV x.2 V ∧ FrW 102 153 s x.2) (fun r => ∃ s', r = some (vPart (wyS V k p n t (2 ^ n)) (t ^ n) w, s') ∧ RV s' V ∧ FrW 102 153 s s') (2 ^ n) ?_ ?_ KF 0 (0, s) (Nat.zero_le _) (by rw [KF_1]; omega) ⟨rfl, h, FrW.rf⟩
  · intro u x ⟨e1, e2, e3⟩
    obtain ⟨l1, l2, l3⟩ := lost_b (V := V) (k := k) (p := p) hn ht
    unfold k_R_lost_115
    rw [sh1 (by omega), if_pos (nI_le (Nat.le_refl _) (by omega)), e1, partR_e l1 l2 l3, bn_s]
    exact ⟨x.2, rfl, e2, e3⟩
  · intro u j x hj ⟨e1, e2, e3⟩ ih
    obtain ⟨acc, a⟩ := x
    dsimp only at e1 e2 e3 ⊢
    have a14 : a 176 14 = 0 := by rw [e3.2 _ _ (by omega) (by omega) (by omega)]; exact h14
    obtain ⟨s1, b1, b2⟩ := think0 e2 hv a14
    unfold k_R_lost_115
    rw [sh1 (by omega), if_neg (nI_ge hj (by omega)), b1, bv_s]
    obtain ⟨T, hT⟩ : ∃ T, T = lstG V.2.2.2.1 j n 0 (V.2.2.2.2 k) := ⟨_, rfl⟩
    refine lp (α := Int64 × (Nat → GV) × Mm) (fun y m z => k_R_lost_133 (fun v1 v2 v3 v4 v5 w7 w9 v11 s => k_R_lost_115 u v1 v2 v3 v4 v5 w7 w9 v11 s) y (nI k) (nI p) (nI n) (nI t) w acc (lN (t ^ n)) (nI j) z.1 (nI m) z.2.2) (fun m z => z.1 = lN ((t - 1) ^ (m - pcN j m)) ∧ Thk a V z.2.1 z.2.2 ∧ (∀ i, i < V.2.1 → GI V.1 (z.2.1 i)) ∧ T = lstG V.2.2.2.1 j (n - m) m (z.2.1 k)) (fun r => ∃ s', r = some (vPart (wyS V k p n t (2 ^ n)) (t ^ n) w, s') ∧ RV s' V ∧ FrW 102 153 s s') n ?_ ?_ KF 0 (1, V.2.2.2.2, s1) (by omega) (by rw [KF_1]; omega) ⟨by rw [Nat.zero_sub, Nat.pow_zero]; rfl, b2, hv.G, hT⟩
    · intro y z ⟨f1, f2, f3, f4⟩
      obtain ⟨s3, c1, c2, c3⟩ := f2.fin hv
      rw [Nat.sub_self] at f4
      have f4 : T = z.2.1 k := f4
      unfold k_R_lost_133 k_R_lost_198
      rw [if_pos (nI_le (Nat.le_refl _) (by omega)), gd_n (show k < 4 by omega) (by omega), nI_clamp (by omega), (f2.2.1.at hk).2.2.1, nm_s, nm_s, c1, bv_s, bv_s, nI_1, ← f4, hT, f1, e1]
      have e3' := e3.tr c3
      by_cases c : gH (lstG V.2.2.2.1 j n 0 (V.2.2.2.2 k)) = nI p
      · rw [if_pos c, lN_add]
        refine ih (lN (wyS V k p n t j + (t - 1) ^ (n - pcN j n)), s3) ⟨?_, c2, e3'⟩
        show lN _ = lN (wyS V k p n t (j + 1))
        rw [wyS, if_pos c]
      · rw [if_neg c, show (0 : Int64) = lN 0 from rfl, lN_add]
        refine ih (lN (wyS V k p n t j + 0), s3) ⟨?_, c2, e3'⟩
        show lN _ = lN (wyS V k p n t (j + 1))
        rw [wyS, if_neg c]
    · intro y m z hmn ⟨f1, f2, f3, f4⟩ ih2
      have hb : j / 2 ^ m % 2 < 2 := Nat.mod_lt _ (by decide)
      have hle := pcN_le j m
      rw [show n - m = (n - (m + 1)) + 1 by omega, lstG] at f4
      have hpc : pcN j (m + 1) = pcN j m + j / 2 ^ m % 2 := rfl
      unfold k_R_lost_133 k_R_lost_160
      rw [if_neg (nI_ge hmn (by omega)), has_e, bn_s, hasB_nI (by omega) (by omega)]
      by_cases c : j / 2 ^ m % 2 = 1
      · rw [if_pos c] at f4
        rw [if_pos c, if_neg (by decide)]
        obtain ⟨a', g1, g2⟩ := f2.monL hv f3
        rw [nm_s, has_e, bn_s, hasB_nI (by omega) (by omega), if_pos c, g1, bv_s, nI_1, f1, show (1 : Int64) = lN 1 from rfl, lN_mul]
        refine ih2 (lN ((t - 1) ^ (m - pcN j m) * 1), fun k => keepG (z.2.1 k), a') ⟨?_, g2, fun i hi => (f3 i hi).keep, f4⟩
        show lN _ = lN _
        rw [hpc, c, Nat.mul_one, Nat.add_sub_add_right]
      · rw [if_neg c] at f4
        rw [if_neg c, if_pos rfl]
        obtain ⟨a', g1, g2⟩ := f2.mon hv f3
        rw [nm_s, has_e, bn_s, hasB_nI (by omega) (by omega), if_neg c, g1, bv_s, nI_1, f1, ht1, nI_l (by omega), lN_mul]
        refine ih2 (lN ((t - 1) ^ (m - pcN j m) * (t - 1)), fun k => stepG V.2.2.2.1 (z.2.1 k), a') ⟨?_, g2, fun i hi => (f3 i hi).step hv.M hv.1, f4⟩
        show lN _ = lN _
        rw [hpc, show j / 2 ^ m % 2 = 0 by omega, show m + 1 - (pcN j m + 0) = (m - pcN j m) + 1 by omega, Nat.pow_succ]
theorem powR_e {s : Mm} {n t : Nat} {a1 a2 w : Int32} (hn : n ≤ 8) (ht : t ≤ 20) : k_R_lost_92 KF a1 a2 (nI n) (nI t) w 0 1 0 s = k_R_lost_115 KF a1 a2 (nI n) (nI t) w 0 (lN (t ^ n)) 0 s := by
  refine lp (fun u i (x : Int64) => k_R_lost_92 u a1 a2 (nI n) (nI t) w 0 x (nI i) s) (fun i x => x = lN (t ^ i)) (fun r => r = k_R_lost_115 KF a1 a2 (nI n) (nI t) w 0 (lN (t ^ n)) 0 s) n ?_ ?_ KF 0 1 (by omega) (by rw [KF_1]; omega) (by rw [Nat.pow_zero]; rfl)
  · intro u x e
    unfold k_R_lost_92
    rw [if_pos (nI_le (Nat.le_refl _) (by omega)), e]
  · intro u i x hi e ih
    unfold k_R_lost_92
    rw [if_neg (nI_ge hi (by omega)), nm_s, nI_1, nI_l (by omega), e, lN_mul]
    exact ih _ (by rw [Nat.pow_succ])
def vLost (a1 a2 a3 a4 a5 : Int32) (S : SV) : Int64 := vPart (wyS S.1 (ix a1) (ix a2) (ix a3) (ix a4) (2 ^ ix a3)) (ix a4 ^ ix a3) a5
theorem fst3_n {a b c : Int32} (h : ¬ a = 0) : fst3 a b c = a := by unfold fst3; rw [if_neg h]
theorem fst3_z {b : Int32} : fst3 0 b 0 = b := by
  unfold fst3
  rw [if_pos rfl]
  by_cases c : b = 0
  · rw [if_pos c, c]
  · rw [if_neg c]
theorem lost57_n {a1 a2 a3 a4 a5 v : Int32} {s : Mm} (h : ¬ v = 0) : k_X_lost_57 a1 a2 a3 a4 a5 v s = f_X_refuseLong s v := by
  have eta : ∀ x : Option (Int64 × Mm), (bn x fun a s => some (a, s)) = x := fun x => by cases x <;> rfl
  unfold k_X_lost_57
  rw [whatNo_e, bn_s, first_e, bn_s, fst3_n h, if_neg h, eta]
theorem lost57_0 {a1 a2 a3 a4 a5 : Int32} {s : Mm} : k_X_lost_57 a1 a2 a3 a4 a5 0 s = if wNo a5 1 = 0 then (bn (f_M_waysWithLost s a1 a2 a3 a4) fun x21 s20 => bn (f_X_power s20 a4 a3) fun x24 s23 => f_X_part s23 x21 x24 a5) else f_X_refuseLong s (wNo a5 1) := by
  have eta : ∀ x : Option (Int64 × Mm), (bn x fun a s => some (a, s)) = x := fun x => by cases x <;> rfl
  unfold k_X_lost_57
  rw [whatNo_e, bn_s, first_e, bn_s, fst3_z, eta]
  by_cases c : wNo a5 1 = 0
  · rw [if_pos c, if_pos c]
    cases h1 : f_M_waysWithLost s a1 a2 a3 a4 with
    | none => rfl
    | some q =>
      obtain ⟨x, s1⟩ := q
      rw [bn_s, bn_s]
      cases h2 : f_X_power s1 a4 a3 with
      | none => rfl
      | some r =>
        obtain ⟨y, s2⟩ := r
        rw [bn_s, bn_s]
        exact eta _
  · rw [if_neg c, if_neg c]
theorem lost_ex (a1 a2 a3 a4 a5 : Int32) (s : Mm) (S : SV) (h : XI s S) : f_X_lost s a1 a2 a3 a4 a5 = if noLost a1 a2 a3 a4 a5 S = 0 then (bn (f_M_waysWithLost s a1 a2 a3 a4) fun x21 s20 => bn (f_X_power s20 a4 a3) fun x24 s23 => f_X_part s23 x21 x24 a5) else f_X_refuseLong s (noLost a1 a2 a3 a4 a5 S) := by
  have n1 : ¬ (-1 : Int32) = 0 := by decide
  have n4 : ¬ (-4 : Int32) = 0 := by decide
  have n6 : ¬ (-6 : Int32) = 0 := by decide
  unfold f_X_lost k_X_lost_35 noLost
  simp only [giftNo_e, friendNo_e, first_e, bn_s, h.1.1.1, h.1.2.1.1]
  by_cases h1 : gNo (nI S.1.2.1) a1 = 0
  · rw [if_pos h1, h1, fst3_z]
    by_cases h2 : gNo (nI S.1.1) a2 = 0
    · rw [if_pos h2, h2, if_pos rfl]
      by_cases h3 : a3 < 0
      · rw [if_pos h3, if_pos h3, if_neg n4, if_pos (show (0 : Int32) = 0 from rfl), if_neg n4, lost57_n n4]
      · rw [if_neg h3, if_neg h3]
        by_cases h4 : 2 ≤ a4
        · rw [if_pos h4, if_pos h4, if_pos rfl]
          by_cases h5 : 8 < a3
          · rw [if_pos h5, if_pos h5, if_neg n6, lost57_n n6]
          · rw [if_neg h5, if_neg h5]
            by_cases h6 : a4 ≤ 20
            · rw [if_pos h6, if_pos h6, lost57_0]
            · rw [if_neg h6, if_neg h6, if_neg n6, lost57_n n6]
        · rw [if_neg h4, if_neg h4, if_neg n4, if_pos (show (0 : Int32) = 0 from rfl), if_neg n4, lost57_n n4]
    · rw [if_neg h2, gNo_m1 h2, if_neg n1, if_neg n1, if_neg n1, lost57_n n1]
  · rw [if_neg h1, gNo_m1 h1, fst3_n n1, if_neg n1, if_neg n1, if_neg n1, lost57_n n1]
theorem lost_er (a1 a2 a3 a4 a5 : Int32) (s : Mm) (S : SV) (h : RI s S) : f_R_lost s a1 a2 a3 a4 a5 = if noLost a1 a2 a3 a4 a5 S = 0 then k_R_lost_92 KF a1 a2 a3 a4 a5 0 1 0 s else f_R_lowestOf s (noLost a1 a2 a3 a4 a5 S) := by
  have eta : ∀ x : Option (Int64 × Mm), (bn x fun a s => some (a, s)) = x := fun x => by cases x <;> rfl
  have hin : ∀ m a, (inN m a = 0) = ¬ gNo m a = 0 := fun m a => by
    unfold gNo
    by_cases d : inN m a = 0
    · rw [if_pos d, d]; decide
    · rw [if_neg d]
      exact propext ⟨fun z => absurd z d, fun z => absurd rfl z⟩
  unfold f_R_lost k_R_lost_69 noLost
  simp only [isGift_e, isFriend_e, isIn_e, isI_w, bn_s, eta, show s 176 11 = nI S.1.1 from h.1.1.1, show s 176 12 = nI S.1.2.1 from h.1.2.1.1, hin]
  by_cases h1 : gNo (nI S.1.2.1) a1 = 0
  · by_cases h2 : gNo (nI S.1.1) a2 = 0
    · by_cases h3 : a3 < 0
      · simp [h1, h2, h3]
      · by_cases h4 : 2 ≤ a4
        · by_cases h5 : 8 < a3
          · simp [h1, h2, h3, h4, h5]
          · by_cases h6 : a4 ≤ 20
            · by_cases h7 : wNo a5 1 = 0
              · simp [h1, h2, h3, h4, h5, h6, h7]
              · simp [h1, h2, h3, h4, h5, h6, h7, wNo_m2 h7]
            · simp [h1, h2, h3, h4, h5, h6]
        · simp [h1, h2, h3, h4]
    · simp [h1, h2]
  · simp [h1]
theorem lost_hx (a1 a2 a3 a4 a5 : Int32) (s : Mm) (S : SV) (h : XI s S) (e : noLost a1 a2 a3 a4 a5 S = 0) : ∃ s', (bn (f_M_waysWithLost s a1 a2 a3 a4) fun x21 s20 => bn (f_X_power s20 a4 a3) fun x24 s23 => f_X_part s23 x21 x24 a5) = some (vLost a1 a2 a3 a4 a5 S, s') ∧ FrQX s s' := by
  have hv := h.2.1
  have hn := hv.1
  have hm := hv.2.1
  obtain ⟨⟨k, hk, rfl⟩, ⟨p, hp, rfl⟩, ⟨n, hn8, rfl⟩, ⟨t, ht, rfl⟩⟩ := noLost_0 hn hm e
  obtain ⟨s1, b1, b2⟩ := waysX_e (p := p) h.1 hv hk hn8 ht
  obtain ⟨l1, l2, l3⟩ := lost_b (V := S.1) (k := k) (p := p) hn8 ht
  unfold vLost
  rw [ix_nI (by omega), ix_nI (by omega), ix_nI (by omega), ix_nI (by omega), b1, bn_s, pow_e (by omega) (by omega), bn_s, partX_e l1 l2 l3]
  exact ⟨s1, rfl, b2.q⟩
theorem lost_hr (a1 a2 a3 a4 a5 : Int32) (s : Mm) (S : SV) (ho : SOk S) (h : RI s S) (e : noLost a1 a2 a3 a4 a5 S = 0) : ∃ s', k_R_lost_92 KF a1 a2 a3 a4 a5 0 1 0 s = some (vLost a1 a2 a3 a4 a5 S, s') ∧ RV s' S.1 ∧ FrQR s s' := by
  have hv := ho.1
  have hn := hv.1
  have hm := hv.2.1
  obtain ⟨⟨k, hk, rfl⟩, ⟨p, hp, rfl⟩, ⟨n, hn8, rfl⟩, ⟨t, ht, rfl⟩⟩ := noLost_0 hn hm e
  obtain ⟨s1, b1, b2, b3⟩ := lostR_e (p := p) (w := a5) h.1 hv h.2.1 hk hn8 ht
  unfold vLost
  rw [ix_nI (by omega), ix_nI (by omega), ix_nI (by omega), ix_nI (by omega), powR_e hn8 ht.2, b1]
  exact ⟨s1, rfl, b2, b3.q (by omega) (by omega)⟩
theorem op_lost (a1 a2 a3 a4 a5 : Int32) : OpL (fun s => f_X_lost s a1 a2 a3 a4 a5) (fun s => f_R_lost s a1 a2 a3 a4 a5) :=
  OpL.q (mx' := fun s => bn (f_M_waysWithLost s a1 a2 a3 a4) fun x21 s20 => bn (f_X_power s20 a4 a3) fun x24 s23 => f_X_part s23 x21 x24 a5) (mr := fun s => k_R_lost_92 KF a1 a2 a3 a4 a5 0 1 0 s) (noLost a1 a2 a3 a4 a5) (vLost a1 a2 a3 a4 a5) (noLost_c a1 a2 a3 a4 a5) (fun s S h => lost_ex a1 a2 a3 a4 a5 s S h) (fun s S _ h => lost_er a1 a2 a3 a4 a5 s S h) (fun s S h e => lost_hx a1 a2 a3 a4 a5 s S h e) (fun s S ho h e => lost_hr a1 a2 a3 a4 a5 s S ho h e)
