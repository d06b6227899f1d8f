/-! the reference's store: rows kept and put back -/
theorem of_nI (n : Nat) : Int32.ofNat n = nI n := rfl
theorem passesK_e {s : Mm} {o cur n : Nat} (hn : aL o = n) (h6 : n ≤ 6) (hk : s 176 25 = 1) (hc : s 176 26 = nI cur) (hb : cur + n ≤ 561) (h1 : o ≠ 193) (h2 : o ≠ 176) :
    ∃ s', f_R_passes s o = some s' ∧ (∀ j, s' 193 j = if cur ≤ j ∧ j < cur + n then s o (j - cur) else s 193 j) ∧ s' 176 26 = nI (cur + n) ∧ (∀ q j, q ≠ 193 → ¬ (q = 176 ∧ j = 26) → s' q j = s q j) := by
  unfold f_R_passes
  refine lp (fun n i a => k_R_passes_2 n o (nI i) a) (fun i a => (∀ j, a 193 j = if cur ≤ j ∧ j < cur + i then s o (j - cur) else s 193 j) ∧ a 176 26 = nI (cur + i) ∧ (∀ q j, q ≠ 193 → ¬ (q = 176 ∧ j = 26) → a q j = s q j)) (fun r => ∃ s', r = some s' ∧ (∀ j, s' 193 j = if cur ≤ j ∧ j < cur + n then s o (j - cur) else s 193 j) ∧ s' 176 26 = nI (cur + n) ∧ (∀ q j, q ≠ 193 → ¬ (q = 176 ∧ j = 26) → s' q j = s q j)) n ?_ ?_ KF 0 s (by omega) (by rw [KF_1]; omega) ⟨fun j => by rw [if_neg (by omega)], hc, fun _ _ _ _ => rfl⟩
  · intro m a h
    unfold k_R_passes_2
    rw [hn, of_nI, if_pos (nI_le (Nat.le_refl _) (by omega))]
    exact ⟨a, rfl, h⟩
  · intro m i a hi ⟨e1, e2, e3⟩ ih
    unfold k_R_passes_2 k_R_passes_42
    have ek : a 176 25 = 1 := by rw [e3 _ _ (by omega) (by omega)]; exact hk
    have eo : a o i = s o i := e3 _ _ h1 (fun h => h2 h.1)
    rw [hn, of_nI, if_neg (nI_ge hi (by omega)), ek, if_neg (by decide), gd_n hi (by omega), e2, gd_n (by omega) (by omega), nm_s, nm_s, nI_1, nI_clamp (by omega), nI_clamp (by omega), eo]
    refine ih _ ⟨fun j => ?_, ?_, fun q j hq hj => ?_⟩
    · rw [mU_get, if_neg (by omega), mU_get]
      by_cases h : j = cur + i
      · subst h
        rw [if_pos ⟨rfl, rfl⟩, if_pos (by omega)]
        congr 1
        omega
      · rw [if_neg (by omega), e1]
        by_cases h' : cur ≤ j ∧ j < cur + i
        · rw [if_pos h', if_pos (by omega)]
        · rw [if_neg h', if_neg (by omega)]
    · rw [mU_get, if_pos ⟨rfl, rfl⟩, mU_get, if_neg (by omega), e2, nI_1]
      rfl
    · rw [mU_get, if_neg hj, mU_get, if_neg (by omega)]
      exact e3 q j hq hj
theorem passesR_e {s : Mm} {o cur n : Nat} (hn : aL o = n) (h6 : n ≤ 6) (hk : s 176 25 = 0) (hc : s 176 26 = nI cur) (hb : cur + n ≤ 561) (h1 : o ≠ 193) (h2 : o ≠ 176) :
    ∃ s', f_R_passes s o = some s' ∧ (∀ i, i < n → s' o i = s 193 (cur + i)) ∧ s' 176 26 = nI (cur + n) ∧ (∀ q j, q ≠ o → ¬ (q = 176 ∧ j = 26) → s' q j = s q j) := by
  unfold f_R_passes
  refine lp (fun n i a => k_R_passes_2 n o (nI i) a) (fun i a => (∀ k, k < i → a o k = s 193 (cur + k)) ∧ a 176 26 = nI (cur + i) ∧ (∀ q j, q ≠ o → ¬ (q = 176 ∧ j = 26) → a q j = s q j)) (fun r => ∃ s', r = some s' ∧ (∀ i, i < n → s' o i = s 193 (cur + i)) ∧ s' 176 26 = nI (cur + n) ∧ (∀ q j, q ≠ o → ¬ (q = 176 ∧ j = 26) → s' q j = s q j)) n ?_ ?_ KF 0 s (by omega) (by rw [KF_1]; omega) ⟨fun k hk => absurd hk (by omega), hc, fun _ _ _ _ => rfl⟩
  · intro m a h
    unfold k_R_passes_2
    rw [hn, of_nI, if_pos (nI_le (Nat.le_refl _) (by omega))]
    exact ⟨a, rfl, h⟩
  · intro m i a hi ⟨e1, e2, e3⟩ ih
    unfold k_R_passes_2 k_R_passes_42
    have ek : a 176 25 = 0 := by rw [e3 _ _ (Ne.symm h2) (by omega)]; exact hk
    have eo : a 193 (cur + i) = s 193 (cur + i) := e3 _ _ (Ne.symm h1) (by omega)
    rw [hn, of_nI, if_neg (nI_ge hi (by omega)), ek, if_pos rfl, e2, gd_n (by omega) (by omega), gd_n hi (by omega), nm_s, nm_s, nI_1, nI_clamp (by omega), nI_clamp (by omega), eo]
    refine ih _ ⟨fun k hk => ?_, ?_, fun q j hq hj => ?_⟩
    · rw [mU_get, if_neg (fun h => h2 h.1), mU_get]
      by_cases h : k = i
      · subst h
        rw [if_pos ⟨rfl, rfl⟩]
      · rw [if_neg (fun z => h z.2), e1 k (by omega)]
    · rw [mU_get, if_pos ⟨rfl, rfl⟩, mU_get, if_neg (fun h => h2 h.1.symm), e2, nI_1]
      rfl
    · rw [mU_get, if_neg hj, mU_get, if_neg (fun h => hq h.1)]
      exact e3 q j hq hj
theorem passOneK_e {s : Mm} {cur : Nat} (v : Int32) (hk : s 176 25 = 1) (hc : s 176 26 = nI cur) (hb : cur < 561) : f_R_passOne s v = some (v, mU (mU s 193 cur v) 176 26 (nI (cur + 1))) := by
  unfold f_R_passOne k_R_passOne_20
  rw [hk, if_neg (by decide), if_neg (by decide), hc, gd_n hb (by omega), nm_s, nm_s, nI_clamp (by omega), mU_get, if_neg (by omega), hc, nI_1]
theorem passOneR_e {s : Mm} {cur : Nat} (v : Int32) (hk : s 176 25 = 0) (hc : s 176 26 = nI cur) (hb : cur < 561) : f_R_passOne s v = some (s 193 cur, mU s 176 26 (nI (cur + 1))) := by
  unfold f_R_passOne k_R_passOne_20
  rw [hk, if_pos rfl, if_pos rfl, hc, gd_n hb (by omega), nm_s, nI_clamp (by omega), nI_1]
/-- what the store holds at a place: a company -/
def SB (s : Mm) (w : Nat) (V : CV) : Prop := s 193 (51 * w + 48) = nI V.1 ∧ s 193 (51 * w + 49) = nI V.2.1 ∧ s 193 (51 * w + 50) = V.2.2.1 ∧ (∀ k, k < V.1 → s 193 (51 * w + 0 + k) = fK (V.2.2.2.1 k) ∧ s 193 (51 * w + 6 + k) = fI (V.2.2.2.1 k) ∧ s 193 (51 * w + 12 + k) = fD (V.2.2.2.1 k) ∧ s 193 (51 * w + 18 + k) = nx (fN (V.2.2.2.1 k))) ∧ ∀ k, k < V.2.1 → s 193 (51 * w + 24 + k) = gW (V.2.2.2.2 k) ∧ s 193 (51 * w + 28 + k) = gZ' (V.2.2.2.2 k) ∧ s 193 (51 * w + 32 + k) = gH (V.2.2.2.2 k) ∧ s 193 (51 * w + 36 + k) = gK (V.2.2.2.2 k) ∧ s 193 (51 * w + 40 + k) = gB (V.2.2.2.2 k) ∧ s 193 (51 * w + 44 + k) = gP (V.2.2.2.2 k)
/-- the reference's rows hold a company (its friends' times by the bits of 'twice') -/
def RV (s : Mm) (V : CV) : Prop := RFv s V.1 V.2.2.2.1 ∧ RGv s V.2.1 V.2.2.2.2 ∧ s 176 13 = V.2.2.1
theorem allK_e {s : Mm} {w : Nat} (hw : w ≤ 10) : ∃ s', f_R_passesAll s (nI w) 1 = some s' ∧ (∀ k, k < 6 → s' 193 (51 * w + 0 + k) = s 178 k ∧ s' 193 (51 * w + 6 + k) = s 179 k ∧ s' 193 (51 * w + 12 + k) = s 180 k ∧ s' 193 (51 * w + 18 + k) = s 181 k) ∧ (∀ k, k < 4 → s' 193 (51 * w + 24 + k) = s 182 k ∧ s' 193 (51 * w + 28 + k) = s 183 k ∧ s' 193 (51 * w + 32 + k) = s 184 k ∧ s' 193 (51 * w + 36 + k) = s 185 k ∧ s' 193 (51 * w + 40 + k) = s 186 k ∧ s' 193 (51 * w + 44 + k) = s 187 k) ∧ s' 193 (51 * w + 48) = s 176 11 ∧ s' 193 (51 * w + 49) = s 176 12 ∧ s' 193 (51 * w + 50) = s 176 13 ∧ (∀ j, ¬ (51 * w ≤ j ∧ j < 51 * w + 51) → s' 193 j = s 193 j) ∧ (∀ q j, q ≠ 193 → ¬ (q = 176 ∧ (j = 25 ∨ j = 26)) → s' q j = s q j) := by
  have h51 : (51 : Int32) * nI w = nI (51 * w) := pk_mul 51 w
  unfold f_R_passesAll
  rw [nm_s, gb_1, nm_s, h51]
  obtain ⟨s0, e0⟩ : ∃ s0, s0 = mU (mU s 176 26 (nI (51 * w))) 176 25 1 := ⟨_, rfl⟩
  rw [← e0]
  have f0 : ∀ q j, ¬ (q = 176 ∧ (j = 25 ∨ j = 26)) → s0 q j = s q j := fun q j h => by rw [e0, mU_get, if_neg (by omega), mU_get, if_neg (by omega)]
  have k0 : s0 176 25 = 1 := by rw [e0, mU_get, if_pos ⟨rfl, rfl⟩]
  have c0 : s0 176 26 = nI (51 * w + 0) := by rw [e0, mU_get, if_neg (by omega), mU_get, if_pos ⟨rfl, rfl⟩]; rfl
  obtain ⟨s1, b1, d1, c1, f1⟩ := passesK_e (s := s0) (o := 178) (cur := 51 * w + 0) (n := 6) rfl (by omega) k0 c0 (by omega) (by omega) (by omega)
  rw [b1, bv_s]
  rw [show 51 * w + 0 + 6 = 51 * w + 6 by omega] at c1
  have k1 : s1 176 25 = 1 := by rw [f1 _ _ (by omega) (by omega)]; exact k0
  obtain ⟨s2, b2, d2, c2, f2⟩ := passesK_e (s := s1) (o := 179) (cur := 51 * w + 6) (n := 6) rfl (by omega) k1 c1 (by omega) (by omega) (by omega)
  rw [b2, bv_s]
  rw [show 51 * w + 6 + 6 = 51 * w + 12 by omega] at c2
  have k2 : s2 176 25 = 1 := by rw [f2 _ _ (by omega) (by omega)]; exact k1
  obtain ⟨s3, b3, d3, c3, f3⟩ := passesK_e (s := s2) (o := 180) (cur := 51 * w + 12) (n := 6) rfl (by omega) k2 c2 (by omega) (by omega) (by omega)
  rw [b3, bv_s]
  rw [show 51 * w + 12 + 6 = 51 * w + 18 by omega] at c3
  have k3 : s3 176 25 = 1 := by rw [f3 _ _ (by omega) (by omega)]; exact k2
  obtain ⟨s4, b4, d4, c4, f4⟩ := passesK_e (s := s3) (o := 181) (cur := 51 * w + 18) (n := 6) rfl (by omega) k3 c3 (by omega) (by omega) (by omega)
  rw [b4, bv_s]
  rw [show 51 * w + 18 + 6 = 51 * w + 24 by omega] at c4
  have k4 : s4 176 25 = 1 := by rw [f4 _ _ (by omega) (by omega)]; exact k3
  obtain ⟨s5, b5, d5, c5, f5⟩ := passesK_e (s := s4) (o := 182) (cur := 51 * w + 24) (n := 4) rfl (by omega) k4 c4 (by omega) (by omega) (by omega)
  rw [b5, bv_s]
  rw [show 51 * w + 24 + 4 = 51 * w + 28 by omega] at c5
  have k5 : s5 176 25 = 1 := by rw [f5 _ _ (by omega) (by omega)]; exact k4
  obtain ⟨s6, b6, d6, c6, f6⟩ := passesK_e (s := s5) (o := 183) (cur := 51 * w + 28) (n := 4) rfl (by omega) k5 c5 (by omega) (by omega) (by omega)
  rw [b6, bv_s]
  rw [show 51 * w + 28 + 4 = 51 * w + 32 by omega] at c6
  have k6 : s6 176 25 = 1 := by rw [f6 _ _ (by omega) (by omega)]; exact k5
  obtain ⟨s7, b7, d7, c7, f7⟩ := passesK_e (s := s6) (o := 184) (cur := 51 * w + 32) (n := 4) rfl (by omega) k6 c6 (by omega) (by omega) (by omega)
  rw [b7, bv_s]
  rw [show 51 * w + 32 + 4 = 51 * w + 36 by omega] at c7
  have k7 : s7 176 25 = 1 := by rw [f7 _ _ (by omega) (by omega)]; exact k6
  obtain ⟨s8, b8, d8, c8, f8⟩ := passesK_e (s := s7) (o := 185) (cur := 51 * w + 36) (n := 4) rfl (by omega) k7 c7 (by omega) (by omega) (by omega)
  rw [b8, bv_s]
  rw [show 51 * w + 36 + 4 = 51 * w + 40 by omega] at c8
  have k8 : s8 176 25 = 1 := by rw [f8 _ _ (by omega) (by omega)]; exact k7
  obtain ⟨s9, b9, d9, c9, f9⟩ := passesK_e (s := s8) (o := 186) (cur := 51 * w + 40) (n := 4) rfl (by omega) k8 c8 (by omega) (by omega) (by omega)
  rw [b9, bv_s]
  rw [show 51 * w + 40 + 4 = 51 * w + 44 by omega] at c9
  have k9 : s9 176 25 = 1 := by rw [f9 _ _ (by omega) (by omega)]; exact k8
  obtain ⟨s10, b10, d10, c10, f10⟩ := passesK_e (s := s9) (o := 187) (cur := 51 * w + 44) (n := 4) rfl (by omega) k9 c9 (by omega) (by omega) (by omega)
  rw [b10, bv_s]
  rw [show 51 * w + 44 + 4 = 51 * w + 48 by omega] at c10
  have k10 : s10 176 25 = 1 := by rw [f10 _ _ (by omega) (by omega)]; exact k9
  rw [passOneK_e _ k10 c10 (by omega), bn_s, nm_s]
  obtain ⟨s11, e11⟩ : ∃ z, z = mU (mU (mU s10 193 (51 * w + 48) (s10 176 11)) 176 26 (nI (51 * w + 48 + 1))) 176 11 (s10 176 11) := ⟨_, rfl⟩
  rw [← e11]
  have g11 : ∀ q j, ¬ (q = 176 ∧ j = 26) → ¬ (q = 193 ∧ j = 51 * w + 48) → s11 q j = s10 q j := fun q j h1 h2 => by
    rw [e11, mU_get]
    by_cases h : q = 176 ∧ j = 11
    · rw [if_pos h, h.1, h.2]
    · rw [if_neg h, mU_get, if_neg h1, mU_get, if_neg h2]
  have v11 : s11 193 (51 * w + 48) = s10 176 11 := by rw [e11, mU_get, if_neg (by omega), mU_get, if_neg (by omega), mU_get, if_pos ⟨rfl, rfl⟩]
  have c11 : s11 176 26 = nI (51 * w + 49) := by rw [e11, mU_get, if_neg (by omega), mU_get, if_pos ⟨rfl, rfl⟩]
  have k11 : s11 176 25 = 1 := by rw [g11 _ _ (by omega) (by omega)]; exact k10
  rw [passOneK_e _ k11 c11 (by omega), bn_s, nm_s]
  obtain ⟨s12, e12⟩ : ∃ z, z = mU (mU (mU s11 193 (51 * w + 49) (s11 176 12)) 176 26 (nI (51 * w + 49 + 1))) 176 12 (s11 176 12) := ⟨_, rfl⟩
  rw [← e12]
  have g12 : ∀ q j, ¬ (q = 176 ∧ j = 26) → ¬ (q = 193 ∧ j = 51 * w + 49) → s12 q j = s11 q j := fun q j h1 h2 => by
    rw [e12, mU_get]
    by_cases h : q = 176 ∧ j = 12
    · rw [if_pos h, h.1, h.2]
    · rw [if_neg h, mU_get, if_neg h1, mU_get, if_neg h2]
  have v12 : s12 193 (51 * w + 49) = s11 176 12 := by rw [e12, mU_get, if_neg (by omega), mU_get, if_neg (by omega), mU_get, if_pos ⟨rfl, rfl⟩]
  have c12 : s12 176 26 = nI (51 * w + 50) := by rw [e12, mU_get, if_neg (by omega), mU_get, if_pos ⟨rfl, rfl⟩]
  have k12 : s12 176 25 = 1 := by rw [g12 _ _ (by omega) (by omega)]; exact k11
  rw [passOneK_e _ k12 c12 (by omega), bn_s, nm_s]
  obtain ⟨s13, e13⟩ : ∃ z, z = mU (mU (mU s12 193 (51 * w + 50) (s12 176 13)) 176 26 (nI (51 * w + 50 + 1))) 176 13 (s12 176 13) := ⟨_, rfl⟩
  rw [← e13]
  have g13 : ∀ q j, ¬ (q = 176 ∧ j = 26) → ¬ (q = 193 ∧ j = 51 * w + 50) → s13 q j = s12 q j := fun q j h1 h2 => by
    rw [e13, mU_get]
    by_cases h : q = 176 ∧ j = 13
    · rw [if_pos h, h.1, h.2]
    · rw [if_neg h, mU_get, if_neg h1, mU_get, if_neg h2]
  have v13 : s13 193 (51 * w + 50) = s12 176 13 := by rw [e13, mU_get, if_neg (by omega), mU_get, if_neg (by omega), mU_get, if_pos ⟨rfl, rfl⟩]
  have F : ∀ q j, q ≠ 193 → ¬ (q = 176 ∧ (j = 25 ∨ j = 26)) → s0 q j = s q j ∧ s1 q j = s q j ∧ s2 q j = s q j ∧ s3 q j = s q j ∧ s4 q j = s q j ∧ s5 q j = s q j ∧ s6 q j = s q j ∧ s7 q j = s q j ∧ s8 q j = s q j ∧ s9 q j = s q j ∧ s10 q j = s q j ∧ s11 q j = s q j ∧ s12 q j = s q j ∧ s13 q j = s q j := by
    intro q j h1 h2
    have h3 : ¬ (q = 176 ∧ j = 26) := by omega
    have z0 := f0 q j h2
    have z1 : s1 q j = s q j := (f1 q j h1 h3).trans z0
    have z2 : s2 q j = s q j := (f2 q j h1 h3).trans z1
    have z3 : s3 q j = s q j := (f3 q j h1 h3).trans z2
    have z4 : s4 q j = s q j := (f4 q j h1 h3).trans z3
    have z5 : s5 q j = s q j := (f5 q j h1 h3).trans z4
    have z6 : s6 q j = s q j := (f6 q j h1 h3).trans z5
    have z7 : s7 q j = s q j := (f7 q j h1 h3).trans z6
    have z8 : s8 q j = s q j := (f8 q j h1 h3).trans z7
    have z9 : s9 q j = s q j := (f9 q j h1 h3).trans z8
    have z10 : s10 q j = s q j := (f10 q j h1 h3).trans z9
    have z11 : s11 q j = s q j := (g11 q j h3 (fun h => h1 h.1)).trans z10
    have z12 : s12 q j = s q j := (g12 q j h3 (fun h => h1 h.1)).trans z11
    have z13 : s13 q j = s q j := (g13 q j h3 (fun h => h1 h.1)).trans z12
    exact ⟨z0, z1, z2, z3, z4, z5, z6, z7, z8, z9, z10, z11, z12, z13⟩
  refine ⟨s13, rfl, fun k hk => ⟨?_, ?_, ?_, ?_⟩, fun k hk => ⟨?_, ?_, ?_, ?_, ?_, ?_⟩, ?_, ?_, ?_, fun j hj => ?_, fun q j h1 h2 => (F q j h1 h2).2.2.2.2.2.2.2.2.2.2.2.2.2⟩
  · rw [g13 _ _ (by omega) (by omega), g12 _ _ (by omega) (by omega), g11 _ _ (by omega) (by omega), d10, if_neg (by omega), d9, if_neg (by omega), d8, if_neg (by omega), d7, if_neg (by omega), d6, if_neg (by omega), d5, if_neg (by omega), d4, if_neg (by omega), d3, if_neg (by omega), d2, if_neg (by omega), d1, if_pos (by omega), show 51 * w + 0 + k - (51 * w + 0) = k by omega]; exact (F 178 k (by omega) (by omega)).1
  · rw [g13 _ _ (by omega) (by omega), g12 _ _ (by omega) (by omega), g11 _ _ (by omega) (by omega), d10, if_neg (by omega), d9, if_neg (by omega), d8, if_neg (by omega), d7, if_neg (by omega), d6, if_neg (by omega), d5, if_neg (by omega), d4, if_neg (by omega), d3, if_neg (by omega), d2, if_pos (by omega), show 51 * w + 6 + k - (51 * w + 6) = k by omega]; exact (F 179 k (by omega) (by omega)).2.1
  · rw [g13 _ _ (by omega) (by omega), g12 _ _ (by omega) (by omega), g11 _ _ (by omega) (by omega), d10, if_neg (by omega), d9, if_neg (by omega), d8, if_neg (by omega), d7, if_neg (by omega), d6, if_neg (by omega), d5, if_neg (by omega), d4, if_neg (by omega), d3, if_pos (by omega), show 51 * w + 12 + k - (51 * w + 12) = k by omega]; exact (F 180 k (by omega) (by omega)).2.2.1
  · rw [g13 _ _ (by omega) (by omega), g12 _ _ (by omega) (by omega), g11 _ _ (by omega) (by omega), d10, if_neg (by omega), d9, if_neg (by omega), d8, if_neg (by omega), d7, if_neg (by omega), d6, if_neg (by omega), d5, if_neg (by omega), d4, if_pos (by omega), show 51 * w + 18 + k - (51 * w + 18) = k by omega]; exact (F 181 k (by omega) (by omega)).2.2.2.1
  · rw [g13 _ _ (by omega) (by omega), g12 _ _ (by omega) (by omega), g11 _ _ (by omega) (by omega), d10, if_neg (by omega), d9, if_neg (by omega), d8, if_neg (by omega), d7, if_neg (by omega), d6, if_neg (by omega), d5, if_pos (by omega), show 51 * w + 24 + k - (51 * w + 24) = k by omega]; exact (F 182 k (by omega) (by omega)).2.2.2.2.1
  · rw [g13 _ _ (by omega) (by omega), g12 _ _ (by omega) (by omega), g11 _ _ (by omega) (by omega), d10, if_neg (by omega), d9, if_neg (by omega), d8, if_neg (by omega), d7, if_neg (by omega), d6, if_pos (by omega), show 51 * w + 28 + k - (51 * w + 28) = k by omega]; exact (F 183 k (by omega) (by omega)).2.2.2.2.2.1
  · rw [g13 _ _ (by omega) (by omega), g12 _ _ (by omega) (by omega), g11 _ _ (by omega) (by omega), d10, if_neg (by omega), d9, if_neg (by omega), d8, if_neg (by omega), d7, if_pos (by omega), show 51 * w + 32 + k - (51 * w + 32) = k by omega]; exact (F 184 k (by omega) (by omega)).2.2.2.2.2.2.1
  · rw [g13 _ _ (by omega) (by omega), g12 _ _ (by omega) (by omega), g11 _ _ (by omega) (by omega), d10, if_neg (by omega), d9, if_neg (by omega), d8, if_pos (by omega), show 51 * w + 36 + k - (51 * w + 36) = k by omega]; exact (F 185 k (by omega) (by omega)).2.2.2.2.2.2.2.1
  · rw [g13 _ _ (by omega) (by omega), g12 _ _ (by omega) (by omega), g11 _ _ (by omega) (by omega), d10, if_neg (by omega), d9, if_pos (by omega), show 51 * w + 40 + k - (51 * w + 40) = k by omega]; exact (F 186 k (by omega) (by omega)).2.2.2.2.2.2.2.2.1
  · rw [g13 _ _ (by omega) (by omega), g12 _ _ (by omega) (by omega), g11 _ _ (by omega) (by omega), d10, if_pos (by omega), show 51 * w + 44 + k - (51 * w + 44) = k by omega]; exact (F 187 k (by omega) (by omega)).2.2.2.2.2.2.2.2.2.1
  · rw [g13 _ _ (by omega) (by omega), g12 _ _ (by omega) (by omega), v11]; exact (F 176 11 (by omega) (by omega)).2.2.2.2.2.2.2.2.2.2.1
  · rw [g13 _ _ (by omega) (by omega), v12]; exact (F 176 12 (by omega) (by omega)).2.2.2.2.2.2.2.2.2.2.2.1
  · rw [v13]; exact (F 176 13 (by omega) (by omega)).2.2.2.2.2.2.2.2.2.2.2.2.1
  · rw [g13 _ _ (by omega) (by omega), g12 _ _ (by omega) (by omega), g11 _ _ (by omega) (by omega), d10, if_neg (by omega), d9, if_neg (by omega), d8, if_neg (by omega), d7, if_neg (by omega), d6, if_neg (by omega), d5, if_neg (by omega), d4, if_neg (by omega), d3, if_neg (by omega), d2, if_neg (by omega), d1, if_neg (by omega)]; exact f0 _ _ (by omega)
theorem allR_e {s : Mm} {w : Nat} (hw : w ≤ 10) : ∃ s', f_R_passesAll s (nI w) 0 = some s' ∧ (∀ k, k < 6 → s' 178 k = s 193 (51 * w + 0 + k) ∧ s' 179 k = s 193 (51 * w + 6 + k) ∧ s' 180 k = s 193 (51 * w + 12 + k) ∧ s' 181 k = s 193 (51 * w + 18 + k)) ∧ (∀ k, k < 4 → s' 182 k = s 193 (51 * w + 24 + k) ∧ s' 183 k = s 193 (51 * w + 28 + k) ∧ s' 184 k = s 193 (51 * w + 32 + k) ∧ s' 185 k = s 193 (51 * w + 36 + k) ∧ s' 186 k = s 193 (51 * w + 40 + k) ∧ s' 187 k = s 193 (51 * w + 44 + k)) ∧ s' 176 11 = s 193 (51 * w + 48) ∧ s' 176 12 = s 193 (51 * w + 49) ∧ s' 176 13 = s 193 (51 * w + 50) ∧ (∀ q j, ¬ (178 ≤ q ∧ q ≤ 187) → ¬ (q = 176 ∧ (j = 25 ∨ j = 26 ∨ j = 11 ∨ j = 12 ∨ j = 13)) → s' q j = s q j) := by
  have h51 : (51 : Int32) * nI w = nI (51 * w) := pk_mul 51 w
  unfold f_R_passesAll
  rw [nm_s, gb_0, nm_s, h51]
  obtain ⟨s0, e0⟩ : ∃ s0, s0 = mU (mU s 176 26 (nI (51 * w))) 176 25 0 := ⟨_, rfl⟩
  rw [← e0]
  have f0 : ∀ q j, ¬ (q = 176 ∧ (j = 25 ∨ j = 26)) → s0 q j = s q j := fun q j h => by rw [e0, mU_get, if_neg (by omega), mU_get, if_neg (by omega)]
  have k0 : s0 176 25 = 0 := by rw [e0, mU_get, if_pos ⟨rfl, rfl⟩]
  have c0 : s0 176 26 = nI (51 * w + 0) := by rw [e0, mU_get, if_neg (by omega), mU_get, if_pos ⟨rfl, rfl⟩]; rfl
  have t0 : ∀ j, s0 193 j = s 193 j := fun j => f0 _ _ (by omega)
  obtain ⟨s1, b1, d1, c1, f1⟩ := passesR_e (s := s0) (o := 178) (cur := 51 * w + 0) (n := 6) rfl (by omega) k0 c0 (by omega) (by omega) (by omega)
  rw [b1, bv_s]
  rw [show 51 * w + 0 + 6 = 51 * w + 6 by omega] at c1
  have k1 : s1 176 25 = 0 := by rw [f1 _ _ (by omega) (by omega)]; exact k0
  have t1 : ∀ j, s1 193 j = s 193 j := fun j => (f1 _ _ (by omega) (by omega)).trans (t0 j)
  obtain ⟨s2, b2, d2, c2, f2⟩ := passesR_e (s := s1) (o := 179) (cur := 51 * w + 6) (n := 6) rfl (by omega) k1 c1 (by omega) (by omega) (by omega)
  rw [b2, bv_s]
  rw [show 51 * w + 6 + 6 = 51 * w + 12 by omega] at c2
  have k2 : s2 176 25 = 0 := by rw [f2 _ _ (by omega) (by omega)]; exact k1
  have t2 : ∀ j, s2 193 j = s 193 j := fun j => (f2 _ _ (by omega) (by omega)).trans (t1 j)
  obtain ⟨s3, b3, d3, c3, f3⟩ := passesR_e (s := s2) (o := 180) (cur := 51 * w + 12) (n := 6) rfl (by omega) k2 c2 (by omega) (by omega) (by omega)
  rw [b3, bv_s]
  rw [show 51 * w + 12 + 6 = 51 * w + 18 by omega] at c3
  have k3 : s3 176 25 = 0 := by rw [f3 _ _ (by omega) (by omega)]; exact k2
  have t3 : ∀ j, s3 193 j = s 193 j := fun j => (f3 _ _ (by omega) (by omega)).trans (t2 j)
  obtain ⟨s4, b4, d4, c4, f4⟩ := passesR_e (s := s3) (o := 181) (cur := 51 * w + 18) (n := 6) rfl (by omega) k3 c3 (by omega) (by omega) (by omega)
  rw [b4, bv_s]
  rw [show 51 * w + 18 + 6 = 51 * w + 24 by omega] at c4
  have k4 : s4 176 25 = 0 := by rw [f4 _ _ (by omega) (by omega)]; exact k3
  have t4 : ∀ j, s4 193 j = s 193 j := fun j => (f4 _ _ (by omega) (by omega)).trans (t3 j)
  obtain ⟨s5, b5, d5, c5, f5⟩ := passesR_e (s := s4) (o := 182) (cur := 51 * w + 24) (n := 4) rfl (by omega) k4 c4 (by omega) (by omega) (by omega)
  rw [b5, bv_s]
  rw [show 51 * w + 24 + 4 = 51 * w + 28 by omega] at c5
  have k5 : s5 176 25 = 0 := by rw [f5 _ _ (by omega) (by omega)]; exact k4
  have t5 : ∀ j, s5 193 j = s 193 j := fun j => (f5 _ _ (by omega) (by omega)).trans (t4 j)
  obtain ⟨s6, b6, d6, c6, f6⟩ := passesR_e (s := s5) (o := 183) (cur := 51 * w + 28) (n := 4) rfl (by omega) k5 c5 (by omega) (by omega) (by omega)
  rw [b6, bv_s]
  rw [show 51 * w + 28 + 4 = 51 * w + 32 by omega] at c6
  have k6 : s6 176 25 = 0 := by rw [f6 _ _ (by omega) (by omega)]; exact k5
  have t6 : ∀ j, s6 193 j = s 193 j := fun j => (f6 _ _ (by omega) (by omega)).trans (t5 j)
  obtain ⟨s7, b7, d7, c7, f7⟩ := passesR_e (s := s6) (o := 184) (cur := 51 * w + 32) (n := 4) rfl (by omega) k6 c6 (by omega) (by omega) (by omega)
  rw [b7, bv_s]
  rw [show 51 * w + 32 + 4 = 51 * w + 36 by omega] at c7
  have k7 : s7 176 25 = 0 := by rw [f7 _ _ (by omega) (by omega)]; exact k6
  have t7 : ∀ j, s7 193 j = s 193 j := fun j => (f7 _ _ (by omega) (by omega)).trans (t6 j)
  obtain ⟨s8, b8, d8, c8, f8⟩ := passesR_e (s := s7) (o := 185) (cur := 51 * w + 36) (n := 4) rfl (by omega) k7 c7 (by omega) (by omega) (by omega)
  rw [b8, bv_s]
  rw [show 51 * w + 36 + 4 = 51 * w + 40 by omega] at c8
  have k8 : s8 176 25 = 0 := by rw [f8 _ _ (by omega) (by omega)]; exact k7
  have t8 : ∀ j, s8 193 j = s 193 j := fun j => (f8 _ _ (by omega) (by omega)).trans (t7 j)
  obtain ⟨s9, b9, d9, c9, f9⟩ := passesR_e (s := s8) (o := 186) (cur := 51 * w + 40) (n := 4) rfl (by omega) k8 c8 (by omega) (by omega) (by omega)
  rw [b9, bv_s]
  rw [show 51 * w + 40 + 4 = 51 * w + 44 by omega] at c9
  have k9 : s9 176 25 = 0 := by rw [f9 _ _ (by omega) (by omega)]; exact k8
  have t9 : ∀ j, s9 193 j = s 193 j := fun j => (f9 _ _ (by omega) (by omega)).trans (t8 j)
  obtain ⟨s10, b10, d10, c10, f10⟩ := passesR_e (s := s9) (o := 187) (cur := 51 * w + 44) (n := 4) rfl (by omega) k9 c9 (by omega) (by omega) (by omega)
  rw [b10, bv_s]
  rw [show 51 * w + 44 + 4 = 51 * w + 48 by omega] at c10
  have k10 : s10 176 25 = 0 := by rw [f10 _ _ (by omega) (by omega)]; exact k9
  have t10 : ∀ j, s10 193 j = s 193 j := fun j => (f10 _ _ (by omega) (by omega)).trans (t9 j)
  rw [passOneR_e _ k10 c10 (by omega), bn_s, nm_s, t10]
  obtain ⟨s11, e11⟩ : ∃ z, z = mU (mU s10 176 26 (nI (51 * w + 48 + 1))) 176 11 (s 193 (51 * w + 48)) := ⟨_, rfl⟩
  rw [← e11]
  have g11 : ∀ q j, ¬ (q = 176 ∧ (j = 26 ∨ j = 11)) → s11 q j = s10 q j := fun q j h1 => by rw [e11, mU_get, if_neg (by omega), mU_get, if_neg (by omega)]
  have v11 : s11 176 11 = s 193 (51 * w + 48) := by rw [e11, mU_get, if_pos ⟨rfl, rfl⟩]
  have c11 : s11 176 26 = nI (51 * w + 49) := by rw [e11, mU_get, if_neg (by omega), mU_get, if_pos ⟨rfl, rfl⟩]
  have k11 : s11 176 25 = 0 := by rw [g11 _ _ (by omega)]; exact k10
  have t11 : ∀ j, s11 193 j = s 193 j := fun j => (g11 _ _ (by omega)).trans (t10 j)
  rw [passOneR_e _ k11 c11 (by omega), bn_s, nm_s, t11]
  obtain ⟨s12, e12⟩ : ∃ z, z = mU (mU s11 176 26 (nI (51 * w + 49 + 1))) 176 12 (s 193 (51 * w + 49)) := ⟨_, rfl⟩
  rw [← e12]
  have g12 : ∀ q j, ¬ (q = 176 ∧ (j = 26 ∨ j = 12)) → s12 q j = s11 q j := fun q j h1 => by rw [e12, mU_get, if_neg (by omega), mU_get, if_neg (by omega)]
  have v12 : s12 176 12 = s 193 (51 * w + 49) := by rw [e12, mU_get, if_pos ⟨rfl, rfl⟩]
  have c12 : s12 176 26 = nI (51 * w + 50) := by rw [e12, mU_get, if_neg (by omega), mU_get, if_pos ⟨rfl, rfl⟩]
  have k12 : s12 176 25 = 0 := by rw [g12 _ _ (by omega)]; exact k11
  have t12 : ∀ j, s12 193 j = s 193 j := fun j => (g12 _ _ (by omega)).trans (t11 j)
  rw [passOneR_e _ k12 c12 (by omega), bn_s, nm_s, t12]
  obtain ⟨s13, e13⟩ : ∃ z, z = mU (mU s12 176 26 (nI (51 * w + 50 + 1))) 176 13 (s 193 (51 * w + 50)) := ⟨_, rfl⟩
  rw [← e13]
  have g13 : ∀ q j, ¬ (q = 176 ∧ (j = 26 ∨ j = 13)) → s13 q j = s12 q j := fun q j h1 => by rw [e13, mU_get, if_neg (by omega), mU_get, if_neg (by omega)]
  have v13 : s13 176 13 = s 193 (51 * w + 50) := by rw [e13, mU_get, if_pos ⟨rfl, rfl⟩]
  refine ⟨s13, rfl, fun k hk => ⟨?_, ?_, ?_, ?_⟩, fun k hk => ⟨?_, ?_, ?_, ?_, ?_, ?_⟩, ?_, ?_, ?_, fun q j h1 h2 => ?_⟩
  · rw [g13 _ _ (by omega), g12 _ _ (by omega), g11 _ _ (by omega), f10 _ _ (by omega) (by omega), f9 _ _ (by omega) (by omega), f8 _ _ (by omega) (by omega), f7 _ _ (by omega) (by omega), f6 _ _ (by omega) (by omega), f5 _ _ (by omega) (by omega), f4 _ _ (by omega) (by omega), f3 _ _ (by omega) (by omega), f2 _ _ (by omega) (by omega), d1 k (by omega), t0]
  · rw [g13 _ _ (by omega), g12 _ _ (by omega), g11 _ _ (by omega), f10 _ _ (by omega) (by omega), f9 _ _ (by omega) (by omega), f8 _ _ (by omega) (by omega), f7 _ _ (by omega) (by omega), f6 _ _ (by omega) (by omega), f5 _ _ (by omega) (by omega), f4 _ _ (by omega) (by omega), f3 _ _ (by omega) (by omega), d2 k (by omega), t1]
  · rw [g13 _ _ (by omega), g12 _ _ (by omega), g11 _ _ (by omega), f10 _ _ (by omega) (by omega), f9 _ _ (by omega) (by omega), f8 _ _ (by omega) (by omega), f7 _ _ (by omega) (by omega), f6 _ _ (by omega) (by omega), f5 _ _ (by omega) (by omega), f4 _ _ (by omega) (by omega), d3 k (by omega), t2]
  · rw [g13 _ _ (by omega), g12 _ _ (by omega), g11 _ _ (by omega), f10 _ _ (by omega) (by omega), f9 _ _ (by omega) (by omega), f8 _ _ (by omega) (by omega), f7 _ _ (by omega) (by omega), f6 _ _ (by omega) (by omega), f5 _ _ (by omega) (by omega), d4 k (by omega), t3]
  · rw [g13 _ _ (by omega), g12 _ _ (by omega), g11 _ _ (by omega), f10 _ _ (by omega) (by omega), f9 _ _ (by omega) (by omega), f8 _ _ (by omega) (by omega), f7 _ _ (by omega) (by omega), f6 _ _ (by omega) (by omega), d5 k (by omega), t4]
  · rw [g13 _ _ (by omega), g12 _ _ (by omega), g11 _ _ (by omega), f10 _ _ (by omega) (by omega), f9 _ _ (by omega) (by omega), f8 _ _ (by omega) (by omega), f7 _ _ (by omega) (by omega), d6 k (by omega), t5]
  · rw [g13 _ _ (by omega), g12 _ _ (by omega), g11 _ _ (by omega), f10 _ _ (by omega) (by omega), f9 _ _ (by omega) (by omega), f8 _ _ (by omega) (by omega), d7 k (by omega), t6]
  · rw [g13 _ _ (by omega), g12 _ _ (by omega), g11 _ _ (by omega), f10 _ _ (by omega) (by omega), f9 _ _ (by omega) (by omega), d8 k (by omega), t7]
  · rw [g13 _ _ (by omega), g12 _ _ (by omega), g11 _ _ (by omega), f10 _ _ (by omega) (by omega), d9 k (by omega), t8]
  · rw [g13 _ _ (by omega), g12 _ _ (by omega), g11 _ _ (by omega), d10 k (by omega), t9]
  · rw [g13 _ _ (by omega), g12 _ _ (by omega), v11]
  · rw [g13 _ _ (by omega), v12]
  · exact v13
  · rw [g13 _ _ (by omega), g12 _ _ (by omega), g11 _ _ (by omega), f10 _ _ (by omega) (by omega), f9 _ _ (by omega) (by omega), f8 _ _ (by omega) (by omega), f7 _ _ (by omega) (by omega), f6 _ _ (by omega) (by omega), f5 _ _ (by omega) (by omega), f4 _ _ (by omega) (by omega), f3 _ _ (by omega) (by omega), f2 _ _ (by omega) (by omega), f1 _ _ (by omega) (by omega)]; exact f0 _ _ (by omega)
/-- what a keeping changes: one place of the store, and 176 25, 26 -/
def FrK (w : Nat) (s s' : Mm) : Prop := (∀ j, ¬ (51 * w ≤ j ∧ j < 51 * w + 51) → s' 193 j = s 193 j) ∧ ∀ q j, q ≠ 193 → ¬ (q = 176 ∧ (j = 25 ∨ j = 26)) → s' q j = s q j
theorem RFv.eq {s s' : Mm} {nF : Nat} {F : Nat → FV} (h : RFv s nF F) (h1 : s' 176 11 = s 176 11) (h2 : s' 176 14 = s 176 14) (h3 : ∀ k, s' 178 k = s 178 k ∧ s' 179 k = s 179 k ∧ s' 180 k = s 180 k ∧ s' 181 k = s 181 k) : RFv s' nF F := by
  refine ⟨by rw [h1]; exact h.1, fun k hk => ?_⟩
  rw [(h3 k).1, (h3 k).2.1, (h3 k).2.2.1, (h3 k).2.2.2, h2]
  exact h.2 k hk
theorem RGv.eq {s s' : Mm} {nG : Nat} {G : Nat → GV} (h : RGv s nG G) (h1 : s' 176 12 = s 176 12) (h3 : ∀ k, rRow s' k = rRow s k) : RGv s' nG G := ⟨by rw [h1]; exact h.1, fun k hk => by rw [h3]; exact h.2 k hk⟩
theorem keepAll_e {s : Mm} {w : Nat} {V : CV} (h : RV s V) (hw : w ≤ 10) (hn : V.1 ≤ 6) (hm : V.2.1 ≤ 4) : ∃ s', f_R_passesAll s (nI w) 1 = some s' ∧ RV s' V ∧ SB s' w V ∧ FrK w s s' := by
  obtain ⟨s', h1, h2, h3, h4, h5, h6, h7, h8⟩ := allK_e (s := s) hw
  obtain ⟨hF, hG, hm'⟩ := h
  refine ⟨s', h1, ⟨hF.eq (h8 _ _ (by omega) (by omega)) (h8 _ _ (by omega) (by omega)) (fun k => ⟨h8 _ _ (by omega) (by omega), h8 _ _ (by omega) (by omega), h8 _ _ (by omega) (by omega), h8 _ _ (by omega) (by omega)⟩), hG.eq (h8 _ _ (by omega) (by omega)) (fun k => by simp only [rRow, h8 182 k (by omega) (by omega), h8 183 k (by omega) (by omega), h8 184 k (by omega) (by omega), h8 185 k (by omega) (by omega), h8 186 k (by omega) (by omega), h8 187 k (by omega) (by omega)]), by rw [h8 _ _ (by omega) (by omega)]; exact hm'⟩, ⟨by rw [h4]; exact hF.1, by rw [h5]; exact hG.1, by rw [h6]; exact hm', fun k hk => ?_, fun k hk => ?_⟩, h7, h8⟩
  · obtain ⟨a, b, c, d⟩ := h2 k (by omega)
    obtain ⟨a', b', c', d', -⟩ := hF.2 k hk
    rw [a, b, c, d]
    exact ⟨a', b', c', d'⟩
  · obtain ⟨a, b, c, d, e, f⟩ := h3 k (by omega)
    rw [a, b, c, d, e, f]
    exact hG.at hk
/-- what a putting back changes -/
def FrP (s s' : Mm) : Prop := ∀ q j, ¬ (178 ≤ q ∧ q ≤ 187) → ¬ (q = 176 ∧ (j = 25 ∨ j = 26 ∨ j = 11 ∨ j = 12 ∨ j = 13)) → s' q j = s q j
theorem putAll_e {s : Mm} {w : Nat} {V : CV} (h : SB s w V) (hw : w ≤ 10) (hn : V.1 ≤ 6) (hm : V.2.1 ≤ 4) (ht : s 176 14 = 0) (hT : ∀ k, k < V.1 → fT (V.2.2.2.1 k) = 1) : ∃ s', f_R_passesAll s (nI w) 0 = some s' ∧ RV s' V ∧ FrP s s' := by
  obtain ⟨s', h1, h2, h3, h4, h5, h6, h8⟩ := allR_e (s := s) hw
  obtain ⟨b1, b2, b3, b4, b5⟩ := h
  refine ⟨s', h1, ⟨⟨by rw [h4]; exact b1, fun k hk => ?_⟩, ⟨by rw [h5]; exact b2, fun k hk => ?_⟩, by rw [h6]; exact b3⟩, h8⟩
  · obtain ⟨a, b, c, d⟩ := h2 k (by omega)
    obtain ⟨a', b', c', d'⟩ := b4 k hk
    rw [a, b, c, d, h8 176 14 (by omega) (by omega), ht, hT k hk]
    refine ⟨a', b', c', d', ?_⟩
    rw [if_neg (by decide)]
    rcases (show k = 0 ∨ k = 1 ∨ k = 2 ∨ k = 3 ∨ k = 4 ∨ k = 5 by omega) with rfl | rfl | rfl | rfl | rfl | rfl <;> decide
  · obtain ⟨a, b, c, d, e, f⟩ := h3 k (by omega)
    obtain ⟨a', b', c', d', e', f'⟩ := b5 k hk
    simp only [rRow]
    rw [a, b, c, d, e, f, a', b', c', d', e', f']
theorem SB.eq {s s' : Mm} {w : Nat} {V : CV} (h : SB s w V) (hn : V.1 ≤ 6) (hm : V.2.1 ≤ 4) (he : ∀ j, 51 * w ≤ j → j < 51 * w + 51 → s' 193 j = s 193 j) : SB s' w V := by
  obtain ⟨b1, b2, b3, b4, b5⟩ := h
  refine ⟨by rw [he _ (by omega) (by omega)]; exact b1, by rw [he _ (by omega) (by omega)]; exact b2, by rw [he _ (by omega) (by omega)]; exact b3, fun k hk => ?_, fun k hk => ?_⟩
  · rw [he (51 * w + 0 + k) (by omega) (by omega), he (51 * w + 6 + k) (by omega) (by omega), he (51 * w + 12 + k) (by omega) (by omega), he (51 * w + 18 + k) (by omega) (by omega)]
    exact b4 k hk
  · rw [he (51 * w + 24 + k) (by omega) (by omega), he (51 * w + 28 + k) (by omega) (by omega), he (51 * w + 32 + k) (by omega) (by omega), he (51 * w + 36 + k) (by omega) (by omega), he (51 * w + 40 + k) (by omega) (by omega), he (51 * w + 44 + k) (by omega) (by omega)]
    exact b5 k hk
