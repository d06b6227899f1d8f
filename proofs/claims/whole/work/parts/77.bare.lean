/-! BARE -/
def brG (G : Nat → GV) (B : Nat) : Nat → Nat
  | 0 => B
  | k + 1 => brG G B k ||| 2 ^ ix (gH (G k))
def barS (F : Nat → FV) (nG : Nat) : Nat → Nat → (Nat → GV) → Nat
  | 0, B, _ => B
  | d + 1, B, G => barS F nG d (brG G B nG) (fun k => stepG F (G k))
theorem brG_lt {n : Nat} {G : Nat → GV} {B : Nat} (hB : B < 2 ^ n) : ∀ k, (∀ j, j < k → HOk n (G j)) → brG G B k < 2 ^ n
  | 0, _ => hB
  | k + 1, h => by
    have ih := brG_lt (G := G) hB k (fun j hj => h j (by omega))
    obtain ⟨⟨p, hp, e⟩, -⟩ := h k (by omega)
    unfold brG
    rw [e]
    by_cases c : n < 31
    · rw [ix_nI (by omega)]
      exact Nat.or_lt_two_pow ih (Nat.pow_lt_pow_right (by decide) hp)
    · by_cases d : p < 2 ^ 31
      · rw [ix_nI d]
        exact Nat.or_lt_two_pow ih (Nat.pow_lt_pow_right (by decide) hp)
      · refine Nat.or_lt_two_pow ih (Nat.pow_lt_pow_right (by decide) ?_)
        have h2 : ix (nI p) < 2147483648 := by
          unfold ix
          have := (i32_range (nI p)).2
          have e2 : (nI p).toNatClampNeg = (nI p).toInt.toNat := rfl
          omega
        omega
theorem bare_a : ∀ n : Fin 7, ∀ B : Fin 64, ∀ k : Fin 6, B.val < 2 ^ n.val → k.val < n.val → nI (2 ^ n.val - 1 - B.val) &&& (nI (2 ^ k.val) ^^^ (-1)) = nI (2 ^ n.val - 1 - (B.val ||| 2 ^ k.val)) := by decide +kernel
theorem bare_z : ∀ n : Fin 7, ∀ B : Fin 64, B.val < 2 ^ n.val → nI (2 ^ n.val - 1) &&& (nI B.val ^^^ (-1)) = nI (2 ^ n.val - 1 - B.val) := by decide +kernel
theorem bare_1 : ∀ n : Fin 7, nI (2 ^ n.val) - 1 = nI (2 ^ n.val - 1) := by decide +kernel
theorem pow6 {n : Nat} (h : n ≤ 6) : 2 ^ n ≤ 64 := Nat.pow_le_pow_right (n := 2) (by decide) h
def vBare (N : Nat) (V : CV) : Int32 := nI (2 ^ V.1 - 1 - barS V.2.2.2.1 V.2.1 (N + 1) 0 V.2.2.2.2)
theorem bareX_e {s : Mm} {V : CV} {N : Nat} (h : HC s 0 V) (hv : VOk V) (hN : N ≤ 60) : ∃ s', f_M_neverWith s (nI N) = some (vBare N V, s') ∧ Fr 2 s s' := by
  have hn := hv.1
  have hm := hv.2.1
  have hp6 := pow6 hn
  obtain ⟨s1, a1, a2, a3, a4, a5⟩ := recall_e h hv
  unfold f_M_neverWith vBare
  rw [a1, bn_s, a2.1.1, sh1 (by omega), bare_1 ⟨V.1, by omega⟩, nm_s]
  obtain ⟨T, hT⟩ : ∃ T, T = barS V.2.2.2.1 V.2.1 (N + 1) 0 V.2.2.2.2 := ⟨_, rfl⟩
  rw [← hT]
  refine lp (α := Nat × (Nat → GV) × Mm) (fun n m x => k_M_neverWith_19 n (nI N) (nI (2 ^ V.1 - 1 - x.1)) (nI m) x.2.2) (fun m x => HF x.2.2 2 V.1 V.2.2.2.1 ∧ HG x.2.2 2 V.2.1 x.2.1 ∧ Fr 2 s x.2.2 ∧ (∀ i, i < V.2.1 → HOk V.1 (x.2.1 i)) ∧ x.1 < 2 ^ V.1 ∧ T = barS V.2.2.2.1 V.2.1 (N + 1 - m) x.1 x.2.1) (fun r => ∃ s', r = some (nI (2 ^ V.1 - 1 - T), s') ∧ Fr 2 s s') (N + 1) ?_ ?_ KF 0 (0, V.2.2.2.2, s1) (by omega) (by rw [KF_1]; omega) ⟨a2.1, a2.2.1, a4, hv.H, Nat.two_pow_pos _, hT⟩
  · intro n x ⟨e1, e2, e3, e4, e5, e6⟩
    unfold k_M_neverWith_19
    rw [if_pos (show nI N < nI (N + 1) from nI_lt (by omega) (by omega)), e6, Nat.sub_self]
    exact ⟨x.2.2, rfl, e3⟩
  · intro n m x hi ⟨e1, e2, e3, e4, e5, e6⟩ ih
    obtain ⟨B, G, a⟩ := x
    dsimp only at e1 e2 e3 e4 e5 e6 ⊢
    unfold k_M_neverWith_19
    rw [if_neg (nI_nlt (by omega) (by omega))]
    refine lp (fun t k (y : Nat) => k_M_neverWith_27 (fun v1 v2 v3 s => k_M_neverWith_19 n v1 v2 v3 s) t (nI N) (nI (2 ^ V.1 - 1 - y)) (nI m) (nI k) a) (fun k y => y = brG G B k) (fun r => ∃ s', r = some (nI (2 ^ V.1 - 1 - T), s') ∧ Fr 2 s s') V.2.1 ?_ ?_ KF 0 B (by omega) (by rw [KF_1]; omega) rfl
    · intro t y ey
      unfold k_M_neverWith_27
      obtain ⟨s2, c1, c2, c3, c4, c5, c6⟩ := pass_e (N := 1) e1 e2 (fun q _ => rfl) hv.M.n e4 hv.1 hv.2.1 (by omega) (by omega)
      have c1' : f_C_pass a 2 1 = some s2 := c1
      rw [e2.1, if_pos (nI_le (Nat.le_refl _) (by omega)), c1', bv_s, nI_1, ey]
      refine ih (brG G B V.2.1, fun k => stepG V.2.2.2.1 (G k), s2) ⟨c2, c3, e3.tr c6, fun i hi => (e4 i hi).step hv.M.n hv.1, brG_lt e5 _ e4, ?_⟩
      rw [show N + 1 - m = (N + 1 - (m + 1)) + 1 by omega] at e6
      exact e6
    · intro t k y hk ey ih2
      have hy : y < 2 ^ V.1 := by rw [ey]; exact brG_lt e5 _ (fun j hj => e4 j (by omega))
      obtain ⟨⟨p, hp, hh⟩, -⟩ := e4 k hk
      unfold k_M_neverWith_27
      rw [e2.1, if_neg (nI_ge hk (by omega)), giftAt_e (by omega), bn_s, nm_s, (e2.at hk).2.2.1, hh, sh1 (by omega), bare_a ⟨V.1, by omega⟩ ⟨y, by omega⟩ ⟨p, by omega⟩ hy hp, nI_1]
      refine ih2 _ ?_
      unfold brG
      rw [hh, ix_nI (by omega)]
      show y ||| 2 ^ p = brG G B k ||| 2 ^ p
      rw [ey]
theorem bareR_e {s : Mm} {V : CV} {N : Nat} (h : RV s V) (hv : VOk V) (h14 : s 176 14 = 0) (hN : N ≤ 60) : ∃ s', (bv (f_R_thinks s) fun s6 => k_R_bare_24 KF (nI N) 0 0 s6) = some (vBare N V, s') ∧ RV s' V ∧ FrW 102 153 s s' := by
  have hn := hv.1
  have hm := hv.2.1
  have hp6 := pow6 hn
  obtain ⟨s1, a1, a2⟩ := think0 h hv h14
  rw [a1, bv_s]
  unfold vBare
  obtain ⟨T, hT⟩ : ∃ T, T = barS V.2.2.2.1 V.2.1 (N + 1) 0 V.2.2.2.2 := ⟨_, rfl⟩
  rw [← hT]
  refine lp (α := Nat × (Nat → GV) × Mm) (fun n m x => k_R_bare_24 n (nI N) (nI x.1) (nI m) x.2.2) (fun m x => Thk s V x.2.1 x.2.2 ∧ (∀ i, i < V.2.1 → GI V.1 (x.2.1 i)) ∧ x.1 < 2 ^ V.1 ∧ T = barS V.2.2.2.1 V.2.1 (N + 1 - m) x.1 x.2.1) (fun r => ∃ s', r = some (nI (2 ^ V.1 - 1 - T), s') ∧ RV s' V ∧ FrW 102 153 s s') (N + 1) ?_ ?_ KF 0 (0, V.2.2.2.2, s1) (by omega) (by rw [KF_1]; omega) ⟨a2, hv.G, Nat.two_pow_pos _, hT⟩
  · intro n x ⟨e1, e2, e3, e4⟩
    unfold k_R_bare_24
    obtain ⟨s', b1, b2, b3⟩ := e1.fin hv
    have hT' : T = x.1 := by rw [e4, Nat.sub_self]; rfl
    rw [if_pos (show nI N < nI (N + 1) from nI_lt (by omega) (by omega)), b1, bv_s, b2.1.1, sh1 (by omega), bare_1 ⟨V.1, by omega⟩, bare_z ⟨V.1, by omega⟩ ⟨x.1, by omega⟩ e3]
    refine ⟨s', ?_, b2, b3⟩
    show some (nI (2 ^ V.1 - 1 - x.1), s') = _
    rw [hT']
  · intro n m x hi ⟨e1, e2, e3, e4⟩ ih
    obtain ⟨B, G, a⟩ := x
    dsimp only at e1 e2 e3 e4 ⊢
    unfold k_R_bare_24
    rw [if_neg (nI_nlt (by omega) (by omega))]
    refine lp (fun t k (y : Nat) => k_R_bare_33 (fun v1 v3 v4 s => k_R_bare_24 n v1 v3 v4 s) t (nI N) (nI y) (nI m) (nI k) a) (fun k y => y = brG G B k) (fun r => ∃ s', r = some (nI (2 ^ V.1 - 1 - T), s') ∧ RV s' V ∧ FrW 102 153 s s') V.2.1 ?_ ?_ KF 0 B (by omega) (by rw [KF_1]; omega) rfl
    · intro t y ey
      unfold k_R_bare_33
      obtain ⟨a', c1, c2⟩ := e1.mon hv e2
      rw [e1.2.1.1, if_pos (nI_le (Nat.le_refl _) (by omega)), c1, bv_s, nI_1, ey]
      refine ih (brG G B V.2.1, fun k => stepG V.2.2.2.1 (G k), a') ⟨c2, fun i hi => (e2 i hi).step hv.M hv.1, brG_lt e3 _ (fun j hj => (e2 j hj).1), ?_⟩
      rw [show N + 1 - m = (N + 1 - (m + 1)) + 1 by omega] at e4
      exact e4
    · intro t k y hk ey ih2
      obtain ⟨⟨p, hp, hh⟩, -⟩ := (e2 k hk).1
      unfold k_R_bare_33
      rw [e1.2.1.1, if_neg (nI_ge hk (by omega)), gd_n (show k < 4 by omega) (by omega), nm_s, nI_clamp (by omega), (e1.2.1.at hk).2.2.1, hh, sh1 (by omega), or_nI, nI_1]
      refine ih2 _ ?_
      unfold brG
      rw [hh, ix_nI (by omega), ey]
theorem op_bare (n : Int32) : OpI (fun s => f_X_bare s n) (fun s => f_R_bare s n) := by
  refine OpI.q2 (mx' := fun s => f_M_neverWith s n) (mr := fun s => bv (f_R_thinks s) fun s6 => k_R_bare_24 KF n 0 0 s6) (fun S => btw n 0 60) (fun S => vBare (ix n) S.1) (fun S => Codes.b _ _ _) ?_ ?_ ?_ ?_
  · intro s S h
    unfold f_X_bare
    simp only [spanNo_e, bn_s, bn_eta]
  · intro s S h
    show f_R_bare s n = _
    unfold f_R_bare
    simp only [notMonths_e, bn_s, bn_eta]
  · intro s S h e
    obtain ⟨N, -, hN, rfl⟩ := btw_0 (lo := 0) (hi := 60) (by omega) (by omega) e
    obtain ⟨s', c1, c2⟩ := bareX_e h.1 h.2.1 hN
    rw [ix_nI (by omega)]
    exact ⟨s', c1, c2.q⟩
  · intro s S ho h e
    obtain ⟨N, -, hN, rfl⟩ := btw_0 (lo := 0) (hi := 60) (by omega) (by omega) e
    obtain ⟨s', c1, c2, c3⟩ := bareR_e h.1 ho.1 h.2.1 hN
    rw [ix_nI (by omega)]
    exact ⟨s', c1, c2, c3.q (by omega) (by omega)⟩
