/-! MEAN -/
theorem refuseLX_e {s : Mm} {S : SV} {no : Int32} (h : XI s S) (hc : Codes no) : ∃ s', f_X_refuseLong s no = some (4000000000000000000 - no.toInt64, s') ∧ XI s' (bumpS S no) ∧ EqR s s' := by
  obtain ⟨s', a1, a2, a3⟩ := refuseX_e h hc
  unfold f_X_refuseLong
  rw [a1, bn_s]
  exact ⟨s', rfl, a2, a3⟩
theorem lowest_no {s : Mm} {no : Int32} (hc : Codes no) : f_R_lowestOf s no = bn (f_R_no s no) fun x s' => some (4000000000000000000 - x.toInt64, s') := by
  obtain ⟨k, hk, e⟩ := hc.k
  unfold f_R_lowestOf f_R_no
  rw [e, gd_n hk (by omega), gd_n hk (by omega), gd_n hk (by omega), gd_n hk (by omega)]
  rfl
theorem lowest_e {s : Mm} {S : SV} {no : Int32} (h : RI s S) (ho : SOk S) (hc : Codes no) : ∃ s', f_R_lowestOf s no = some (4000000000000000000 - no.toInt64, s') ∧ RI s' (bumpS S no) ∧ EqX s s' := by
  obtain ⟨s', a1, a2, a3⟩ := refuseR_e h ho hc
  rw [lowest_no hc, a1, bn_s]
  exact ⟨s', rfl, a2, a3⟩
theorem OpL.m {fx fr mx' mr : Mm → Option (Int64 × Mm)} (no : SV → Int32) (val : SV → Int64) (nS : SV → SV) (hc : ∀ S, no S = 0 ∨ Codes (no S)) (ex : ∀ s S, XI s S → fx s = if no S = 0 then mx' s else f_X_refuseLong s (no S)) (er : ∀ s S, SOk S → RI s S → fr s = if no S = 0 then mr s else f_R_lowestOf s (no S)) (hx : ∀ s S, XI s S → no S = 0 → ∃ s', mx' s = some (val S, s') ∧ XI s' (nS S) ∧ EqR s s') (hr : ∀ s S, SOk S → RI s S → no S = 0 → ∃ s', mr s = some (val S, s') ∧ RI s' (nS S) ∧ EqX s s') : OpL fx fr := by
  refine OpL.mk (fun S => if no S = 0 then val S else 4000000000000000000 - (no S).toInt64) (fun S => if no S = 0 then nS S else bumpS S (no S)) (fun s S h => ?_) (fun s S ho h => ?_)
  · rw [ex s S h]
    by_cases e : no S = 0
    · simp only [e, if_true]
      exact hx s S h e
    · simp only [e, if_false]
      rcases hc S with c | c
      · exact absurd c e
      · exact refuseLX_e h c
  · rw [er s S ho h]
    by_cases e : no S = 0
    · simp only [e, if_true]
      exact hr s S ho h e
    · simp only [e, if_false]
      rcases hc S with c | c
      · exact absurd c e
      · exact lowest_e h ho c
theorem OpL.q {fx fr mx' mr : Mm → Option (Int64 × Mm)} (no : SV → Int32) (val : SV → Int64) (hc : ∀ S, no S = 0 ∨ Codes (no S)) (ex : ∀ s S, XI s S → fx s = if no S = 0 then mx' s else f_X_refuseLong s (no S)) (er : ∀ s S, SOk S → RI s S → fr s = if no S = 0 then mr s else f_R_lowestOf s (no S)) (hx : ∀ s S, XI s S → no S = 0 → ∃ s', mx' s = some (val S, s') ∧ FrQX s s') (hr : ∀ s S, SOk S → RI s S → no S = 0 → ∃ s', mr s = some (val S, s') ∧ RV s' S.1 ∧ FrQR s s') : OpL fx fr :=
  OpL.m no val (fun S => S) hc ex er (fun s S h e => by
    obtain ⟨s', a, b⟩ := hx s S h e
    exact ⟨s', a, h.eq (fun q j x y z _ => b q j x y z), b.eqR⟩) (fun s S ho h e => by
    obtain ⟨s', a, b, c⟩ := hr s S ho h e
    exact ⟨s', a, h.q ho b c, c.eqX⟩)
theorem lg0 {b : Nat} (hb : b < 2 ^ 63) : lg_cmp (lN b) 0 = if b = 0 then 0 else 1 := by
  unfold lg_cmp
  by_cases c : b = 0
  · subst c
    rw [if_pos rfl]
    decide
  · rw [if_neg c, if_pos (show lN b > 0 from (pk_lLT (a := 0) (by omega) hb).mpr (by omega))]
theorem gZ_n {β : Type} {b : Nat} {x : Option β} (h : 0 < b) (hb : b < 2 ^ 63) : gZ (lN b) x = x := gZ_s (fun z => by
  have := (pk_lEQ (b := 0) hb (by omega)).mp z
  omega)
theorem half_mod {b r : Nat} (h0 : 0 < r) (h : r < b) : 2 * (b % r) < b := by
  have h1 := Nat.mod_lt b h0
  have h2 := Nat.div_add_mod b r
  have h3 : 0 < b / r := Nat.div_pos (by omega) h0
  have h4 : r * 1 ≤ r * (b / r) := Nat.mul_le_mul_left r h3
  omega
theorem gX_0 {s : Mm} {n i a : Nat} : k_X_commonDivisor_9 (n + 1) (lN a) (lN 0) (nI i) s = some (lN a, s) := by
  unfold k_X_commonDivisor_9
  rw [lg0 (by omega), if_pos rfl, if_pos rfl]
  split <;> rfl
theorem gX_s {s : Mm} {n i a b : Nat} (hi : i < 100) (ha : a < 2 ^ 62) (hb : b < 2 ^ 62) (h0 : 0 < b) : k_X_commonDivisor_9 (n + 1) (lN a) (lN b) (nI i) s = k_X_commonDivisor_9 n (lN b) (lN (a % b)) (nI (i + 1)) s := by
  rw [k_X_commonDivisor_9, if_neg (show ¬ (100 : Int32) ≤ nI i from nI_ge (b := 100) hi (by omega)), lg0 (by omega), if_neg (show ¬ b = 0 by omega), if_neg (by decide), gZ_n h0 (by omega), nm_s, pk_lRem (by omega) h0 (by omega), nI_1]
theorem gX {s : Mm} : ∀ k a b, b < 2 ^ k → k ≤ 49 → a < 2 ^ 62 → b < 2 ^ 62 → ∀ n i, 2 * k + 1 ≤ n → i + 2 * k < 100 → k_X_commonDivisor_9 n (lN a) (lN b) (nI i) s = some (lN (Nat.gcd a b), s)
  | k, a, b, _, _, _, _, 0, i, hn, _ => absurd hn (by omega)
  | 0, a, b, hb, hk, _, _, n + 1, i, hn, hi => by
    have : b = 0 := by rw [Nat.pow_zero] at hb; omega
    subst this
    rw [gX_0, Nat.gcd_zero_right]
  | k + 1, a, b, hb, hk, ha, hb2, n + 1, i, hn, hi => by
    by_cases c : b = 0
    · subst c
      rw [gX_0, Nat.gcd_zero_right]
    · have hr := Nat.mod_lt a (show b > 0 by omega)
      obtain ⟨n', rfl⟩ : ∃ n', n = n' + 1 := ⟨n - 1, by omega⟩
      rw [gX_s (by omega) ha hb2 (by omega)]
      have hg : Nat.gcd a b = Nat.gcd b (a % b) := by rw [Nat.gcd_comm a b, Nat.gcd_rec, Nat.gcd_comm]
      by_cases d : a % b = 0
      · rw [d, gX_0, hg, d, Nat.gcd_zero_right]
      · have h2 := half_mod (b := b) (r := a % b) (by omega) hr
        have hg2 : Nat.gcd b (a % b) = Nat.gcd (a % b) (b % (a % b)) := by rw [Nat.gcd_comm b, Nat.gcd_rec, Nat.gcd_comm]
        rw [Nat.pow_succ] at hb
        rw [gX_s (by omega) hb2 (by omega) (by omega), gX k (a % b) (b % (a % b)) (by omega) (by omega) (by omega) (by omega) n' (i + 1 + 1) (by omega) (by omega), hg, hg2]
theorem gR_0 {s : Mm} {n a : Nat} : k_R_divisor_6 (n + 1) (lN a) (lN 0) s = some (lN a, s) := by
  unfold k_R_divisor_6
  rw [lg0 (by omega), if_pos rfl, if_pos rfl]
theorem gR_s {s : Mm} {n a b : Nat} (ha : a < 2 ^ 62) (hb : b < 2 ^ 62) (h0 : 0 < b) : k_R_divisor_6 (n + 1) (lN a) (lN b) s = k_R_divisor_6 n (lN b) (lN (a % b)) s := by
  rw [k_R_divisor_6, lg0 (by omega), if_neg (show ¬ b = 0 by omega), if_neg (by decide), gZ_n h0 (by omega), nm_s, pk_lRem (by omega) h0 (by omega)]
theorem gR {s : Mm} : ∀ k a b, b < 2 ^ k → k ≤ 49 → a < 2 ^ 62 → b < 2 ^ 62 → ∀ n, 2 * k + 1 ≤ n → k_R_divisor_6 n (lN a) (lN b) s = some (lN (Nat.gcd a b), s)
  | k, a, b, _, _, _, _, 0, hn => absurd hn (by omega)
  | 0, a, b, hb, hk, _, _, n + 1, hn => by
    have : b = 0 := by rw [Nat.pow_zero] at hb; omega
    subst this
    rw [gR_0, Nat.gcd_zero_right]
  | k + 1, a, b, hb, hk, ha, hb2, n + 1, hn => by
    by_cases c : b = 0
    · subst c
      rw [gR_0, Nat.gcd_zero_right]
    · have hr := Nat.mod_lt a (show b > 0 by omega)
      obtain ⟨n', rfl⟩ : ∃ n', n = n' + 1 := ⟨n - 1, by omega⟩
      rw [gR_s ha hb2 (by omega)]
      have hg : Nat.gcd a b = Nat.gcd b (a % b) := by rw [Nat.gcd_comm a b, Nat.gcd_rec, Nat.gcd_comm]
      by_cases d : a % b = 0
      · rw [d, gR_0, hg, d, Nat.gcd_zero_right]
      · have h2 := half_mod (b := b) (r := a % b) (by omega) hr
        have hg2 : Nat.gcd b (a % b) = Nat.gcd (a % b) (b % (a % b)) := by rw [Nat.gcd_comm b, Nat.gcd_rec, Nat.gcd_comm]
        rw [Nat.pow_succ] at hb
        rw [gR_s hb2 (by omega) (by omega), gR k (a % b) (b % (a % b)) (by omega) (by omega) (by omega) (by omega) n' (by omega), hg, hg2]
def vPart (a b : Nat) (w : Int32) : Int64 := if w = 0 then lN (a / Nat.gcd a b) else lN (b / Nat.gcd a b)
theorem partX_e {s : Mm} {a b : Nat} {w : Int32} (ha : a < 2 ^ 62) (h0 : 0 < b) (hb : b < 2 ^ 49) : f_X_part s (lN a) (lN b) w = some (vPart a b w, s) := by
  have hg : 0 < Nat.gcd a b := Nat.gcd_pos_of_pos_right a h0
  have hg2 : Nat.gcd a b ≤ b := Nat.gcd_le_right a h0
  unfold f_X_part f_X_commonDivisor vPart
  have e := gX (s := s) 49 a b hb (Nat.le_refl _) ha (by omega) KF 0 (by rw [KF_1]; omega) (by omega)
  rw [show nI 0 = 0 from rfl] at e
  rw [e, bn_s, lg0 (by omega), if_neg (show ¬ Nat.gcd a b = 0 by omega), if_pos (by decide), gZ_n hg (by omega), gZ_n hg (by omega), pk_lDiv (by omega) hg (by omega), pk_lDiv (by omega) hg (by omega)]
  by_cases c : w = 0
  · rw [if_pos c, if_pos c]
  · rw [if_neg c, if_neg c]
theorem partR_e {s : Mm} {a b : Nat} {w : Int32} (ha : a < 2 ^ 62) (h0 : 0 < b) (hb : b < 2 ^ 49) : f_R_partOf s (lN a) (lN b) w = some (vPart a b w, s) := by
  have hg : 0 < Nat.gcd a b := Nat.gcd_pos_of_pos_right a h0
  have hg2 : Nat.gcd a b ≤ b := Nat.gcd_le_right a h0
  unfold f_R_partOf f_R_divisor vPart
  have e := gR (s := s) 49 a b hb (Nat.le_refl _) ha (by omega) KF (by rw [KF_1]; omega)
  rw [e, bn_s, bn_s, gZ_n hg (by omega), gZ_n hg (by omega), pk_lDiv (by omega) hg (by omega), pk_lDiv (by omega) hg (by omega)]
  by_cases c : w = 0
  · rw [if_pos c, if_pos c]
  · rw [if_neg c, if_neg c]
theorem mean_m : ∀ m : Fin 5, mx 1 (nI m.val) = nI (if m.val = 0 then 1 else m.val) := by decide
theorem mean_n {m : Nat} (h : m ≤ 4) : mx 1 (nI m) = nI (if m = 0 then 1 else m) := mean_m ⟨m, by omega⟩
theorem VOk.wN {V : CV} (h : VOk V) : ∃ W, W < 4000 ∧ sm V.2.1 (fun k => gW (V.2.2.2.2 k)) = nI W := by
  have hm := h.2.1
  have := sm_r (f := fun k => gW (V.2.2.2.2 k)) V.2.1 (by omega) (fun k hk => (h.G k hk).2.1)
  obtain ⟨W, e, h1, h2⟩ := i32_nI this.1
  exact ⟨W, by omega, e⟩
def vMean (a : Int32) (S : SV) : Int64 := vPart (ix (sm S.1.2.1 (fun k => gW (S.1.2.2.2.2 k)))) (if S.1.2.1 = 0 then 1 else S.1.2.1) a
theorem op_mean (a : Int32) : OpL (fun s => f_X_mean s a) (fun s => f_R_mean s a) := by
  refine OpL.q (mx' := fun s => bn (f_C_allWorth s 0) fun x10 s9 => f_X_part s9 (x10.toInt64) ((mx 1 (s9 0 5) : Int32).toInt64) a) (mr := fun s => if (s 176 12) = 0 then some (a.toInt64, s) else bn (f_R_sum s 182 (s 176 12)) fun x8 s7 => f_R_partOf s7 (x8.toInt64) ((s7 176 12 : Int32).toInt64) a) (fun _ => wNo a 1) (vMean a) (fun S => Codes.w _ _) ?_ ?_ ?_ ?_
  · intro s S h
    have eta : ∀ x : Option (Int64 × Mm), (bn x fun a s => some (a, s)) = x := fun x => by cases x <;> rfl
    unfold f_X_mean
    simp only [whatNo_e, bn_s, eta]
  · intro s S ho h
    have eta : ∀ x : Option (Int64 × Mm), (bn x fun a s => some (a, s)) = x := fun x => by cases x <;> rfl
    show f_R_mean s a = _
    unfold f_R_mean
    simp only [isIn_e, bn_s, isI_w, eta]
    by_cases c : wNo a 1 = 0
    · simp [c]
    · simp [c, wNo_m2 c]
  · intro s S h e
    have hm := h.2.1.2.1
    obtain ⟨W, hW, eW⟩ := h.2.1.wN
    rw [allWorth_e h.1.2.1 hm, bn_s, h.1.2.1.1, eW, nI_l (by omega), mean_n hm, nI_l (by split <;> omega), partX_e (by omega) (by split <;> omega) (by split <;> omega)]
    refine ⟨s, ?_, FrQX.rf⟩
    unfold vMean
    rw [eW, ix_nI (by omega)]
  · intro s S ho h e
    have hm := ho.1.2.1
    obtain ⟨W, hW, eW⟩ := ho.1.wN
    obtain ⟨A, hA, rfl⟩ := wNo_0 (m := 1) (by omega) e
    unfold vMean
    rw [show s 176 12 = nI S.1.2.1 from h.1.2.1.1]
    by_cases c : S.1.2.1 = 0
    · rw [if_pos (show nI S.1.2.1 = 0 by rw [c]; rfl), if_pos c, c]
      refine ⟨s, ?_, h.1, FrQR.rf⟩
      rcases (show A = 0 ∨ A = 1 by omega) with rfl | rfl
      · unfold vPart
        rw [show ix (sm 0 fun k => gW (S.1.2.2.2.2 k)) = 0 from rfl, Nat.gcd_zero_left, if_pos (show nI 0 = 0 from rfl)]
        rfl
      · unfold vPart
        rw [show ix (sm 0 fun k => gW (S.1.2.2.2.2 k)) = 0 from rfl, Nat.gcd_zero_left, if_neg (by decide)]
        rfl
    · have e2 := RsumW_e h.1.2.1 hm
      rw [show s 176 12 = nI S.1.2.1 from h.1.2.1.1] at e2
      rw [if_neg (nI_ne0 (by omega) (by omega)), e2, bn_s, if_neg c, eW, nI_l (by omega), show s 176 12 = nI S.1.2.1 from h.1.2.1.1, nI_l (by omega), partR_e (by omega) (by omega) (by omega), ix_nI (by omega)]
      exact ⟨s, rfl, h.1, FrQR.rf⟩
