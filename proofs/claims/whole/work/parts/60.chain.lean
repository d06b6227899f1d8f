/-! WAY, CIRCLES, CHAIN -/
/-- the way to t: steps left, steps taken, the friend now -/
def wayS (F : Nat → FV) (t : Nat) : Nat → Nat → Nat → Option Nat
  | 0, _, _ => none
  | d + 1, c, a => if fN (F a) = -1 then none else if fN (F a) = nI t then some c else wayS F t d (c + 1) (ix (fN (F a)))
def wayI : Option Nat → Int32
  | none => -9
  | some m => nI m
theorem wayS_c {F : Nat → FV} {t : Nat} : ∀ d c a m, wayS F t d c a = some m → c ≤ m ∧ m < c + d
  | 0, _, _, _, h => by cases h
  | d + 1, c, a, m, h => by
    unfold wayS at h
    by_cases c1 : fN (F a) = -1
    · rw [if_pos c1] at h; cases h
    · rw [if_neg c1] at h
      by_cases c2 : fN (F a) = nI t
      · rw [if_pos c2] at h
        have h := Option.some.inj h
        omega
      · rw [if_neg c2] at h
        have := wayS_c d (c + 1) _ m h
        omega
theorem way_closed {F : Nat → FV} {t : Nat} {X : Nat → Bool} (ht : X t = false) (h31 : t < 2 ^ 31) (hc : ∀ q, X q = true → fN (F q) = -1 ∨ ∃ p, p < 2 ^ 31 ∧ fN (F q) = nI p ∧ X p = true) : ∀ d c a, X a = true → wayS F t d c a = none
  | 0, _, _, _ => rfl
  | d + 1, c, a, ha => by
    unfold wayS
    rcases hc a ha with e | ⟨p, hp, e, hx⟩
    · rw [if_pos e]
    · rw [e, if_neg (m1_ne hp), if_neg (fun z => by
        have := (nI_eq hp h31).mp z
        rw [this, ht] at hx
        cases hx), ix_nI hp]
      exact way_closed ht h31 hc d (c + 1) p hx
theorem cnt_le (X : Nat → Bool) : ∀ n, cnt X n ≤ n
  | 0 => Nat.le_refl _
  | n + 1 => by
    have := cnt_le X n
    unfold cnt
    split <;> omega
theorem cnt_full {X : Nat → Bool} : ∀ n, cnt X n = n → ∀ j, j < n → X j = true
  | 0, _, j, hj => absurd hj (by omega)
  | n + 1, h, j, hj => by
    have hl := cnt_le X n
    unfold cnt at h
    by_cases c : X n = true
    · rw [if_pos c] at h
      by_cases e : j = n
      · rw [e]; exact c
      · exact cnt_full n (by omega) j (by omega)
    · rw [if_neg c] at h
      omega
def adX (X : Nat → Bool) (p : Nat) : Nat → Bool := fun q => X q || decide (q = p)
theorem adX_p (X : Nat → Bool) (p : Nat) : adX X p p = true := by unfold adX; simp
theorem adX_o {X : Nat → Bool} {p q : Nat} (h : X q = true) : adX X p q = true := by unfold adX; simp [h]
theorem adX_n {X : Nat → Bool} {p q : Nat} (h : q ≠ p) : adX X p q = X q := by unfold adX; simp [h]
theorem cnt_adX {X : Nat → Bool} {p : Nat} (hx : X p = false) : ∀ n, cnt (adX X p) n = cnt X n + (if p < n then 1 else 0)
  | 0 => by simp [cnt]
  | n + 1 => by
    unfold cnt
    rw [cnt_adX hx n]
    by_cases e : p = n
    · subst e
      rw [adX_p, hx]
      simp
    · rw [adX_n (fun z => e z.symm)]
      by_cases c : p < n
      · simp only [c, show p < n + 1 by omega, if_true]
        omega
      · simp only [c, show ¬ p < n + 1 by omega, if_false]
        omega
theorem way_more {F : Nat → FV} {nF t : Nat} (hF : FsOk nF F) (hn : nF ≤ 6) (ht : t < nF) (e : Nat) : ∀ d (X : Nat → Bool) c a, cnt X nF + d = nF → X t = false → a < nF → (∀ q, X q = true → q < nF ∧ (q ≠ a → fN (F q) = -1 ∨ ∃ p, p < 2 ^ 31 ∧ fN (F q) = nI p ∧ X p = true)) → wayS F t (d + e) c a = wayS F t d c a
  | 0, X, c, a, h, hx, _, _ => by
    have := cnt_full nF (by omega) t ht
    rw [hx] at this
    cases this
  | d + 1, X, c, a, h, hx, ha, hc => by
    rw [show d + 1 + e = (d + e) + 1 by omega]
    unfold wayS
    rcases (hF a ha).2.2.2.1 with z | ⟨p, hp, -, z⟩
    · rw [if_pos z, if_pos z]
    · rw [z, if_neg (m1_ne (by omega)), if_neg (m1_ne (by omega)), ix_nI (by omega)]
      by_cases hpt : nI p = nI t
      · rw [if_pos hpt, if_pos hpt]
      · rw [if_neg hpt, if_neg hpt]
        have hne : t ≠ p := fun y => hpt (by rw [y])
        cases hxp : X p with
        | true =>
          have hcl : ∀ q, X q = true → fN (F q) = -1 ∨ ∃ p, p < 2 ^ 31 ∧ fN (F q) = nI p ∧ X p = true := fun q hq => by
            by_cases y : q = a
            · subst y
              exact Or.inr ⟨p, by omega, z, hxp⟩
            · exact (hc q hq).2 y
          rw [way_closed hx (by omega) hcl _ _ p hxp, way_closed hx (by omega) hcl _ _ p hxp]
        | false =>
          refine way_more hF hn ht e d (adX X p) (c + 1) p (by rw [cnt_adX hxp, if_pos hp]; omega) (by rw [adX_n hne]; exact hx) hp (fun q hq => ?_)
          by_cases y : q = p
          · subst y
            exact ⟨hp, fun w => absurd rfl w⟩
          · rw [adX_n y] at hq
            refine ⟨(hc q hq).1, fun _ => ?_⟩
            by_cases u : q = a
            · subst u
              exact Or.inr ⟨p, by omega, z, adX_p X p⟩
            · rcases (hc q hq).2 u with w | ⟨r, hr, w1, w2⟩
              · exact Or.inl w
              · exact Or.inr ⟨r, hr, w1, adX_o w2⟩
theorem cnt_none : ∀ n, cnt (fun _ => false) n = 0
  | 0 => rfl
  | n + 1 => by unfold cnt; rw [cnt_none n]; rfl
theorem way_6 {F : Nat → FV} {nF t a : Nat} (hF : FsOk nF F) (hn : nF ≤ 6) (ht : t < nF) (ha : a < nF) : wayS F t 6 1 a = wayS F t nF 1 a := by
  have := way_more hF hn ht (6 - nF) nF (fun _ => false) 1 a (by rw [cnt_none]; omega) rfl ha (fun q hq => by cases hq)
  rw [show nF + (6 - nF) = 6 by omega] at this
  exact this
theorem givings_e {s : Mm} {V : CV} {a t : Nat} (h : HC s 0 V) (hv : VOk V) (ha : a < V.1) (ht : t < V.1) : f_C_givings s 0 (nI a) (nI t) = some (wayI (wayS V.2.2.2.1 t V.1 1 a), s) := by
  have hn := hv.1
  unfold f_C_givings
  obtain ⟨T, hT⟩ : ∃ T, T = wayS V.2.2.2.1 t V.1 1 a := ⟨_, rfl⟩
  rw [← hT]
  refine lp (fun n i (x : Nat) => k_C_givings_5 n 0 (nI t) (nI x) (nI i) s) (fun i x => 1 ≤ i ∧ x < V.1 ∧ T = wayS V.2.2.2.1 t (V.1 + 1 - i) i x) (fun r => r = some (wayI T, s)) (V.1 + 1) ?_ ?_ KF 1 a (by omega) (by rw [KF_1]; omega) ⟨by omega, ha, hT⟩
  · intro n x ⟨h1, e1, e2⟩
    unfold k_C_givings_5
    rw [h.1.1, if_pos (nI_lt (by omega) (by omega)), e2, Nat.sub_self]
    rfl
  · intro n i x hi ⟨h1, e1, e2⟩ ih
    unfold k_C_givings_5
    rw [h.1.1, if_neg (nI_nlt (by omega) (by omega)), friendAt_e (by omega), bn_s, nm_s, (h.1.at e1).2.2.2.1]
    rw [show V.1 + 1 - i = (V.1 - i) + 1 by omega] at e2
    unfold wayS at e2
    rcases (hv.F e1).2.2.2.1 with z | ⟨p, hp, -, z⟩
    · rw [if_pos z] at e2
      rw [if_pos z, e2]
      rfl
    · rw [z, if_neg (m1_ne (by omega)), ix_nI (by omega)] at e2
      rw [z, if_neg (m1_ne (by omega))]
      by_cases c : nI p = nI t
      · rw [if_pos c] at e2
        rw [if_pos c, e2]
        rfl
      · rw [if_neg c] at e2
        rw [if_neg c, nI_1]
        exact ih p ⟨by omega, hp, by rw [show V.1 + 1 - (i + 1) = V.1 - i by omega]; exact e2⟩
theorem wayTo_e {s : Mm} {V : CV} {a t : Nat} (h : RV s V) (hv : VOk V) (ha : a < V.1) (ht : t < V.1) : f_R_wayTo s (nI a) (nI t) = some (wayI (wayS V.2.2.2.1 t V.1 1 a), s) := by
  have hn := hv.1
  rw [← way_6 hv.2.2.2.1 hn ht ha]
  unfold f_R_wayTo
  obtain ⟨T, hT⟩ : ∃ T, T = wayS V.2.2.2.1 t 6 1 a := ⟨_, rfl⟩
  rw [← hT]
  refine lp (fun n i (x : Int32) => k_R_wayTo_5 n (nI t) x (nI i) s) (fun i x => 1 ≤ i ∧ ((∃ y, y < V.1 ∧ x = nI y ∧ T = wayS V.2.2.2.1 t (7 - i) i y) ∨ (x = -9 ∧ T = none))) (fun r => r = some (wayI T, s)) 7 ?_ ?_ KF 1 (nI a) (by omega) (by rw [KF_1]; omega) ⟨by omega, Or.inl ⟨a, ha, rfl, hT⟩⟩
  · intro n x ⟨h1, h2⟩
    unfold k_R_wayTo_5
    rw [if_pos (show (6 : Int32) < nI 7 from by decide)]
    rcases h2 with ⟨y, hy, e1, e2⟩ | ⟨e1, e2⟩
    · rw [e2]; rfl
    · rw [e2]; rfl
  · intro n i x hi ⟨h1, h2⟩ ih
    unfold k_R_wayTo_5
    rw [if_neg (show ¬ (6 : Int32) < nI i from nI_nlt (a := 6) (by omega) (by omega))]
    have h9 : ¬ (-9 : Int32) = nI t := fun z => m9_ne (by omega) z.symm
    rcases h2 with ⟨y, hy, e1, e2⟩ | ⟨e1, e2⟩
    · rw [e1, if_pos (nI_pos' (by omega)), gd_n (show y < 6 by omega) (by omega), nI_clamp (by omega), (h.1.2 y hy).2.2.2.1]
      unfold k_R_wayTo_27
      rw [show 7 - i = (6 - i) + 1 by omega] at e2
      unfold wayS at e2
      rcases (hv.F hy).2.2.2.1 with z | ⟨p, hp, -, z⟩
      · rw [if_pos z] at e2
        rw [z, ← nx_m1, if_neg h9, nI_1]
        exact ih (-9) ⟨by omega, Or.inr ⟨rfl, e2⟩⟩
      · rw [z, if_neg (m1_ne (by omega)), ix_nI (by omega)] at e2
        rw [z, ← nx_nI (by omega)]
        by_cases c : nI p = nI t
        · rw [if_pos c] at e2
          rw [if_pos c, e2]
          rfl
        · rw [if_neg c] at e2
          rw [if_neg c, nI_1]
          exact ih (nI p) ⟨by omega, Or.inl ⟨p, hp, rfl, by rw [show 7 - (i + 1) = 6 - i by omega]; exact e2⟩⟩
    · rw [e1, if_neg nn_m9]
      unfold k_R_wayTo_27
      rw [if_neg h9, nI_1]
      exact ih (-9) ⟨by omega, Or.inr ⟨rfl, e2⟩⟩
theorem op_way (a b : Int32) : OpI (fun s => f_X_way s a b) (fun s => f_R_way s a b) := by
  refine OpI.q2 (mx' := fun s => f_C_givings s 0 a b) (mr := fun s => f_R_wayTo s a b) (fun S => twN (nI S.1.1) a b) (fun S => wayI (wayS S.1.2.2.2.1 (ix b) S.1.1 1 (ix a))) (fun S => Codes.t _ _ _) ?_ ?_ ?_ ?_
  · intro s S h
    unfold f_X_way
    simp only [twoFriendsNo_e, bn_s, bn_eta, h.1.1.1]
  · intro s S h
    show f_R_way s a b = _
    rw [Rn_way, h.1.1.1]
  · intro s S h e
    have hn := h.2.1.1
    obtain ⟨p, q, hp, hq, hne, rfl, rfl⟩ := twN_0 (by omega) e
    refine ⟨s, ?_, FrQX.rf⟩
    show f_C_givings s 0 (nI p) (nI q) = _
    rw [givings_e h.1 h.2.1 hp hq, ix_nI (by omega), ix_nI (by omega)]
  · intro s S ho h e
    have hn := ho.1.1
    obtain ⟨p, q, hp, hq, hne, rfl, rfl⟩ := twN_0 (by omega) e
    refine ⟨s, ?_, h.1, FrQR.rf⟩
    show f_R_wayTo s (nI p) (nI q) = _
    rw [wayTo_e h.1 ho.1 hp hq, ix_nI (by omega), ix_nI (by omega)]
def pCir (V : CV) (j : Nat) : Bool := (wayS V.2.2.2.1 j V.1 1 j).isSome
theorem op_circles : OpI (fun s => f_X_circles s) (fun s => f_R_circles s) := by
  refine OpI.q0 (fun S => nI (cnt (pCir S.1) S.1.1)) ?_ ?_
  · intro s S h
    have hv := h.2.1
    have hn := hv.1
    unfold f_X_circles f_C_comingAgain
    simp only [bn_eta]
    refine lp (fun n i (x : Int32) => k_C_comingAgain_4 n 0 x (nI i) s) (fun i x => x = nI (cnt (pCir S.1) i)) (fun r => ∃ s', r = some (nI (cnt (pCir S.1) S.1.1), s') ∧ FrQX s s') S.1.1 ?_ ?_ KF 0 0 (by omega) (by rw [KF_1]; omega) rfl
    · intro n x e1
      unfold k_C_comingAgain_4
      rw [h.1.1.1, if_pos (nI_le (Nat.le_refl _) (by omega)), e1]
      exact ⟨s, rfl, FrQX.rf⟩
    · intro n i x hi e1 ih
      unfold k_C_comingAgain_4
      rw [h.1.1.1, if_neg (nI_ge hi (by omega)), givings_e h.1 hv hi hi, bn_s, nI_1]
      cases hw : wayS S.1.2.2.2.1 i S.1.1 1 i with
      | none =>
        rw [if_pos (show wayI none = -9 from rfl)]
        exact ih x (by rw [cnt_n (by unfold pCir; rw [hw]; rfl)]; exact e1)
      | some m =>
        have := wayS_c _ _ _ _ hw
        rw [if_neg (show ¬ wayI (some m) = -9 from m9_ne (by omega)), e1, nI_1]
        exact ih _ (by rw [cnt_s (by unfold pCir; rw [hw]; rfl)])
  · intro s S ho h
    have hv := ho.1
    have hn := hv.1
    unfold f_R_circles
    refine lp (fun n i (x : Int32) => k_R_circles_4 n x (nI i) s) (fun i x => x = nI (cnt (pCir S.1) i)) (fun r => ∃ s', r = some (nI (cnt (pCir S.1) S.1.1), s') ∧ RV s' S.1 ∧ FrQR s s') S.1.1 ?_ ?_ KF 0 0 (by omega) (by rw [KF_1]; omega) rfl
    · intro n x e1
      unfold k_R_circles_4
      rw [h.1.1.1, if_pos (nI_le (Nat.le_refl _) (by omega)), e1]
      exact ⟨s, rfl, h.1, FrQR.rf⟩
    · intro n i x hi e1 ih
      unfold k_R_circles_4
      rw [h.1.1.1, if_neg (nI_ge hi (by omega)), wayTo_e h.1 hv hi hi, bn_s, nI_1]
      cases hw : wayS S.1.2.2.2.1 i S.1.1 1 i with
      | none =>
        rw [if_pos (show wayI none ≤ 0 from by decide), nm_s, Int32.add_zero]
        exact ih x (by rw [cnt_n (by unfold pCir; rw [hw]; rfl)]; exact e1)
      | some m =>
        have := wayS_c _ _ _ _ hw
        rw [if_neg (show ¬ wayI (some m) ≤ 0 from nI_nle (by omega) (by omega)), nm_s, e1, nI_1]
        exact ih _ (by rw [cnt_s (by unfold pCir; rw [hw]; rfl)])
