/-! NEXTS -/
def tuN (V : CV) (p : Nat) (b : Int32) : Int32 := if fN (V.2.2.2.1 p) = b then -1 else b
theorem op_nexts (a b : Int32) : OpI (fun s => f_X_nexts s a b) (fun s => f_R_nexts s a b) := by
  refine OpI.m (mx' := fun s => bv (f_P_remember s 0) fun s6 => f_C_turnNext s6 0 a b) (mr := fun s => bv (f_R_keepsBack s) fun s6 => bv (f_R_turnsNext s6 a b) fun s8 => gd a 6 <| if (s8 181 a.toNatClampNeg) = b then some (1, s8) else some (0, s8)) (fun S => twN (nI S.1.1) a b) (fun S => if fN (S.1.2.2.2.1 (ix a)) = b then 0 else 1) (fun S => aft S (VxN S.1 (ix a) (tuN S.1 (ix a) b))) (fun S => Codes.t _ _ _) ?_ ?_ ?_ ?_
  · intro s S h
    unfold f_X_nexts
    simp only [twoFriendsNo_e, bn_s, h.1.1.1, bn_eta]
  · intro s S ho h
    show f_R_nexts s a b = _
    unfold f_R_nexts
    simp only [areTwo_e, bn_s, bn_eta, h.1.1.1]
    by_cases c : twN (nI S.1.1) a b = 0
    · simp [c]
    · simp [twN_m1 c]
  · intro s S h e
    have hv := h.2.1
    have hn := hv.1
    obtain ⟨p, q, hp, hq, hne, rfl, rfl⟩ := twN_0 (by omega) e
    obtain ⟨s1, a1, a2, a3⟩ := remember_e h
    have h1 : HC s1 0 S.1 := a2.1
    have hb := h1.1.at hp
    rw [ix_nI (by omega)]
    have key : ∀ x, x = -1 ∨ (∃ r, r < S.1.1 ∧ r ≠ p ∧ x = nI r) → XI (mU s1 (33 + 7 * 0 + p) 3 x) (aft S (VxN S.1 p x)) ∧ EqR s (mU s1 (33 + 7 * 0 + p) 3 x) := fun x hx => by
      obtain ⟨c1, c2⟩ := set0 (j := 3) (x := x) (f := (fK (S.1.2.2.2.1 p), fI (S.1.2.2.2.1 p), fD (S.1.2.2.2.1 p), x, fT (S.1.2.2.2.1 p))) h1 hv hp (Or.inr rfl) (by simp [fRow, mU_get, hb.1, hb.2.1, hb.2.2.1, hb.2.2.2.2]) rfl rfl
      exact ⟨a2.now c2 c1 (VxN.ok hv hp hx), fun z j hz => by rw [c2 z j (by unfold own; omega)]; exact a3 z j hz⟩
    show ∃ s', (bv (f_P_remember s 0) fun s6 => f_C_turnNext s6 0 (nI p) (nI q)) = _ ∧ _
    unfold f_C_turnNext k_C_turnNext_19 tuN
    rw [a1, bv_s, friendAt_e (by omega), bn_s, hb.2.2.2.1]
    by_cases c : fN (S.1.2.2.2.1 p) = nI q
    · rw [if_pos c, if_neg (show ¬ (1 : Int32) = 0 by decide), nm_s, if_neg (show ¬ (1 : Int32) = 0 by decide), if_pos c, if_pos c]
      obtain ⟨k1, k2⟩ := key (-1) (Or.inl rfl)
      exact ⟨_, rfl, k1, k2⟩
    · rw [if_neg c, if_pos (show (0 : Int32) = 0 from rfl), nm_s, if_pos (show (0 : Int32) = 0 from rfl), if_neg c, if_neg c]
      obtain ⟨k1, k2⟩ := key (nI q) (Or.inr ⟨q, hq, Ne.symm hne, rfl⟩)
      exact ⟨_, rfl, k1, k2⟩
  · intro s S ho h e
    have hv := ho.1
    have hn := hv.1
    obtain ⟨p, q, hp, hq, hne, rfl, rfl⟩ := twN_0 (by omega) e
    obtain ⟨s1, a1, a2, a3⟩ := keepsBack_e h ho
    have h1 : RV s1 S.1 := a2.1
    rw [ix_nI (by omega)]
    have key : ∀ v x, v = nx x → RI (mU s1 181 p v) (aft S (VxN S.1 p x)) ∧ EqX s (mU s1 181 p v) := fun v x hx => by
      have h2 := VxN.up hp s1 _ v x hx (show RV s1 (VxN S.1 p (fN (S.1.2.2.2.1 p))) by rw [VxN.id]; exact h1)
      exact ⟨a2.now ho.pushed h2 (fun z j y1 y2 => by rw [mU_get, if_neg (by omega)]), fun z j hz => by rw [mU_get, if_neg (by omega)]; exact a3 z j hz⟩
    have gg : ∀ v, mU s1 181 p v 181 p = v := fun v => by rw [mU_get, if_pos ⟨rfl, rfl⟩]
    have hnx : (nx (fN (S.1.2.2.2.1 p)) = nI q) = (fN (S.1.2.2.2.1 p) = nI q) := by
      unfold nx
      by_cases c : fN (S.1.2.2.2.1 p) = -1
      · rw [if_pos c, c]
        exact propext ⟨fun z => absurd z.symm (m9_ne (by omega)), fun z => absurd z.symm (m1_ne (by omega))⟩
      · rw [if_neg c]
    show ∃ s', (bv (f_R_keepsBack s) fun s6 => _) = _ ∧ _
    unfold f_R_turnsNext tuN
    simp only [a1, bv_s, gd_n (show p < 6 by omega) (show 6 < 2 ^ 31 by omega), nI_clamp (show p < 2 ^ 31 by omega), nm_s, (h1.1.2 p hp).2.2.2.1, hnx]
    by_cases c : fN (S.1.2.2.2.1 p) = nI q
    · rw [if_pos c, if_pos c, if_pos c, bv_s, gg, if_neg (show ¬ (-9 : Int32) = nI q from fun z => m9_ne (by omega) z.symm)]
      obtain ⟨k1, k2⟩ := key (-9) (-1) nx_m1
      exact ⟨_, rfl, k1, k2⟩
    · rw [if_neg c, if_neg c, if_neg c, bv_s, gg, if_pos rfl]
      obtain ⟨k1, k2⟩ := key (nI q) (nI q) (nx_nI (by omega))
      exact ⟨_, rfl, k1, k2⟩
