/-! HANDS -/
theorem put0 {s : Mm} {V : CV} {k : Nat} {g : GV} {s' : Mm} (h : HC s 0 V) (hv : VOk V) (hk : k < V.2.1) (he : ∀ q j, q ≠ 110 + 5 * 0 + k → s' q j = s q j) (hg : gRow s' (110 + 5 * 0 + k) = g) : HC s' 0 (V.1, V.2.1, V.2.2.1, V.2.2.2.1, upG V.2.2.2.2 k g) ∧ ∀ z i, ¬ own 0 z → s' z i = s z i := by
  have hm := hv.2.1
  exact ⟨⟨h.1.o hv.1 (by omega) (fun q j hq => he q j (by omega)), h.2.1.up (by omega) hm (by omega) he hg, by rw [he _ _ (by omega)]; exact h.2.2⟩, fun z i hz => he z i (fun y => hz (y ▸ ownG (c := 0) (by omega)))⟩
def noHands (a b : Int32) (S : SV) : Int32 := fst3 (gNo (nI S.1.2.1) a) (gNo (nI S.1.1) b) 0
def goV (V : CV) (k : Nat) (p : Int32) : CV := (V.1, V.2.1, V.2.2.1, V.2.2.2.1, upG V.2.2.2.2 k (goG p (V.2.2.2.2 k)))
theorem op_hands (a b : Int32) : OpI (fun s => f_X_hands s a b) (fun s => f_R_hands s a b) := by
  refine OpI.m (mx' := fun s => bv (f_P_remember s 0) fun s12 => bn (f_C_giftAt s12 0 a) fun x15 s14 => nm (s14 x15 2) fun x16 => bv (f_G_goTo s14 x15 b) fun s19 => some (x16, s19)) (mr := fun s => bv (f_R_keepsBack s) fun s13 => gd a 4 <| nm (s13 184 a.toNatClampNeg) fun x15 => bv (f_R_puts s13 a b) fun s18 => some (x15, s18)) (noHands a b) (fun S => gH (S.1.2.2.2.2 (ix a))) (fun S => aft S (goV S.1 (ix a) b)) (fun S => Codes.fst (Codes.g _ _) (Codes.g _ _) Codes.z) ?_ ?_ ?_ ?_
  · intro s S h
    unfold f_X_hands
    simp only [giftNo_e, friendNo_e, bn_s, first_e, h.1.1.1, h.1.2.1.1, bn_eta]
    rfl
  · intro s S ho h
    show f_R_hands s a b = _
    unfold f_R_hands noHands
    simp only [isGift_e, isFriend_e, bn_s, bn_eta, h.1.1.1, h.1.2.1.1]
    unfold gNo fst3
    by_cases c1 : inN (nI S.1.2.1) a = 0
    · simp [c1]
    · by_cases c2 : inN (nI S.1.1) b = 0
      · simp [c1, c2]
      · simp [c1, c2]
  · intro s S h e
    obtain ⟨e1, e2, e3⟩ := fst3_0 e
    have hv := h.2.1
    have hn := hv.1
    have hm := hv.2.1
    obtain ⟨k, hk, rfl⟩ := gNo_0 (by omega) e1
    obtain ⟨p, hp, rfl⟩ := gNo_0 (by omega) e2
    obtain ⟨s1, a1, a2, a3⟩ := remember_e h
    have h1 : HC s1 0 S.1 := a2.1
    have hb := h1.2.1.at hk
    rw [ix_nI (by omega)]
    show ∃ s', (bv (f_P_remember s 0) fun s12 => _) = _ ∧ _
    rw [a1, bv_s, giftAt_e (by omega), bn_s, nm_s, goTo_e, bv_s, show s1 (110 + 5 * 0 + k) 2 = gH (S.1.2.2.2.2 k) from hb.2.2.1]
    obtain ⟨a4, ea⟩ : ∃ a4, a4 = mU (mU (mU s1 (110 + 5 * 0 + k) 2 (nI p)) (110 + 5 * 0 + k) 3 0) (110 + 5 * 0 + k) 4 0 := ⟨_, rfl⟩
    rw [← ea]
    obtain ⟨c1, c2⟩ := put0 (s' := a4) (g := goG (nI p) (S.1.2.2.2.2 k)) h1 hv hk (fun q j hq => by rw [ea]; simp [mU_get, hq]) (by rw [ea]; simp [gRow, mU_get, goG, hb.1, hb.2.1, hb.2.2.2.2.2])
    exact ⟨a4, rfl, a2.now c2 c1 (hv.gUp ((hv.G k hk).go hp)), fun z j hz => by rw [c2 z j (by unfold own; omega)]; exact a3 z j hz⟩
  · intro s S ho h e
    obtain ⟨e1, e2, e3⟩ := fst3_0 e
    have hv := ho.1
    have hn := hv.1
    have hm := hv.2.1
    obtain ⟨k, hk, rfl⟩ := gNo_0 (by omega) e1
    obtain ⟨s1, a1, a2, a3⟩ := keepsBack_e h ho
    have h1 : RV s1 S.1 := a2.1
    rw [ix_nI (by omega)]
    show ∃ s', (bv (f_R_keepsBack s) fun s13 => _) = _ ∧ _
    rw [a1, bv_s, gd_n (show k < 4 by omega) (by omega), nm_s, nI_clamp (by omega), (h1.2.1.at hk).2.2.1]
    obtain ⟨a4, ea⟩ : ∃ a4, a4 = mU (mU (mU s1 184 k b) 185 k 0) 186 k 0 := ⟨_, rfl⟩
    obtain ⟨a5, c1, c2, c3⟩ := putsV_e (p := b) h1 hk hm
    have hp := puts_e (s := s1) (show k < 4 by omega) b
    rw [c1, ← ea] at hp
    have hp := Option.some.inj hp
    rw [c1, bv_s]
    have o : ∀ z j, ¬ (178 ≤ z ∧ z ≤ 188) → a5 z j = s1 z j := fun z j hz => by rw [hp, ea]; simp only [mU_get]; rw [if_neg (by omega), if_neg (by omega), if_neg (by omega)]
    exact ⟨a5, rfl, a2.now ho.pushed c2 (fun z j y1 _ => o z j y1), fun z j hz => by rw [o z j (by omega)]; exact a3 z j hz⟩
