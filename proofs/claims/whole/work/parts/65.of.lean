/-! FRIEND_OF, GIFT_OF, ROW -/
theorem swT : ∀ k : Fin 6, ∀ j : Fin 10, hld (swK (nI k.val) (nI j.val)) 0 99 = mx 0 (swK (nI k.val) (nI j.val)) := by decide +kernel
theorem sw_hld {nF k : Nat} {f : FV} (h : FO nF k f) : hld (swK (fK f) (fI f)) 0 99 = mx 0 (swK (fK f) (fI f)) := by
  obtain ⟨a, ea, -, ha⟩ := i32_nI h.1.1
  obtain ⟨b, eb, -, hb⟩ := i32_nI h.2.1.1
  have h1 := h.1.2
  have h2 := h.2.1.2
  rw [ea, eb]
  exact swT ⟨a, by omega⟩ ⟨b, by omega⟩
theorem Rn_friendOf (s : Mm) (a w : Int32) : f_R_friendOf s a w = if fst3 (gNo (s 176 11) a) (wNo w 7) 0 = 0 then f_R_friendOf s a w else f_R_no s (fst3 (gNo (s 176 11) a) (wNo w 7) 0) := by
  by_cases e : fst3 (gNo (s 176 11) a) (wNo w 7) 0 = 0
  · rw [if_pos e]
  · rw [if_neg e]
    unfold f_R_friendOf
    rw [isFriend_e, bn_s]
    unfold gNo at e ⊢
    by_cases c : inN (s 176 11) a = 0
    · rw [if_pos c, bn_eta]
      unfold fst3
      rw [if_pos c, if_neg (show ¬ (-1 : Int32) = 0 by decide)]
    · rw [if_neg c] at e ⊢
      rw [if_neg c]
      have hw : ¬ wNo w 7 = 0 := fun z => e (by unfold fst3; rw [if_pos rfl, if_pos z])
      have hk : ∀ k, k ≤ 7 → ¬ w = nI k := fun k hk z => hw (by
        rw [z]
        unfold wNo
        rw [if_neg (nI_pos (by omega)), if_neg (show ¬ (7 : Int32) < nI k from nI_nlt (a := 7) (b := k) (by omega) (by omega))])
      rw [if_neg (show ¬ w = 0 from hk 0 (by omega)), if_neg (show ¬ w = 1 from hk 1 (by omega)), if_neg (show ¬ w = 2 from hk 2 (by omega)), if_neg (show ¬ w = 3 from hk 3 (by omega)), if_neg (show ¬ w = 4 from hk 4 (by omega)), if_neg (show ¬ w = 5 from hk 5 (by omega)), if_neg (show ¬ w = 6 from hk 6 (by omega)), if_neg (show ¬ w = 7 from hk 7 (by omega)), bn_eta]
      unfold fst3
      rw [if_pos rfl, if_neg hw, wNo_m2 hw]
theorem Rn_giftOf (s : Mm) (a w : Int32) : f_R_giftOf s a w = if fst3 (gNo (s 176 12) a) (wNo w 5) 0 = 0 then f_R_giftOf s a w else f_R_no s (fst3 (gNo (s 176 12) a) (wNo w 5) 0) := by
  by_cases e : fst3 (gNo (s 176 12) a) (wNo w 5) 0 = 0
  · rw [if_pos e]
  · rw [if_neg e]
    unfold f_R_giftOf
    rw [isGift_e, bn_s]
    unfold gNo at e ⊢
    by_cases c : inN (s 176 12) a = 0
    · rw [if_pos c, bn_eta]
      unfold fst3
      rw [if_pos c, if_neg (show ¬ (-1 : Int32) = 0 by decide)]
    · rw [if_neg c] at e ⊢
      rw [if_neg c]
      have hw : ¬ wNo w 5 = 0 := fun z => e (by unfold fst3; rw [if_pos rfl, if_pos z])
      have hk : ∀ k, k ≤ 5 → ¬ w = nI k := fun k hk z => hw (by
        rw [z]
        unfold wNo
        rw [if_neg (nI_pos (by omega)), if_neg (show ¬ (5 : Int32) < nI k from nI_nlt (a := 5) (b := k) (by omega) (by omega))])
      rw [if_neg (show ¬ w = 0 from hk 0 (by omega)), if_neg (show ¬ w = 1 from hk 1 (by omega)), if_neg (show ¬ w = 2 from hk 2 (by omega)), if_neg (show ¬ w = 3 from hk 3 (by omega)), if_neg (show ¬ w = 4 from hk 4 (by omega)), if_neg (show ¬ w = 5 from hk 5 (by omega)), bn_eta]
      unfold fst3
      rw [if_pos rfl, if_neg hw, wNo_m2 hw]
def vFO (a w : Int32) (S : SV) : Int32 := if w = 7 then sm S.1.2.1 (fun k => hold1 a (S.1.2.2.2.2 k)) else if w = 0 then fK (S.1.2.2.2.1 (ix a)) else if w = 1 then fI (S.1.2.2.2.1 (ix a)) else if w = 2 then fD (S.1.2.2.2.1 (ix a)) else if w = 3 then nx (fN (S.1.2.2.2.1 (ix a))) else if w = 4 then wtK (fK (S.1.2.2.2.1 (ix a))) (fI (S.1.2.2.2.1 (ix a))) else if w = 5 then adK (fK (S.1.2.2.2.1 (ix a))) (fI (S.1.2.2.2.1 (ix a))) else mx 0 (swK (fK (S.1.2.2.2.1 (ix a))) (fI (S.1.2.2.2.1 (ix a))))
theorem op_friendOf (a w : Int32) : OpI (fun s => f_X_friendOf s a w) (fun s => f_R_friendOf s a w) := by
  refine OpI.q2 (mx' := fun s => if w = 7 then f_C_holdsOf s 0 a else bn (f_C_friendAt s 0 a) fun x14 s13 => f_F_tell s13 x14 w) (mr := fun s => f_R_friendOf s a w) (noFW 7 a w) (vFO a w) (fun S => Codes.fst (Codes.g _ _) (Codes.w _ _) Codes.z) ?_ ?_ ?_ ?_
  · intro s S h
    unfold f_X_friendOf
    simp only [friendNo_e, bn_s, whatNo_e, first_e, h.1.1.1, bn_eta]
    rfl
  · intro s S h
    show f_R_friendOf s a w = _
    refine (Rn_friendOf s a w).trans ?_
    rw [h.1.1.1]
    rfl
  · intro s S h e
    obtain ⟨e1, e2, e3⟩ := fst3_0 e
    have hv := h.2.1
    have hn := hv.1
    obtain ⟨p, hp, rfl⟩ := gNo_0 (by omega) e1
    refine ⟨s, ?_, FrQX.rf⟩
    unfold vFO
    have hf := h.1.1.2 p hp
    have hb := h.1.1.at hp
    simp only [ix_nI (show p < 2 ^ 31 by omega), holdsOf_e h.1.2.1 hv.2.1, friendAt_e (show p < 6 by omega), bn_s]
    by_cases c7 : w = 7
    · rw [if_pos c7, if_pos c7]
    · rw [if_neg c7, if_neg c7]
      unfold f_F_tell
      rw [hb.1, hb.2.1, hb.2.2.1, hb.2.2.2.1, hf.2.1, hf.2.2.1, hf.2.2.2]
      unfold nx
      by_cases c0 : w = 0
      · rw [if_pos c0, if_pos c0]
      rw [if_neg c0, if_neg c0]
      by_cases c1 : w = 1
      · rw [if_pos c1, if_pos c1]
      rw [if_neg c1, if_neg c1]
      by_cases c2 : w = 2
      · rw [if_pos c2, if_pos c2]
      rw [if_neg c2, if_neg c2]
      by_cases c3 : w = 3
      · rw [if_pos c3, if_pos c3]
        by_cases d : fN (S.1.2.2.2.1 p) = -1
        · rw [if_pos d, if_pos d]
        · rw [if_neg d, if_neg d]
      rw [if_neg c3, if_neg c3]
      by_cases c4 : w = 4
      · rw [if_pos c4, if_pos c4]
      rw [if_neg c4, if_neg c4]
      by_cases c5 : w = 5
      · rw [if_pos c5, if_pos c5]
      rw [if_neg c5, if_neg c5]
  · intro s S ho h e
    obtain ⟨e1, e2, e3⟩ := fst3_0 e
    have hv := ho.1
    have hn := hv.1
    obtain ⟨p, hp, rfl⟩ := gNo_0 (by omega) e1
    obtain ⟨k, hk, rfl⟩ := wNo_0 (m := 7) (by omega) e2
    refine ⟨s, ?_, h.1, FrQR.rf⟩
    have hf := h.1.1.2 p hp
    unfold vFO f_R_friendOf
    rw [isFriend_e, bn_s, h.1.1.1, inN_nI hp (by omega), if_neg (by decide), ix_nI (by omega)]
    simp only [gd_n (show p < 6 by omega) (show 6 < 2 ^ 31 by omega), nI_clamp (show p < 2 ^ 31 by omega), hf.1, hf.2.1, hf.2.2.1, hf.2.2.2.1, RwaitsOf_e (show p < 6 by omega), RaddsOf_e (show p < 6 by omega), RswellsOf_e (show p < 6 by omega), bn_s, held_e, Rholds_e h.1.2.1 hv.2.1, sw_hld (hv.F hp)]
    by_cases c7 : nI k = 7
    · rw [c7, if_neg (by decide), if_neg (by decide), if_neg (by decide), if_neg (by decide), if_neg (by decide), if_neg (by decide), if_neg (by decide), if_pos rfl, if_pos rfl]
    rw [if_neg c7, if_neg c7]
    by_cases c0 : nI k = 0
    · rw [if_pos c0, if_pos c0]
    rw [if_neg c0, if_neg c0]
    by_cases c1 : nI k = 1
    · rw [if_pos c1, if_pos c1]
    rw [if_neg c1, if_neg c1]
    by_cases c2 : nI k = 2
    · rw [if_pos c2, if_pos c2]
    rw [if_neg c2, if_neg c2]
    by_cases c3 : nI k = 3
    · rw [if_pos c3, if_pos c3]
    rw [if_neg c3, if_neg c3]
    by_cases c4 : nI k = 4
    · rw [if_pos c4, if_pos c4]
    rw [if_neg c4, if_neg c4]
    by_cases c5 : nI k = 5
    · rw [if_pos c5, if_pos c5]
    rw [if_neg c5, if_neg c5]
    have c6 : nI k = 6 := by
      rcases (show k = 0 ∨ k = 1 ∨ k = 2 ∨ k = 3 ∨ k = 4 ∨ k = 5 ∨ k = 6 ∨ k = 7 by omega) with rfl | rfl | rfl | rfl | rfl | rfl | rfl | rfl
      · exact absurd rfl c0
      · exact absurd rfl c1
      · exact absurd rfl c2
      · exact absurd rfl c3
      · exact absurd rfl c4
      · exact absurd rfl c5
      · rfl
      · exact absurd rfl c7
    rw [if_pos c6]
theorem op_giftOf (a w : Int32) : OpI (fun s => f_X_giftOf s a w) (fun s => f_R_giftOf s a w) := by
  refine OpI.q2 (mx' := fun s => bn (f_C_giftAt s 0 a) fun x14 s13 => f_G_tell s13 x14 w) (mr := fun s => f_R_giftOf s a w) (noGW 5 a w) (fun S => if w = 0 then gW (S.1.2.2.2.2 (ix a)) else if w = 1 then gZ' (S.1.2.2.2.2 (ix a)) else if w = 2 then gH (S.1.2.2.2.2 (ix a)) else if w = 3 then gK (S.1.2.2.2.2 (ix a)) else if w = 4 then gB (S.1.2.2.2.2 (ix a)) else gP (S.1.2.2.2.2 (ix a))) (fun S => Codes.fst (Codes.g _ _) (Codes.w _ _) Codes.z) ?_ ?_ ?_ ?_
  · intro s S h
    unfold f_X_giftOf
    simp only [giftNo_e, bn_s, whatNo_e, first_e, h.1.2.1.1, bn_eta]
    rfl
  · intro s S h
    show f_R_giftOf s a w = _
    refine (Rn_giftOf s a w).trans ?_
    rw [h.1.2.1.1]
    rfl
  · intro s S h e
    obtain ⟨e1, e2, e3⟩ := fst3_0 e
    have hv := h.2.1
    have hm := hv.2.1
    obtain ⟨p, hp, rfl⟩ := gNo_0 (by omega) e1
    refine ⟨s, ?_, FrQX.rf⟩
    have hb := h.1.2.1.at hp
    simp only [ix_nI (show p < 2 ^ 31 by omega), giftAt_e (show p < 4 by omega), bn_s]
    unfold f_G_tell
    rw [hb.1, hb.2.1, hb.2.2.1, hb.2.2.2.1, hb.2.2.2.2.1, hb.2.2.2.2.2]
    by_cases c0 : w = 0
    · rw [if_pos c0, if_pos c0]
    rw [if_neg c0, if_neg c0]
    by_cases c1 : w = 1
    · rw [if_pos c1, if_pos c1]
    rw [if_neg c1, if_neg c1]
    by_cases c2 : w = 2
    · rw [if_pos c2, if_pos c2]
    rw [if_neg c2, if_neg c2]
    by_cases c3 : w = 3
    · rw [if_pos c3, if_pos c3]
    rw [if_neg c3, if_neg c3]
    by_cases c4 : w = 4
    · rw [if_pos c4, if_pos c4]
      rcases (hv.G p hp).1.2 with d | d
      · rw [d, if_pos rfl]
      · rw [d, if_neg (by decide)]
    rw [if_neg c4, if_neg c4]
  · intro s S ho h e
    obtain ⟨e1, e2, e3⟩ := fst3_0 e
    have hv := ho.1
    have hm := hv.2.1
    obtain ⟨p, hp, rfl⟩ := gNo_0 (by omega) e1
    obtain ⟨k, hk, rfl⟩ := wNo_0 (m := 5) (by omega) e2
    refine ⟨s, ?_, h.1, FrQR.rf⟩
    have hb := h.1.2.1.at hp
    show f_R_giftOf s (nI p) (nI k) = _
    unfold f_R_giftOf
    rw [isGift_e, bn_s, h.1.2.1.1, inN_nI hp (by omega), if_neg (by decide), ix_nI (by omega)]
    simp only [gd_n (show p < 4 by omega) (show 4 < 2 ^ 31 by omega), nI_clamp (show p < 2 ^ 31 by omega), hb.1, hb.2.1, hb.2.2.1, hb.2.2.2.1, hb.2.2.2.2.1, hb.2.2.2.2.2]
    by_cases c0 : nI k = 0
    · rw [if_pos c0, if_pos c0]
    rw [if_neg c0, if_neg c0]
    by_cases c1 : nI k = 1
    · rw [if_pos c1, if_pos c1]
    rw [if_neg c1, if_neg c1]
    by_cases c2 : nI k = 2
    · rw [if_pos c2, if_pos c2]
    rw [if_neg c2, if_neg c2]
    by_cases c3 : nI k = 3
    · rw [if_pos c3, if_pos c3]
    rw [if_neg c3, if_neg c3]
    by_cases c4 : nI k = 4
    · rw [if_pos c4, if_pos c4]
    rw [if_neg c4, if_neg c4]
    have c5 : nI k = 5 := by
      rcases (show k = 0 ∨ k = 1 ∨ k = 2 ∨ k = 3 ∨ k = 4 ∨ k = 5 by omega) with rfl | rfl | rfl | rfl | rfl | rfl
      · exact absurd rfl c0
      · exact absurd rfl c1
      · exact absurd rfl c2
      · exact absurd rfl c3
      · exact absurd rfl c4
      · rfl
    rw [if_pos c5]
