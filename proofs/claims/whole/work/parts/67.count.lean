/-! COUNT -/
def vCnt (a : Int32) (S : SV) : Int32 := if a = 0 then nI S.1.1 else if a = 1 then nI S.1.2.1 else if a = 2 then S.1.2.2.1 else if a = 3 then sm S.1.2.1 (fun k => gW (S.1.2.2.2.2 k)) else if a = 4 then sm S.1.2.1 (fun k => gZ' (S.1.2.2.2.2 k)) else if a = 5 then sm S.1.2.1 (fun k => gP (S.1.2.2.2.2 k)) else if a = 6 then nI S.2.2.2.1.1 else if a = 7 then nI S.2.2.2.2.1.1 else if a = 8 then nI S.2.2.1.1 else -9
def vCount (a : Int32) (S : SV) : Int32 := if a < 11 then vCnt a S else if 16 < a then vCnt a S else S.2.2.2.2.2 (ix (a - 10))
theorem cntX_e {s : Mm} {S : SV} (a : Int32) (h : XI s S) : k_X_count_24 a s = some (vCnt a S, s) := by
  have hm := h.2.1.2.1
  obtain ⟨st, -, -, -, h3, -⟩ := h.2.2.2.1
  have h5 := h.2.2.2.2.1.2.1
  have h6 := h.2.2.2.2.2.1.2.1
  unfold k_X_count_24 vCnt
  rw [h.1.1.1, h.1.2.1.1, h.1.2.2, allWorth_e h.1.2.1 hm, bn_s, allSize_e h.1.2.1 hm, bn_s, allHands_e h.1.2.1 hm, bn_s, h3, h5, h6]
  by_cases c0 : a = 0
  · rw [if_pos c0, if_pos c0]
  rw [if_neg c0, if_neg c0]
  by_cases c1 : a = 1
  · rw [if_pos c1, if_pos c1]
  rw [if_neg c1, if_neg c1]
  by_cases c2 : a = 2
  · rw [if_pos c2, if_pos c2]
  rw [if_neg c2, if_neg c2]
  by_cases c3 : a = 3
  · rw [if_pos c3, if_pos c3]
  rw [if_neg c3, if_neg c3]
  by_cases c4 : a = 4
  · rw [if_pos c4, if_pos c4]
  rw [if_neg c4, if_neg c4]
  by_cases c5 : a = 5
  · rw [if_pos c5, if_pos c5]
  rw [if_neg c5, if_neg c5]
  by_cases c6 : a = 6
  · rw [if_pos c6, if_pos c6]
  rw [if_neg c6, if_neg c6]
  by_cases c7 : a = 7
  · rw [if_pos c7, if_pos c7]
  rw [if_neg c7, if_neg c7]
  by_cases c8 : a = 8
  · rw [if_pos c8, if_pos c8]
  rw [if_neg c8, if_neg c8]
theorem in16 {a : Int32} (h1 : ¬ a < 11) (h2 : ¬ 16 < a) : ∃ k, k < 7 ∧ a - 10 = nI k := by
  have e11 : (11 : Int32).toInt = 11 := rfl
  have e16 : (16 : Int32).toInt = 16 := rfl
  rw [i32_lt, e11] at h1
  rw [i32_lt, e16] at h2
  obtain ⟨k, rfl, -, hk⟩ := i32_nI (x := a) (by omega)
  exact ⟨k - 10, by omega, pk_sub (a := k) (b := 10) (by omega)⟩
theorem op_count (a : Int32) : OpI (fun s => f_X_count s a) (fun s => f_R_count s a) := by
  refine OpI.q0 (vCount a) ?_ ?_
  · intro s S h
    refine ⟨s, ?_, FrQX.rf⟩
    unfold f_X_count vCount
    by_cases c1 : a < 11
    · rw [if_pos c1, if_pos c1, cntX_e a h]
    · rw [if_neg c1, if_neg c1]
      by_cases c2 : 16 < a
      · rw [if_pos c2, if_pos c2, cntX_e a h]
      · rw [if_neg c2, if_neg c2]
        obtain ⟨k, hk, e⟩ := in16 c1 c2
        rw [e, cellOf_e (o := 166) hk (by decide), bn_s, h.2.2.2.2.2.2 k hk, ix_nI (by omega)]
  · intro s S ho h
    refine ⟨s, ?_, h.1, FrQR.rf⟩
    have hm := ho.1.2.1
    have key : isI a 11 16 = 0 → f_R_count s a = some (vCnt a S, s) := by
      intro c
      unfold f_R_count vCnt
      rw [isIn_e, bn_s, if_pos c, h.1.1.1, RsumW_e h.1.2.1 hm, bn_s, RsumZ_e h.1.2.1 hm, bn_s, RsumP_e h.1.2.1 hm, bn_s, h.1.2.1.1, h.1.2.2, h.2.2.2.2.1.1, h.2.2.2.2.2.1.1, h.2.2.2.1.1]
      by_cases c0 : a = 0
      · rw [if_pos c0, if_pos c0]
      rw [if_neg c0, if_neg c0]
      by_cases c1 : a = 1
      · rw [if_pos c1, if_pos c1]
      rw [if_neg c1, if_neg c1]
      by_cases c2 : a = 2
      · rw [if_pos c2, if_pos c2]
      rw [if_neg c2, if_neg c2]
      by_cases c3 : a = 3
      · rw [if_pos c3, if_pos c3]
      rw [if_neg c3, if_neg c3]
      by_cases c4 : a = 4
      · rw [if_pos c4, if_pos c4]
      rw [if_neg c4, if_neg c4]
      by_cases c5 : a = 5
      · rw [if_pos c5, if_pos c5]
      rw [if_neg c5, if_neg c5]
      by_cases c6 : a = 6
      · rw [if_pos c6, if_pos c6]
      rw [if_neg c6, if_neg c6]
      by_cases c7 : a = 7
      · rw [if_pos c7, if_pos c7]
      rw [if_neg c7, if_neg c7]
      by_cases c8 : a = 8
      · rw [if_pos c8, if_pos c8]
      rw [if_neg c8, if_neg c8]
    unfold vCount
    by_cases c1 : a < 11
    · rw [if_pos c1, key (by unfold isI; rw [if_pos c1])]
    · rw [if_neg c1]
      by_cases c2 : 16 < a
      · rw [if_pos c2, key (by unfold isI; rw [if_neg c1, if_pos c2])]
      · rw [if_neg c2]
        obtain ⟨k, hk, e⟩ := in16 c1 c2
        unfold f_R_count
        rw [isIn_e, bn_s, if_neg (show ¬ isI a 11 16 = 0 from by unfold isI; rw [if_neg c1, if_neg c2]; decide), e, gd_n hk (by omega), nI_clamp (by omega), h.2.2.2.2.2.2 k hk, ix_nI (by omega)]
