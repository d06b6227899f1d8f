/-! thinking and forgetting; sums over the reference's gifts -/
def FrW (lo hi : Nat) (s s' : Mm) : Prop := (∀ j, ¬ (lo ≤ j ∧ j < hi) → s' 193 j = s 193 j) ∧ ∀ q j, q ≠ 193 → ¬ (178 ≤ q ∧ q ≤ 188) → ¬ (q = 176 ∧ (j = 11 ∨ j = 12 ∨ j = 13 ∨ j = 25 ∨ j = 26)) → s' q j = s q j
theorem FrW.rf {lo hi : Nat} {s : Mm} : FrW lo hi s s := ⟨fun _ _ => rfl, fun _ _ _ _ _ => rfl⟩
theorem FrW.tr {lo hi : Nat} {s s1 s2 : Mm} (h : FrW lo hi s s1) (h2 : FrW lo hi s1 s2) : FrW lo hi s s2 := ⟨fun j hj => (h2.1 j hj).trans (h.1 j hj), fun q j a b c => (h2.2 q j a b c).trans (h.2 q j a b c)⟩
theorem FrW.wid {lo hi lo' hi' : Nat} {s s' : Mm} (h : FrW lo hi s s') (h1 : lo' ≤ lo) (h2 : hi ≤ hi') : FrW lo' hi' s s' := ⟨fun j hj => h.1 j (by omega), h.2⟩
theorem FrT.w {lo hi : Nat} {s s' : Mm} (h : FrT s s') : FrW lo hi s s' := ⟨fun j _ => h _ _ (by omega) (by omega), fun q j a b c => h q j (by omega) (by omega)⟩
theorem FrK.w {w : Nat} {s s' : Mm} (h : FrK w s s') : FrW (51 * w) (51 * w + 51) s s' := ⟨h.1, fun q j a b c => h.2 q j a (by omega)⟩
theorem FrP.w {lo hi : Nat} {s s' : Mm} (h : FrP s s') : FrW lo hi s s' := ⟨fun j _ => h _ _ (by omega) (by omega), fun q j a b c => h q j (by omega) (by omega)⟩
theorem SB.w {s s' : Mm} {w lo hi : Nat} {V : CV} (h : SB s w V) (hn : V.1 ≤ 6) (hm : V.2.1 ≤ 4) (hf : FrW lo hi s s') (hd : 51 * w + 51 ≤ lo ∨ hi ≤ 51 * w) : SB s' w V := h.eq hn hm (fun j _ _ => hf.1 j (by omega))
theorem thinks_e {s : Mm} {V : CV} (h : RV s V) (hn : V.1 ≤ 6) (hm : V.2.1 ≤ 4) : ∃ s', f_R_thinks s = some s' ∧ RV s' V ∧ SB s' 2 V ∧ RBv s' V.1 (fun _ => 0) ∧ FrW 102 153 s s' := by
  obtain ⟨s1, h1, h2, h3, h4⟩ := keepAll_e (w := 2) h (by omega) hn hm
  unfold f_R_thinks
  rw [show (2 : Int32) = nI 2 from rfl, h1, bv_s]
  refine lp (fun n i a => k_R_thinks_8 n (nI i) a) (fun i a => (∀ k, k < i → a 188 k = 0) ∧ ∀ q j, q ≠ 188 → a q j = s1 q j) (fun r => ∃ s', r = some s' ∧ RV s' V ∧ SB s' 2 V ∧ RBv s' V.1 (fun _ => 0) ∧ FrW 102 153 s s') 6 ?_ ?_ KF 0 s1 (by omega) (by rw [KF_1]; omega) ⟨fun k hk => absurd hk (by omega), fun _ _ _ => rfl⟩
  · intro n a ⟨e1, e2⟩
    unfold k_R_thinks_8
    rw [if_pos (show (6 : Int32) ≤ nI 6 from nI_le (a := 6) (Nat.le_refl _) (by omega))]
    have ft : FrT s1 a := fun q j hq _ => e2 q j (by omega)
    refine ⟨a, rfl, ⟨h2.1.frT ft, h2.2.1.eq (e2 _ _ (by omega)) (fun k => ?_), by rw [e2 _ _ (by omega)]; exact h2.2.2⟩, h3.eq hn hm (fun j _ _ => e2 _ _ (by omega)), fun k hk => e1 k (by omega), (h4.w).tr ft.w⟩
    simp only [rRow, e2 182 k (by omega), e2 183 k (by omega), e2 184 k (by omega), e2 185 k (by omega), e2 186 k (by omega), e2 187 k (by omega)]
  · intro n i a hi ⟨e1, e2⟩ ih
    unfold k_R_thinks_8
    rw [if_neg (show ¬ (6 : Int32) ≤ nI i from nI_ge (b := 6) hi (by omega)), gd_n hi (by omega), nm_s, nI_1, nI_clamp (by omega)]
    refine ih _ ⟨fun k hk => ?_, fun q j hq => by rw [mU_get, if_neg (fun z => hq z.1)]; exact e2 q j hq⟩
    rw [mU_get]
    by_cases h : k = i
    · rw [if_pos ⟨rfl, h⟩]
    · rw [if_neg (fun z => h z.2)]
      exact e1 k (by omega)
theorem forgets_e {s : Mm} {V : CV} (h : SB s 2 V) (hn : V.1 ≤ 6) (hm : V.2.1 ≤ 4) (ht : s 176 14 = 0) (hT : ∀ k, k < V.1 → fT (V.2.2.2.1 k) = 1) : ∃ s', f_R_forgets s = some s' ∧ RV s' V ∧ FrP s s' := by
  obtain ⟨s1, h1, h2, h3⟩ := putAll_e (w := 2) h (by omega) hn hm ht hT
  unfold f_R_forgets
  rw [show (2 : Int32) = nI 2 from rfl, h1, bv_s]
  exact ⟨s1, rfl, h2, h3⟩
theorem changes_e {s : Mm} {V : CV} (h : RV s V) (hn : V.1 ≤ 6) (hm : V.2.1 ≤ 4) : ∃ s', f_R_changes s = some s' ∧ RV s' V ∧ SB s' 1 V ∧ FrK 1 s s' := by
  obtain ⟨s1, h1, h2, h3, h4⟩ := keepAll_e (w := 1) h (by omega) hn hm
  unfold f_R_changes
  rw [show (1 : Int32) = nI 1 from rfl] at *
  rw [h1, bv_s]
  exact ⟨s1, rfl, h2, h3, h4⟩
theorem changesBack_e {s : Mm} {V : CV} (h : SB s 1 V) (hn : V.1 ≤ 6) (hm : V.2.1 ≤ 4) (ht : s 176 14 = 0) (hT : ∀ k, k < V.1 → fT (V.2.2.2.1 k) = 1) : ∃ s', f_R_changesBack s = some s' ∧ RV s' V ∧ FrP s s' := by
  obtain ⟨s1, h1, h2, h3⟩ := putAll_e (w := 1) h (by omega) hn hm ht hT
  unfold f_R_changesBack
  rw [show (1 : Int32) = nI 1 from rfl, h1, bv_s]
  exact ⟨s1, rfl, h2, h3⟩
/-! sums -/
theorem Rsum_e {s : Mm} {o n : Nat} (hn : n ≤ aL o) (hm : n ≤ 4) (ha : aL o < 2 ^ 31) : f_R_sum s o (nI n) = some (sm n (s o), s) := by
  unfold f_R_sum
  refine lp (fun m i (a : Int32) => k_R_sum_4 m o (nI n) a (nI i) s) (fun i a => a = sm i (s o)) (fun r => r = some (sm n (s o), s)) n ?_ ?_ KF 0 0 (by omega) (by rw [KF_1]; omega) rfl
  · intro m a e
    unfold k_R_sum_4
    rw [if_pos (nI_le (Nat.le_refl _) (by omega)), e]
  · intro m i a hi e ih
    unfold k_R_sum_4
    rw [if_neg (nI_ge hi (by omega)), gd_n (show i < aL o by omega) ha, nm_s, nI_1, nI_clamp (by omega), e]
    exact ih _ rfl
theorem sm_congr {n : Nat} {f g : Nat → Int32} (h : ∀ k, k < n → f k = g k) : sm n f = sm n g := by
  induction n with
  | zero => rfl
  | succ n ih =>
    show sm n f + f n = sm n g + g n
    rw [ih (fun k hk => h k (by omega)), h n (by omega)]
theorem RsumW_e {s : Mm} {nG : Nat} {G : Nat → GV} (h : RGv s nG G) (hm : nG ≤ 4) : f_R_sum s 182 (s 176 12) = some (sm nG (fun k => gW (G k)), s) := by
  rw [h.1, Rsum_e (o := 182) (by show nG ≤ 4; omega) hm (by decide), sm_congr (fun k hk => (h.at hk).1)]
theorem RsumZ_e {s : Mm} {nG : Nat} {G : Nat → GV} (h : RGv s nG G) (hm : nG ≤ 4) : f_R_sum s 183 (s 176 12) = some (sm nG (fun k => gZ' (G k)), s) := by
  rw [h.1, Rsum_e (o := 183) (by show nG ≤ 4; omega) hm (by decide), sm_congr (fun k hk => (h.at hk).2.1)]
theorem RsumP_e {s : Mm} {nG : Nat} {G : Nat → GV} (h : RGv s nG G) (hm : nG ≤ 4) : f_R_sum s 187 (s 176 12) = some (sm nG (fun k => gP (G k)), s) := by
  rw [h.1, Rsum_e (o := 187) (by show nG ≤ 4; omega) hm (by decide), sm_congr (fun k hk => (h.at hk).2.2.2.2.2)]
theorem Rholds_e {s : Mm} {nG : Nat} {G : Nat → GV} (h : RGv s nG G) (hm : nG ≤ 4) (p : Int32) : f_R_holds s p = some (sm nG (fun k => hold1 p (G k)), s) := by
  unfold f_R_holds
  refine lp (fun n i (a : Int32) => k_R_holds_4 n p a (nI i) s) (fun i a => a = sm i (fun k => hold1 p (G k))) (fun r => r = some (sm nG (fun k => hold1 p (G k)), s)) nG ?_ ?_ KF 0 0 (by omega) (by rw [KF_1]; omega) rfl
  · intro n a e
    unfold k_R_holds_4
    rw [h.1, if_pos (nI_le (Nat.le_refl _) (by omega)), e]
  · intro n i a hi e ih
    unfold k_R_holds_4
    rw [h.1, if_neg (nI_ge hi (by omega)), gd_n (show i < 4 by omega) (by omega), nI_clamp (by omega), nI_1, (h.at hi).2.2.1, e]
    by_cases hp : gH (G i) = p
    · rw [if_pos hp, nm_s]
      refine ih _ ?_
      show _ = sm i _ + hold1 p (G i)
      rw [hold1, if_pos hp]
    · rw [if_neg hp, nm_s]
      refine ih _ ?_
      show _ = sm i _ + hold1 p (G i)
      rw [hold1, if_neg hp]
theorem RworthWith_e {s : Mm} {nG : Nat} {G : Nat → GV} (h : RGv s nG G) (hm : nG ≤ 4) (p : Int32) : f_R_worthWith s p = some (sm nG (fun k => worth1 p (G k)), s) := by
  unfold f_R_worthWith
  refine lp (fun n i (a : Int32) => k_R_worthWith_4 n p a (nI i) s) (fun i a => a = sm i (fun k => worth1 p (G k))) (fun r => r = some (sm nG (fun k => worth1 p (G k)), s)) nG ?_ ?_ KF 0 0 (by omega) (by rw [KF_1]; omega) rfl
  · intro n a e
    unfold k_R_worthWith_4
    rw [h.1, if_pos (nI_le (Nat.le_refl _) (by omega)), e]
  · intro n i a hi e ih
    unfold k_R_worthWith_4
    rw [h.1, if_neg (nI_ge hi (by omega)), gd_n (show i < 4 by omega) (by omega), nI_clamp (by omega), nI_1, (h.at hi).2.2.1, e]
    by_cases hp : gH (G i) = p
    · rw [if_pos hp]
      simp only [gd_n (show i < 4 by omega) (show 4 < 2 ^ 31 by omega), nI_clamp (show i < 2 ^ 31 by omega), nm_s]
      rw [(h.at hi).1]
      refine ih _ ?_
      show _ = sm i _ + worth1 p (G i)
      rw [worth1, if_pos hp]
    · rw [if_neg hp]
      simp only [nm_s]
      refine ih _ ?_
      show _ = sm i _ + worth1 p (G i)
      rw [worth1, if_neg hp]
