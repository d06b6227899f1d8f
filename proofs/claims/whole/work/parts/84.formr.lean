/-! the reference reads -/
def dN (q : LV) (p : Nat) : Nat := ix (ltA q p) - 48
theorem dg_n {q : LV} {p : Nat} (h : dgT q p) : ltA q p = nI (48 + dN q p) ∧ dN q p ≤ 9 := by
  unfold dgT isI at h
  by_cases h1 : ltA q p < 48
  · rw [if_pos h1] at h; exact absurd h (by decide)
  · rw [if_neg h1] at h
    by_cases h2 : 57 < ltA q p
    · rw [if_pos h2] at h; exact absurd h (by decide)
    · rw [i32_lt, show (48 : Int32).toInt = 48 by decide] at h1
      rw [i32_lt, show (57 : Int32).toInt = 57 by decide] at h2
      obtain ⟨k, e, k1, k2⟩ := i32_nI (x := ltA q p) (by omega)
      unfold dN
      rw [e, ix_nI k1]
      refine ⟨?_, by omega⟩
      rw [show 48 + (k - 48) = k by omega]
def tvN (q : LV) (p : Nat) : Nat → Nat
  | 0 => 0
  | D + 1 => 10 * tvN q p D + dN q (p + D)
theorem tv_step {t d : Nat} : (10 : Int32) * nI t + nI (48 + d) - 48 = nI (10 * t + d) := by
  rw [show (10 : Int32) * nI t = nI (10 * t) from pk_mul 10 t, nI_add, show (48 : Int32) = nI 48 from rfl, pk_sub (by omega)]
  congr 1
  omega
theorem nextLetter_e {s : Mm} {q : LV} {p : Nat} (h : LetR s q) (h96 : q.1 ≤ 96) (h21 : s 176 21 = nI p) (hp : p < 1000) : f_R_nextLetter s = some (ltA q p, s) := by
  unfold f_R_nextLetter ltA
  rw [h21, h.1]
  by_cases c : p < q.1
  · rw [if_neg (nI_ge c (by omega)), if_pos c, gd_n (show p < 96 by omega) (by omega), nI_clamp (by omega), h.2 p c]
  · rw [if_pos (nI_le (by omega) (by omega)), if_neg c]
def FrD2 (lo hi : Nat) (s s' : Mm) : Prop := ∀ z k, ¬ (z = 176 ∧ k = 21) → ¬ (z = 192 ∧ lo ≤ k ∧ k < hi) → s' z k = s z k
theorem FrD2.rf {lo hi : Nat} {s : Mm} : FrD2 lo hi s s := fun _ _ _ _ => rfl
theorem FrD2.tr {lo hi : Nat} {s s1 s2 : Mm} (h : FrD2 lo hi s s1) (h2 : FrD2 lo hi s1 s2) : FrD2 lo hi s s2 := fun z k a b => (h2 z k a b).trans (h z k a b)
theorem FrD2.wid {lo hi lo' hi' : Nat} {s s' : Mm} (h : FrD2 lo hi s s') (h1 : lo' ≤ lo) (h2 : hi ≤ hi') : FrD2 lo' hi' s s' := fun z k a b => h z k a (by omega)
theorem LetR.fr {lo hi : Nat} {s s' : Mm} {q : LV} (h : LetR s q) (hf : FrD2 lo hi s s') : LetR s' q := ⟨by rw [hf _ _ (by omega) (by omega)]; exact h.1, fun i hi => by rw [hf _ _ (by omega) (by omega)]; exact h.2 i hi⟩
theorem rdig_step {s : Mm} {q : LV} {p i n D j : Nat} (h : LetR s q) (h96 : q.1 ≤ 96) (h21 : s 176 21 = nI (p + i)) (hp : p < 200) (hi : i < D) (hD : D ≤ 2) (hd : dgT q (p + i)) : ∃ s', k_R_readsDigits_5 (n + 1) (nI j) (nI D) (nI (tvN q p i)) (nI i) s = k_R_readsDigits_5 n (nI j) (nI D) (nI (tvN q p (i + 1))) (nI (i + 1)) s' ∧ s' 176 21 = nI (p + (i + 1)) ∧ ∀ z k, ¬ (z = 176 ∧ k = 21) → s' z k = s z k := by
  obtain ⟨e1, e2⟩ := dg_n hd
  have hd : isI (ltA q (p + i)) 48 57 = 1 := hd
  rw [k_R_readsDigits_5, if_neg (nI_ge hi (by omega)), nextLetter_e h h96 h21 (by omega), bn_s, isIn_e, bn_s, hd, if_neg (by decide), nextLetter_e h h96 h21 (by omega), bn_s, nm_s, h21, nI_1, nI_1, nm_s, e1, tv_step]
  exact ⟨_, rfl, by rw [mU_get, if_pos ⟨rfl, rfl⟩]; rfl, fun z k hz => by rw [mU_get, if_neg hz]⟩
theorem rdig_ok {s : Mm} {q : LV} {p D j : Nat} (h : LetR s q) (h96 : q.1 ≤ 96) (h21 : s 176 21 = nI p) (hp : p < 200) (hj : j < 144) (hD : D ≤ 2) (hd : ∀ i, i < D → dgT q (p + i)) : ∃ s', f_R_readsDigits s (nI j) (nI D) = some (1, s') ∧ s' 176 21 = nI (p + D) ∧ s' 192 j = nI (tvN q p D) ∧ FrD2 j (j + 1) s s' := by
  unfold f_R_readsDigits
  refine lp (fun n i (a : Mm) => k_R_readsDigits_5 n (nI j) (nI D) (nI (tvN q p i)) (nI i) a) (fun i a => a 176 21 = nI (p + i) ∧ ∀ z k, ¬ (z = 176 ∧ k = 21) → a z k = s z k) (fun r => ∃ s', r = some (1, s') ∧ s' 176 21 = nI (p + D) ∧ s' 192 j = nI (tvN q p D) ∧ FrD2 j (j + 1) s s') D ?_ ?_ KF 0 s (by omega) (by rw [KF_1]; omega) ⟨h21, fun _ _ _ => rfl⟩
  · intro n a ⟨e1, e2⟩
    unfold k_R_readsDigits_5
    rw [if_pos (nI_le (Nat.le_refl _) (by omega)), gd_n hj (by omega), nm_s, nI_clamp (by omega)]
    exact ⟨_, rfl, by rw [mU_get, if_neg (by omega)]; exact e1, by rw [mU_get, if_pos ⟨rfl, rfl⟩], fun z k h1 h2 => by rw [mU_get, if_neg (by omega)]; exact e2 z k h1⟩
  · intro n i a hi ⟨e1, e2⟩ ih
    have hL : LetR a q := h.fr (lo := 0) (hi := 0) (fun z k h1 _ => e2 z k h1)
    obtain ⟨a', b1, b2, b3⟩ := rdig_step (n := n) (j := j) hL h96 e1 hp hi hD (hd i hi)
    rw [b1]
    exact ih a' ⟨b2, fun z k hz => by rw [b3 z k hz, e2 z k hz]⟩
theorem rdig_bad {s : Mm} {q : LV} {p D j i : Nat} (h : LetR s q) (h96 : q.1 ≤ 96) (h21 : s 176 21 = nI p) (hp : p < 200) (hD : D ≤ 2) (hi : i < D) (hd : ∀ k, k < i → dgT q (p + k)) (hb : ¬ dgT q (p + i)) : ∃ s', f_R_readsDigits s (nI j) (nI D) = some (0, s') ∧ s' 176 21 = nI (p + i) ∧ FrD2 j (j + 1) s s' := by
  unfold f_R_readsDigits
  refine lp (fun n k (a : Mm) => k_R_readsDigits_5 n (nI j) (nI D) (nI (tvN q p k)) (nI k) a) (fun k a => a 176 21 = nI (p + k) ∧ ∀ z t, ¬ (z = 176 ∧ t = 21) → a z t = s z t) (fun r => ∃ s', r = some (0, s') ∧ s' 176 21 = nI (p + i) ∧ FrD2 j (j + 1) s s') i ?_ ?_ KF 0 s (by omega) (by rw [KF_1]; omega) ⟨h21, fun _ _ _ => rfl⟩
  · intro n a ⟨e1, e2⟩
    have hL : LetR a q := h.fr (lo := 0) (hi := 0) (fun z k h1 _ => e2 z k h1)
    have hb : isI (ltA q (p + i)) 48 57 = 0 := by
      rcases isI_01 (ltA q (p + i)) 48 57 with z | z
      · exact z
      · exact absurd z hb
    unfold k_R_readsDigits_5
    rw [if_neg (nI_ge hi (by omega)), nextLetter_e hL h96 e1 (by omega), bn_s, isIn_e, bn_s, hb, if_pos rfl]
    exact ⟨a, rfl, e1, fun z k h1 h2 => e2 z k h1⟩
  · intro n k a hk ⟨e1, e2⟩ ih
    have hL : LetR a q := h.fr (lo := 0) (hi := 0) (fun z k h1 _ => e2 z k h1)
    obtain ⟨a', b1, b2, b3⟩ := rdig_step (n := n) (j := j) hL h96 e1 hp (show k < D by omega) hD (hd k hk)
    rw [b1]
    exact ih a' ⟨b2, fun z k hz => by rw [b3 z k hz, e2 z k hz]⟩
def rs1 (s : Mm) (t D : Int32) : Option (Int32 × Mm) := bn (f_R_readsDigits s t D) fun x s' => if x = 0 then some (0, s') else some (1, s')
def rs2 (s : Mm) (t D E : Int32) : Option (Int32 × Mm) := bn (f_R_readsDigits s t D) fun x s' => if x = 0 then some (0, s') else rs1 s' (t + 1) E
def rs3 (s : Mm) (t D E H : Int32) : Option (Int32 × Mm) := bn (f_R_readsDigits s t D) fun x s' => if x = 0 then some (0, s') else bn (f_R_readsDigits s' (t + 1) E) fun x s' => if x = 0 then some (0, s') else rs1 s' (t + 2) H
theorem rs1_ok {s : Mm} {q : LV} {p D j : Nat} (h : LetR s q) (h96 : q.1 ≤ 96) (h21 : s 176 21 = nI p) (hp : p < 200) (hj : j < 144) (hD : D ≤ 2) (hd : ∀ i, i < D → dgT q (p + i)) : ∃ s', rs1 s (nI j) (nI D) = some (1, s') ∧ s' 176 21 = nI (p + D) ∧ s' 192 j = nI (tvN q p D) ∧ FrD2 j (j + 1) s s' := by
  obtain ⟨s', a1, a2, a3, a4⟩ := rdig_ok h h96 h21 hp hj hD hd
  unfold rs1
  rw [a1, bn_s, if_neg (by decide)]
  exact ⟨s', rfl, a2, a3, a4⟩
theorem rs1_bad {s : Mm} {q : LV} {p D j i : Nat} (h : LetR s q) (h96 : q.1 ≤ 96) (h21 : s 176 21 = nI p) (hp : p < 200) (hD : D ≤ 2) (hi : i < D) (hd : ∀ k, k < i → dgT q (p + k)) (hb : ¬ dgT q (p + i)) : ∃ s', rs1 s (nI j) (nI D) = some (0, s') ∧ s' 176 21 = nI (p + i) ∧ FrD2 j (j + 1) s s' := by
  obtain ⟨s', a1, a2, a3⟩ := rdig_bad (j := j) h h96 h21 hp hD hi hd hb
  unfold rs1
  rw [a1, bn_s, if_pos rfl]
  exact ⟨s', rfl, a2, a3⟩
theorem rs2_ok {s : Mm} {q : LV} {p D E j : Nat} (h : LetR s q) (h96 : q.1 ≤ 96) (h21 : s 176 21 = nI p) (hp : p < 190) (hj : j < 140) (hD : D ≤ 2) (hE : E ≤ 2) (hd : ∀ i, i < D + E → dgT q (p + i)) : ∃ s', rs2 s (nI j) (nI D) (nI E) = some (1, s') ∧ s' 176 21 = nI (p + D + E) ∧ s' 192 j = nI (tvN q p D) ∧ s' 192 (j + 1) = nI (tvN q (p + D) E) ∧ FrD2 j (j + 2) s s' := by
  obtain ⟨s1, a1, a2, a3, a4⟩ := rdig_ok h h96 h21 (by omega) (show j < 144 by omega) hD (fun i hi => hd i (by omega))
  obtain ⟨s2, b1, b2, b3, b4⟩ := rs1_ok (j := j + 1) (h.fr a4) h96 a2 (by omega) (by omega) hE (fun i hi => by rw [Nat.add_assoc]; exact hd (D + i) (by omega))
  unfold rs2
  rw [a1, bn_s, if_neg (by decide), nI_1, b1]
  exact ⟨s2, rfl, b2, by rw [b4 _ _ (by omega) (by omega)]; exact a3, b3, (a4.wid (by omega) (by omega)).tr (b4.wid (by omega) (by omega))⟩
theorem rs2_bad {s : Mm} {q : LV} {p D E j i : Nat} (h : LetR s q) (h96 : q.1 ≤ 96) (h21 : s 176 21 = nI p) (hp : p < 190) (hj : j < 140) (hD : D ≤ 2) (hE : E ≤ 2) (hi : i < D + E) (hd : ∀ k, k < i → dgT q (p + k)) (hb : ¬ dgT q (p + i)) : ∃ s', rs2 s (nI j) (nI D) (nI E) = some (0, s') ∧ s' 176 21 = nI (p + i) ∧ FrD2 j (j + 2) s s' := by
  unfold rs2
  by_cases c : i < D
  · obtain ⟨s1, a1, a2, a3⟩ := rdig_bad (j := j) h h96 h21 (by omega) hD c hd hb
    rw [a1, bn_s, if_pos rfl]
    exact ⟨s1, rfl, a2, a3.wid (by omega) (by omega)⟩
  · obtain ⟨s1, a1, a2, a3, a4⟩ := rdig_ok h h96 h21 (by omega) (show j < 144 by omega) hD (fun i hi => hd i (by omega))
    obtain ⟨s2, b1, b2, b3⟩ := rs1_bad (j := j + 1) (i := i - D) (h.fr a4) h96 a2 (by omega) hE (by omega) (fun k hk => by rw [Nat.add_assoc]; exact hd (D + k) (by omega)) (by rw [show p + D + (i - D) = p + i by omega]; exact hb)
    rw [a1, bn_s, if_neg (by decide), nI_1, b1]
    exact ⟨s2, rfl, by rw [b2, show p + D + (i - D) = p + i by omega], (a4.wid (by omega) (by omega)).tr (b3.wid (by omega) (by omega))⟩
theorem rs3_ok {s : Mm} {q : LV} {p D E H j : Nat} (h : LetR s q) (h96 : q.1 ≤ 96) (h21 : s 176 21 = nI p) (hp : p < 180) (hj : j < 140) (hD : D ≤ 2) (hE : E ≤ 2) (hH : H ≤ 2) (hd : ∀ i, i < D + E + H → dgT q (p + i)) : ∃ s', rs3 s (nI j) (nI D) (nI E) (nI H) = some (1, s') ∧ s' 176 21 = nI (p + D + E + H) ∧ s' 192 j = nI (tvN q p D) ∧ s' 192 (j + 1) = nI (tvN q (p + D) E) ∧ s' 192 (j + 2) = nI (tvN q (p + D + E) H) ∧ FrD2 j (j + 3) s s' := by
  obtain ⟨s1, a1, a2, a3, a4⟩ := rdig_ok h h96 h21 (by omega) (show j < 144 by omega) hD (fun i hi => hd i (by omega))
  obtain ⟨s2, b1, b2, b3, b4⟩ := rdig_ok (j := j + 1) (D := E) (h.fr a4) h96 a2 (by omega) (by omega) hE (fun i hi => by rw [Nat.add_assoc]; exact hd (D + i) (by omega))
  obtain ⟨s3, c1, c2, c3, c4⟩ := rs1_ok (j := j + 2) (D := H) ((h.fr a4).fr b4) h96 b2 (by omega) (by omega) hH (fun i hi => by rw [show p + D + E + i = p + (D + E + i) by omega]; exact hd (D + E + i) (by omega))
  unfold rs3
  rw [a1, bn_s, if_neg (by decide), nI_1, b1, bn_s, if_neg (by decide), show nI j + 2 = nI (j + 2) from nI_add j 2, c1]
  exact ⟨s3, rfl, c2, by rw [c4 _ _ (by omega) (by omega), b4 _ _ (by omega) (by omega)]; exact a3, by rw [c4 _ _ (by omega) (by omega)]; exact b3, c3, ((a4.wid (by omega) (by omega)).tr (b4.wid (by omega) (by omega))).tr (c4.wid (by omega) (by omega))⟩
theorem rs3_bad {s : Mm} {q : LV} {p D E H j i : Nat} (h : LetR s q) (h96 : q.1 ≤ 96) (h21 : s 176 21 = nI p) (hp : p < 180) (hj : j < 140) (hD : D ≤ 2) (hE : E ≤ 2) (hH : H ≤ 2) (hi : i < D + E + H) (hd : ∀ k, k < i → dgT q (p + k)) (hb : ¬ dgT q (p + i)) : ∃ s', rs3 s (nI j) (nI D) (nI E) (nI H) = some (0, s') ∧ s' 176 21 = nI (p + i) ∧ FrD2 j (j + 3) s s' := by
  unfold rs3
  by_cases c : i < D
  · obtain ⟨s1, a1, a2, a3⟩ := rdig_bad (j := j) h h96 h21 (by omega) hD c hd hb
    rw [a1, bn_s, if_pos rfl]
    exact ⟨s1, rfl, a2, a3.wid (by omega) (by omega)⟩
  · obtain ⟨s1, a1, a2, a3, a4⟩ := rdig_ok h h96 h21 (by omega) (show j < 144 by omega) hD (fun i hi => hd i (by omega))
    rw [a1, bn_s, if_neg (by decide), nI_1]
    by_cases d : i < D + E
    · obtain ⟨s2, b1, b2, b3⟩ := rdig_bad (j := j + 1) (i := i - D) (D := E) (h.fr a4) h96 a2 (by omega) hE (by omega) (fun k hk => by rw [Nat.add_assoc]; exact hd (D + k) (by omega)) (by rw [show p + D + (i - D) = p + i by omega]; exact hb)
      rw [b1, bn_s, if_pos rfl]
      exact ⟨s2, rfl, by rw [b2, show p + D + (i - D) = p + i by omega], (a4.wid (by omega) (by omega)).tr (b3.wid (by omega) (by omega))⟩
    · obtain ⟨s2, b1, b2, b3, b4⟩ := rdig_ok (j := j + 1) (D := E) (h.fr a4) h96 a2 (by omega) (by omega) hE (fun i hi => by rw [Nat.add_assoc]; exact hd (D + i) (by omega))
      obtain ⟨s3, c1, c2, c3⟩ := rs1_bad (j := j + 2) (i := i - D - E) (D := H) ((h.fr a4).fr b4) h96 b2 (by omega) hH (by omega) (fun k hk => by rw [show p + D + E + k = p + (D + E + k) by omega]; exact hd (D + E + k) (by omega)) (by rw [show p + D + E + (i - D - E) = p + i by omega]; exact hb)
      rw [b1, bn_s, if_neg (by decide), show nI j + 2 = nI (j + 2) from nI_add j 2, c1]
      exact ⟨s3, rfl, by rw [c2, show p + D + E + (i - D - E) = p + i by omega], ((a4.wid (by omega) (by omega)).tr (b4.wid (by omega) (by omega))).tr (c3.wid (by omega) (by omega))⟩
