/-! CHAIN -/
theorem BS_tb (p : Nat → Bool) (n i : Nat) : (BS p n).testBit i = (decide (i < n) && p i) := by
  rw [Nat.testBit_eq_decide_div_mod_eq, BS_bit]
  by_cases c : i < n
  · cases h : p i <;> simp [c]
  · simp [c]
theorem BS_ad {X : Nat → Bool} {p n : Nat} (hp : p < n) : BS X n ||| 2 ^ p = BS (adX X p) n := by
  apply Nat.eq_of_testBit_eq
  intro i
  rw [Nat.testBit_or, BS_tb, BS_tb, Nat.testBit_two_pow]
  by_cases e : p = i
  · subst e
    simp [hp, adX_p]
  · rw [adX_n (fun z => e z.symm)]
    simp [e]
def chS (F : Nat → FV) : Nat → (Nat → Bool) → Nat → Int32 → Nat × Nat
  | 0, _, c, cur => (c, if cur = -1 then 0 else 1)
  | d + 1, X, c, cur => if cur = -1 then (c, 0) else if X (ix cur) = true then (c, 1) else chS F d (adX X (ix cur)) (c + 1) (fN (F (ix cur)))
def cuOk (nF : Nat) (cur : Int32) : Prop := cur = -1 ∨ ∃ p, p < nF ∧ cur = nI p
theorem FO.cu {nF k : Nat} {f : FV} (h : FO nF k f) : cuOk nF (fN f) := by
  rcases h.2.2.2.1 with e | ⟨p, hp, -, e⟩
  · exact Or.inl e
  · exact Or.inr ⟨p, hp, e⟩
theorem inN_m1 {n : Nat} (h : n < 2 ^ 31) : inN (nI n) (-1) = 0 := by
  unfold inN
  rw [if_pos (by decide)]
theorem bitX {X : Nat → Bool} {p : Nat} (hp : p < 6) : (nI (BS X 6) >>> (nI p &&& 31)) &&& 1 = if X p = true then 1 else 0 := by
  rw [bitK (BS_31 (by omega)) (by omega), BS_bit]
  by_cases c : X p = true
  · rw [if_pos ⟨hp, c⟩, if_pos c]; rfl
  · rw [if_neg (fun z => c z.2), if_neg c]; rfl
theorem hasX {X : Nat → Bool} {p : Nat} (hp : p < 6) : hasB (nI (BS X 6)) (nI p) = if X p = true then 1 else 0 := by
  unfold hasB
  rw [bitX hp]
  by_cases c : X p = true
  · rw [if_pos c, if_pos rfl]
  · rw [if_neg c, if_neg (by decide)]
theorem chainX_e {s : Mm} {V : CV} {w : Int32} (h : HC s 0 V) (hv : VOk V) : ∀ d (X : Nat → Bool) c cur n, d < n → c + d = 6 → cnt X 6 = c → cuOk V.1 cur → k_C_chainFrom_8 n 0 w (nI (BS X 6)) (nI c) cur s = some (if w = 0 then nI (chS V.2.2.2.1 d X c cur).1 else nI (chS V.2.2.2.1 d X c cur).2, s)
  | d, X, c, cur, 0, hd, _, _, _ => absurd hd (by omega)
  | 0, X, c, cur, n + 1, _, h6, _, hcu => by
    unfold k_C_chainFrom_8 k_C_chainFrom_57 chS
    rw [show c = 6 by omega, if_pos (show (6 : Int32) ≤ nI 6 from by decide)]
    by_cases e : w = 0
    · simp only [e, if_true]
    · simp only [e, if_false]
      by_cases e2 : cur = -1
      · simp only [e2, if_true]
        rfl
      · simp only [e2, if_false]
        rfl
  | d + 1, X, c, cur, n + 1, hd, h6, hx, hcu => by
    have hn := hv.1
    unfold k_C_chainFrom_8 k_C_chainFrom_57 chS
    rw [if_neg (show ¬ (6 : Int32) ≤ nI c from nI_ge (b := 6) (by omega) (by omega)), hasFriend_e, bn_s, h.1.1]
    rcases hcu with e | ⟨p, hp, e⟩
    · subst e
      rw [inN_m1 (by omega), if_pos rfl, if_pos rfl, if_pos rfl]
      by_cases e : w = 0
      · simp only [e, if_true]
      · simp only [e, if_false]
        rfl
    · subst e
      rw [inN_nI hp (by omega), if_neg (by decide), bitX (by omega), if_neg (m1_ne (by omega)), if_neg (m1_ne (by omega)), ix_nI (by omega)]
      cases hxp : X p with
      | true =>
        rw [if_pos rfl, if_neg (show ¬ (1 : Int32) = 0 by decide), if_pos rfl]
        by_cases e : w = 0
        · simp only [e, if_true]
        · simp only [e, if_false]
          rfl
      | false =>
        rw [if_neg (show ¬ false = true by decide), if_pos rfl, sh1 (by omega), or_nI, BS_ad (by omega), nm_s, friendAt_e (by omega), bn_s, nm_s, (h.1.at hp).2.2.2.1, nI_1, if_neg (show ¬ false = true by decide)]
        exact chainX_e h hv d (adX X p) (c + 1) _ n (by omega) (by omega) (by rw [cnt_adX hxp, if_pos (by omega)]; omega) (hv.F hp).cu
theorem chainR_e {s : Mm} {V : CV} (h : RV s V) (hv : VOk V) : ∀ d (X : Nat → Bool) c cur n, d < n → c + d = 6 → cnt X 6 = c → (∀ q, X q = true → q < V.1) → cuOk V.1 cur → ∃ Y : Nat → Bool, k_R_chained_4 n (nI (BS X 6)) (nx cur) s = some (nI (BS Y 6 + 512 * (chS V.2.2.2.1 d X c cur).2), s) ∧ cnt Y 6 = (chS V.2.2.2.1 d X c cur).1 ∧ (chS V.2.2.2.1 d X c cur).2 < 2
  | d, X, c, cur, 0, hd, _, _, _, _ => absurd hd (by omega)
  | d, X, c, cur, n + 1, hd, h6, hx, hX, hcu => by
    have hn := hv.1
    have h512 : nI (BS X 6) ||| 512 = nI (BS X 6 + 512 * 1) := by
      have e := Nat.two_pow_add_eq_or_of_lt (i := 9) (Nat.lt_of_lt_of_le (BS_lt X 6) (by decide : 2 ^ 6 ≤ 2 ^ 9)) 1
      rw [show (512 : Int32) = nI 512 from rfl, or_nI, Nat.or_comm]
      have e' : 512 + BS X 6 = 512 ||| BS X 6 := e
      rw [← e']
      congr 1
      omega
    unfold k_R_chained_4
    rcases hcu with e | ⟨p, hp, e⟩
    · subst e
      rw [← nx_m1, if_pos (by decide), if_neg nn_m9]
      have : chS V.2.2.2.1 d X c (-1) = (c, 0) := by cases d <;> simp [chS]
      rw [this]
      exact ⟨X, by simp, hx, show 0 < 2 by decide⟩
    · subst e
      rw [← nx_nI (by omega), if_neg (nI_pos (by omega)), has_e, bn_s, hasX (by omega)]
      cases hxp : X p with
      | true =>
        have : chS V.2.2.2.1 d X c (nI p) = (c, 1) := by
          cases d <;> simp [chS, m1_ne (show p < 2 ^ 31 by omega), ix_nI (show p < 2 ^ 31 by omega), hxp]
        rw [this, if_pos rfl, if_neg (show ¬ (1 : Int32) = 0 by decide), if_pos (nI_pos' (by omega)), h512]
        exact ⟨X, rfl, hx, show 1 < 2 by decide⟩
      | false =>
        rw [if_neg (show ¬ false = true by decide), if_pos rfl, nm_s, sh1 (by omega), or_nI, BS_ad (by omega), gd_n (show p < 6 by omega) (by omega), nm_s, nI_clamp (by omega), (h.1.2 p hp).2.2.2.1]
        have hc6 : cnt (adX X p) 6 = c + 1 := by rw [cnt_adX hxp, if_pos (by omega)]; omega
        cases d with
        | zero =>
          have := cnt_le (adX X p) 6
          omega
        | succ d =>
          obtain ⟨Y, y1, y2, y3⟩ := chainR_e h hv d (adX X p) (c + 1) (fN (V.2.2.2.1 p)) n (by omega) (by omega) hc6 (fun q hq => by
            by_cases e : q = p
            · rw [e]; exact hp
            · rw [adX_n e] at hq; exact hX q hq) (hv.F hp).cu
          have : chS V.2.2.2.1 (d + 1) X c (nI p) = chS V.2.2.2.1 d (adX X p) (c + 1) (fN (V.2.2.2.1 p)) := by
            simp [chS, m1_ne (show p < 2 ^ 31 by omega), ix_nI (show p < 2 ^ 31 by omega), hxp]
          rw [this]
          exact ⟨Y, y1, y2, y3⟩
def noFW (m : Int32) (a w : Int32) (S : SV) : Int32 := fst3 (gNo (nI S.1.1) a) (wNo w m) 0
def vChain (a w : Int32) (S : SV) : Int32 := if w = 0 then nI (chS S.1.2.2.2.1 6 (fun _ => false) 0 a).1 else nI (chS S.1.2.2.2.1 6 (fun _ => false) 0 a).2
theorem BS_none : ∀ n, BS (fun _ => false) n = 0
  | 0 => rfl
  | n + 1 => by unfold BS; rw [BS_none n]; rfl
theorem op_chain (a w : Int32) : OpI (fun s => f_X_chain s a w) (fun s => f_R_chain s a w) := by
  refine OpI.q2 (mx' := fun s => f_C_chainFrom s 0 a w) (mr := fun s => k_R_chain_27 a w 0 s) (noFW 1 a w) (vChain a w) (fun S => Codes.fst (Codes.g _ _) (Codes.w _ _) Codes.z) ?_ ?_ ?_ ?_
  · intro s S h
    unfold f_X_chain
    simp only [friendNo_e, bn_s, whatNo_e, first_e, h.1.1.1, bn_eta]
    rfl
  · intro s S h
    show f_R_chain s a w = _
    rw [Rn_chain, h.1.1.1]
    by_cases e : noFW 1 a w S = 0
    · rw [if_pos e, show fst3 (gNo (nI S.1.1) a) (wNo w 1) 0 = 0 from e]
    · rw [if_neg e]
      unfold k_R_chain_27
      rw [if_neg (show ¬ fst3 (gNo (nI S.1.1) a) (wNo w 1) 0 = 0 from e), bn_eta]
      rfl
  · intro s S h e
    obtain ⟨e1, e2, e3⟩ := fst3_0 e
    have hn := h.2.1.1
    obtain ⟨k, hk, rfl⟩ := gNo_0 (by omega) e1
    have hc := chainX_e (w := w) h.1 h.2.1 6 (fun _ => false) 0 (nI k) KF (by rw [KF_1]; omega) rfl (cnt_none 6) (Or.inr ⟨k, hk, rfl⟩)
    rw [BS_none] at hc
    exact ⟨s, hc, FrQX.rf⟩
  · intro s S ho h e
    obtain ⟨e1, e2, e3⟩ := fst3_0 e
    have hn := ho.1.1
    obtain ⟨k, hk, rfl⟩ := gNo_0 (by omega) e1
    obtain ⟨Y, y1, y2, y3⟩ := chainR_e h.1 ho.1 6 (fun _ => false) 0 (nI k) KF (by rw [KF_1]; omega) rfl (cnt_none 6) (fun q hq => by cases hq) (Or.inr ⟨k, hk, rfl⟩)
    rw [BS_none, ← nx_nI (by omega)] at y1
    have y1' : f_R_chained s (nI k) = _ := y1
    refine ⟨s, ?_, h.1, FrQR.rf⟩
    show k_R_chain_27 (nI k) w 0 s = some (vChain (nI k) w S, s)
    unfold k_R_chain_27 vChain
    obtain ⟨Z, hZ⟩ : ∃ Z, Z = chS S.1.2.2.2.1 6 (fun _ => false) 0 (nI k) := ⟨_, rfl⟩
    rw [← hZ] at y1' y2 y3 ⊢
    have hB := BS_lt Y 6
    have hlt : BS Y 6 + 512 * Z.2 < 2 ^ 31 := by omega
    rw [if_pos rfl, y1', bn_s]
    by_cases c : w = 0
    · rw [if_pos c, if_pos c, pk_andN (n := BS Y 6 + 512 * Z.2) (by omega) 6 (by decide), show (BS Y 6 + 512 * Z.2) % 2 ^ 6 = BS Y 6 by omega, bits_e (BS_31 (by omega)), bn_s, pcN_hi _ 6 hB 31 (by omega), cnt_pc _ 6 6 (by omega), y2]
    · rw [if_neg c, if_neg c, show (9 : Int32) = nI 9 from rfl, shr_e hlt (by omega), show (BS Y 6 + 512 * Z.2) / 2 ^ 9 = Z.2 by omega]
