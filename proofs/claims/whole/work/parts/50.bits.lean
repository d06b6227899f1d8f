/-! bits -/
theorem sm32 : ∀ k : Fin 32, ((nI k.val &&& 31).toBitVec.smod 32).toNat = k.val := by decide +kernel
theorem sh1 {k : Nat} (h : k < 31) : (1 : Int32) <<< (nI k &&& 31) = nI (2 ^ k) := by
  have e := pk_shlN (n := 1) (nI k &&& 31) k (sm32 ⟨k, by omega⟩) (by rw [Nat.one_mul]; exact Nat.pow_lt_pow_right (by decide) (by omega))
  rw [Nat.one_mul] at e
  exact e
theorem shr_e {X k : Nat} (hX : X < 2 ^ 31) (h : k < 31) : nI X >>> (nI k &&& 31) = nI (X / 2 ^ k) := pk_shrN hX _ k (sm32 ⟨k, by omega⟩)
theorem and1 {X : Nat} (hX : X < 2 ^ 31) : nI X &&& 1 = nI (X % 2) := pk_andN (n := X) (by omega) 1 (by decide)
theorem or_nI (a b : Nat) : nI a ||| nI b = nI (a ||| b) := Int32.toBitVec_inj.mp (by rw [Int32.toBitVec_or]; exact (BitVec.ofNat_or (w := 32) (x := a) (y := b)).symm)
theorem bitK {X k : Nat} (hX : X < 2 ^ 31) (h : k < 31) : (nI X >>> (nI k &&& 31)) &&& 1 = nI (X / 2 ^ k % 2) := by
  rw [shr_e hX h, and1 (Nat.lt_of_le_of_lt (Nat.div_le_self _ _) hX)]
theorem hasB_nI {X k : Nat} (hX : X < 2 ^ 31) (h : k < 31) : hasB (nI X) (nI k) = if X / 2 ^ k % 2 = 1 then 1 else 0 := by
  unfold hasB
  rw [bitK hX h]
  have : X / 2 ^ k % 2 < 2 := Nat.mod_lt _ (by decide)
  by_cases c : X / 2 ^ k % 2 = 1
  · rw [if_pos c, c]; rfl
  · rw [if_neg c, show X / 2 ^ k % 2 = 0 by omega, if_neg (by decide)]
def BS (p : Nat → Bool) : Nat → Nat
  | 0 => 0
  | n + 1 => BS p n + (if p n then 2 ^ n else 0)
theorem BS_lt (p : Nat → Bool) : ∀ n, BS p n < 2 ^ n
  | 0 => Nat.zero_lt_one
  | n + 1 => by
    have := BS_lt p n
    unfold BS
    rw [Nat.pow_succ]
    split <;> omega
theorem pow31 {n : Nat} (h : n ≤ 31) : 2 ^ n ≤ 2147483648 := Nat.pow_le_pow_right (n := 2) (by decide) h
theorem BS_31 {p : Nat → Bool} {n : Nat} (h : n ≤ 31) : BS p n < 2 ^ 31 := Nat.lt_of_lt_of_le (BS_lt p n) (pow31 h)
theorem BS_s {p : Nat → Bool} {n : Nat} (h : p n = true) (hn : n < 31) : nI (BS p n) ||| (1 <<< (nI n &&& 31)) = nI (BS p (n + 1)) := by
  rw [sh1 hn, or_nI]
  show nI _ = nI (BS p n + (if p n then 2 ^ n else 0))
  rw [h, if_pos rfl]
  have e := Nat.two_pow_add_eq_or_of_lt (BS_lt p n) 1
  rw [Nat.mul_one] at e
  rw [Nat.or_comm, ← e, Nat.add_comm]
theorem BS_n {p : Nat → Bool} {n : Nat} (h : p n = false) : BS p (n + 1) = BS p n := by
  show BS p n + (if p n then 2 ^ n else 0) = _
  rw [h]; simp
theorem or0 (x : Int32) : x ||| 0 = x := Int32.or_zero
theorem BS_bit (p : Nat → Bool) : ∀ n k, BS p n / 2 ^ k % 2 = if k < n ∧ p k = true then 1 else 0
  | 0, k => by simp [BS]
  | n + 1, k => by
    have hlt := BS_lt p n
    have ih := BS_bit p n k
    rcases Nat.lt_trichotomy k n with h | h | h
    · unfold BS
      by_cases c : p n = true
      · rw [if_pos c]
        have e : 2 ^ n = 2 ^ k * (2 * 2 ^ (n - k - 1)) := by
          rw [← Nat.mul_assoc, ← Nat.pow_succ, ← Nat.pow_add]; congr 1; omega
        rw [e, Nat.add_mul_div_left _ _ (Nat.two_pow_pos k), Nat.add_mul_mod_self_left, ih]
        simp only [h, show k < n + 1 by omega, true_and]
      · rw [if_neg c, Nat.add_zero, ih]
        simp only [h, show k < n + 1 by omega, true_and]
    · subst h
      unfold BS
      by_cases c : p k = true
      · rw [if_pos c, Nat.add_div_right _ (Nat.two_pow_pos k), Nat.div_eq_of_lt hlt, if_pos ⟨by omega, c⟩]
      · rw [if_neg c, Nat.add_zero, Nat.div_eq_of_lt hlt, if_neg (fun h => c h.2)]
    · have : BS p (n + 1) < 2 ^ k := Nat.lt_of_lt_of_le (BS_lt p (n + 1)) (Nat.pow_le_pow_right (by decide) h)
      rw [Nat.div_eq_of_lt this, if_neg (fun h => by omega)]
def pcN (X : Nat) : Nat → Nat
  | 0 => 0
  | n + 1 => pcN X n + X / 2 ^ n % 2
theorem pcN_le (X : Nat) : ∀ n, pcN X n ≤ n
  | 0 => Nat.le_refl _
  | n + 1 => by
    have := pcN_le X n
    have h : X / 2 ^ n % 2 < 2 := Nat.mod_lt _ (by decide)
    show pcN X n + _ ≤ _
    omega
def cnt (p : Nat → Bool) : Nat → Nat
  | 0 => 0
  | n + 1 => cnt p n + (if p n then 1 else 0)
theorem cnt_pc (p : Nat → Bool) (m : Nat) : ∀ n, n ≤ m → pcN (BS p m) n = cnt p n
  | 0, _ => rfl
  | n + 1, h => by
    show pcN (BS p m) n + BS p m / 2 ^ n % 2 = cnt p n + _
    rw [cnt_pc p m n (by omega), BS_bit]
    by_cases c : p n = true
    · rw [if_pos ⟨by omega, c⟩, if_pos c]
    · rw [if_neg (fun h => c h.2), if_neg c]
theorem pcN_hi (X m : Nat) (hX : X < 2 ^ m) : ∀ n, m ≤ n → pcN X n = pcN X m
  | 0, h => by rw [show m = 0 by omega]
  | n + 1, h => by
    by_cases e : m = n + 1
    · rw [e]
    · show pcN X n + X / 2 ^ n % 2 = _
      rw [pcN_hi X m hX n (by omega), Nat.div_eq_of_lt (Nat.lt_of_lt_of_le hX (Nat.pow_le_pow_right (by decide) (by omega)))]
      simp
theorem bits_e {s : Mm} {X : Nat} (hX : X < 2 ^ 31) : f_R_bits s (nI X) = some (nI (pcN X 31), s) := by
  unfold f_R_bits
  refine lp (fun n i (a : Int32) => k_R_bits_4 n (nI X) a (nI i) s) (fun i a => a = nI (pcN X i)) (fun r => r = some (nI (pcN X 31), s)) 31 ?_ ?_ KF 0 0 (by omega) (by rw [KF_1]; omega) rfl
  · intro n a e
    unfold k_R_bits_4
    rw [if_pos (show (31 : Int32) ≤ nI 31 from by decide), e]
  · intro n i a hi e ih
    unfold k_R_bits_4
    rw [if_neg (show ¬ (31 : Int32) ≤ nI i from nI_ge (b := 31) hi (by omega)), nm_s, nI_1, bitK hX hi, e, nI_add]
    exact ih _ rfl
def bcE (x : Int32) : Int32 :=
  let x1 := x - (((x.toUInt32 >>> ((1 : Int32).toUInt32 &&& Int32.toUInt32 31)).toInt32) &&& 1431655765)
  let x3 := (x1 &&& 858993459) + (((x1.toUInt32 >>> ((2 : Int32).toUInt32 &&& Int32.toUInt32 31)).toInt32) &&& 858993459)
  let x5 := (x3 + ((x3.toUInt32 >>> ((4 : Int32).toUInt32 &&& Int32.toUInt32 31)).toInt32)) &&& 252645135
  let x7 := x5 + ((x5.toUInt32 >>> ((8 : Int32).toUInt32 &&& Int32.toUInt32 31)).toInt32)
  let x9 := x7 + ((x7.toUInt32 >>> ((16 : Int32).toUInt32 &&& Int32.toUInt32 31)).toInt32)
  x9 &&& 63
theorem bcT : ∀ X : Fin 256, bcE (nI X.val) = nI (pcN X.val 31) := by decide +kernel
theorem bitCount_e {s : Mm} {X : Nat} (hX : X < 256) : f_I_bitCount s (nI X) = some (nI (pcN X 31), s) := by
  rw [← bcT ⟨X, hX⟩]; rfl
/-! one friend, one gift altered -/
def upF (F : Nat → FV) (k : Nat) (f : FV) : Nat → FV := fun q => if q = k then f else F q
theorem upF_at (F : Nat → FV) (k : Nat) (f : FV) : upF F k f k = f := by unfold upF; simp
theorem upF_ne {F : Nat → FV} {k q : Nat} {f : FV} (h : q ≠ k) : upF F k f q = F q := by unfold upF; simp [h]
theorem upF_up (F : Nat → FV) (k : Nat) (f g : FV) : upF (upF F k f) k g = upF F k g := by
  funext q
  unfold upF
  by_cases h : q = k <;> simp [h]
theorem upF_id (F : Nat → FV) (k : Nat) : upF F k (F k) = F := by
  funext q
  unfold upF
  by_cases h : q = k
  · subst h; simp
  · simp [h]
theorem upG_ne {G : Nat → GV} {k q : Nat} {g : GV} (h : q ≠ k) : upG G k g q = G q := by unfold upG; simp [h]
theorem upG_up (G : Nat → GV) (k : Nat) (f g : GV) : upG (upG G k f) k g = upG G k g := by
  funext q
  unfold upG
  by_cases h : q = k <;> simp [h]
theorem HF.up {s s' : Mm} {c nF k : Nat} {F : Nat → FV} {f : FV} (h : HF s c nF F) (hk : k < 6) (hn : nF ≤ 6) (hc : c < 11) (he : ∀ q j, q ≠ 33 + 7 * c + k → s' q j = s q j) (h1 : fRow s' (33 + 7 * c + k) = f) (h2 : s' (33 + 7 * c + k) 4 = wtK (fK f) (fI f)) (h3 : s' (33 + 7 * c + k) 5 = adK (fK f) (fI f)) (h4 : s' (33 + 7 * c + k) 6 = swK (fK f) (fI f)) : HF s' c nF (upF F k f) := by
  refine ⟨by rw [he _ _ (by omega)]; exact h.1, fun q hq => ?_⟩
  by_cases e : q = k
  · subst e
    rw [upF_at]
    exact ⟨h1, h2, h3, h4⟩
  · rw [upF_ne e]
    have := h.2 q hq
    simp only [fRow, fun j => he (33 + 7 * c + q) j (by omega)] at this ⊢
    exact this
theorem HF.o {s s' : Mm} {c nF : Nat} {F : Nat → FV} (h : HF s c nF F) (hn : nF ≤ 6) (hc : c < 11) (he : ∀ q j, q < 110 → s' q j = s q j) : HF s' c nF F := by
  refine ⟨by rw [he _ _ (by omega)]; exact h.1, fun q hq => ?_⟩
  have := h.2 q hq
  simp only [fRow, fun j => he (33 + 7 * c + q) j (by omega)] at this ⊢
  exact this
theorem HG.o {s s' : Mm} {c nG : Nat} {G : Nat → GV} (h : HG s c nG G) (hm : nG ≤ 4) (hc : c < 11) (he : ∀ q j, ¬ (33 ≤ q ∧ q < 110) → s' q j = s q j) : HG s' c nG G := by
  refine ⟨by rw [he _ _ (by omega)]; exact h.1, fun q hq => ?_⟩
  have := h.2 q hq
  simp only [gRow, fun j => he (110 + 5 * c + q) j (by omega)] at this ⊢
  exact this
theorem HG.up {s s' : Mm} {c nG k : Nat} {G : Nat → GV} {g : GV} (h : HG s c nG G) (hk : k < 4) (hm : nG ≤ 4) (hc : c < 11) (he : ∀ q j, q ≠ 110 + 5 * c + k → s' q j = s q j) (h1 : gRow s' (110 + 5 * c + k) = g) : HG s' c nG (upG G k g) := by
  refine ⟨by rw [he _ _ (by omega)]; exact h.1, fun q hq => ?_⟩
  by_cases e : q = k
  · subst e
    rw [upG_at]
    exact h1
  · rw [upG_ne e]
    have := h.2 q hq
    simp only [gRow, fun j => he (110 + 5 * c + q) j (by omega)] at this ⊢
    exact this
theorem RFv.up {s s' : Mm} {nF k : Nat} {F : Nat → FV} {f : FV} (h : RFv s nF F) (hk : k < nF) (h11 : s' 176 11 = s 176 11) (h14 : s' 176 14 = s 176 14) (hT : fT f = fT (F k)) (he : ∀ q, q ≠ k → s' 178 q = s 178 q ∧ s' 179 q = s 179 q ∧ s' 180 q = s 180 q ∧ s' 181 q = s 181 q) (h1 : s' 178 k = fK f) (h2 : s' 179 k = fI f) (h3 : s' 180 k = fD f) (h4 : s' 181 k = nx (fN f)) : RFv s' nF (upF F k f) := by
  refine ⟨by rw [h11]; exact h.1, fun q hq => ?_⟩
  by_cases e : q = k
  · subst e
    rw [upF_at, h14]
    exact ⟨h1, h2, h3, h4, by rw [hT]; exact (h.2 q hq).2.2.2.2⟩
  · rw [upF_ne e, h14]
    obtain ⟨e1, e2, e3, e4⟩ := he q e
    rw [e1, e2, e3, e4]
    exact h.2 q hq
theorem RGv.up {s s' : Mm} {nG k : Nat} {G : Nat → GV} {g : GV} (h : RGv s nG G) (h12 : s' 176 12 = s 176 12) (he : ∀ q, q ≠ k → rRow s' q = rRow s q) (h1 : rRow s' k = g) : RGv s' nG (upG G k g) := by
  refine ⟨by rw [h12]; exact h.1, fun q hq => ?_⟩
  by_cases e : q = k
  · subst e
    rw [upG_at]
    exact h1
  · rw [upG_ne e, he q e]
    exact h.2 q hq
theorem VOk.gUp {V : CV} {k : Nat} {g : GV} (h : VOk V) (hg : GI V.1 g) : VOk (V.1, V.2.1, V.2.2.1, V.2.2.2.1, upG V.2.2.2.2 k g) := by
  refine ⟨h.1, h.2.1, h.2.2.1, h.2.2.2.1, fun q hq => ?_⟩
  show GI _ (upG V.2.2.2.2 k g q)
  by_cases e : q = k
  · subst e; rw [upG_at]; exact hg
  · rw [upG_ne e]; exact h.2.2.2.2 q hq
def FO (nF k : Nat) (f : FV) : Prop := (0 ≤ (fK f).toInt ∧ (fK f).toInt ≤ 5) ∧ (0 ≤ (fI f).toInt ∧ (fI f).toInt ≤ 9) ∧ (1 ≤ (fD f).toInt ∧ (fD f).toInt ≤ 99) ∧ (fN f = -1 ∨ ∃ p, p < nF ∧ p ≠ k ∧ fN f = nI p) ∧ fT f = 1
theorem VOk.F {V : CV} {k : Nat} (h : VOk V) (hk : k < V.1) : FO V.1 k (V.2.2.2.1 k) := h.2.2.2.1 k hk
theorem VOk.fUp {V : CV} {k : Nat} {f : FV} (h : VOk V) (hf : FO V.1 k f) : VOk (V.1, V.2.1, V.2.2.1, upF V.2.2.2.1 k f, V.2.2.2.2) := by
  refine ⟨h.1, h.2.1, h.2.2.1, fun q hq => ?_, h.2.2.2.2⟩
  show FO V.1 q (upF V.2.2.2.1 k f q)
  by_cases e : q = k
  · subst e; rw [upF_at]; exact hf
  · rw [upF_ne e]; exact h.2.2.2.1 q hq
