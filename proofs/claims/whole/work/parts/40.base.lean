/-! the functions' words, evaluated -/
theorem bn_s {α β : Type} (a : α) (s : Mm) (f : α → Mm → Option β) : bn (some (a, s)) f = f a s := rfl
theorem bv_s {β : Type} (s : Mm) (f : Mm → Option β) : bv (some s) f = f s := rfl
theorem nm_s {α β : Type} (e : α) (f : α → Option β) : nm e f = f e := rfl
theorem gd_s {β : Type} {i : Int32} {n : Nat} {b : Option β} (h : vp_in i n) : gd i n b = b := if_neg h
theorem gd_n {β : Type} {k n : Nat} {b : Option β} (h : k < n) (hn : n < 2 ^ 31) : gd (nI k) n b = b := gd_s (vp_in_nI h hn)
theorem gb_0 {β : Type} {b : Option β} : gb 0 b = b := if_pos (Or.inl rfl)
theorem gb_1 {β : Type} {b : Option β} : gb 1 b = b := if_pos (Or.inr rfl)
theorem gb_s {β : Type} {v : Int32} {b : Option β} (h : v = 0 ∨ v = 1) : gb v b = b := if_pos h
theorem gz_s {β : Type} {v : Int32} {b : Option β} (h : ¬ v = 0) : gz v b = b := if_neg h
theorem gZ_s {β : Type} {v : Int64} {b : Option β} (h : ¬ v = 0) : gZ v b = b := if_neg h
/-- a counted loop: an invariant at its head, what is wanted of its end -/
theorem lp {α R : Type} (K : Nat → Nat → α → R) (P : Nat → α → Prop) (Done : R → Prop) (N : Nat)
    (hx : ∀ (n : Nat) (a : α), P N a → Done (K (n + 1) N a))
    (hs : ∀ (n i : Nat) (a : α), i < N → P i a → (∀ a' : α, P (i + 1) a' → Done (K n (i + 1) a')) → Done (K (n + 1) i a)) :
    ∀ (n i : Nat) (a : α), i ≤ N → N - i < n → P i a → Done (K n i a) := by
  intro n
  induction n with
  | zero => intro i a _ h _; omega
  | succ n ih =>
    intro i a hi hn hP
    by_cases h : i = N
    · subst h; exact hx n a hP
    · exact hs n i a (by omega) hP (fun a' h' => ih (i + 1) a' (by omega) (by omega) h')
/-! numbers -/
theorem nI_lit (n : Nat) : (OfNat.ofNat n : Int32) = nI n := rfl
theorem nI_0' : (0 : Int32) = nI 0 := rfl
theorem le_nI {a b : Nat} (ha : a < 2 ^ 31) (hb : b < 2 ^ 31) : (nI a ≤ nI b) = (a ≤ b) := propext (nI_leI ha hb)
theorem lt_nI {a b : Nat} (ha : a < 2 ^ 31) (hb : b < 2 ^ 31) : (nI a < nI b) = (a < b) := propext (nI_ltI ha hb)
theorem eq_nI {a b : Nat} (ha : a < 2 ^ 31) (hb : b < 2 ^ 31) : (nI a = nI b) = (a = b) := propext (nI_eq ha hb)
theorem i32_le (a b : Int32) : (a ≤ b) = (a.toInt ≤ b.toInt) := propext Int32.le_iff_toInt_le
theorem i32_lt (a b : Int32) : (a < b) = (a.toInt < b.toInt) := propext Int32.lt_iff_toInt_lt
theorem i32_eq (a b : Int32) : (a = b) = (a.toInt = b.toInt) := propext Int32.toInt_inj.symm
theorem i32_range (a : Int32) : -2147483648 ≤ a.toInt ∧ a.toInt < 2147483648 := ⟨Int32.le_toInt a, Int32.toInt_lt a⟩
theorem i32_add {a b : Int32} (h1 : -2147483648 ≤ a.toInt + b.toInt) (h2 : a.toInt + b.toInt < 2147483648) : (a + b).toInt = a.toInt + b.toInt := by
  rw [Int32.toInt_add]
  exact Int.bmod_eq_of_le (by omega) (by omega)
theorem i32_sub {a b : Int32} (h1 : -2147483648 ≤ a.toInt - b.toInt) (h2 : a.toInt - b.toInt < 2147483648) : (a - b).toInt = a.toInt - b.toInt := by
  rw [Int32.toInt_sub]
  exact Int.bmod_eq_of_le (by omega) (by omega)
theorem i32_mul {a b : Int32} (h1 : -2147483648 ≤ a.toInt * b.toInt) (h2 : a.toInt * b.toInt < 2147483648) : (a * b).toInt = a.toInt * b.toInt := by
  rw [Int32.toInt_mul]
  exact Int.bmod_eq_of_le (by omega) (by omega)
theorem i32_nI {x : Int32} (h : 0 ≤ x.toInt) : ∃ k : Nat, x = nI k ∧ k < 2 ^ 31 ∧ (k : Int) = x.toInt := by
  have := (i32_range x).2
  refine ⟨x.toInt.toNat, ?_, by omega, by omega⟩
  rw [i32_eq, nI_toInt (by omega)]
  omega
theorem m1_ne {k : Nat} (h : k < 2 ^ 31) : ¬ nI k = -1 := by
  rw [i32_eq, nI_toInt h]
  have : (-1 : Int32).toInt = -1 := by decide
  omega
theorem m9_ne {k : Nat} (h : k < 2 ^ 31) : ¬ nI k = -9 := by
  rw [i32_eq, nI_toInt h]
  have : (-9 : Int32).toInt = -9 := by decide
  omega
theorem KF_1 : KF = 999 + 1 := rfl
/-! leaves -/
theorem friendAt_e {s : Mm} {o k : Nat} (h : k < 6) : f_C_friendAt s o (nI k) = some (33 + 7 * o + k, s) := by
  unfold f_C_friendAt
  rw [if_neg (nI_pos (by omega)), if_pos (show nI k < 6 from nI_lt (b := 6) h (by omega)), gd_n h (by omega), nI_clamp (by omega)]
theorem giftAt_e {s : Mm} {o k : Nat} (h : k < 4) : f_C_giftAt s o (nI k) = some (110 + 5 * o + k, s) := by
  unfold f_C_giftAt
  rw [if_neg (nI_pos (by omega)), if_pos (show nI k < 4 from nI_lt (b := 4) h (by omega)), gd_n h (by omega), nI_clamp (by omega)]
/-- no, by a bound -/
def inN (m a : Int32) : Int32 := if a < 0 then 0 else if m ≤ a then 0 else 1
theorem hasFriend_e (s : Mm) (o : Nat) (a : Int32) : f_C_hasFriend s o a = some (inN (s o 4) a, s) := by
  unfold f_C_hasFriend inN
  repeat' split
  all_goals rfl
theorem hasGift_e (s : Mm) (o : Nat) (a : Int32) : f_C_hasGift s o a = some (inN (s o 5) a, s) := by
  unfold f_C_hasGift inN
  repeat' split
  all_goals rfl
theorem isFriend_e (s : Mm) (a : Int32) : f_R_isFriend s a = some (inN (s 176 11) a, s) := by
  unfold f_R_isFriend inN
  repeat' split
  all_goals rfl
theorem isGift_e (s : Mm) (a : Int32) : f_R_isGift s a = some (inN (s 176 12) a, s) := by
  unfold f_R_isGift inN
  repeat' split
  all_goals rfl
theorem inN_iff {n : Nat} {a : Int32} (hn : n < 2 ^ 31) : (∃ k : Nat, k < n ∧ a = nI k ∧ inN (nI n) a = 1) ∨ ((¬ ∃ k : Nat, k < n ∧ a = nI k) ∧ inN (nI n) a = 0) := by
  unfold inN
  by_cases h1 : a < 0
  · rw [if_pos h1]
    refine Or.inr ⟨?_, rfl⟩
    rintro ⟨k, hk, rfl⟩
    exact nI_pos (by omega) h1
  · rw [if_neg h1]
    obtain ⟨k, rfl, hk, -⟩ := i32_nI (x := a) (by
      rw [i32_lt] at h1
      have : (0 : Int32).toInt = 0 := rfl
      omega)
    simp only [le_nI hn hk]
    by_cases h2 : n ≤ k
    · rw [if_pos h2]
      refine Or.inr ⟨?_, rfl⟩
      rintro ⟨j, hj, e⟩
      rw [eq_nI hk (by omega)] at e
      omega
    · rw [if_neg h2]
      exact Or.inl ⟨k, by omega, rfl, rfl⟩
theorem inN_nI {k n : Nat} (h : k < n) (hn : n < 2 ^ 31) : inN (nI n) (nI k) = 1 := by
  unfold inN
  rw [if_neg (nI_pos (by omega)), if_neg (nI_ge h hn)]
def btw (a lo hi : Int32) : Int32 := if lo ≤ a then (if a ≤ hi then 0 else -6) else -4
theorem between_e (s : Mm) (a lo hi : Int32) : f_X_between s a lo hi = some (btw a lo hi, s) := by
  unfold f_X_between btw
  repeat' split
  all_goals rfl
theorem bound_e (s : Mm) (a lo hi : Int32) : f_R_bound s a lo hi = some (btw a lo hi, s) := by
  unfold f_R_bound btw
  repeat' split
  all_goals rfl
theorem spanNo_e (s : Mm) (a : Int32) : f_X_spanNo s a = some (btw a 0 60, s) := by
  unfold f_X_spanNo; rw [between_e]; rfl
theorem notMonths_e (s : Mm) (a : Int32) : f_R_notMonths s a = some (btw a 0 60, s) := by
  unfold f_R_notMonths; rw [bound_e]; rfl
def isI (a lo hi : Int32) : Int32 := if a < lo then 0 else if hi < a then 0 else 1
theorem isIn_e (s : Mm) (a lo hi : Int32) : f_R_isIn s a lo hi = some (isI a lo hi, s) := by
  unfold f_R_isIn isI
  repeat' split
  all_goals rfl
def wNo (a m : Int32) : Int32 := if a < 0 then -2 else if m < a then -2 else 0
theorem whatNo_e (s : Mm) (a m : Int32) : f_X_whatNo s a m = some (wNo a m, s) := by
  unfold f_X_whatNo wNo
  repeat' split
  all_goals rfl
def fst3 (a b c : Int32) : Int32 := if a = 0 then (if b = 0 then c else b) else a
theorem first_e (s : Mm) (a b c : Int32) : f_X_first s a b c = some (fst3 a b c, s) := by
  unfold f_X_first fst3
  repeat' split
  all_goals rfl
def gNo (m a : Int32) : Int32 := if inN m a = 0 then -1 else 0
theorem friendNo_e (s : Mm) (a : Int32) : f_X_friendNo s a = some (gNo (s 0 4) a, s) := by
  unfold f_X_friendNo gNo
  rw [hasFriend_e, bn_s]
  split <;> rfl
theorem giftNo_e (s : Mm) (a : Int32) : f_X_giftNo s a = some (gNo (s 0 5) a, s) := by
  unfold f_X_giftNo gNo
  rw [hasGift_e, bn_s]
  split <;> rfl
def hld (a lo hi : Int32) : Int32 := if lo ≤ a then (if a ≤ hi then a else hi) else lo
theorem held_e (s : Mm) (a lo hi : Int32) : f_R_held s a lo hi = some (hld a lo hi, s) := by
  unfold f_R_held hld
  repeat' split
  all_goals rfl
def hasB (a k : Int32) : Int32 := if ((a >>> (k &&& 31)) &&& 1) = 1 then 1 else 0
theorem has_e (s : Mm) (a k : Int32) : f_R_has s a k = some (hasB a k, s) := by
  unfold f_R_has hasB
  split <;> rfl
/-! what the kinds do -/
def wtK (k f : Int32) : Int32 := if k = 1 then 12 else if k = 2 then 6 else if k = 3 then 3 else if k = 4 then 11 else if k = 5 then 1 else 12 - f
def adK (k f : Int32) : Int32 := if k = 1 then 1 else if k = 2 then 5 else if k = 3 then 2 else if k = 4 then 1 + f else if k = 5 then (f + 1) / 2 else f + 1
def swK (k f : Int32) : Int32 := if k = 1 then 0 else if k = 2 then f else if k = 3 then -3 else if k = 4 then 4 else if k = 5 then mn (f / 2) 2 else f / 2
theorem waitsOf_e (s : Mm) (k f : Int32) : f_K_waitsOf s k f = some (wtK k f, s) := by
  unfold f_K_waitsOf wtK
  repeat' split
  all_goals rfl
theorem addsOf_e (s : Mm) (k f : Int32) : f_K_addsOf s k f = some (adK k f, s) := by
  unfold f_K_addsOf adK
  rw [nm_s]
  repeat' split
  all_goals rfl
theorem mn_g (x : Int32) : mn x 2 = if 2 ≤ x then 2 else x := by
  unfold mn
  simp only [i32_lt, i32_le]
  split <;> split <;> first | rfl | omega | exact Int32.toInt_inj.mp (by omega)
theorem swellsOf_e (s : Mm) (k f : Int32) : f_K_swellsOf s k f = some (swK k f, s) := by
  unfold f_K_swellsOf swK
  rw [nm_s, mn_g]
  repeat' split
  all_goals rfl
theorem RwaitsOf_e {s : Mm} {p : Nat} (h : p < 6) : f_R_waitsOf s (nI p) = some (wtK (s 178 p) (s 179 p), s) := by
  unfold f_R_waitsOf wtK
  rw [gd_n h (by omega), nI_clamp (by omega)]
  repeat' split
  all_goals first | rfl | (rw [gd_n h (by omega)])
theorem RaddsOf_e {s : Mm} {p : Nat} (h : p < 6) : f_R_addsOf s (nI p) = some (adK (s 178 p) (s 179 p), s) := by
  unfold f_R_addsOf adK
  rw [gd_n h (by omega), nI_clamp (by omega)]
  repeat' split
  all_goals first | rfl | (rw [gd_n h (by omega)])
theorem mn_e (x : Int32) : mn x 2 = if x ≤ 2 then x else 2 := by
  unfold mn
  simp only [i32_lt, i32_le]
  split <;> split <;> first | rfl | omega
theorem RswellsOf_e {s : Mm} {p : Nat} (h : p < 6) : f_R_swellsOf s (nI p) = some (swK (s 178 p) (s 179 p), s) := by
  unfold f_R_swellsOf swK
  rw [gd_n h (by omega), nI_clamp (by omega), nm_s, gd_n h (by omega), mn_e]
  repeat' split
  all_goals first | rfl | (rw [gd_n h (by omega)])
