/-! the law: rows -/
def SX (z : Zt) (L0 : Nat) (xs : Nat → Int32) : Prop := L0 ≤ 3072 ∧ match z with
  | (_, _, _, s, _, _, _, _, _, _, _, _, ad, A, _, _) => va_X (ad 196) L0 xs s s.heap ∧ ad 196 < s.heap.size ∧ ¬ A (ad 196)
section LAW
variable {l : Launch} {z : Zt} {cc : ByteArray} {nL pc fr lo : Nat} {own : String} {L : List (Nat × Value)} {st : List Value} {σ : Mm} {L0 : Nat} {xs : Nat → Int32}
theorem g_slen (hz : ZOk z cc nL own fr lo) (hX : SX z L0 xs) (d : decode cc pc = .ok (.arraylength, 1)) (k : G l z cc nL (pc + 1) L (.int (nI L0) :: st) σ) : G l z cc nL pc L (.ref 196 :: st) σ := by
  obtain ⟨p, e, R, s, m, args, below, meth, c, Q, D, cy, ad, A, kc, ks'⟩ := z
  exact fun ls H locs hl hP hS => va_slen hz.1 hz.2.1 hX.2.1 hX.2.2.1 hX.2.2.2 hS d (k ls H locs hl hP hS)
theorem g_sld (hz : ZOk z cc nL own fr lo) (hX : SX z L0 xs) {i : Int32} (hi : vp_in i L0) (d : decode cc pc = .ok (.iaload, 1)) (k : G l z cc nL (pc + 1) L (.int (xs i.toNatClampNeg) :: st) σ) : G l z cc nL pc L (.int i :: .ref 196 :: st) σ := by
  obtain ⟨p, e, R, s, m, args, below, meth, c, Q, D, cy, ad, A, kc, ks'⟩ := z
  exact fun ls H locs hl hP hS => va_sld hz.1 hz.2.1 hX.2.1 hX.2.2.1 hX.2.2.2 hS hi d (k ls H locs hl hP hS)
abbrev LcL (i : Nat) : List (Nat × Value) := [(3, .int (nI i)), (2, .ref 176), (1, .ref 165), (0, .ref 196)]
theorem g_arg (hz : ZOk z cc nL own fr lo) (hX : SX z L0 xs) {i : Nat} (k : Nat) {a : Int} (d0 : decode cc pc = .ok (.aload_n 0, 1)) (d1 : decode cc (pc + 1) = .ok (.iload_n 3, 1)) (d2 : decode cc (pc + 2) = .ok (.iconst a, 1)) (hv : Int32.ofInt a = nI k) (d3 : decode cc (pc + 3) = .ok (.iadd, 1)) (d4 : decode cc (pc + 4) = .ok (.iaload, 1)) (hin : i + k < L0) (kk : G l z cc nL (pc + 5) (LcL i) (.int (xs (i + k)) :: st) σ) : G l z cc nL pc (LcL i) st σ := by
  have h3072 := hX.1
  refine g_aload_n hz 3 d0 rfl rfl ?_
  refine g_iload_n hz 0 d1 rfl rfl ?_
  refine g_iconst hz d2 hv ?_
  refine g_iadd hz d3 ?_
  rw [nI_add]
  refine g_sld hz hX (vp_in_nI hin (by omega)) d4 ?_
  rw [nI_clamp (by omega)]
  exact kk
theorem lg_self (x : Int64) : lg_cmp x x = 0 := by
  unfold lg_cmp
  rw [if_neg (show ¬ x > x from fun h => by
    have := Int64.lt_iff_toInt_lt.mp h
    omega), if_pos rfl]
end LAW
def S0 : SV := ((0, 0, 0, fun _ => (0, 0, 1, -1, 1), fun _ => (0, 1, 0, 0, 0, 0)), (0, (0, 0, 0, fun _ => (0, 0, 1, -1, 1), fun _ => (0, 1, 0, 0, 0, 0))), (0, fun _ => (0, 0, 0, fun _ => (0, 0, 1, -1, 1), fun _ => (0, 1, 0, 0, 0, 0))), (0, fun _ => 0), (0, fun _ => 0), fun _ => 0)
theorem no0 {p : Nat → Prop} : ∀ k, k < 0 → p k := fun k h => absurd h (Nat.not_lt_zero k)
theorem V0_ok : VOk (0, 0, 0, fun _ => (0, 0, 1, -1, 1), fun _ => (0, 1, 0, 0, 0, 0)) := ⟨Nat.zero_le _, Nat.zero_le _, ⟨by show 0 ≤ (0 : Int32).toInt; decide, by show (0 : Int32).toInt ≤ 999; decide⟩, no0, no0⟩
theorem XI_0 : XI s0F S0 := ⟨⟨⟨rfl, no0⟩, ⟨rfl, no0⟩, rfl⟩, V0_ok, ⟨rfl, Or.inl rfl⟩, ⟨0, by omega, Nat.zero_le _, rfl, rfl, no0⟩, ⟨Nat.zero_le _, rfl, no0⟩, ⟨Nat.zero_le _, rfl, no0⟩, fun _ _ => rfl⟩
theorem RI_0 : RI s0F S0 := ⟨⟨⟨rfl, no0⟩, ⟨rfl, no0⟩, rfl⟩, rfl, ⟨rfl, fun h => absurd h (by decide)⟩, ⟨rfl, no0⟩, ⟨rfl, no0⟩, ⟨rfl, no0⟩, fun _ _ => rfl⟩
theorem and63 (x : Int32) : ∃ n, n < 64 ∧ x &&& 63 = nI n := by
  have e : x = nI x.toBitVec.toNat := by
    apply Int32.toBitVec_inj.mp
    show x.toBitVec = BitVec.ofNat 32 x.toBitVec.toNat
    simp
  refine ⟨x.toBitVec.toNat % 2 ^ 6, Nat.mod_lt _ (by decide), ?_⟩
  have h := pk_andN (n := x.toBitVec.toNat) (m := 63) (by have := x.toBitVec.isLt; simpa using this) 6 (by decide)
  rw [← e] at h
  exact h
