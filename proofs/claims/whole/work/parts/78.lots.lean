/-! LOTS -/
def lcg (x : Int32) : Int32 := x * 1103515245 + 12345
def drw (x n : Int32) : Int32 := ((x &&& 2147483647) / 65536) - ((x &&& 2147483647) / 65536) / n * n
theorem and31 (x : Int32) : ∃ X, x &&& 2147483647 = nI X ∧ X < 2 ^ 31 := by
  have h : 0 ≤ (x &&& 2147483647).toInt := by
    rw [← Int32.toInt_toBitVec, Int32.toBitVec_and]
    apply BitVec.toInt_nonneg_of_msb_false
    rw [BitVec.msb_and]
    have : (2147483647 : Int32).toBitVec.msb = false := by decide
    rw [this, Bool.and_false]
  obtain ⟨k, e, h1, -⟩ := i32_nI h
  exact ⟨k, e, h1⟩
theorem drw_e {m : Nat} (x : Int32) (h0 : 0 < m) (h1 : m < 2 ^ 31) : ∃ q, q < m ∧ drw x (nI m) = nI q := by
  obtain ⟨X, e, hX⟩ := and31 x
  unfold drw
  have e2 : nI X / 65536 = nI (X / 65536) := pk_div (d := 65536) hX (by decide) (by decide)
  have h2 : X / 65536 < 2 ^ 31 := Nat.lt_of_le_of_lt (Nat.div_le_self _ _) hX
  rw [e, e2, pk_rem h2 h0 h1]
  exact ⟨_, Nat.mod_lt _ h0, rfl⟩
def lxN (n y : Int32) (i : Nat) : Int32 := if drw y n = nI i then -1 else drw y n
def lwW (V : CV) : Nat → Int32 → CV × Int32
  | 0, x => (V, x)
  | i + 1, x => (VxN (lwW V i x).1 i (lxN (nI V.1) (lcg (lwW V i x).2) i), lcg (lwW V i x).2)
theorem lwW_k {V : CV} {x : Int32} : ∀ i, (lwW V i x).1.1 = V.1 ∧ (lwW V i x).1.2.1 = V.2.1 ∧ (lwW V i x).1.2.2.2.2 = V.2.2.2.2
  | 0 => ⟨rfl, rfl, rfl⟩
  | i + 1 => lwW_k (V := V) (x := x) i
theorem lxN_ok {n i : Nat} {y : Int32} (hn : n ≤ 6) (h : i < n) : lxN (nI n) y i = -1 ∨ ∃ q, q < n ∧ q ≠ i ∧ lxN (nI n) y i = nI q := by
  obtain ⟨q, hq, e⟩ := drw_e y (show 0 < n by omega) (by omega)
  unfold lxN
  rw [e]
  by_cases c : nI q = nI i
  · rw [if_pos c]; exact Or.inl rfl
  · rw [if_neg c]; exact Or.inr ⟨q, hq, fun z => c (by rw [z]), rfl⟩
theorem lwW_ok {V : CV} {x : Int32} (h : VOk V) : ∀ i, i ≤ V.1 → VOk (lwW V i x).1
  | 0, _ => h
  | i + 1, hi => by
    have ih := lwW_ok (x := x) h i (by omega)
    obtain ⟨e1, e2, e3⟩ := lwW_k (V := V) (x := x) i
    refine VxN.ok ih (by omega) ?_
    rw [e1]
    exact lxN_ok h.1 (by omega)
def lwU (V : CV) (w : Int32) (U : CV) : Int32 := if w = 0 then sm V.2.1 (fun k => gW (gIt U.2.2.2.1 24 (V.2.2.2.2 k))) - sm V.2.1 (fun k => gW (V.2.2.2.2 k)) else sm V.2.1 (fun k => gP (gIt U.2.2.2.1 24 (V.2.2.2.2 k))) - sm V.2.1 (fun k => gP (V.2.2.2.2 k))
def lotS (V : CV) (w : Int32) : Nat → Int32 → Int32 → Int32
  | 0, _, acc => acc
  | d + 1, x, acc => lotS V w d (lwW V V.1 x).2 (acc + lwU V w (lwW V V.1 x).1)
theorem lotS_0 {V : CV} {w : Int32} (h : V.2.1 = 0) : ∀ d x acc, lotS V w d x acc = acc
  | 0, _, _ => rfl
  | d + 1, x, acc => by
    unfold lotS
    rw [lotS_0 h d]
    unfold lwU
    rw [h]
    by_cases c : w = 0
    · rw [if_pos c]; simp [sm]
    · rw [if_neg c]; simp [sm]
theorem drawX_e {s : Mm} {V : CV} {x : Int32} (h : HC s 2 V) (hv : VOk V) : ∃ s', f_M_drawNexts s x = some ((lwW V V.1 x).2, s') ∧ HC s' 2 (lwW V V.1 x).1 ∧ Fr 2 s s' := by
  have hn := hv.1
  unfold f_M_drawNexts
  rw [nm_s, h.1.1]
  refine lp (α := Int32 × Mm) (fun t i y => k_M_drawNexts_13 t y.1 (nI V.1) (nI i) y.2) (fun i y => y.1 = (lwW V i x).2 ∧ HC y.2 2 (lwW V i x).1 ∧ Fr 2 s y.2) (fun r => ∃ s', r = some ((lwW V V.1 x).2, s') ∧ HC s' 2 (lwW V V.1 x).1 ∧ Fr 2 s s') V.1 ?_ ?_ KF 0 (x, s) (by omega) (by rw [KF_1]; omega) ⟨rfl, h, Fr.rf⟩
  · intro t y ⟨e1, e2, e3⟩
    unfold k_M_drawNexts_13
    rw [if_pos (nI_le (Nat.le_refl _) (by omega)), e1]
    exact ⟨y.2, rfl, e2, e3⟩
  · intro t i y hi ⟨e1, e2, e3⟩ ih
    obtain ⟨k1, k2, k3⟩ := lwW_k (V := V) (x := x) i
    unfold k_M_drawNexts_13
    rw [if_neg (nI_ge hi (by omega)), nm_s, gz_s (nI_ne0 (by omega) (by omega)), nm_s, friendAt_e (by omega), bn_s, nI_1]
    have hi' : i < (lwW V i x).1.1 := by omega
    have ho := lwW_ok (x := x) hv i (by omega)
    show ∃ s', (if drw (lcg y.1) (nI V.1) = nI i then _ else _) = _ ∧ _
    have key := fun z => e2.next (x := z) ho hi'
    by_cases c : drw (lcg y.1) (nI V.1) = nI i
    · rw [if_pos c, nm_s]
      obtain ⟨z1, z2⟩ := key (-1)
      refine ih (lcg y.1, _) ⟨by rw [e1]; rfl, ?_, e3.tr z2⟩
      show HC _ 2 (VxN (lwW V i x).1 i (lxN (nI V.1) (lcg (lwW V i x).2) i))
      rw [← e1, lxN, if_pos c]
      exact z1
    · rw [if_neg c, nm_s]
      obtain ⟨z1, z2⟩ := key (drw (lcg y.1) (nI V.1))
      refine ih (lcg y.1, _) ⟨by rw [e1]; rfl, ?_, e3.tr z2⟩
      show HC _ 2 (VxN (lwW V i x).1 i (lxN (nI V.1) (lcg (lwW V i x).2) i))
      rw [← e1, lxN, if_neg c]
      exact z1
theorem lotsX_e {s : Mm} {V : CV} {N : Nat} {x w : Int32} (h : HC s 0 V) (hv : VOk V) (hN : N ≤ 20) : ∃ s', f_M_moreByLot s (nI N) x w = some (lotS V w N x 0, s') ∧ Fr 2 s s' := by
  have hn := hv.1
  have hm := hv.2.1
  unfold f_M_moreByLot
  obtain ⟨T, hT⟩ : ∃ T, T = lotS V w N x 0 := ⟨_, rfl⟩
  rw [← hT]
  refine lp (α := Int32 × (Int32 × Int32) × Mm) (fun t i y => k_M_moreByLot_12 t (nI N) w y.1 y.2.1.1 y.2.1.2 (nI i) y.2.2) (fun i y => T = lotS V w (N - i) y.1 (if w = 0 then y.2.1.1 else y.2.1.2) ∧ Fr 2 s y.2.2) (fun r => ∃ s', r = some (T, s') ∧ Fr 2 s s') N ?_ ?_ KF 0 (x, (0, 0), s) (by omega) (by rw [KF_1]; omega) ⟨by rw [hT]; by_cases c : w = 0 <;> simp [c], Fr.rf⟩
  · intro t y ⟨e1, e2⟩
    unfold k_M_moreByLot_12
    rw [if_pos (nI_le (Nat.le_refl _) (by omega))]
    rw [Nat.sub_self] at e1
    refine ⟨y.2.2, ?_, e2⟩
    by_cases c : w = 0
    · rw [if_pos c] at e1 ⊢; rw [e1]; rfl
    · rw [if_neg c] at e1 ⊢; rw [e1]; rfl
  · intro t i y hi ⟨e1, e2⟩ ih
    obtain ⟨X, ⟨a, b⟩, m⟩ := y
    dsimp only at e1 e2 ⊢
    have h0 := h.fr hv e2 (by omega) (by omega) (by omega)
    obtain ⟨s1, a1, a2, a3, a4, a5⟩ := recall_e h0 hv
    obtain ⟨s2, b1, b2, b3⟩ := drawX_e (x := X) a2 hv
    have hu := lwW_ok (x := X) hv V.1 (Nat.le_refl _)
    obtain ⟨k1, k2, k3⟩ := lwW_k (V := V) (x := X) V.1
    obtain ⟨s3, c1, -, c3, -, -, c6⟩ := pass_e (N := 24) b2.1 b2.2.1 (fun q _ => rfl) hu.M.n hu.H hu.1 hu.2.1 (by omega) (by omega)
    have c1' : f_C_pass s2 2 24 = some s3 := c1
    have h3 := (a5.fr hv (b3.tr c6) (by omega) (by omega) (by omega))
    unfold k_M_moreByLot_12
    rw [if_neg (nI_ge hi (by omega)), a1, bn_s, b1, bn_s, c1', bv_s]
    simp only [allWorth_e c3 hu.2.1, allHands_e c3 hu.2.1, allWorth_e h3.2.1 hm, allHands_e h3.2.1 hm, bn_s, nm_s, nI_1, k2, k3]
    refine ih ((lwW V V.1 X).2, (_, _), s3) ⟨?_, e2.tr ((a4.tr b3).tr c6)⟩
    rw [show N - i = (N - (i + 1)) + 1 by omega] at e1
    unfold lotS lwU at e1
    by_cases c : w = 0
    · simp only [c, if_true] at e1 ⊢
      exact e1
    · simp only [c, if_false] at e1 ⊢
      exact e1
def FrD (s s' : Mm) : Prop := ∀ q j, q ≠ 181 → ¬ (q = 176 ∧ j = 31) → s' q j = s q j
theorem lotsR_e {s : Mm} {V : CV} {N : Nat} {x w : Int32} (h : RV s V) (hv : VOk V) (h14 : s 176 14 = 0) (hN : N ≤ 20) (h0 : 1 ≤ V.1) : ∃ s', k_R_lots_59 KF (nI N) w 0 0 (mU s 176 31 x) = some (lotS V w N x 0, s') ∧ RV s' V ∧ FrQR s s' := by
  have hn := hv.1
  have hm := hv.2.1
  obtain ⟨T, hT⟩ : ∃ T, T = lotS V w N x 0 := ⟨_, rfl⟩
  rw [← hT]
  have q0 : ∀ q j, ¬ (q = 176 ∧ j = 31) → mU s 176 31 x q j = s q j := fun q j hq => by rw [mU_get, if_neg hq]
  have w1 : mU s 176 31 x 176 31 = x := by rw [mU_get, if_pos ⟨rfl, rfl⟩]
  have w2 : RV (mU s 176 31 x) V := h.eq (fun q j hq => q0 q j (by omega))
  have w3 : mU s 176 31 x 176 14 = 0 := by rw [q0 176 14 (by omega)]; exact h14
  have w4 : FrQR s (mU s 176 31 x) := ⟨fun j _ => q0 193 j (by omega), fun q j _ _ _ hz => q0 q j (by omega)⟩
  refine lp (α := Int32 × Int32 × Mm) (fun t i y => k_R_lots_59 t (nI N) w y.2.1 (nI i) y.2.2) (fun i y => T = lotS V w (N - i) y.1 y.2.1 ∧ y.2.2 176 31 = y.1 ∧ RV y.2.2 V ∧ y.2.2 176 14 = 0 ∧ FrQR s y.2.2) (fun r => ∃ s', r = some (T, s') ∧ RV s' V ∧ FrQR s s') N ?_ ?_ KF 0 (x, 0, mU s 176 31 x) (by omega) (by rw [KF_1]; omega) ⟨hT, w1, w2, w3, w4⟩
  · intro t y ⟨e1, e2, e3, e4, e5⟩
    unfold k_R_lots_59
    rw [if_pos (nI_le (Nat.le_refl _) (by omega))]
    rw [Nat.sub_self] at e1
    exact ⟨y.2.2, by rw [e1]; rfl, e3, e5⟩
  · intro t i y hi ⟨e1, e2, e3, e4, e5⟩ ih
    obtain ⟨X, acc, m⟩ := y
    dsimp only at e1 e2 e3 e4 e5 ⊢
    obtain ⟨s1, a1, a2, a3, a4, a5⟩ := thinks_e e3 hv.1 hv.2.1
    have w31 : s1 176 31 = X := by rw [a5.2 _ _ (by omega) (by omega) (by omega)]; exact e2
    have w14 : s1 176 14 = 0 := by rw [a5.2 _ _ (by omega) (by omega) (by omega)]; exact e4
    rw [show N - i = (N - (i + 1)) + 1 by omega] at e1
    unfold lotS at e1
    -- the nexts are drawn, then two years go by
    have draws : ∀ v7, (∃ d, lwU V w (lwW V V.1 X).1 = d - v7 ∧ (w = 0 ∧ d = sm V.2.1 (fun k => gW (gIt (lwW V V.1 X).1.2.2.2.1 24 (V.2.2.2.2 k))) ∨ ¬ w = 0 ∧ d = sm V.2.1 (fun k => gP (gIt (lwW V V.1 X).1.2.2.2.1 24 (V.2.2.2.2 k))))) → ∃ s', k_R_lots_103 (fun v1 v3 v5 v6 s => k_R_lots_59 t v1 v3 v5 v6 s) KF (nI N) w acc (nI i) v7 0 s1 = some (T, s') ∧ RV s' V ∧ FrQR s s' := by
      intro v7 ⟨d, ed, hd⟩
      refine lp (α := Mm) (fun t2 k z => k_R_lots_103 (fun v1 v3 v5 v6 s => k_R_lots_59 t v1 v3 v5 v6 s) t2 (nI N) w acc (nI i) v7 (nI k) z) (fun k z => RV z (lwW V k X).1 ∧ z 176 31 = (lwW V k X).2 ∧ FrD s1 z) (fun r => ∃ s', r = some (T, s') ∧ RV s' V ∧ FrQR s s') V.1 ?_ ?_ KF 0 s1 (by omega) (by rw [KF_1]; omega) ⟨a2, w31, fun _ _ _ _ => rfl⟩
      · intro t2 z ⟨y1, y2, y3⟩
        have hu := lwW_ok (x := X) hv V.1 (Nat.le_refl _)
        obtain ⟨k1, k2, k3⟩ := lwW_k (V := V) (x := X) V.1
        obtain ⟨s3, c1, c2, c3, c4, c5, c6⟩ := goes_e (N := 24) (B := z 188) y1.1 y1.2.1 (fun _ _ => rfl) hu.M hu.1 hu.2.1 hu.G (by omega)
        have c1' : f_R_goes z 24 = some s3 := c1
        have x31 : s3 176 31 = (lwW V V.1 X).2 := by rw [c6 _ _ (by omega) (by omega)]; exact y2
        have x14 : s3 176 14 = 0 := by rw [c6 _ _ (by omega) (by omega), y3 _ _ (by omega) (by omega)]; exact w14
        have sb : SB s3 2 V := a3.eq hv.1 hv.2.1 (fun j _ _ => by rw [c6 _ _ (by omega) (by omega), y3 _ _ (by omega) (by omega)])
        obtain ⟨s4, d1, d2, d3⟩ := forgets_e sb hv.1 hv.2.1 x14 hv.T
        have fin : k_R_lots_186 (fun v1 v3 v5 v6 s => k_R_lots_59 t v1 v3 v5 v6 s) (nI N) w (nI i) v7 d acc s3 = k_R_lots_59 t (nI N) w (acc + lwU V w (lwW V V.1 X).1) (nI (i + 1)) s4 := by
          unfold k_R_lots_186
          rw [nm_s, d1, bv_s, nI_1, ed]
        have fq : FrQR m s4 := ⟨fun j hj => by rw [d3 _ _ (by omega) (by omega), c6 _ _ (by omega) (by omega), y3 _ _ (by omega) (by omega), a5.1 j (by omega)], fun q j u1 u2 u3 u4 => by rw [d3 q j (by omega) (by omega), c6 q j (by omega) (by omega), y3 q j (by omega) (by omega), a5.2 q j u1 (by omega) (by omega)]⟩
        have go := ih ((lwW V V.1 X).2, acc + lwU V w (lwW V V.1 X).1, s4) ⟨e1, by show s4 176 31 = _; rw [d3 _ _ (by omega) (by omega)]; exact x31, d2, by show s4 176 14 = _; rw [d3 _ _ (by omega) (by omega)]; exact x14, e5.tr fq⟩
        unfold k_R_lots_103
        rw [y1.1.1, k1, if_pos (nI_le (Nat.le_refl _) (by omega)), c1', bv_s]
        rcases hd with ⟨hw, hd⟩ | ⟨hw, hd⟩
        · rw [if_pos hw, RsumW_e c3 hu.2.1, bn_s, k2, k3, ← hd, fin]
          exact go
        · rw [if_neg hw, RsumP_e c3 hu.2.1, bn_s, k2, k3, ← hd, fin]
          exact go
      · intro t2 k z hk ⟨y1, y2, y3⟩ ih2
        obtain ⟨k1, k2, k3⟩ := lwW_k (V := V) (x := X) k
        have hk' : k < (lwW V k X).1.1 := by omega
        have ho := lwW_ok (x := X) hv k (by omega)
        unfold k_R_lots_103
        rw [y1.1.1, k1, if_neg (nI_ge hk (by omega))]
        obtain ⟨z1, ez1⟩ : ∃ z1, z1 = mU z 176 31 (lcg (z 176 31)) := ⟨_, rfl⟩
        have o1 : ∀ q j, ¬ (q = 176 ∧ j = 31) → z1 q j = z q j := fun q j hq => by rw [ez1, mU_get, if_neg hq]
        have o31 : z1 176 31 = lcg (lwW V k X).2 := by rw [ez1, mU_get, if_pos ⟨rfl, rfl⟩, y2]
        have ed2 : f_R_draw z (nI V.1) = some (drw (lcg (lwW V k X).2) (nI V.1), z1) := by
          show nm (mU z 176 31 (lcg (z 176 31))) _ = _
          rw [← ez1, nm_s, gz_s (nI_ne0 (by omega) (by omega)), o31]
          rfl
        have r1 : RV z1 (lwW V k X).1 := y1.eq (fun q j hq => o1 q j (by omega))
        have f1 : FrD s1 z1 := fun q j h1 h2 => by rw [o1 q j h2]; exact y3 q j h1 h2
        rw [ed2, bn_s, nI_1]
        have key : ∀ x' v, v = nx x' → RV (mU z1 181 k v) (VxN (lwW V k X).1 k x') ∧ mU z1 181 k v 176 31 = lcg (lwW V k X).2 ∧ FrD s1 (mU z1 181 k v) := fun x' v e => ⟨VxN.up hk' z1 (fN ((lwW V k X).1.2.2.2.1 k)) v x' e (by rw [VxN.id]; exact r1), by rw [mU_get, if_neg (by omega)]; exact o31, fun q j h1 h2 => by rw [mU_get, if_neg (fun u => h1 u.1)]; exact f1 q j h1 h2⟩
        by_cases c : drw (lcg (lwW V k X).2) (nI V.1) = nI k
        · rw [if_pos c, gd_n (show k < 6 by omega) (by omega), nm_s, nI_clamp (by omega)]
          refine ih2 _ ?_
          show RV _ (VxN (lwW V k X).1 k (lxN (nI V.1) (lcg (lwW V k X).2) k)) ∧ _
          rw [lxN, if_pos c]
          exact key _ _ nx_m1
        · rw [if_neg c, gd_n (show k < 6 by omega) (by omega), nm_s, nI_clamp (by omega)]
          obtain ⟨q, hq, eq⟩ := drw_e (lcg (lwW V k X).2) (show 0 < V.1 by omega) (show V.1 < 2 ^ 31 by omega)
          refine ih2 _ ?_
          show RV _ (VxN (lwW V k X).1 k (lxN (nI V.1) (lcg (lwW V k X).2) k)) ∧ _
          rw [lxN, if_neg c, eq]
          exact key _ _ (nx_nI (by omega))
    unfold k_R_lots_59
    rw [if_neg (nI_ge hi (by omega)), a1, bv_s]
    by_cases c : w = 0
    · rw [if_pos c, RsumW_e a2.2.1 hm, bn_s]
      exact draws _ ⟨_, by unfold lwU; rw [if_pos c], Or.inl ⟨c, rfl⟩⟩
    · rw [if_neg c, RsumP_e a2.2.1 hm, bn_s]
      exact draws _ ⟨_, by unfold lwU; rw [if_neg c], Or.inr ⟨c, rfl⟩⟩
def noLots (a b : Int32) : Int32 := fst3 (btw a 1 20) (wNo b 1) 0
def vLots (a x w : Int32) (S : SV) : Int32 := if S.1.1 = 0 then 0 else lotS S.1 w (ix a) x 0
theorem op_lots (a x w : Int32) : OpI (fun s => f_X_lots s a x w) (fun s => f_R_lots s a x w) := by
  refine OpI.q2 (mx' := fun s => f_M_moreByLot s a x w) (mr := fun s => k_R_lots_27 a x w 0 s) (fun _ => noLots a w) (vLots a x w) (fun S => Codes.fst (Codes.b _ _ _) (Codes.w _ _) Codes.z) ?_ ?_ ?_ ?_
  · intro s S h
    unfold f_X_lots
    simp only [between_e, bn_s, whatNo_e, first_e, bn_eta]
    rfl
  · intro s S h
    show f_R_lots s a x w = _
    unfold f_R_lots noLots fst3
    simp only [bound_e, bn_s, isIn_e, isI_w]
    by_cases c : btw a 1 20 = 0
    · by_cases d : wNo w 1 = 0
      · simp [c, d]
      · simp [c, d, wNo_m2 d, k_R_lots_27, bn_eta]
    · simp [c, k_R_lots_27, bn_eta]
  · intro s S h e
    obtain ⟨e1, e2, -⟩ := fst3_0 e
    obtain ⟨N, -, hN, rfl⟩ := btw_0 (lo := 1) (hi := 20) (by omega) (by omega) e1
    have hv := h.2.1
    obtain ⟨s', c1, c2⟩ := lotsX_e (x := x) (w := w) h.1 hv hN
    unfold vLots
    rw [ix_nI (by omega)]
    refine ⟨s', ?_, c2.q⟩
    by_cases c : S.1.1 = 0
    · have h0 : S.1.2.1 = 0 := by
        by_cases d : S.1.2.1 = 0
        · exact d
        · obtain ⟨⟨p, hp, -⟩, -⟩ := hv.H 0 (by omega)
          omega
      rw [if_pos c]
      rw [lotS_0 h0] at c1
      exact c1
    · rw [if_neg c]; exact c1
  · intro s S ho h e
    obtain ⟨e1, e2, -⟩ := fst3_0 e
    obtain ⟨N, -, hN, rfl⟩ := btw_0 (lo := 1) (hi := 20) (by omega) (by omega) e1
    have hn := ho.1.1
    unfold vLots k_R_lots_27
    rw [ix_nI (by omega), if_pos rfl, show s 176 11 = nI S.1.1 from h.1.1.1]
    by_cases c : S.1.1 = 0
    · rw [if_pos c, if_pos (show nI S.1.1 = 0 by rw [c]; rfl)]
      exact ⟨s, rfl, h.1, FrQR.rf⟩
    · rw [if_neg c, if_neg (nI_ne0 (by omega) (by omega)), nm_s]
      exact lotsR_e h.1 ho.1 h.2.1 hN (by omega)
