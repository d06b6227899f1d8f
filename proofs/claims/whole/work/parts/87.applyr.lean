/-! STATEMENTS applied by the reference -/
def FrA (s s' : Mm) : Prop := ∀ z k, ¬ (178 ≤ z ∧ z ≤ 188) → ¬ (z = 176 ∧ (k = 11 ∨ k = 12 ∨ k = 13 ∨ k = 25 ∨ k = 26)) → s' z k = s z k
theorem FrA.tr {s s1 s2 : Mm} (h : FrA s s1) (h2 : FrA s1 s2) : FrA s s2 := fun z k a b => (h2 z k a b).trans (h z k a b)
def RR (a : Mm) (r : Option CV) (f : Option (Int32 × Mm)) : Prop := (r = none → f = some (0, a)) ∧ ∀ W, r = some W → ∃ a', f = some (1, a') ∧ RV a' W ∧ FrA a a'
theorem RR.n {a : Mm} {f : Option (Int32 × Mm)} (h : f = some (0, a)) : RR a none f := ⟨fun _ => h, fun W e => by cases e⟩
theorem RR.s {a a' : Mm} {W : CV} {f : Option (Int32 × Mm)} (h : f = some (1, a')) (h1 : RV a' W) (h2 : FrA a a') : RR a (some W) f := ⟨fun e => (by cases e), fun W' e => (by cases e; exact ⟨a', h, h1, h2⟩)⟩
theorem RR.b {a : Mm} {r : Option CV} {f : Option (Int32 × Mm)} (h : RR a r f) : RR a r (bn f fun x s' => gb x <| some (x, s')) := by
  refine ⟨fun e => ?_, fun W e => ?_⟩
  · rw [h.1 e, bn_s, gb_0]
  · obtain ⟨a', h1, h2⟩ := h.2 W e
    exact ⟨a', by rw [h1, bn_s, gb_1], h2⟩
theorem addsF_e {a : Mm} {V : CV} {k f w : Int32} (h : RV a V) (h14 : a 176 14 = 0) (hn : V.1 < 6) : ∃ a', f_R_addsFriend a k f w = some a' ∧ RV a' (fAdd V (newF k f w)) ∧ FrA a a' := by
  unfold f_R_addsFriend
  have g1 : a 176 11 = nI V.1 := h.1.1
  have gn : ∀ (t : Mm) (o i : Nat) (v : Int32), o ≠ 176 → mU t o i v 176 11 = t 176 11 := fun t o i v ho => by rw [mU_get, if_neg (by omega)]
  simp only [gn _ 178 _ _ (by omega), gn _ 179 _ _ (by omega), gn _ 180 _ _ (by omega), gn _ 181 _ _ (by omega), g1, nm_s, gd_n hn (show 6 < 2 ^ 31 by omega), bv_s, nI_clamp (show V.1 < 2 ^ 31 by omega), nI_1]
  obtain ⟨s3, es3⟩ : ∃ s3, s3 = mU (mU (mU (mU a 178 V.1 k) 179 V.1 f) 180 V.1 w) 181 V.1 (-9) := ⟨_, rfl⟩
  rw [← es3]
  have f3 : ∀ z j, (z < 178 ∨ 181 < z) → s3 z j = a z j := fun z j hz => by rw [es3]; simp [mU_get, show z ≠ 178 by omega, show z ≠ 179 by omega, show z ≠ 180 by omega, show z ≠ 181 by omega]
  obtain ⟨s4, es4⟩ : ∃ s4, s4 = mU s3 176 11 (nI (V.1 + 1)) := ⟨_, rfl⟩
  rw [← es4]
  have f4 : ∀ z j, ¬ (z = 176 ∧ j = 11) → s4 z j = s3 z j := fun z j hz => by rw [es4, mU_get, if_neg hz]
  have k4 : s4 176 11 = nI (V.1 + 1) := by rw [es4, mU_get, if_pos ⟨rfl, rfl⟩]
  have hF : RFv s4 (V.1 + 1) (upF V.2.2.2.1 V.1 (newF k f w)) := by
    refine h.1.add k4 (by rw [f4 _ _ (by omega), f3 _ _ (by omega)]) h14 hn rfl (fun q hq => ⟨?_, ?_, ?_, ?_⟩) ?_ ?_ ?_ ?_
    all_goals rw [f4 _ _ (by omega), es3]
    all_goals simp [mU_get, newF]
    all_goals first
      | exact fun z => absurd z hq
      | rfl
  exact ⟨s4, rfl, ⟨hF, h.2.1.o (fun z j hz => by rw [f4 _ _ (by omega), f3 _ _ (by omega)]), by rw [f4 _ _ (by omega), f3 _ _ (by omega)]; exact h.2.2⟩, fun z j h1 h2 => by rw [f4 z j (by omega), f3 z j (by omega)]⟩
theorem addsG_e {a : Mm} {V : CV} {p w z : Int32} (h : RV a V) (hm : V.2.1 < 4) : ∃ a', f_R_addsGift a w z p = some a' ∧ RV a' (gAdd V (newG p w z)) ∧ FrA a a' := by
  unfold f_R_addsGift
  have g1 : a 176 12 = nI V.2.1 := h.2.1.1
  have gn : ∀ (t : Mm) (o i : Nat) (v : Int32), o ≠ 176 → mU t o i v 176 12 = t 176 12 := fun t o i v ho => by rw [mU_get, if_neg (by omega)]
  simp only [gn _ 182 _ _ (by omega), gn _ 183 _ _ (by omega), gn _ 187 _ _ (by omega), g1, nm_s, gd_n hm (show 4 < 2 ^ 31 by omega), bv_s, nI_clamp (show V.2.1 < 2 ^ 31 by omega), puts_e hm]
  obtain ⟨s3, es3⟩ : ∃ s3, s3 = mU (mU (mU (mU (mU (mU a 182 V.2.1 w) 183 V.2.1 z) 187 V.2.1 0) 184 V.2.1 p) 185 V.2.1 0) 186 V.2.1 0 := ⟨_, rfl⟩
  rw [← es3]
  have f3 : ∀ z j, (z < 182 ∨ 187 < z) → s3 z j = a z j := fun z j hz => by rw [es3]; simp [mU_get, show z ≠ 182 by omega, show z ≠ 183 by omega, show z ≠ 184 by omega, show z ≠ 185 by omega, show z ≠ 186 by omega, show z ≠ 187 by omega]
  have w3 : s3 176 12 = nI V.2.1 := by rw [f3 _ _ (by omega)]; exact g1
  rw [w3, nI_1]
  obtain ⟨s4, es4⟩ : ∃ s4, s4 = mU s3 176 12 (nI (V.2.1 + 1)) := ⟨_, rfl⟩
  rw [← es4]
  have f4 : ∀ z j, ¬ (z = 176 ∧ j = 12) → s4 z j = s3 z j := fun z j hz => by rw [es4, mU_get, if_neg hz]
  have k4 : s4 176 12 = nI (V.2.1 + 1) := by rw [es4, mU_get, if_pos ⟨rfl, rfl⟩]
  have hG : RGv s4 (V.2.1 + 1) (upG V.2.2.2.2 V.2.1 (newG p w z)) := by
    refine h.2.1.add k4 (fun q hq => ?_) ?_
    · simp only [rRow, fun j => f4 182 j (by omega), fun j => f4 183 j (by omega), fun j => f4 184 j (by omega), fun j => f4 185 j (by omega), fun j => f4 186 j (by omega), fun j => f4 187 j (by omega)]
      rw [es3]
      simp [mU_get, hq]
    · simp only [rRow, fun j => f4 182 j (by omega), fun j => f4 183 j (by omega), fun j => f4 184 j (by omega), fun j => f4 185 j (by omega), fun j => f4 186 j (by omega), fun j => f4 187 j (by omega)]
      rw [es3]
      simp [mU_get, newG]
  exact ⟨s4, rfl, ⟨h.1.eq (by rw [f4 _ _ (by omega), f3 _ _ (by omega)]) (by rw [f4 _ _ (by omega), f3 _ _ (by omega)]) (fun k => ⟨by rw [f4 _ _ (by omega), f3 _ _ (by omega)], by rw [f4 _ _ (by omega), f3 _ _ (by omega)], by rw [f4 _ _ (by omega), f3 _ _ (by omega)], by rw [f4 _ _ (by omega), f3 _ _ (by omega)]⟩), hG, by rw [f4 _ _ (by omega), f3 _ _ (by omega)]; exact h.2.2⟩, fun y j h1 h2 => by rw [f4 y j (by omega), f3 y j (by omega)]⟩
theorem isFr_e {a : Mm} {V : CV} {d : Nat} (h : RV a V) (hv : VOk V) (hd : d < 2 ^ 31) : f_R_isFriend a (nI d) = some (if d < V.1 then 1 else 0, a) := by
  have hn := hv.1
  rw [isFriend_e, h.1.1, inN_d (by omega) hd]
theorem isGi_e {a : Mm} {V : CV} {d : Nat} (h : RV a V) (hv : VOk V) (hd : d < 2 ^ 31) : f_R_isGift a (nI d) = some (if d < V.2.1 then 1 else 0, a) := by
  have hm := hv.2.1
  rw [isGift_e, h.2.1.1, inN_d (by omega) hd]
theorem one_c {c : Prop} [Decidable c] (h : c) : ¬ (if c then (1 : Int32) else 0) = 0 := by rw [if_pos h]; decide
theorem one_n {c : Prop} [Decidable c] (h : ¬ c) : (if c then (1 : Int32) else 0) = 0 := by rw [if_neg h]
theorem comesF_e {a : Mm} {V : CV} {k f w : Nat} (h : RV a V) (hv : VOk V) (h14 : a 176 14 = 0) (hk : k < 100) (hw : w < 100) : RR a (apF V k f w) (f_R_comesFriend a (nI k) (nI f) (nI w)) := by
  have hn := hv.1
  unfold f_R_comesFriend apF
  by_cases c : 5 < k
  · rw [if_pos c, if_pos (show (5 : Int32) < nI k from nI_lt (a := 5) c (by omega))]
    exact RR.n rfl
  · rw [if_neg c, if_neg (show ¬ (5 : Int32) < nI k from nI_nlt (a := 5) (by omega) (by omega))]
    by_cases d : w = 0
    · rw [if_pos d, if_pos (show nI w = 0 by rw [d]; rfl)]
      exact RR.n rfl
    · rw [if_neg d, if_neg (nI_ne0 (by omega) (by omega)), h.1.1]
      by_cases e : V.1 = 6
      · rw [if_pos e, if_pos (show nI V.1 = 6 by rw [e]; rfl)]
        exact RR.n rfl
      · rw [if_neg e, if_neg (show ¬ nI V.1 = 6 from fun z => e ((nI_eq (by omega) (b := 6) (by omega)).mp z))]
        obtain ⟨a', b1, b2, b3⟩ := addsF_e (k := nI k) (f := nI f) (w := nI w) h h14 (by omega)
        rw [b1, bv_s]
        exact RR.s rfl b2 b3
theorem comesG_e {a : Mm} {V : CV} {w z d : Nat} (h : RV a V) (hv : VOk V) (hz : z < 100) (hd : d < 100) : RR a (apG V w z d) (f_R_comesGift a (nI w) (nI z) (nI d)) := by
  have hm := hv.2.1
  unfold f_R_comesGift apG
  rw [isFr_e h hv (by omega), bn_s]
  by_cases c : d < V.1
  · rw [if_pos c, if_neg (one_c c)]
    by_cases e : z = 0
    · rw [if_pos e, if_pos (show nI z = 0 by rw [e]; rfl)]
      exact RR.n rfl
    · rw [if_neg e, if_neg (nI_ne0 (by omega) (by omega)), h.2.1.1]
      by_cases y : V.2.1 = 4
      · rw [if_pos y, if_pos (show nI V.2.1 = 4 by rw [y]; rfl)]
        exact RR.n rfl
      · rw [if_neg y, if_neg (show ¬ nI V.2.1 = 4 from fun u => y ((nI_eq (by omega) (b := 4) (by omega)).mp u))]
        obtain ⟨a', b1, b2, b3⟩ := addsG_e (p := nI d) (w := nI w) (z := nI z) h (by omega)
        rw [b1, bv_s]
        exact RR.s rfl b2 b3
  · rw [if_neg c, if_pos (one_n c)]
    exact RR.n rfl
theorem comesM_e {a : Mm} {V : CV} {m : Nat} (h : RV a V) (hv : VOk V) (hm : m < 100) : RR a (apM V m) (f_R_comesMonths a (nI m)) := by
  unfold f_R_comesMonths apM
  rw [isIn_e, bn_s]
  unfold isI
  by_cases c : m = 0
  · rw [if_pos c, if_pos (show nI m < 1 by rw [c]; decide), if_pos rfl]
    exact RR.n rfl
  · rw [if_neg c, if_neg (show ¬ nI m < 1 from nI_nlt (b := 1) (by omega) (by omega))]
    by_cases d : 60 < m
    · rw [if_pos d, if_pos (show (60 : Int32) < nI m from nI_lt (a := 60) d (by omega)), if_pos rfl]
      exact RR.n rfl
    · rw [if_neg d, if_neg (show ¬ (60 : Int32) < nI m from nI_nlt (a := 60) (by omega) (by omega)), if_neg (show ¬ (1 : Int32) = 0 by decide), h.2.2]
      by_cases e : V.2.2.1 + nI m ≤ 999
      · rw [if_pos e, if_pos e]
        obtain ⟨s3, c1, c2, c3, c4, c5, c6⟩ := goes_e (N := m) (B := a 188) h.1 h.2.1 (fun _ _ => rfl) hv.M hv.1 hv.2.1 hv.G (by omega)
        rw [c1, bv_s]
        exact RR.s rfl ⟨c2, c3, by rw [c5, h.2.2]; rfl⟩ (fun z k h1 h2 => c6 z k (by omega) (by omega))
      · rw [if_neg e, if_neg e]
        exact RR.n rfl
theorem comesN_e {a : Mm} {V : CV} {d e : Nat} (h : RV a V) (hv : VOk V) (hd : d < 100) (he : e < 100) : RR a (apN V d e) (f_R_comesNext a (nI d) (nI e)) := by
  have hn := hv.1
  unfold f_R_comesNext apN f_R_areTwo
  rw [isFr_e h hv (by omega), bn_s]
  by_cases c : d < V.1
  · rw [if_pos c, if_neg (one_c c), isFr_e h hv (by omega), bn_s]
    by_cases c2 : e < V.1
    · rw [if_pos c2, if_neg (one_c c2)]
      by_cases c3 : d = e
      · rw [if_pos c3, if_pos (show nI d = nI e by rw [c3]), bn_s, if_pos rfl]
        exact RR.n rfl
      · rw [if_neg c3, if_neg (show ¬ nI d = nI e from fun z => c3 ((nI_eq (by omega) (by omega)).mp z)), bn_s, if_neg (by decide)]
        have key : ∀ x v, v = nx x → RV (mU a 181 d v) (VxN V d x) := fun x v hx => VxN.up c a (fN (V.2.2.2.1 d)) v x hx (by rw [VxN.id]; exact h)
        have fr : ∀ v, FrA a (mU a 181 d v) := fun v z k h1 h2 => by rw [mU_get, if_neg (by omega)]
        unfold f_R_turnsNext tuN
        rw [gd_n (show d < 6 by omega) (by omega), gd_n (show d < 6 by omega) (by omega), nI_clamp (by omega), (h.1.2 d c).2.2.2.1]
        simp only [nx_eq (show e < 2 ^ 31 by omega), gd_n (show d < 6 by omega) (show 6 < 2 ^ 31 by omega)]
        by_cases y : fN (V.2.2.2.1 d) = nI e
        · rw [if_pos y, if_pos y, nm_s, bv_s]
          exact RR.s rfl (key _ _ nx_m1) (fr _)
        · rw [if_neg y, if_neg y, nm_s, bv_s]
          exact RR.s rfl (key _ _ (nx_nI (by omega))) (fr _)
    · rw [if_neg c2, if_pos (one_n c2), bn_s, if_pos rfl]
      exact RR.n rfl
  · rw [if_neg c, if_pos (one_n c), bn_s, if_pos rfl]
    exact RR.n rfl
theorem comes1_e {a : Mm} {q : LV} {V : CV} {p j : Nat} (ht : Told a q j p) (h : RV a V) (hv : VOk V) (h14 : a 176 14 = 0) (hj : j < 46) (hw : WfA q p) : RR a (apS V q p) (f_R_comes1 a (nI j)) := by
  have hn := hv.1
  have hm := hv.2.1
  obtain ⟨w1, w2, -⟩ := hw
  obtain ⟨t1, -, t2, t3, t4⟩ := ht
  have k1 : nI (3 * j) + 1 = nI (3 * j + 1) := nI_1 _
  have k2 : nI (3 * j) + 2 = nI (3 * j + 2) := nI_add _ 2
  unfold f_R_comes1 apS
  rw [show (3 : Int32) * nI j = nI (3 * j) from pk_mul 3 j, nm_s, gd_n (show j < 48 by omega) (by omega), nI_clamp (show j < 2 ^ 31 by omega), t1, k1, k2]
  simp only [gd_n (show 3 * j < 144 by omega) (show 144 < 2 ^ 31 by omega), gd_n (show 3 * j + 1 < 144 by omega) (show 144 < 2 ^ 31 by omega), gd_n (show 3 * j + 2 < 144 by omega) (show 144 < 2 ^ 31 by omega), nI_clamp (show 3 * j < 2 ^ 31 by omega), nI_clamp (show 3 * j + 1 < 2 ^ 31 by omega), nI_clamp (show 3 * j + 2 < 2 ^ 31 by omega), t2]
  unfold tol1 at *
  rcases kind6 w1 with e | e | e | e | e | e
  · have t3 := t3 (by rw [e]; decide)
    rw [e] at w2
    have w2 : ∀ i, i < 3 → dgT q (p + 1 + i) := w2
    have b1 := tv1_le (w2 0 (by omega))
    have b2 := tv2_le (w2 1 (by omega)) (w2 2 (by omega))
    have b1 : tvN q (p + 1) 1 ≤ 9 := b1
    have b2 : tvN q (p + 2) 2 ≤ 99 := b2
    unfold tol2 at t3
    rw [e] at t3
    rw [if_pos rfl] at t3
    rw [e, if_pos rfl, if_pos rfl, if_neg (show ¬ ((100 : Int32) = 103 ∨ (100 : Int32) = 109) by decide), isFr_e h hv (by omega), bn_s]
    unfold apD
    by_cases c : tvN q (p + 1) 1 < V.1
    · rw [if_pos c, if_neg (one_c c), t3]
      by_cases d : tvN q (p + 2) 2 = 0
      · rw [if_pos d, if_pos (show nI (tvN q (p + 2) 2) = 0 by rw [d]; rfl)]
        exact RR.n rfl
      · rw [if_neg d, if_neg (nI_ne0 (by omega) (by omega)), t2, e, if_neg (show ¬ ((100 : Int32) = 103 ∨ (100 : Int32) = 109) by decide), gd_n (show tvN q (p + 1) 1 < 6 by omega) (by omega), nm_s, nI_clamp (by omega)]
        exact RR.s rfl (VxD.up c a (fD (V.2.2.2.1 (tvN q (p + 1) 1))) _ (by rw [VxD.id]; exact h)) (fun z k h1 h2 => by rw [mU_get, if_neg (by omega)])
    · rw [if_neg c, if_pos (one_n c)]
      exact RR.n rfl
  · have t3 := t3 (by rw [e]; decide)
    have t4 := t4 (Or.inl e)
    rw [e] at w2
    have w2 : ∀ i, i < 4 → dgT q (p + 1 + i) := w2
    have b1 : tvN q (p + 1) 1 ≤ 9 := tv1_le (w2 0 (by omega))
    have b2 : tvN q (p + 3) 2 ≤ 99 := tv2_le (w2 2 (by omega)) (w2 3 (by omega))
    unfold tol2 at t3
    unfold tol3 at t4
    rw [e] at t3 t4
    rw [if_neg (by decide), if_neg (by decide)] at t3
    rw [if_pos rfl] at t4
    rw [e, if_neg (by decide), if_pos rfl, if_neg (by decide), if_pos rfl, if_neg (show ¬ ((102 : Int32) = 103 ∨ (102 : Int32) = 109) by decide), t3, t4]
    exact (comesF_e h hv h14 (by omega) (by omega)).b
  · have t3 := t3 (by rw [e]; decide)
    have t4 := t4 (Or.inr e)
    rw [e] at w2
    have w2 : ∀ i, i < 5 → dgT q (p + 1 + i) := w2
    have b1 : tvN q (p + 5) 1 ≤ 9 := tv1_le (w2 4 (by omega))
    have b2 : tvN q (p + 3) 2 ≤ 99 := tv2_le (w2 2 (by omega)) (w2 3 (by omega))
    unfold tol2 at t3
    unfold tol3 at t4
    rw [e] at t3 t4
    rw [if_neg (by decide), if_pos rfl] at t3
    rw [if_neg (by decide)] at t4
    rw [e, if_neg (by decide), if_neg (by decide), if_pos rfl, if_neg (by decide), if_neg (by decide), if_pos rfl, if_pos (show ((103 : Int32) = 103 ∨ (103 : Int32) = 109) by decide), t3, t4]
    exact (comesG_e h hv (by omega) (by omega)).b
  · have t3 := t3 (by rw [e]; decide)
    rw [e] at w2
    have w2 : ∀ i, i < 2 → dgT q (p + 1 + i) := w2
    have b1 : tvN q (p + 1) 1 ≤ 9 := tv1_le (w2 0 (by omega))
    have b2 : tvN q (p + 2) 1 ≤ 9 := tv1_le (w2 1 (by omega))
    unfold tol2 at t3
    rw [e] at t3
    rw [if_neg (by decide), if_neg (by decide)] at t3
    rw [e, if_neg (by decide), if_neg (by decide), if_neg (by decide), if_pos rfl, if_neg (by decide), if_neg (by decide), if_neg (by decide), if_pos rfl, if_neg (show ¬ ((104 : Int32) = 103 ∨ (104 : Int32) = 109) by decide), isGi_e h hv (by omega), bn_s]
    unfold apH
    by_cases c : tvN q (p + 1) 1 < V.2.1
    · rw [if_pos c, if_neg (one_c c), t3, isFr_e h hv (by omega), bn_s]
      by_cases d : tvN q (p + 2) 1 < V.1
      · rw [if_pos d, if_neg (one_c d), t2, e, if_neg (show ¬ ((104 : Int32) = 103 ∨ (104 : Int32) = 109) by decide), t3]
        obtain ⟨a2, z1, z2, z3⟩ := putsV_e (p := nI (tvN q (p + 2) 1)) h c hm
        rw [z1, bv_s]
        exact RR.s rfl z2 (fun z k h1 h2 => by
          by_cases y : z = 193
          · rw [y]; exact (z3 0 0).1 k (by omega)
          · exact (z3 0 0).2 z k y h1 h2)
      · rw [if_neg d, if_pos (one_n d)]
        exact RR.n rfl
    · rw [if_neg c, if_pos (one_n c)]
      exact RR.n rfl
  · rw [e] at w2
    have w2 : ∀ i, i < 2 → dgT q (p + 1 + i) := w2
    have b1 : tvN q (p + 1) 2 ≤ 99 := tv2_le (w2 0 (by omega)) (w2 1 (by omega))
    rw [e, if_neg (by decide), if_neg (by decide), if_neg (by decide), if_neg (by decide), if_pos rfl, if_neg (by decide), if_neg (by decide), if_neg (by decide), if_neg (by decide), if_neg (by decide), if_pos (show ((109 : Int32) = 103 ∨ (109 : Int32) = 109) by decide)]
    exact (comesM_e h hv (by omega)).b
  · have t3 := t3 (by rw [e]; decide)
    rw [e] at w2
    have w2 : ∀ i, i < 2 → dgT q (p + 1 + i) := w2
    have b1 : tvN q (p + 1) 1 ≤ 9 := tv1_le (w2 0 (by omega))
    have b2 : tvN q (p + 2) 1 ≤ 9 := tv1_le (w2 1 (by omega))
    unfold tol2 at t3
    rw [e] at t3
    rw [if_neg (by decide), if_neg (by decide)] at t3
    rw [e, if_neg (by decide), if_neg (by decide), if_neg (by decide), if_neg (by decide), if_neg (by decide), if_neg (by decide), if_neg (by decide), if_neg (by decide), if_neg (by decide), if_pos rfl, if_neg (show ¬ ((110 : Int32) = 103 ∨ (110 : Int32) = 109) by decide), t3]
    exact (comesN_e h hv (by omega) (by omega)).b
