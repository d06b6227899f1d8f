/-! the law: its start -/
theorem lw_mem {w : Cond} (i : Nat) (h : lw_tbl[i]? = some w) : w ∈ lw_tbl := List.mem_of_getElem? h
theorem start_K {s : State} {b : Nat} (hts0 : ∀ w ∈ lw_tbl, w.before #[Value.ref b] s = true) : ∃ (D : va_G) (cy : Cy), KI D cy s := by
  have hts : ∀ w ∈ tbG, w.before #[Value.ref b] s = true := fun w hw => hts0 w (List.mem_filter.mp hw).1
  obtain ⟨cC, iC, kC⟩ := u_known (C := R_C) (T := T_C) (N := 7) (n := 7) hts i_C (hts _ (mG 104 (by decide +kernel) (by decide +kernel)))
  obtain ⟨cF, iF, kF⟩ := u_known (C := R_F) (T := T_F) (N := 9) (n := 9) hts i_F (hts _ (mG 113 (by decide +kernel) (by decide +kernel)))
  obtain ⟨cG, iG, kG⟩ := u_known (C := R_G) (T := T_G) (N := 6) (n := 6) hts i_G (hts _ (mG 165 (by decide +kernel) (by decide +kernel)))
  obtain ⟨cL, iL, kL⟩ := u_known (C := R_L) (T := T_L) (N := 2) (n := 2) hts i_L (hts _ (mG 252 (by decide +kernel) (by decide +kernel)))
  obtain ⟨cM, iM, kM⟩ := u_known (C := R_M) (T := T_M) (N := 5) (n := 5) hts i_M (hts _ (mG 283 (by decide +kernel) (by decide +kernel)))
  obtain ⟨cN, iN, kN⟩ := u_known (C := R_N) (T := T_N) (N := 2) (n := 2) hts i_N (hts _ (mG 267 (by decide +kernel) (by decide +kernel)))
  obtain ⟨cP, iP, kP⟩ := u_known (C := R_P) (T := T_P) (N := 3) (n := 3) hts i_P (hts _ (mG 232 (by decide +kernel) (by decide +kernel)))
  obtain ⟨cX, iX, kX⟩ := u_known (C := R_X) (T := T_X) (N := 8) (n := 8) hts i_X (hts _ (mG 96 (by decide +kernel) (by decide +kernel)))
  obtain ⟨cR, iR, kR⟩ := u_known (C := R_R) (T := T_R) (N := 32) (n := 32) hts i_R (hts _ (mG 998 (by decide +kernel) (by decide +kernel)))
  obtain ⟨dC, dI, hKc⟩ : ∃ (dC : Nat → ClassId) (dI : Nat → Nat → Nat), ∀ (k : Nat) (q : vw_C), wCls[k]? = some q → u_Kn s q.1 q.2.1 q.2.2 (dC k) (dI k) := by
    refine ⟨fun k => if k = 0 then cC else if k = 1 then cF else if k = 2 then cG else if k = 3 then cL else if k = 4 then cM else if k = 5 then cN else if k = 6 then cP else if k = 7 then cX else cR, fun k => if k = 0 then iC else if k = 1 then iF else if k = 2 then iG else if k = 3 then iL else if k = 4 then iM else if k = 5 then iN else if k = 6 then iP else if k = 7 then iX else iR, ?_⟩
    intro k q hq
    match k, hq with
    | 0, hq => cases hq; exact kC
    | 1, hq => cases hq; exact kF
    | 2, hq => cases hq; exact kG
    | 3, hq => cases hq; exact kL
    | 4, hq => cases hq; exact kM
    | 5, hq => cases hq; exact kN
    | 6, hq => cases hq; exact kP
    | 7, hq => cases hq; exact kX
    | 8, hq => cases hq; exact kR
    | k + 9, hq => simp [wCls] at hq
  obtain ⟨cI, kI, pI, i1, i2, i3⟩ := Cond.arrayClass_spec (hts _ (mG 265 (by decide +kernel) (by decide +kernel) : Cond.arrayClass .int ∈ tbG))
  have oF := hts0 (Cond.arrayOver (.object R_F)) (lw_mem 110 (by decide +kernel))
  obtain ⟨pF, aF, gF, xF1, -, xF2, xF3, xF4⟩ := Cond.arrayOver_spec oF
  have oG := hts0 (Cond.arrayOver (.object R_G)) (lw_mem 112 (by decide +kernel))
  obtain ⟨pG, aG, gG, xG1, -, xG2, xG3, xG4⟩ := Cond.arrayOver_spec oG
  have oC := hts0 (Cond.arrayOver (.object R_C)) (lw_mem 238 (by decide +kernel))
  obtain ⟨pC, aC, gC, xC1, -, xC2, xC3, xC4⟩ := Cond.arrayOver_spec oC
  refine ⟨(dC, dI), (cI, aF, aG, aC), ⟨⟨hKc, fun k q hk => ?_⟩, va_Nw.of rfl (hts0 nw_0 (lw_mem 346 (by decide +kernel))), va_Nw.of rfl (hts0 nw_1 (lw_mem 397 (by decide +kernel))), va_Nw.of rfl (hts0 nw_2 (lw_mem 475 (by decide +kernel))), va_Nw.of rfl (hts0 nw_3 (lw_mem 798 (by decide +kernel))), va_Nw.of rfl (hts0 nw_4 (lw_mem 835 (by decide +kernel))), va_Nw.of rfl (hts0 nw_5 (lw_mem 836 (by decide +kernel))), va_Nw.of rfl (hts0 nw_6 (lw_mem 856 (by decide +kernel))), va_Nw.of rfl (hts0 nw_7 (lw_mem 946 (by decide +kernel)))⟩, va_AO.of oF, va_AO.of oG, va_AO.of oC⟩
  match k, hk with
  | 0, hk => cases hk; exact ⟨fun n z => ⟨fun k h => (by cases h), kI, i2, pI, i3⟩, i1⟩
  | 1, hk => cases hk; exact ⟨fun n z => ⟨fun k h => (by cases h), gF, xF2, pF, xF3⟩, gF, pF, xF2, xF3, xF1, xF4⟩
  | 2, hk => cases hk; exact ⟨fun n z => ⟨fun k h => (by cases h), gG, xG2, pG, xG3⟩, gG, pG, xG2, xG3, xG1, xG4⟩
  | 3, hk => cases hk; exact ⟨fun n z => ⟨fun k h => (by cases h), gC, xC2, pC, xC3⟩, gC, pC, xC2, xC3, xC1, xC4⟩
  | k + 4, hk => simp [tyz] at hk
theorem whole_start {p : Program} {e : Env} {s : State} {m : MethodId} {below : List Frame} {meth : Method} {c : Code} (l : Launch) (hflags : l.flags = flags0) {b L : Nat} {xs : Nat → Int32} (hL : L ≤ 3072) (C0 : lw_At p s m meth c b L xs) : W p l e room_1 s m #[Value.ref b] below meth c s.heap [] 0 0 (lw_Z below #[Value.ref b] s) (entryFrame m ([Value.ref b] : List Value).toArray 4) := by
  obtain ⟨hx, hb, hr, hml, hown, hts0, hX, hbl, hlocks, hgv⟩ := id C0
  have hts : ∀ w ∈ tbG, w.before #[Value.ref b] s = true := fun w hw => hts0 w (List.mem_filter.mp hw).1
  obtain ⟨D, cy, hK⟩ := start_K hts0
  have hl := lv_entry ([.ref b]) (n := 4) (Nat.le_of_ble_eq_true rfl)
  rw [lg_entry_eq]
  generalize (lg_sl ([.ref b]) ++ List.replicate (4 - (lg_sl ([.ref b])).length) Slot.unset).toArray = ls at hl ⊢
  obtain ⟨z, ez⟩ : ∃ z : Zj, z = (p, e, room_1, s, m, #[Value.ref b], below, meth, c, lw_Z below #[Value.ref b] s, D, fun q : Nat => s.heap.size ≤ q) := ⟨_, rfl⟩
  have hz : JOk z cy code 4 "PassedOnAndBetterLaw" 11 600000 7302249 422 := by
    rw [ez]
    exact ⟨hx, hb, hml, hown, hts, hlocks, rfl, rfl, rfl, rfl, hK, fun _ h => h⟩
  have hJ : J l z code 4 0 [(0, .ref b)] [] [] 0 0 := by
    refine j_new hz (ci := 7) (N := 8) (C := R_X) (T := T_X) (fs := [.null, .null, .null, .null, .null, .null, .null, .int 0]) i_X t_X_ok (mG 95 (by decide +kernel) (by decide +kernel)) (mG 96 (by decide +kernel) (by decide +kernel)) (mG 83 (by decide +kernel) (by decide +kernel)) rfl df_X (Nat.le_of_ble_eq_true rfl) (Nat.le_of_ble_eq_true rfl) d_W_0 (fun h => ?_)
    refine j_dup hz d_W_3 ?_
    refine j_init hz (as := []) (st := [.ref h]) (na := 0) (c_X_init l h) rfl m_X_init mi_X_init (mG 97 (by decide +kernel) (by decide +kernel)) ⟨Nat.le_of_ble_eq_true rfl, Nat.le_of_ble_eq_true rfl⟩ (Nat.le_of_ble_eq_true rfl) (Nat.le_of_ble_eq_true rfl) rfl rfl (Nat.le_of_ble_eq_true rfl) d_W_4 (fun w hw => ?_)
    obtain ⟨α0, α1, α2, β, p1, pa, lt, la, nm, na, md, o1, o2, rf, rfl⟩ := hw
    refine j_astore_n hz (L' := [(1, .ref h), (0, .ref b)]) d_W_7 rfl (by decide) rfl ?_
    refine j_new hz (ci := 8) (N := 32) (C := R_R) (T := T_R) (fs := [.null, .null, .null, .null, .null, .null, .null, .null, .null, .null, .null, .int 0, .int 0, .int 0, .int 0, .null, .null, .null, .null, .null, .int 0, .int 0, .int 0, .null, .int 0, .int 0, .int 0, .int 0, .null, .int 0, .null, .int 0]) i_R t_R_ok (mG 997 (by decide +kernel) (by decide +kernel)) (mG 998 (by decide +kernel) (by decide +kernel)) (mG 91 (by decide +kernel) (by decide +kernel)) rfl df_R (Nat.le_of_ble_eq_true rfl) (Nat.le_of_ble_eq_true rfl) d_W_8 (fun r => ?_)
    refine j_dup hz d_W_11 ?_
    refine j_init hz (as := []) (st := [.ref r]) (na := 0) (c_R_init l r) rfl m_R_init mi_R_init (mG 999 (by decide +kernel) (by decide +kernel)) ⟨Nat.le_of_ble_eq_true rfl, Nat.le_of_ble_eq_true rfl⟩ (Nat.le_of_ble_eq_true rfl) (Nat.le_of_ble_eq_true rfl) rfl rfl (Nat.le_of_ble_eq_true rfl) d_W_12 (fun w hw => ?_)
    obtain ⟨ρ, rfl⟩ := hw
    refine j_astore_n hz (L' := [(2, .ref r), (1, .ref h), (0, .ref b)]) d_W_15 rfl (by decide) rfl ?_
    refine j_iconst hz (v := 0) d_W_16 (by decide) ?_
    refine j_istore_n hz (L' := [(3, .int 0), (2, .ref r), (1, .ref h), (0, .ref b)]) d_W_17 rfl (by decide) rfl ?_
    obtain ⟨t, et⟩ : ∃ t : AT, t = (α0, α1, α2, β, ρ, (fun i => [h, rf, p1, pa, lt, la, nm, na, md, o1, o2, r].getD i 0), b) := ⟨_, rfl⟩
    refine j_ws (LF cy t) (by rw [et]; rfl) ?_
    have a1 : adF t 165 = h := by rw [et]; rfl
    have a2 : adF t 176 = r := by rw [et]; rfl
    have a3 : adF t 196 = b := by rw [et]; rfl
    clear et
    subst ez
    intro ls H locs hl hP hD hS
    obtain ⟨q1, q2, q3⟩ := place hP hD
    obtain ⟨z', ez'⟩ : ∃ z' : Zt, z' = (p, e, room_1, s, m, #[Value.ref b], below, meth, c, lw_Z below #[Value.ref b] s, D, cy, adF t, (fun q : Nat => s.heap.size ≤ q), 196, 2371) := ⟨_, rfl⟩
    have hz' : ZOk z' code 4 "PassedOnAndBetterLaw" 11 422 := by
      rw [ez']
      exact ⟨hx, hb, hml, hown, hts, hlocks, rfl, rfl, ⟨Nat.le_of_ble_eq_true rfl, Nat.le_of_ble_eq_true rfl⟩, hK.1, q2, q3⟩
    have hX' : SX z' L xs := by
      rw [ez']
      refine ⟨hL, ?_⟩
      show va_X (adF t 196) L xs s s.heap ∧ adF t 196 < s.heap.size ∧ ¬ s.heap.size ≤ adF t 196
      rw [a3]
      exact ⟨hX, hbl, by omega⟩
    have hend : ∀ (L' : List (Nat × Value)) (σ : Mm), G l z' code 4 1488 L' [.int 1] σ := by
      rw [ez']
      intro L' σ ls H locs hl hP hS
      refine va_forget (fun q hq => hS.2.2 q hq) ?_
      refine W.widen (k := 600000) (n := 7302249) (Nat.le_of_ble_eq_true rfl) (Nat.le_of_ble_eq_true rfl) ?_
      exact lw_ret hx hb hr hlocks d_W_1488
    have hG := law_loop hz' hX' hend (L + 7) 0 s0F S0 (by omega) (Nat.zero_le _) XI_0 RI_0
    rw [ez'] at hG
    refine hG ls H locs ?_ q1 hS
    show lv_has ls 4 [(3, .int 0), (2, .ref (adF t 176)), (1, .ref (adF t 165)), (0, .ref (adF t 196))]
    rw [a1, a2, a3]
    exact hl
  rw [ez] at hJ
  exact hJ ls s.heap [] hl (fun k q h => by simp at h) ⟨fun i j p q h => by simp at h, fun k q h => by simp at h⟩ va_S.rf
