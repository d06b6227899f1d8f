/-! Past, Mind, the object, the reference -/
def cBs (cy : Cy) (β : Nat → Nat → Nat) : Nat → va_W
  | 0 => []
  | i + 1 => cBs cy β i ++ cB cy (β i)
theorem cBs_c {cy : Cy} {β γ : Nat → Nat → Nat} : ∀ i, (∀ k, k < i → β k = γ k) → cBs cy β i = cBs cy γ i
  | 0, _ => rfl
  | i + 1, h => by
    unfold cBs
    rw [cBs_c i (fun k hk => h k (by omega)), h i (by omega)]
theorem cBs_up {cy : Cy} {β : Nat → Nat → Nat} {α : Nat → Nat} {i : Nat} : cBs cy (va_up β i α) (i + 1) = cBs cy β i ++ cB cy α := by
  show cBs cy (va_up β i α) i ++ cB cy (va_up β i α i) = _
  rw [va_up_self, cBs_c (γ := β) i (fun k hk => va_up_ne _ _ (by omega))]
def pP (cy : Cy) (h0 a : Nat) (f : Nat → Option Nat) : va_W := [(h0, .inr (6, [.ref a, .int 0, .int 0])), (a, .inl (cy.2.2.2, 8, .inr (.inr (.inr (.inr f)))))]
theorem vaP_1 {D : va_G} {cl : List vw_C} {x0 e1 f1 : Nat × va_E} {t : va_W} {H : Heap} (h : va_P D cl (x0 :: e1 :: t) H) (h1 : va_at D cl e1 H → va_at D cl f1 H) : va_P D cl (x0 :: f1 :: t) H
  | 0, q, hk => h 0 q hk
  | 1, q, hk => by cases hk; exact h1 (h 1 _ rfl)
  | k + 2, q, hk => h (k + 2) q hk
theorem c_P_l (l : Launch) {z : Zj} {cy : Cy} (hz : JOk z cy b_P_init 2 "PassedOnAndBetter$Past" 3 121 888 64) (h0 a : Nat) (kk : ∀ (f : Nat → Option Nat) (β : Nat → Nat → Nat), (∀ k, k < 8 → f k = some (β k 0)) → J l z b_P_init 2 43 [(1, .int (nI 8)), (0, .ref h0)] [] (pP cy h0 a f ++ cBs cy β 8) 121 888) : ∀ (d i : Nat) (f : Nat → Option Nat) (β : Nat → Nat → Nat), i + d = 8 → (∀ k, k < i → f k = some (β k 0)) → J l z b_P_init 2 15 [(1, .int (nI i)), (0, .ref h0)] [] (pP cy h0 a f ++ cBs cy β i) (1 + 15 * i) (8 + 110 * i) := by
  intro d
  induction d with
  | zero =>
    intro i f β hi hf
    have hi : i = 8 := by omega
    subst hi
    refine j_iload_n hz 0 d_P_init_15 rfl rfl ?_
    refine j_aload_n hz 1 d_P_init_16 rfl rfl ?_
    refine j_get hz (q0 := 0) (f := 0) (N := 3) (ci := 6) (C := R_P) (T := T_P) i_P rfl rfl rfl (by decide) rfl (mG 240 (by decide +kernel) (by decide +kernel)) d_P_init_17 ?_
    refine j_alen hz (v := nI 8) 1 3 rfl rfl rfl d_P_init_20 ?_
    exact j_ge_t hz (tgt := 43) d_P_init_21 rfl (nI_le (Nat.le_refl _) (by omega)) (kk f β hf)
  | succ d ih =>
    intro i f β hi hf
    refine j_iload_n hz 0 d_P_init_15 rfl rfl ?_
    refine j_aload_n hz 1 d_P_init_16 rfl rfl ?_
    refine j_get hz (q0 := 0) (f := 0) (N := 3) (ci := 6) (C := R_P) (T := T_P) i_P rfl rfl rfl (by decide) rfl (mG 240 (by decide +kernel) (by decide +kernel)) d_P_init_17 ?_
    refine j_alen hz (v := nI 8) 1 3 rfl rfl rfl d_P_init_20 ?_
    refine j_ge_f hz (tgt := 43) d_P_init_21 rfl (nI_ge (by omega) (by omega)) ?_
    refine j_aload_n hz 1 d_P_init_24 rfl rfl ?_
    refine j_get hz (q0 := 0) (f := 0) (N := 3) (ci := 6) (C := R_P) (T := T_P) i_P rfl rfl rfl (by decide) rfl (mG 240 (by decide +kernel) (by decide +kernel)) d_P_init_25 ?_
    refine j_iload_n hz 0 d_P_init_28 rfl rfl ?_
    refine j_new hz (ci := 0) (N := 7) (C := R_C) (T := T_C) (fs := [.null, .null, .null, .null, .int 0, .int 0, .int 0]) i_C t_C_ok (mG 237 (by decide +kernel) (by decide +kernel)) (mG 104 (by decide +kernel) (by decide +kernel)) (mG 84 (by decide +kernel) (by decide +kernel)) rfl df_C (by omega) (by omega) d_P_init_29 (fun q => ?_)
    refine j_dup hz d_P_init_32 ?_
    refine j_init hz (as := []) (st := [.ref q, .int (nI i), .ref a]) (na := 0) (c_C_init l q) rfl m_C_init mi_C_init (mG 239 (by decide +kernel) (by decide +kernel)) ⟨Nat.le_of_ble_eq_true rfl, Nat.le_of_ble_eq_true rfl⟩ (by omega) (by omega) rfl rfl (Nat.le_of_ble_eq_true rfl) d_P_init_33 (fun w hw => ?_)
    obtain ⟨α, rfl, rfl⟩ := hw
    refine j_ast hz 1 3 (pP cy h0 a f ++ cBs cy β i).length 0 (ws' := pP cy h0 a (va_up f i (some (α 0))) ++ cBs cy (va_up β i α) (i + 1)) rfl rfl (by rw [List.getElem?_append_right (Nat.le_refl _), Nat.sub_self]; rfl) rfl (vp_in_nI (by omega) (by omega)) (by rw [nI_clamp (by omega), cBs_up, ← List.append_assoc]; rfl) d_P_init_36 ?_
    refine j_iinc hz (L' := [(1, .int (nI (i + 1))), (0, .ref h0)]) 0 d_P_init_37 rfl (by rw [show Int32.ofInt 1 = 1 by decide]; exact nI_1 i) (by decide) rfl ?_
    refine j_goto hz (tgt := 15) d_P_init_40 rfl ?_
    refine j_kn (k' := 1 + 15 * (i + 1)) (n' := 8 + 110 * (i + 1)) (by omega) (by omega) ?_
    refine ih (i + 1) _ _ (by omega) (fun k hk => ?_)
    by_cases e : k = i
    · subst e
      rw [va_up_self, va_up_self]
    · rw [va_up_ne _ _ e, va_up_ne _ _ e]
      exact hf k (by omega)
theorem c_P_init (l : Launch) (h0 : Nat) : CI l y_P_init b_P_init 2 3 121 888 64 [.ref h0] [(h0, .inr (6, [.null, .int 0, .int 0]))] (fun cy w => ∃ a β, w = pP cy h0 a (fun k => some (β k 0)) ++ cBs cy β 8) := by
  refine CI.of (own := "PassedOnAndBetter$Past") (by decide) rfl (Nat.le_of_ble_eq_true rfl) ?_
  intro z cy hz hr hin
  show J l z b_P_init 2 0 [(0, .ref h0)] [] [(h0, .inr (6, [.null, .int 0, .int 0]))] 0 0
  refine j_aload_n hz 0 d_P_init_0 rfl rfl ?_
  refine j_obj hz (mG 236 (by decide +kernel) (by decide +kernel)) (mG 101 (by decide +kernel) (by decide +kernel)) (mG 102 (by decide +kernel) (by decide +kernel)) (by decide) (by decide) rfl d_P_init_1 ?_
  refine j_aload_n hz 0 d_P_init_4 rfl rfl ?_
  refine j_bipush hz (v := 8) d_P_init_5 (by decide) ?_
  refine j_newr hz (N := 8) (t0 := 3) (C := R_C) rfl (fun _ _ h => h.2.2.2) (mG 237 (by decide +kernel) (by decide +kernel)) (by decide) (by decide) (by decide) (Nat.le_of_ble_eq_true rfl) (Nat.le_of_ble_eq_true rfl) d_P_init_7 (fun a => ?_)
  refine j_putF hz (hin rfl) (q0 := 0) (f := 0) (N := 3) (ci := 6) (T := T_P) (ws' := pP cy h0 a (fun _ => none) ++ cBs cy (fun _ _ => 0) 0) i_P t_P_ok n_P rfl rfl (by decide) rfl rfl (ty := t_P 0) (t_P_ok 0 (by decide)) rfl rfl (Nat.le_of_ble_eq_true rfl) (mG 240 (by decide +kernel) (by decide +kernel)) rfl d_P_init_10 ?_
  refine j_iconst hz (v := 0) d_P_init_13 (by decide) ?_
  refine j_istore_n hz (L' := [(1, .int (nI 0)), (0, .ref h0)]) d_P_init_14 rfl (by decide) rfl ?_
  refine c_P_l l hz h0 a (fun f β hf => ?_) 8 0 _ _ rfl (fun k hk => absurd hk (by omega))
  refine j_aload_n hz 1 d_P_init_43 rfl rfl ?_
  refine j_iconst hz (v := 0) d_P_init_44 (by decide) ?_
  refine j_put hz (q0 := 0) (f := 1) (N := 3) (ci := 6) (C := R_P) (T := T_P) (ws' := pP cy h0 a f ++ cBs cy β 8) i_P t_P_ok n_P rfl rfl (by decide) rfl rfl (ty := t_P 1) (t_P_ok 1 (by decide)) rfl rfl (Nat.le_of_ble_eq_true rfl) (mG 241 (by decide +kernel) (by decide +kernel)) rfl d_P_init_45 ?_
  refine j_aload_n hz 1 d_P_init_48 rfl rfl ?_
  refine j_iconst hz (v := 0) d_P_init_49 (by decide) ?_
  refine j_put hz (q0 := 0) (f := 2) (N := 3) (ci := 6) (C := R_P) (T := T_P) (ws' := pP cy h0 a f ++ cBs cy β 8) i_P t_P_ok n_P rfl rfl (by decide) rfl rfl (ty := t_P 2) (t_P_ok 2 (by decide)) rfl rfl (Nat.le_of_ble_eq_true rfl) (mG 242 (by decide +kernel) (by decide +kernel)) rfl d_P_init_50 ?_
  refine j_vret hz hr (fun D A H hP hD => ?_) d_P_init_53
  exact ⟨_, ⟨a, β, rfl⟩, vaP_1 hP (fun h => vat_ext h hf), hD.set (p := 1) rfl (e := .inl (cy.2.2.2, 8, .inr (.inr (.inr (.inr (fun k => some (β k 0)))))))⟩
