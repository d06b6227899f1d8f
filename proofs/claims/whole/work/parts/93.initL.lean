/-! Letters, Numbers -/
theorem c_L_init (l : Launch) (h0 : Nat) : CI l y_L_init b_L_init 1 1 1 96 12 [.ref h0] [(h0, .inr (3, [.null, .int 0]))] (fun cy w => ∃ a, w = [(h0, .inr (3, [.ref a, .int 0])), (a, .inl (cy.1, 96, .inl (fun _ => 0)))]) := by
  refine CI.of (own := "PassedOnAndBetter$Letters") (by decide) rfl (Nat.le_of_ble_eq_true rfl) ?_
  intro z cy hz hr hin
  show J l z b_L_init 1 0 [(0, .ref h0)] [] [(h0, .inr (3, [.null, .int 0]))] 0 0
  refine j_aload_n hz 0 d_L_init_0 rfl rfl ?_
  refine j_obj hz (mG 256 (by decide +kernel) (by decide +kernel)) (mG 101 (by decide +kernel) (by decide +kernel)) (mG 102 (by decide +kernel) (by decide +kernel)) (by decide) (by decide) rfl d_L_init_1 ?_
  refine j_aload_n hz 0 d_L_init_4 rfl rfl ?_
  refine j_bipush hz (v := 96) d_L_init_5 (by decide) ?_
  refine j_newi hz (N := 96) (mG 265 (by decide +kernel) (by decide +kernel)) (by decide) (by decide) (by decide) (Nat.le_of_ble_eq_true rfl) (Nat.le_of_ble_eq_true rfl) d_L_init_7 (fun a => ?_)
  refine j_putF hz (hin rfl) (q0 := 0) (f := 0) (N := 2) (ci := 3) (T := T_L) (ws' := [(h0, .inr (3, [.ref a, .int 0])), (a, .inl (cy.1, 96, .inl (fun _ => 0)))]) i_L t_L_ok n_L rfl rfl (by decide) rfl rfl (ty := t_L 0) (t_L_ok 0 (by decide)) rfl rfl (Nat.le_of_ble_eq_true rfl) (mG 257 (by decide +kernel) (by decide +kernel)) rfl d_L_init_9 ?_
  refine j_aload_n hz 0 d_L_init_12 rfl rfl ?_
  refine j_iconst hz (v := 0) d_L_init_13 (by decide) ?_
  refine j_put hz (q0 := 0) (f := 1) (N := 2) (ci := 3) (C := R_L) (T := T_L) (ws' := [(h0, .inr (3, [.ref a, .int 0])), (a, .inl (cy.1, 96, .inl (fun _ => 0)))]) i_L t_L_ok n_L rfl rfl (by decide) rfl rfl (ty := t_L 1) (t_L_ok 1 (by decide)) rfl rfl (Nat.le_of_ble_eq_true rfl) (mG 258 (by decide +kernel) (by decide +kernel)) rfl d_L_init_14 ?_
  exact j_vret hz hr (fun D A H hP hD => ⟨_, ⟨a, rfl⟩, hP, hD⟩) d_L_init_17
theorem c_N_init (l : Launch) (h0 : Nat) : CI l y_N_init b_N_init 1 1 1 12 12 [.ref h0] [(h0, .inr (5, [.null, .int 0]))] (fun cy w => ∃ a, w = [(h0, .inr (5, [.ref a, .int 0])), (a, .inl (cy.1, 12, .inl (fun _ => 0)))]) := by
  refine CI.of (own := "PassedOnAndBetter$Numbers") (by decide) rfl (Nat.le_of_ble_eq_true rfl) ?_
  intro z cy hz hr hin
  show J l z b_N_init 1 0 [(0, .ref h0)] [] [(h0, .inr (5, [.null, .int 0]))] 0 0
  refine j_aload_n hz 0 d_N_init_0 rfl rfl ?_
  refine j_obj hz (mG 271 (by decide +kernel) (by decide +kernel)) (mG 101 (by decide +kernel) (by decide +kernel)) (mG 102 (by decide +kernel) (by decide +kernel)) (by decide) (by decide) rfl d_N_init_1 ?_
  refine j_aload_n hz 0 d_N_init_4 rfl rfl ?_
  refine j_bipush hz (v := 12) d_N_init_5 (by decide) ?_
  refine j_newi hz (N := 12) (mG 265 (by decide +kernel) (by decide +kernel)) (by decide) (by decide) (by decide) (Nat.le_of_ble_eq_true rfl) (Nat.le_of_ble_eq_true rfl) d_N_init_7 (fun a => ?_)
  refine j_putF hz (hin rfl) (q0 := 0) (f := 0) (N := 2) (ci := 5) (T := T_N) (ws' := [(h0, .inr (5, [.ref a, .int 0])), (a, .inl (cy.1, 12, .inl (fun _ => 0)))]) i_N t_N_ok n_N rfl rfl (by decide) rfl rfl (ty := t_N 0) (t_N_ok 0 (by decide)) rfl rfl (Nat.le_of_ble_eq_true rfl) (mG 272 (by decide +kernel) (by decide +kernel)) rfl d_N_init_9 ?_
  refine j_aload_n hz 0 d_N_init_12 rfl rfl ?_
  refine j_iconst hz (v := 0) d_N_init_13 (by decide) ?_
  refine j_put hz (q0 := 0) (f := 1) (N := 2) (ci := 5) (C := R_N) (T := T_N) (ws' := [(h0, .inr (5, [.ref a, .int 0])), (a, .inl (cy.1, 12, .inl (fun _ => 0)))]) i_N t_N_ok n_N rfl rfl (by decide) rfl rfl (ty := t_N 1) (t_N_ok 1 (by decide)) rfl rfl (Nat.le_of_ble_eq_true rfl) (mG 273 (by decide +kernel) (by decide +kernel)) rfl d_N_init_14 ?_
  exact j_vret hz hr (fun D A H hP hD => ⟨_, ⟨a, rfl⟩, hP, hD⟩) d_N_init_17
