/-! Friend -/
theorem c_F_init (l : Launch) (h0 : Nat) : CI l y_F_init b_F_init 1 1 0 0 12 [.ref h0] [(h0, .inr (1, [.int 0, .int 0, .int 0, .int 0, .int 0, .int 0, .int 0, .int 0, .int 0]))] (fun _ w => w = [(h0, frE)]) := by
  refine CI.of (own := "PassedOnAndBetter$Friend") (by decide) rfl (Nat.le_of_ble_eq_true rfl) ?_
  intro z cy hz hr hin
  show J l z b_F_init 1 0 [(0, .ref h0)] [] [(h0, .inr (1, [.int 0, .int 0, .int 0, .int 0, .int 0, .int 0, .int 0, .int 0, .int 0]))] 0 0
  refine j_aload_n hz 0 d_F_init_0 rfl rfl ?_
  refine j_obj hz (mG 117 (by decide +kernel) (by decide +kernel)) (mG 101 (by decide +kernel) (by decide +kernel)) (mG 102 (by decide +kernel) (by decide +kernel)) (by decide) (by decide) rfl d_F_init_1 ?_
  refine j_aload_n hz 0 d_F_init_4 rfl rfl ?_
  refine j_iconst hz (v := 0) d_F_init_5 (by decide) ?_
  refine j_put hz (q0 := 0) (f := 0) (N := 9) (ci := 1) (C := R_F) (T := T_F) (ws' := [(h0, .inr (1, [.int 0, .int 0, .int 0, .int 0, .int 0, .int 0, .int 0, .int 0, .int 0]))]) i_F t_F_ok n_F rfl rfl (by decide) rfl rfl (ty := t_F 0) (t_F_ok 0 (by decide)) rfl rfl (Nat.le_of_ble_eq_true rfl) (mG 118 (by decide +kernel) (by decide +kernel)) rfl d_F_init_6 ?_
  refine j_aload_n hz 0 d_F_init_9 rfl rfl ?_
  refine j_iconst hz (v := 0) d_F_init_10 (by decide) ?_
  refine j_put hz (q0 := 0) (f := 1) (N := 9) (ci := 1) (C := R_F) (T := T_F) (ws' := [(h0, .inr (1, [.int 0, .int 0, .int 0, .int 0, .int 0, .int 0, .int 0, .int 0, .int 0]))]) i_F t_F_ok n_F rfl rfl (by decide) rfl rfl (ty := t_F 1) (t_F_ok 1 (by decide)) rfl rfl (Nat.le_of_ble_eq_true rfl) (mG 120 (by decide +kernel) (by decide +kernel)) rfl d_F_init_11 ?_
  refine j_aload_n hz 0 d_F_init_14 rfl rfl ?_
  refine j_bipush hz (v := 40) d_F_init_15 (by decide) ?_
  refine j_put hz (q0 := 0) (f := 2) (N := 9) (ci := 1) (C := R_F) (T := T_F) (ws' := [(h0, .inr (1, [.int 0, .int 0, .int 40, .int 0, .int 0, .int 0, .int 0, .int 0, .int 0]))]) i_F t_F_ok n_F rfl rfl (by decide) rfl rfl (ty := t_F 2) (t_F_ok 2 (by decide)) rfl rfl (Nat.le_of_ble_eq_true rfl) (mG 122 (by decide +kernel) (by decide +kernel)) rfl d_F_init_17 ?_
  refine j_aload_n hz 0 d_F_init_20 rfl rfl ?_
  refine j_iconst hz (v := (-1)) d_F_init_21 (by decide) ?_
  refine j_put hz (q0 := 0) (f := 3) (N := 9) (ci := 1) (C := R_F) (T := T_F) (ws' := [(h0, .inr (1, [.int 0, .int 0, .int 40, .int (-1), .int 0, .int 0, .int 0, .int 0, .int 0]))]) i_F t_F_ok n_F rfl rfl (by decide) rfl rfl (ty := t_F 3) (t_F_ok 3 (by decide)) rfl rfl (Nat.le_of_ble_eq_true rfl) (mG 128 (by decide +kernel) (by decide +kernel)) rfl d_F_init_22 ?_
  refine j_aload_n hz 0 d_F_init_25 rfl rfl ?_
  refine j_iconst hz (v := 1) d_F_init_26 (by decide) ?_
  refine j_put hz (q0 := 0) (f := 4) (N := 9) (ci := 1) (C := R_F) (T := T_F) (ws' := [(h0, .inr (1, [.int 0, .int 0, .int 40, .int (-1), .int 1, .int 0, .int 0, .int 0, .int 0]))]) i_F t_F_ok n_F rfl rfl (by decide) rfl rfl (ty := t_F 4) (t_F_ok 4 (by decide)) rfl rfl (Nat.le_of_ble_eq_true rfl) (mG 132 (by decide +kernel) (by decide +kernel)) rfl d_F_init_27 ?_
  refine j_aload_n hz 0 d_F_init_30 rfl rfl ?_
  refine j_iconst hz (v := 0) d_F_init_31 (by decide) ?_
  refine j_put hz (q0 := 0) (f := 5) (N := 9) (ci := 1) (C := R_F) (T := T_F) (ws' := [(h0, .inr (1, [.int 0, .int 0, .int 40, .int (-1), .int 1, .int 0, .int 0, .int 0, .int 0]))]) i_F t_F_ok n_F rfl rfl (by decide) rfl rfl (ty := t_F 5) (t_F_ok 5 (by decide)) rfl rfl (Nat.le_of_ble_eq_true rfl) (mG 136 (by decide +kernel) (by decide +kernel)) rfl d_F_init_32 ?_
  refine j_aload_n hz 0 d_F_init_35 rfl rfl ?_
  refine j_iconst hz (v := 0) d_F_init_36 (by decide) ?_
  refine j_put hz (q0 := 0) (f := 6) (N := 9) (ci := 1) (C := R_F) (T := T_F) (ws' := [(h0, .inr (1, [.int 0, .int 0, .int 40, .int (-1), .int 1, .int 0, .int 0, .int 0, .int 0]))]) i_F t_F_ok n_F rfl rfl (by decide) rfl rfl (ty := t_F 6) (t_F_ok 6 (by decide)) rfl rfl (Nat.le_of_ble_eq_true rfl) (mG 138 (by decide +kernel) (by decide +kernel)) rfl d_F_init_37 ?_
  refine j_aload_n hz 0 d_F_init_40 rfl rfl ?_
  refine j_iconst hz (v := 1) d_F_init_41 (by decide) ?_
  refine j_put hz (q0 := 0) (f := 7) (N := 9) (ci := 1) (C := R_F) (T := T_F) (ws' := [(h0, .inr (1, [.int 0, .int 0, .int 40, .int (-1), .int 1, .int 0, .int 0, .int 1, .int 0]))]) i_F t_F_ok n_F rfl rfl (by decide) rfl rfl (ty := t_F 7) (t_F_ok 7 (by decide)) rfl rfl (Nat.le_of_ble_eq_true rfl) (mG 140 (by decide +kernel) (by decide +kernel)) rfl d_F_init_42 ?_
  refine j_aload_n hz 0 d_F_init_45 rfl rfl ?_
  refine j_iconst hz (v := 0) d_F_init_46 (by decide) ?_
  refine j_put hz (q0 := 0) (f := 8) (N := 9) (ci := 1) (C := R_F) (T := T_F) (ws' := [(h0, .inr (1, [.int 0, .int 0, .int 40, .int (-1), .int 1, .int 0, .int 0, .int 1, .int 0]))]) i_F t_F_ok n_F rfl rfl (by decide) rfl rfl (ty := t_F 8) (t_F_ok 8 (by decide)) rfl rfl (Nat.le_of_ble_eq_true rfl) (mG 143 (by decide +kernel) (by decide +kernel)) rfl d_F_init_47 ?_
  exact j_vret hz hr (fun D A H hP hD => ⟨_, rfl, hP, hD⟩) d_F_init_50
