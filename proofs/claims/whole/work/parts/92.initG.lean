/-! Gift -/
theorem cj_G_begin (l : Launch) (h0 : Nat) : CI l y_G_begin b_G_begin 4 0 0 0 0 [.ref h0, .int 0, .int 0, .int 1] [(h0, .inr (2, [.int 0, .int 0, .int 0, .int 0, .int 0, .int 0]))] (fun _ w => w = [(h0, giE)]) := by
  refine CI.of (own := "PassedOnAndBetter$Gift") (by decide) rfl (Nat.le_of_ble_eq_true rfl) ?_
  intro z cy hz hr hin
  show J l z b_G_begin 4 0 [(0, .ref h0), (1, .int 0), (2, .int 0), (3, .int 1)] [] [(h0, .inr (2, [.int 0, .int 0, .int 0, .int 0, .int 0, .int 0]))] 0 0
  refine j_aload_n hz 0 d_G_begin_0 rfl rfl ?_
  refine j_iload_n hz 2 d_G_begin_1 rfl rfl ?_
  refine j_put hz (q0 := 0) (f := 0) (N := 6) (ci := 2) (C := R_G) (T := T_G) (ws' := [(h0, .inr (2, [.int 0, .int 0, .int 0, .int 0, .int 0, .int 0]))]) i_G t_G_ok n_G rfl rfl (by decide) rfl rfl (ty := t_G 0) (t_G_ok 0 (by decide)) rfl rfl (Nat.le_of_ble_eq_true rfl) (mG 174 (by decide +kernel) (by decide +kernel)) rfl d_G_begin_2 ?_
  refine j_aload_n hz 0 d_G_begin_5 rfl rfl ?_
  refine j_iload_n hz 3 d_G_begin_6 rfl rfl ?_
  refine j_put hz (q0 := 0) (f := 1) (N := 6) (ci := 2) (C := R_G) (T := T_G) (ws' := [(h0, .inr (2, [.int 0, .int 1, .int 0, .int 0, .int 0, .int 0]))]) i_G t_G_ok n_G rfl rfl (by decide) rfl rfl (ty := t_G 1) (t_G_ok 1 (by decide)) rfl rfl (Nat.le_of_ble_eq_true rfl) (mG 177 (by decide +kernel) (by decide +kernel)) rfl d_G_begin_7 ?_
  refine j_aload_n hz 0 d_G_begin_10 rfl rfl ?_
  refine j_iload_n hz 1 d_G_begin_11 rfl rfl ?_
  refine j_put hz (q0 := 0) (f := 2) (N := 6) (ci := 2) (C := R_G) (T := T_G) (ws' := [(h0, .inr (2, [.int 0, .int 1, .int 0, .int 0, .int 0, .int 0]))]) i_G t_G_ok n_G rfl rfl (by decide) rfl rfl (ty := t_G 2) (t_G_ok 2 (by decide)) rfl rfl (Nat.le_of_ble_eq_true rfl) (mG 180 (by decide +kernel) (by decide +kernel)) rfl d_G_begin_12 ?_
  refine j_aload_n hz 0 d_G_begin_15 rfl rfl ?_
  refine j_iconst hz (v := 0) d_G_begin_16 (by decide) ?_
  refine j_put hz (q0 := 0) (f := 3) (N := 6) (ci := 2) (C := R_G) (T := T_G) (ws' := [(h0, .inr (2, [.int 0, .int 1, .int 0, .int 0, .int 0, .int 0]))]) i_G t_G_ok n_G rfl rfl (by decide) rfl rfl (ty := t_G 3) (t_G_ok 3 (by decide)) rfl rfl (Nat.le_of_ble_eq_true rfl) (mG 184 (by decide +kernel) (by decide +kernel)) rfl d_G_begin_17 ?_
  refine j_aload_n hz 0 d_G_begin_20 rfl rfl ?_
  refine j_iconst hz (v := 0) d_G_begin_21 (by decide) ?_
  refine j_put hz (q0 := 0) (f := 4) (N := 6) (ci := 2) (C := R_G) (T := T_G) (ws' := [(h0, .inr (2, [.int 0, .int 1, .int 0, .int 0, .int 0, .int 0]))]) i_G t_G_ok n_G rfl rfl (by decide) rfl rfl (ty := t_G 4) (t_G_ok 4 (by decide)) rfl rfl (Nat.le_of_ble_eq_true rfl) (mG 186 (by decide +kernel) (by decide +kernel)) rfl d_G_begin_22 ?_
  refine j_aload_n hz 0 d_G_begin_25 rfl rfl ?_
  refine j_iconst hz (v := 0) d_G_begin_26 (by decide) ?_
  refine j_put hz (q0 := 0) (f := 5) (N := 6) (ci := 2) (C := R_G) (T := T_G) (ws' := [(h0, .inr (2, [.int 0, .int 1, .int 0, .int 0, .int 0, .int 0]))]) i_G t_G_ok n_G rfl rfl (by decide) rfl rfl (ty := t_G 5) (t_G_ok 5 (by decide)) rfl rfl (Nat.le_of_ble_eq_true rfl) (mG 187 (by decide +kernel) (by decide +kernel)) rfl d_G_begin_27 ?_
  exact j_vret hz hr (fun D A H hP hD => ⟨_, rfl, hP, hD⟩) d_G_begin_30
theorem c_G_init (l : Launch) (h0 : Nat) : CI l y_G_init b_G_init 1 1 0 0 23 [.ref h0] [(h0, .inr (2, [.int 0, .int 0, .int 0, .int 0, .int 0, .int 0]))] (fun _ w => w = [(h0, giE)]) := by
  refine CI.of (own := "PassedOnAndBetter$Gift") (by decide) rfl (Nat.le_of_ble_eq_true rfl) ?_
  intro z cy hz hr hin
  show J l z b_G_init 1 0 [(0, .ref h0)] [] ([] ++ [(h0, .inr (2, [.int 0, .int 0, .int 0, .int 0, .int 0, .int 0]))]) 0 0
  refine j_aload_n hz 0 d_G_init_0 rfl rfl ?_
  refine j_obj hz (mG 169 (by decide +kernel) (by decide +kernel)) (mG 101 (by decide +kernel) (by decide +kernel)) (mG 102 (by decide +kernel) (by decide +kernel)) (by decide) (by decide) rfl d_G_init_1 ?_
  refine j_aload_n hz 0 d_G_init_4 rfl rfl ?_
  refine j_iconst hz (v := 0) d_G_init_5 (by decide) ?_
  refine j_iconst hz (v := 0) d_G_init_6 (by decide) ?_
  refine j_iconst hz (v := 1) d_G_init_7 (by decide) ?_
  refine j_callv hz (as := [.int 0, .int 0, .int 1]) (st := []) (na := 3) (cj_G_begin l h0) 2 rfl rfl rfl ms_G_begin m_G_begin mi_G_begin (mG 170 (by decide +kernel) (by decide +kernel)) ⟨Nat.le_of_ble_eq_true rfl, Nat.le_of_ble_eq_true rfl⟩ (Nat.le_of_ble_eq_true rfl) (Nat.le_of_ble_eq_true rfl) rfl rfl (Nat.le_of_ble_eq_true rfl) d_G_init_8 (fun w hw => ?_)
  exact j_vret hz hr (fun D A H hP hD => ⟨_, hw, hP, hD⟩) d_G_init_11
