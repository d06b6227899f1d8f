/-! Mind, the object -/
theorem c_M_init (l : Launch) (h0 a b : Nat) : CI l y_M_init b_M_init 3 3 17 118 64 [.ref h0, .ref a, .ref b] [(h0, .inr (4, [.null, .null, .null, .null, .null]))] (fun cy w => ∃ α o1 o2, w = [(h0, .inr (4, [.ref a, .ref b, .ref (α 0), .ref o1, .ref o2]))] ++ cB cy α ++ [(o1, .inl (cy.1, 4, .inl (fun _ => 0)))] ++ [(o2, .inl (cy.1, 4, .inl (fun _ => 0)))]) := by
  refine CI.of (own := "PassedOnAndBetter$Mind") (by decide) rfl (Nat.le_of_ble_eq_true rfl) ?_
  intro z cy hz hr hin
  show J l z b_M_init 3 0 [(0, .ref h0), (1, .ref a), (2, .ref b)] [] [(h0, .inr (4, [.null, .null, .null, .null, .null]))] 0 0
  refine j_aload_n hz 0 d_M_init_0 rfl rfl ?_
  refine j_obj hz (mG 287 (by decide +kernel) (by decide +kernel)) (mG 101 (by decide +kernel) (by decide +kernel)) (mG 102 (by decide +kernel) (by decide +kernel)) (by decide) (by decide) rfl d_M_init_1 ?_
  refine j_aload_n hz 0 d_M_init_4 rfl rfl ?_
  refine j_aload_n hz 1 d_M_init_5 rfl rfl ?_
  refine j_putF hz (hin rfl) (q0 := 0) (f := 0) (N := 5) (ci := 4) (T := T_M) (ws' := [(h0, .inr (4, [.ref a, .null, .null, .null, .null]))]) i_M t_M_ok n_M rfl rfl (by decide) rfl rfl (ty := t_M 0) (t_M_ok 0 (by decide)) rfl rfl (Nat.le_of_ble_eq_true rfl) (mG 290 (by decide +kernel) (by decide +kernel)) rfl d_M_init_6 ?_
  refine j_aload_n hz 0 d_M_init_9 rfl rfl ?_
  refine j_aload_n hz 2 d_M_init_10 rfl rfl ?_
  refine j_putF hz (hin rfl) (q0 := 0) (f := 1) (N := 5) (ci := 4) (T := T_M) (ws' := [(h0, .inr (4, [.ref a, .ref b, .null, .null, .null]))]) i_M t_M_ok n_M rfl rfl (by decide) rfl rfl (ty := t_M 1) (t_M_ok 1 (by decide)) rfl rfl (Nat.le_of_ble_eq_true rfl) (mG 291 (by decide +kernel) (by decide +kernel)) rfl d_M_init_11 ?_
  refine j_aload_n hz 0 d_M_init_14 rfl rfl ?_
  refine j_new hz (ci := 0) (N := 7) (C := R_C) (T := T_C) (fs := [.null, .null, .null, .null, .int 0, .int 0, .int 0]) i_C t_C_ok (mG 288 (by decide +kernel) (by decide +kernel)) (mG 104 (by decide +kernel) (by decide +kernel)) (mG 84 (by decide +kernel) (by decide +kernel)) rfl df_C (Nat.le_of_ble_eq_true rfl) (Nat.le_of_ble_eq_true rfl) d_M_init_15 (fun q => ?_)
  refine j_dup hz d_M_init_18 ?_
  refine j_init hz (as := []) (st := [.ref q, .ref h0]) (na := 0) (c_C_init l q) rfl m_C_init mi_C_init (mG 289 (by decide +kernel) (by decide +kernel)) ⟨Nat.le_of_ble_eq_true rfl, Nat.le_of_ble_eq_true rfl⟩ (Nat.le_of_ble_eq_true rfl) (Nat.le_of_ble_eq_true rfl) rfl rfl (Nat.le_of_ble_eq_true rfl) d_M_init_19 (fun w hw => ?_)
  obtain ⟨α, rfl, rfl⟩ := hw
  refine j_putF hz (hin rfl) (q0 := 0) (f := 2) (N := 5) (ci := 4) (T := T_M) (ws' := [(h0, .inr (4, [.ref a, .ref b, .ref (α 0), .null, .null]))] ++ cB cy α) i_M t_M_ok n_M rfl rfl (by decide) rfl rfl (ty := t_M 2) (t_M_ok 2 (by decide)) rfl rfl (Nat.le_of_ble_eq_true rfl) (mG 292 (by decide +kernel) (by decide +kernel)) rfl d_M_init_22 ?_
  refine j_aload_n hz 0 d_M_init_25 rfl rfl ?_
  refine j_iconst hz (v := 4) d_M_init_26 (by decide) ?_
  refine j_newi hz (N := 4) (mG 265 (by decide +kernel) (by decide +kernel)) (by decide) (by decide) (by decide) (Nat.le_of_ble_eq_true rfl) (Nat.le_of_ble_eq_true rfl) d_M_init_27 (fun o1 => ?_)
  refine j_putF hz (hin rfl) (q0 := 0) (f := 3) (N := 5) (ci := 4) (T := T_M) (ws' := [(h0, .inr (4, [.ref a, .ref b, .ref (α 0), .ref o1, .null]))] ++ cB cy α ++ [(o1, .inl (cy.1, 4, .inl (fun _ => 0)))]) i_M t_M_ok n_M rfl rfl (by decide) rfl rfl (ty := t_M 3) (t_M_ok 3 (by decide)) rfl rfl (Nat.le_of_ble_eq_true rfl) (mG 293 (by decide +kernel) (by decide +kernel)) rfl d_M_init_29 ?_
  refine j_aload_n hz 0 d_M_init_32 rfl rfl ?_
  refine j_iconst hz (v := 4) d_M_init_33 (by decide) ?_
  refine j_newi hz (N := 4) (mG 265 (by decide +kernel) (by decide +kernel)) (by decide) (by decide) (by decide) (Nat.le_of_ble_eq_true rfl) (Nat.le_of_ble_eq_true rfl) d_M_init_34 (fun o2 => ?_)
  refine j_putF hz (hin rfl) (q0 := 0) (f := 4) (N := 5) (ci := 4) (T := T_M) (ws' := [(h0, .inr (4, [.ref a, .ref b, .ref (α 0), .ref o1, .ref o2]))] ++ cB cy α ++ [(o1, .inl (cy.1, 4, .inl (fun _ => 0)))] ++ [(o2, .inl (cy.1, 4, .inl (fun _ => 0)))]) i_M t_M_ok n_M rfl rfl (by decide) rfl rfl (ty := t_M 4) (t_M_ok 4 (by decide)) rfl rfl (Nat.le_of_ble_eq_true rfl) (mG 294 (by decide +kernel) (by decide +kernel)) rfl d_M_init_36 ?_
  exact j_vret hz hr (fun D A H hP hD => ⟨_, ⟨α, o1, o2, rfl⟩, hP, hD⟩) d_M_init_39
def xB (cy : Cy) (h0 : Nat) (α0 α1 α2 : Nat → Nat) (β : Nat → Nat → Nat) (p pa lt la nm na md o1 o2 rf : Nat) : va_W := [(h0, .inr (7, [.ref (α0 0), .ref (α1 0), .ref p, .ref lt, .ref nm, .ref md, .ref rf, .int 0]))] ++ cB cy α0 ++ cB cy α1 ++ (pP cy p pa (fun k => some (β k 0)) ++ cBs cy β 8) ++ [(lt, .inr (3, [.ref la, .int 0])), (la, .inl (cy.1, 96, .inl (fun _ => 0)))] ++ [(nm, .inr (5, [.ref na, .int 0])), (na, .inl (cy.1, 12, .inl (fun _ => 0)))] ++ ([(md, .inr (4, [.ref (α0 0), .ref nm, .ref (α2 0), .ref o1, .ref o2]))] ++ cB cy α2 ++ [(o1, .inl (cy.1, 4, .inl (fun _ => 0)))] ++ [(o2, .inl (cy.1, 4, .inl (fun _ => 0)))]) ++ [(rf, .inl (cy.1, 7, .inl (fun _ => 0)))]
theorem c_X_init (l : Launch) (h0 : Nat) : CI l y_X_init b_X_init 1 4 175 1353 86 [.ref h0] [(h0, .inr (7, [.null, .null, .null, .null, .null, .null, .null, .int 0]))] (fun cy w => ∃ α0 α1 α2 β p pa lt la nm na md o1 o2 rf, w = xB cy h0 α0 α1 α2 β p pa lt la nm na md o1 o2 rf) := by
  refine CI.of (own := "PassedOnAndBetter") (by decide) rfl (Nat.le_of_ble_eq_true rfl) ?_
  intro z cy hz hr hin
  show J l z b_X_init 1 0 [(0, .ref h0)] [] [(h0, .inr (7, [.null, .null, .null, .null, .null, .null, .null, .int 0]))] 0 0
  refine j_aload_n hz 0 d_X_init_0 rfl rfl ?_
  refine j_obj hz (mG 100 (by decide +kernel) (by decide +kernel)) (mG 101 (by decide +kernel) (by decide +kernel)) (mG 102 (by decide +kernel) (by decide +kernel)) (by decide) (by decide) rfl d_X_init_1 ?_
  refine j_aload_n hz 0 d_X_init_4 rfl rfl ?_
  refine j_new hz (ci := 0) (N := 7) (C := R_C) (T := T_C) (fs := [.null, .null, .null, .null, .int 0, .int 0, .int 0]) i_C t_C_ok (mG 103 (by decide +kernel) (by decide +kernel)) (mG 104 (by decide +kernel) (by decide +kernel)) (mG 84 (by decide +kernel) (by decide +kernel)) rfl df_C (Nat.le_of_ble_eq_true rfl) (Nat.le_of_ble_eq_true rfl) d_X_init_5 (fun q => ?_)
  refine j_dup hz d_X_init_8 ?_
  refine j_init hz (as := []) (st := [.ref q, .ref h0]) (na := 0) (c_C_init l q) rfl m_C_init mi_C_init (mG 105 (by decide +kernel) (by decide +kernel)) ⟨Nat.le_of_ble_eq_true rfl, Nat.le_of_ble_eq_true rfl⟩ (Nat.le_of_ble_eq_true rfl) (Nat.le_of_ble_eq_true rfl) rfl rfl (Nat.le_of_ble_eq_true rfl) d_X_init_9 (fun w hw => ?_)
  obtain ⟨α0, rfl, rfl⟩ := hw
  refine j_putF hz (hin rfl) (q0 := 0) (f := 0) (N := 8) (ci := 7) (T := T_X) (ws' := [(h0, .inr (7, [.ref (α0 0), .null, .null, .null, .null, .null, .null, .int 0]))] ++ cB cy α0) i_X t_X_ok n_X rfl rfl (by decide) rfl rfl (ty := t_X 0) (t_X_ok 0 (by decide)) rfl rfl (Nat.le_of_ble_eq_true rfl) (mG 306 (by decide +kernel) (by decide +kernel)) rfl d_X_init_12 ?_
  refine j_aload_n hz 0 d_X_init_15 rfl rfl ?_
  refine j_new hz (ci := 0) (N := 7) (C := R_C) (T := T_C) (fs := [.null, .null, .null, .null, .int 0, .int 0, .int 0]) i_C t_C_ok (mG 103 (by decide +kernel) (by decide +kernel)) (mG 104 (by decide +kernel) (by decide +kernel)) (mG 84 (by decide +kernel) (by decide +kernel)) rfl df_C (Nat.le_of_ble_eq_true rfl) (Nat.le_of_ble_eq_true rfl) d_X_init_16 (fun q => ?_)
  refine j_dup hz d_X_init_19 ?_
  refine j_init hz (as := []) (st := [.ref q, .ref h0]) (na := 0) (c_C_init l q) rfl m_C_init mi_C_init (mG 105 (by decide +kernel) (by decide +kernel)) ⟨Nat.le_of_ble_eq_true rfl, Nat.le_of_ble_eq_true rfl⟩ (Nat.le_of_ble_eq_true rfl) (Nat.le_of_ble_eq_true rfl) rfl rfl (Nat.le_of_ble_eq_true rfl) d_X_init_20 (fun w hw => ?_)
  obtain ⟨α1, rfl, rfl⟩ := hw
  refine j_putF hz (hin rfl) (q0 := 0) (f := 1) (N := 8) (ci := 7) (T := T_X) (ws' := [(h0, .inr (7, [.ref (α0 0), .ref (α1 0), .null, .null, .null, .null, .null, .int 0]))] ++ cB cy α0 ++ cB cy α1) i_X t_X_ok n_X rfl rfl (by decide) rfl rfl (ty := t_X 1) (t_X_ok 1 (by decide)) rfl rfl (Nat.le_of_ble_eq_true rfl) (mG 307 (by decide +kernel) (by decide +kernel)) rfl d_X_init_23 ?_
  refine j_aload_n hz 0 d_X_init_26 rfl rfl ?_
  refine j_new hz (ci := 6) (N := 3) (C := R_P) (T := T_P) (fs := [.null, .int 0, .int 0]) i_P t_P_ok (mG 231 (by decide +kernel) (by decide +kernel)) (mG 232 (by decide +kernel) (by decide +kernel)) (mG 87 (by decide +kernel) (by decide +kernel)) rfl df_P (Nat.le_of_ble_eq_true rfl) (Nat.le_of_ble_eq_true rfl) d_X_init_27 (fun p => ?_)
  refine j_dup hz d_X_init_30 ?_
  refine j_init hz (as := []) (st := [.ref p, .ref h0]) (na := 0) (c_P_init l p) rfl m_P_init mi_P_init (mG 233 (by decide +kernel) (by decide +kernel)) ⟨Nat.le_of_ble_eq_true rfl, Nat.le_of_ble_eq_true rfl⟩ (Nat.le_of_ble_eq_true rfl) (Nat.le_of_ble_eq_true rfl) rfl rfl (Nat.le_of_ble_eq_true rfl) d_X_init_31 (fun w hw => ?_)
  obtain ⟨pa, β, rfl⟩ := hw
  refine j_putF hz (hin rfl) (q0 := 0) (f := 2) (N := 8) (ci := 7) (T := T_X) (ws' := [(h0, .inr (7, [.ref (α0 0), .ref (α1 0), .ref p, .null, .null, .null, .null, .int 0]))] ++ cB cy α0 ++ cB cy α1 ++ (pP cy p pa (fun k => some (β k 0)) ++ cBs cy β 8)) i_X t_X_ok n_X rfl rfl (by decide) rfl rfl (ty := t_X 2) (t_X_ok 2 (by decide)) rfl rfl (Nat.le_of_ble_eq_true rfl) (mG 308 (by decide +kernel) (by decide +kernel)) rfl d_X_init_34 ?_
  refine j_aload_n hz 0 d_X_init_37 rfl rfl ?_
  refine j_new hz (ci := 3) (N := 2) (C := R_L) (T := T_L) (fs := [.null, .int 0]) i_L t_L_ok (mG 251 (by decide +kernel) (by decide +kernel)) (mG 252 (by decide +kernel) (by decide +kernel)) (mG 88 (by decide +kernel) (by decide +kernel)) rfl df_L (Nat.le_of_ble_eq_true rfl) (Nat.le_of_ble_eq_true rfl) d_X_init_38 (fun lt => ?_)
  refine j_dup hz d_X_init_41 ?_
  refine j_init hz (as := []) (st := [.ref lt, .ref h0]) (na := 0) (c_L_init l lt) rfl m_L_init mi_L_init (mG 253 (by decide +kernel) (by decide +kernel)) ⟨Nat.le_of_ble_eq_true rfl, Nat.le_of_ble_eq_true rfl⟩ (Nat.le_of_ble_eq_true rfl) (Nat.le_of_ble_eq_true rfl) rfl rfl (Nat.le_of_ble_eq_true rfl) d_X_init_42 (fun w hw => ?_)
  obtain ⟨la, rfl⟩ := hw
  refine j_putF hz (hin rfl) (q0 := 0) (f := 3) (N := 8) (ci := 7) (T := T_X) (ws' := [(h0, .inr (7, [.ref (α0 0), .ref (α1 0), .ref p, .ref lt, .null, .null, .null, .int 0]))] ++ cB cy α0 ++ cB cy α1 ++ (pP cy p pa (fun k => some (β k 0)) ++ cBs cy β 8) ++ [(lt, .inr (3, [.ref la, .int 0])), (la, .inl (cy.1, 96, .inl (fun _ => 0)))]) i_X t_X_ok n_X rfl rfl (by decide) rfl rfl (ty := t_X 3) (t_X_ok 3 (by decide)) rfl rfl (Nat.le_of_ble_eq_true rfl) (mG 309 (by decide +kernel) (by decide +kernel)) rfl d_X_init_45 ?_
  refine j_aload_n hz 0 d_X_init_48 rfl rfl ?_
  refine j_new hz (ci := 5) (N := 2) (C := R_N) (T := T_N) (fs := [.null, .int 0]) i_N t_N_ok (mG 266 (by decide +kernel) (by decide +kernel)) (mG 267 (by decide +kernel) (by decide +kernel)) (mG 89 (by decide +kernel) (by decide +kernel)) rfl df_N (Nat.le_of_ble_eq_true rfl) (Nat.le_of_ble_eq_true rfl) d_X_init_49 (fun nm => ?_)
  refine j_dup hz d_X_init_52 ?_
  refine j_init hz (as := []) (st := [.ref nm, .ref h0]) (na := 0) (c_N_init l nm) rfl m_N_init mi_N_init (mG 268 (by decide +kernel) (by decide +kernel)) ⟨Nat.le_of_ble_eq_true rfl, Nat.le_of_ble_eq_true rfl⟩ (Nat.le_of_ble_eq_true rfl) (Nat.le_of_ble_eq_true rfl) rfl rfl (Nat.le_of_ble_eq_true rfl) d_X_init_53 (fun w hw => ?_)
  obtain ⟨na, rfl⟩ := hw
  refine j_putF hz (hin rfl) (q0 := 0) (f := 4) (N := 8) (ci := 7) (T := T_X) (ws' := [(h0, .inr (7, [.ref (α0 0), .ref (α1 0), .ref p, .ref lt, .ref nm, .null, .null, .int 0]))] ++ cB cy α0 ++ cB cy α1 ++ (pP cy p pa (fun k => some (β k 0)) ++ cBs cy β 8) ++ [(lt, .inr (3, [.ref la, .int 0])), (la, .inl (cy.1, 96, .inl (fun _ => 0)))] ++ [(nm, .inr (5, [.ref na, .int 0])), (na, .inl (cy.1, 12, .inl (fun _ => 0)))]) i_X t_X_ok n_X rfl rfl (by decide) rfl rfl (ty := t_X 4) (t_X_ok 4 (by decide)) rfl rfl (Nat.le_of_ble_eq_true rfl) (mG 310 (by decide +kernel) (by decide +kernel)) rfl d_X_init_56 ?_
  refine j_aload_n hz 0 d_X_init_59 rfl rfl ?_
  refine j_new hz (ci := 4) (N := 5) (C := R_M) (T := T_M) (fs := [.null, .null, .null, .null, .null]) i_M t_M_ok (mG 282 (by decide +kernel) (by decide +kernel)) (mG 283 (by decide +kernel) (by decide +kernel)) (mG 90 (by decide +kernel) (by decide +kernel)) rfl df_M (Nat.le_of_ble_eq_true rfl) (Nat.le_of_ble_eq_true rfl) d_X_init_60 (fun md => ?_)
  refine j_dup hz d_X_init_63 ?_
  refine j_aload_n hz 0 d_X_init_64 rfl rfl ?_
  refine j_get hz (q0 := 0) (f := 0) (N := 8) (ci := 7) (C := R_X) (T := T_X) i_X rfl rfl rfl (by decide) rfl (mG 306 (by decide +kernel) (by decide +kernel)) d_X_init_65 ?_
  refine j_aload_n hz 0 d_X_init_68 rfl rfl ?_
  refine j_get hz (q0 := 0) (f := 4) (N := 8) (ci := 7) (C := R_X) (T := T_X) i_X rfl rfl rfl (by decide) rfl (mG 310 (by decide +kernel) (by decide +kernel)) d_X_init_69 ?_
  refine j_init hz (as := [.ref (α0 0), .ref nm]) (st := [.ref md, .ref h0]) (na := 2) (c_M_init l md (α0 0) nm) rfl m_M_init mi_M_init (mG 284 (by decide +kernel) (by decide +kernel)) ⟨Nat.le_of_ble_eq_true rfl, Nat.le_of_ble_eq_true rfl⟩ (Nat.le_of_ble_eq_true rfl) (Nat.le_of_ble_eq_true rfl) rfl rfl (Nat.le_of_ble_eq_true rfl) d_X_init_72 (fun w hw => ?_)
  obtain ⟨α2, o1, o2, rfl⟩ := hw
  refine j_putF hz (hin rfl) (q0 := 0) (f := 5) (N := 8) (ci := 7) (T := T_X) (ws' := [(h0, .inr (7, [.ref (α0 0), .ref (α1 0), .ref p, .ref lt, .ref nm, .ref md, .null, .int 0]))] ++ cB cy α0 ++ cB cy α1 ++ (pP cy p pa (fun k => some (β k 0)) ++ cBs cy β 8) ++ [(lt, .inr (3, [.ref la, .int 0])), (la, .inl (cy.1, 96, .inl (fun _ => 0)))] ++ [(nm, .inr (5, [.ref na, .int 0])), (na, .inl (cy.1, 12, .inl (fun _ => 0)))] ++ ([(md, .inr (4, [.ref (α0 0), .ref nm, .ref (α2 0), .ref o1, .ref o2]))] ++ cB cy α2 ++ [(o1, .inl (cy.1, 4, .inl (fun _ => 0)))] ++ [(o2, .inl (cy.1, 4, .inl (fun _ => 0)))])) i_X t_X_ok n_X rfl rfl (by decide) rfl rfl (ty := t_X 5) (t_X_ok 5 (by decide)) rfl rfl (Nat.le_of_ble_eq_true rfl) (mG 311 (by decide +kernel) (by decide +kernel)) rfl d_X_init_75 ?_
  refine j_aload_n hz 0 d_X_init_78 rfl rfl ?_
  refine j_bipush hz (v := 7) d_X_init_79 (by decide) ?_
  refine j_newi hz (N := 7) (mG 265 (by decide +kernel) (by decide +kernel)) (by decide) (by decide) (by decide) (Nat.le_of_ble_eq_true rfl) (Nat.le_of_ble_eq_true rfl) d_X_init_81 (fun rf => ?_)
  refine j_putF hz (hin rfl) (q0 := 0) (f := 6) (N := 8) (ci := 7) (T := T_X) (ws' := [(h0, .inr (7, [.ref (α0 0), .ref (α1 0), .ref p, .ref lt, .ref nm, .ref md, .ref rf, .int 0]))] ++ cB cy α0 ++ cB cy α1 ++ (pP cy p pa (fun k => some (β k 0)) ++ cBs cy β 8) ++ [(lt, .inr (3, [.ref la, .int 0])), (la, .inl (cy.1, 96, .inl (fun _ => 0)))] ++ [(nm, .inr (5, [.ref na, .int 0])), (na, .inl (cy.1, 12, .inl (fun _ => 0)))] ++ ([(md, .inr (4, [.ref (α0 0), .ref nm, .ref (α2 0), .ref o1, .ref o2]))] ++ cB cy α2 ++ [(o1, .inl (cy.1, 4, .inl (fun _ => 0)))] ++ [(o2, .inl (cy.1, 4, .inl (fun _ => 0)))]) ++ [(rf, .inl (cy.1, 7, .inl (fun _ => 0)))]) i_X t_X_ok n_X rfl rfl (by decide) rfl rfl (ty := t_X 6) (t_X_ok 6 (by decide)) rfl rfl (Nat.le_of_ble_eq_true rfl) (mG 312 (by decide +kernel) (by decide +kernel)) rfl d_X_init_83 ?_
  refine j_aload_n hz 0 d_X_init_86 rfl rfl ?_
  refine j_iconst hz (v := 0) d_X_init_87 (by decide) ?_
  refine j_put hz (q0 := 0) (f := 7) (N := 8) (ci := 7) (C := R_X) (T := T_X) (ws' := [(h0, .inr (7, [.ref (α0 0), .ref (α1 0), .ref p, .ref lt, .ref nm, .ref md, .ref rf, .int 0]))] ++ cB cy α0 ++ cB cy α1 ++ (pP cy p pa (fun k => some (β k 0)) ++ cBs cy β 8) ++ [(lt, .inr (3, [.ref la, .int 0])), (la, .inl (cy.1, 96, .inl (fun _ => 0)))] ++ [(nm, .inr (5, [.ref na, .int 0])), (na, .inl (cy.1, 12, .inl (fun _ => 0)))] ++ ([(md, .inr (4, [.ref (α0 0), .ref nm, .ref (α2 0), .ref o1, .ref o2]))] ++ cB cy α2 ++ [(o1, .inl (cy.1, 4, .inl (fun _ => 0)))] ++ [(o2, .inl (cy.1, 4, .inl (fun _ => 0)))]) ++ [(rf, .inl (cy.1, 7, .inl (fun _ => 0)))]) i_X t_X_ok n_X rfl rfl (by decide) rfl rfl (ty := t_X 7) (t_X_ok 7 (by decide)) rfl rfl (Nat.le_of_ble_eq_true rfl) (mG 313 (by decide +kernel) (by decide +kernel)) rfl d_X_init_88 ?_
  exact j_vret hz hr (fun D A H hP hD => ⟨_, ⟨α0, α1, α2, β, p, pa, lt, la, nm, na, md, o1, o2, rf, rfl⟩, hP, hD⟩) d_X_init_91
