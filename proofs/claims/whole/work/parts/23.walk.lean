def f_X_bestNext (s : Mm) (a1 : Int32) (a2 : Int32) (a3 : Int32) : Option (Int32 × Mm) :=
  bn (f_X_friendNo s a1) fun x3 s2 =>
  bn (f_X_spanNo s2 a2) fun x6 s5 =>
  bn (f_X_whatNo s5 a3 1) fun x9 s8 =>
  bn (f_X_first s8 x3 x6 x9) fun x12 s11 =>
  if x12 = 0 then
    bn (f_M_nextOfMostWorth s11 a1 a2 a3) fun x19 s18 =>
    some (x19, s18)
  else
    bn (f_X_refuse s11 x12) fun x16 s15 =>
    some (x16, s15)
set_option maxRecDepth 20000 in
theorem c_X_bestNext (l : Launch) {s : Mm} {a1 : Int32} {a2 : Int32} {a3 : Int32} {r' : Int32} {s' : Mm}  (h : f_X_bestNext s a1 a2 a3 = some (r', s')) : Cm l y_X_bestNext b_X_bestNext 5 (some .int) 6 139 [.ref 165, .int a1, .int a2, .int a3] s s' (some (.int r')) := by
  refine Cm.of (own := "PassedOnAndBetter") (by decide) rfl (fun ad => Nat.le_of_ble_eq_true rfl) ?_
  intro z hz hq
  show G l z b_X_bestNext 5 0 [(0, .ref 165), (1, .int a1), (2, .int a2), (3, .int a3)] [] s
  unfold f_X_bestNext at h
  refine g_aload_n hz 0 d_X_bestNext_0 rfl rfl ?_
  refine g_iload_n hz 1 d_X_bestNext_1 rfl rfl ?_
  refine bn_use h (fun x3 s2 e1 h => ?_)
  refine g_callVi hz (c_X_friendNo l e1) (by decide) rc_X rfl rfl m_X_friendNo mi_X_friendNo ms_X_friendNo q_530 ⟨Nat.le_of_ble_eq_true rfl, Nat.le_of_ble_eq_true rfl⟩ rfl (st := []) rfl (Nat.le_of_ble_eq_true rfl) d_X_bestNext_2 ?_
  refine g_iload_n hz 2 d_X_bestNext_5 rfl rfl ?_
  refine bn_use h (fun x6 s5 e4 h => ?_)
  refine g_callSi hz (c_X_spanNo l e4) m_X_spanNo mi_X_spanNo q_625 ⟨Nat.le_of_ble_eq_true rfl, Nat.le_of_ble_eq_true rfl⟩ rfl (st := [.int x3]) rfl (Nat.le_of_ble_eq_true rfl) d_X_bestNext_6 ?_
  refine g_iload_n hz 3 d_X_bestNext_9 rfl rfl ?_
  refine g_iconst hz d_X_bestNext_10 ki_1 ?_
  refine bn_use h (fun x9 s8 e7 h => ?_)
  refine g_callSi hz (c_X_whatNo l e7) m_X_whatNo mi_X_whatNo q_535 ⟨Nat.le_of_ble_eq_true rfl, Nat.le_of_ble_eq_true rfl⟩ rfl (st := [.int x6, .int x3]) rfl (Nat.le_of_ble_eq_true rfl) d_X_bestNext_11 ?_
  refine bn_use h (fun x12 s11 e10 h => ?_)
  refine g_callSi hz (c_X_first l e10) m_X_first mi_X_first q_538 ⟨Nat.le_of_ble_eq_true rfl, Nat.le_of_ble_eq_true rfl⟩ rfl (st := []) rfl (Nat.le_of_ble_eq_true rfl) d_X_bestNext_14 ?_
  refine g_istore hz (L' := [(4, .int x12), (0, .ref 165), (1, .int a1), (2, .int a2), (3, .int a3)]) d_X_bestNext_17 (by decide) rfl ?_
  refine g_iload hz 0 d_X_bestNext_19 rfl ?_
  refine g_if_ne hz (tgt := 37) d_X_bestNext_21 (by decide) (fun c13 => ?_) (fun c13 => ?_)
  · replace h := (if_neg c13).symm.trans h
    refine g_aload_n hz 1 d_X_bestNext_37 rfl rfl ?_
    refine g_iload hz 0 d_X_bestNext_38 rfl ?_
    refine bn_use h (fun x16 s15 e14 h => ?_)
    refine g_callVi hz (c_X_refuse l e14) (by decide) rc_X rfl rfl m_X_refuse mi_X_refuse ms_X_refuse q_349 ⟨Nat.le_of_ble_eq_true rfl, Nat.le_of_ble_eq_true rfl⟩ rfl (st := []) rfl (Nat.le_of_ble_eq_true rfl) d_X_bestNext_40 ?_
    exact g_iret hz (rti h hq) d_X_bestNext_43
  · replace h := (if_pos c13).symm.trans h
    refine g_aload_n hz 1 d_X_bestNext_24 rfl rfl ?_
    refine gf_X_mind hz q_311 d_X_bestNext_25 ?_
    refine g_iload_n hz 2 d_X_bestNext_28 rfl rfl ?_
    refine g_iload_n hz 3 d_X_bestNext_29 rfl rfl ?_
    refine g_iload_n hz 4 d_X_bestNext_30 rfl rfl ?_
    refine bn_use h (fun x19 s18 e17 h => ?_)
    refine g_callVi hz (c_M_nextOfMostWorth l e17) (by decide) rc_M rfl rfl m_M_nextOfMostWorth mi_M_nextOfMostWorth ms_M_nextOfMostWorth q_700 ⟨Nat.le_of_ble_eq_true rfl, Nat.le_of_ble_eq_true rfl⟩ rfl (st := []) rfl (Nat.le_of_ble_eq_true rfl) d_X_bestNext_31 ?_
    refine g_goto hz (tgt := 43) d_X_bestNext_34 (by decide) ?_
    exact g_iret hz (rti h hq) d_X_bestNext_43
def f_I_bitCount (s : Mm) (a0 : Int32) : Option (Int32 × Mm) :=
  nm (a0 - (((a0.toUInt32 >>> ((1 : Int32).toUInt32 &&& Int32.toUInt32 31)).toInt32) &&& 1431655765)) fun x1 =>
  nm ((x1 &&& 858993459) + (((x1.toUInt32 >>> ((2 : Int32).toUInt32 &&& Int32.toUInt32 31)).toInt32) &&& 858993459)) fun x3 =>
  nm ((x3 + ((x3.toUInt32 >>> ((4 : Int32).toUInt32 &&& Int32.toUInt32 31)).toInt32)) &&& 252645135) fun x5 =>
  nm (x5 + ((x5.toUInt32 >>> ((8 : Int32).toUInt32 &&& Int32.toUInt32 31)).toInt32)) fun x7 =>
  nm (x7 + ((x7.toUInt32 >>> ((16 : Int32).toUInt32 &&& Int32.toUInt32 31)).toInt32)) fun x9 =>
  some (x9 &&& 63, s)
set_option maxRecDepth 20000 in
theorem c_I_bitCount (l : Launch) {s : Mm} {a0 : Int32} {r' : Int32} {s' : Mm}  (h : f_I_bitCount s a0 = some (r', s')) : Cm l y_I_bitCount b_I_bitCount 1 (some .int) 0 0 [.int a0] s s' (some (.int r')) := by
  refine Cm.of (own := "java/lang/Integer") (by decide) rfl (fun ad => Nat.le_of_ble_eq_true rfl) ?_
  intro z hz hq
  show G l z b_I_bitCount 1 0 [(0, .int a0)] [] s
  unfold f_I_bitCount at h
  refine g_iload_n hz 0 d_I_bitCount_0 rfl rfl ?_
  refine g_iload_n hz 0 d_I_bitCount_1 rfl rfl ?_
  refine g_iconst hz d_I_bitCount_2 ki_1 ?_
  refine g_iushr hz d_I_bitCount_3 ?_
  refine g_ldcw hz q_719 d_I_bitCount_4 ?_
  refine g_iand hz d_I_bitCount_7 ?_
  refine g_isub hz d_I_bitCount_8 ?_
  refine g_nmi (fun x1 e2 => ?_)
  replace h := nm_use h e2
  refine g_istore_n hz (L' := [(0, .int x1)]) d_I_bitCount_9 rfl (by decide) rfl ?_
  refine g_iload_n hz 0 d_I_bitCount_10 rfl rfl ?_
  refine g_ldcw hz q_720 d_I_bitCount_11 ?_
  refine g_iand hz d_I_bitCount_14 ?_
  refine g_iload_n hz 0 d_I_bitCount_15 rfl rfl ?_
  refine g_iconst hz d_I_bitCount_16 ki_2 ?_
  refine g_iushr hz d_I_bitCount_17 ?_
  refine g_ldcw hz q_720 d_I_bitCount_18 ?_
  refine g_iand hz d_I_bitCount_21 ?_
  refine g_iadd hz d_I_bitCount_22 ?_
  refine g_nmi (fun x3 e4 => ?_)
  replace h := nm_use h e4
  refine g_istore_n hz (L' := [(0, .int x3)]) d_I_bitCount_23 rfl (by decide) rfl ?_
  refine g_iload_n hz 0 d_I_bitCount_24 rfl rfl ?_
  refine g_iload_n hz 0 d_I_bitCount_25 rfl rfl ?_
  refine g_iconst hz d_I_bitCount_26 ki_4 ?_
  refine g_iushr hz d_I_bitCount_27 ?_
  refine g_iadd hz d_I_bitCount_28 ?_
  refine g_ldcw hz q_721 d_I_bitCount_29 ?_
  refine g_iand hz d_I_bitCount_32 ?_
  refine g_nmi (fun x5 e6 => ?_)
  replace h := nm_use h e6
  refine g_istore_n hz (L' := [(0, .int x5)]) d_I_bitCount_33 rfl (by decide) rfl ?_
  refine g_iload_n hz 0 d_I_bitCount_34 rfl rfl ?_
  refine g_iload_n hz 0 d_I_bitCount_35 rfl rfl ?_
  refine g_bipush hz (v := 8) d_I_bitCount_36 (by decide) ?_
  refine g_iushr hz d_I_bitCount_38 ?_
  refine g_iadd hz d_I_bitCount_39 ?_
  refine g_nmi (fun x7 e8 => ?_)
  replace h := nm_use h e8
  refine g_istore_n hz (L' := [(0, .int x7)]) d_I_bitCount_40 rfl (by decide) rfl ?_
  refine g_iload_n hz 0 d_I_bitCount_41 rfl rfl ?_
  refine g_iload_n hz 0 d_I_bitCount_42 rfl rfl ?_
  refine g_bipush hz (v := 16) d_I_bitCount_43 (by decide) ?_
  refine g_iushr hz d_I_bitCount_45 ?_
  refine g_iadd hz d_I_bitCount_46 ?_
  refine g_nmi (fun x9 e10 => ?_)
  replace h := nm_use h e10
  refine g_istore_n hz (L' := [(0, .int x9)]) d_I_bitCount_47 rfl (by decide) rfl ?_
  refine g_iload_n hz 0 d_I_bitCount_48 rfl rfl ?_
  refine g_bipush hz (v := 63) d_I_bitCount_49 (by decide) ?_
  refine g_iand hz d_I_bitCount_51 ?_
  exact g_iret hz (rti h hq) d_I_bitCount_52
def k_M_comesWithWidened_8 : Nat → Int32 → Int32 → Int32 → Int32 → Int32 → Mm → Option (Int32 × Mm)
  | 0, _, _, _, _, _, _ => none
  | n + 1, v1, v2, v3, v4, v5, s => if (s 2 4) ≤ v5 then
      bn (f_M_arrival s v1 v2 v3) fun x7 s6 =>
      if x7 = (-9) then
        some (0, s6)
      else
        some (1, s6)
    else
      if ((v4 >>> (v5 &&& 31)) &&& 1) = 1 then
        bn (f_C_friendAt s 2 v5) fun x12 s11 =>
        nm (mU s11 x12 2 99) fun s13 =>
        k_M_comesWithWidened_8 n v1 v2 v3 v4 (v5 + 1) s13
      else
        k_M_comesWithWidened_8 n v1 v2 v3 v4 (v5 + 1) s
set_option maxRecDepth 20000 in
theorem w_M_comesWithWidened_8 {l : Launch} {z : Zt} (hz : ZOk z b_M_comesWithWidened 6 "PassedOnAndBetter$Mind" 4 91) {r' : Int32} {s' : Mm} (hq : ZR z (some .boolean) s' (some (.int r'))) : ∀ (n : Nat) (v1 : Int32) (v2 : Int32) (v3 : Int32) (v4 : Int32) (v5 : Int32) (s : Mm), k_M_comesWithWidened_8 n v1 v2 v3 v4 v5 s = some (r', s') → G l z b_M_comesWithWidened 6 8 [(0, .ref 173), (1, .int v1), (2, .int v2), (3, .int v3), (4, .int v4), (5, .int v5)] [] s := by
  intro n
  induction n with
  | zero => intro v1 v2 v3 v4 v5 s h; unfold k_M_comesWithWidened_8 at h; cases h
  | succ n ih =>
    intro v1 v2 v3 v4 v5 s h
    unfold k_M_comesWithWidened_8 at h
    refine g_iload hz 5 d_M_comesWithWidened_8 rfl ?_
    refine g_aload_n hz 0 d_M_comesWithWidened_10 rfl rfl ?_
    refine gf_M_thought hz q_292 d_M_comesWithWidened_11 ?_
    refine gf_C_friends hz (by decide) q_208 d_M_comesWithWidened_14 ?_
    refine g_icmp_ge hz (tgt := 51) d_M_comesWithWidened_17 (by decide) (fun c4 => ?_) (fun c4 => ?_)
    · replace h := (if_pos c4).symm.trans h
      refine g_aload_n hz 0 d_M_comesWithWidened_51 rfl rfl ?_
      refine g_iload_n hz 1 d_M_comesWithWidened_52 rfl rfl ?_
      refine g_iload_n hz 2 d_M_comesWithWidened_53 rfl rfl ?_
      refine g_iload_n hz 3 d_M_comesWithWidened_54 rfl rfl ?_
      refine bn_use h (fun x7 s6 e5 h => ?_)
      refine g_callVi hz (c_M_arrival l e5) (by decide) rc_M rfl rfl m_M_arrival mi_M_arrival ms_M_arrival q_674 ⟨Nat.le_of_ble_eq_true rfl, Nat.le_of_ble_eq_true rfl⟩ rfl (st := []) rfl (Nat.le_of_ble_eq_true rfl) d_M_comesWithWidened_55 ?_
      refine g_bipush hz (v := (-9)) d_M_comesWithWidened_58 (by decide) ?_
      refine g_icmp_eq hz (tgt := 67) d_M_comesWithWidened_60 (by decide) (fun c8 => ?_) (fun c8 => ?_)
      · replace h := (if_pos c8).symm.trans h
        refine g_iconst hz d_M_comesWithWidened_67 ki_0 ?_
        exact g_zret hz (rti h hq) (Or.inl rfl) d_M_comesWithWidened_68
      · replace h := (if_neg c8).symm.trans h
        refine g_iconst hz d_M_comesWithWidened_63 ki_1 ?_
        refine g_goto hz (tgt := 68) d_M_comesWithWidened_64 (by decide) ?_
        exact g_zret hz (rti h hq) (Or.inr rfl) d_M_comesWithWidened_68
    · replace h := (if_neg c4).symm.trans h
      refine g_iload hz 4 d_M_comesWithWidened_20 rfl ?_
      refine g_iload hz 5 d_M_comesWithWidened_22 rfl ?_
      refine g_ishr hz d_M_comesWithWidened_24 ?_
      refine g_iconst hz d_M_comesWithWidened_25 ki_1 ?_
      refine g_iand hz d_M_comesWithWidened_26 ?_
      refine g_iconst hz d_M_comesWithWidened_27 ki_1 ?_
      refine g_icmp_ne hz (tgt := 45) d_M_comesWithWidened_28 (by decide) (fun c9 => ?_) (fun c9 => ?_)
      · replace h := (if_neg c9).symm.trans h
        refine g_iinc hz (v := v5 + 1) (L' := [(5, .int (v5 + 1)), (0, .ref 173), (1, .int v1), (2, .int v2), (3, .int v3), (4, .int v4)]) 5 d_M_comesWithWidened_45 rfl (congrArg (fun q => v5 + q) ki_1) (by decide) rfl ?_
        refine g_goto hz (tgt := 8) d_M_comesWithWidened_48 (by decide) ?_
        refine g_sub [1, 2, 3, 4, 5, 0] rfl ?_
        exact ih v1 v2 v3 v4 (v5 + 1) _ h
      · replace h := (if_pos c9).symm.trans h
        refine g_aload_n hz 0 d_M_comesWithWidened_31 rfl rfl ?_
        refine gf_M_thought hz q_292 d_M_comesWithWidened_32 ?_
        refine g_iload hz 5 d_M_comesWithWidened_35 rfl ?_
        refine bn_use h (fun x12 s11 e10 h => ?_)
        have hx12 := rr_C_friendAt (by decide) e10
        refine g_callVr hz (c_C_friendAt l (by decide) e10) (iC_lt (by decide)) (rc_C (by decide)) rfl rfl m_C_friendAt mi_C_friendAt ms_C_friendAt q_686 ⟨Nat.le_of_ble_eq_true rfl, Nat.le_of_ble_eq_true rfl⟩ rfl (st := []) rfl (Nat.le_of_ble_eq_true rfl) d_M_comesWithWidened_37 ?_
        refine g_bipush hz (v := 99) d_M_comesWithWidened_40 (by decide) ?_
        refine pf_F_door hz hx12 q_126 d_M_comesWithWidened_42 (fun s13 e14 => ?_)
        replace h := nm_use h e14
        refine g_iinc hz (v := v5 + 1) (L' := [(5, .int (v5 + 1)), (0, .ref 173), (1, .int v1), (2, .int v2), (3, .int v3), (4, .int v4)]) 5 d_M_comesWithWidened_45 rfl (congrArg (fun q => v5 + q) ki_1) (by decide) rfl ?_
        refine g_goto hz (tgt := 8) d_M_comesWithWidened_48 (by decide) ?_
        refine g_sub [1, 2, 3, 4, 5, 0] rfl ?_
        exact ih v1 v2 v3 v4 (v5 + 1) _ h
def f_M_comesWithWidened (s : Mm) (a1 : Int32) (a2 : Int32) (a3 : Int32) (a4 : Int32) : Option (Int32 × Mm) :=
  bn (f_M_recall s) fun x3 s2 =>
  k_M_comesWithWidened_8 KF a1 a2 a3 a4 0 s2
set_option maxRecDepth 20000 in
theorem c_M_comesWithWidened (l : Launch) {s : Mm} {a1 : Int32} {a2 : Int32} {a3 : Int32} {a4 : Int32} {r' : Int32} {s' : Mm}  (h : f_M_comesWithWidened s a1 a2 a3 a4 = some (r', s')) : Cm l y_M_comesWithWidened b_M_comesWithWidened 6 (some .boolean) 4 91 [.ref 173, .int a1, .int a2, .int a3, .int a4] s s' (some (.int r')) := by
  refine Cm.of (own := "PassedOnAndBetter$Mind") (by decide) rfl (fun ad => Nat.le_of_ble_eq_true rfl) ?_
  intro z hz hq
  show G l z b_M_comesWithWidened 6 0 [(0, .ref 173), (1, .int a1), (2, .int a2), (3, .int a3), (4, .int a4)] [] s
  unfold f_M_comesWithWidened at h
  refine g_aload_n hz 0 d_M_comesWithWidened_0 rfl rfl ?_
  refine bn_use h (fun x3 s2 e1 h => ?_)
  have hx3 := rr_M_recall e1
  refine g_callVr hz (c_M_recall l e1) (by decide) rc_M rfl rfl m_M_recall mi_M_recall ms_M_recall q_632 ⟨Nat.le_of_ble_eq_true rfl, Nat.le_of_ble_eq_true rfl⟩ rfl (st := []) rfl (Nat.le_of_ble_eq_true rfl) d_M_comesWithWidened_1 ?_
  refine g_pop hz d_M_comesWithWidened_4 rfl ?_
  refine g_iconst hz d_M_comesWithWidened_5 ki_0 ?_
  refine g_istore hz (L' := [(5, .int 0), (0, .ref 173), (1, .int a1), (2, .int a2), (3, .int a3), (4, .int a4)]) d_M_comesWithWidened_6 (by decide) rfl ?_
  refine g_sub [1, 2, 3, 4, 5, 0] rfl ?_
  exact w_M_comesWithWidened_8 hz hq KF a1 a2 a3 a4 0 _ h
def k_M_fewestWidened_11 : Nat → Int32 → Int32 → Int32 → Int32 → Int32 → Int32 → Mm → Option (Int32 × Mm)
  | 0, _, _, _, _, _, _, _ => none
  | n + 1, v1, v2, v3, v4, v5, v6, s => if (1 <<< ((s 0 4) &&& 31)) ≤ v6 then
      some (v4, s)
    else
      bn (f_I_bitCount s v6) fun x4 s3 =>
      if v5 ≤ x4 then
        k_M_fewestWidened_11 n v1 v2 v3 v4 v5 (v6 + 1) s3
      else
        bn (f_M_comesWithWidened s3 v1 v2 v3 v6) fun x8 s7 =>
        if x8 = 0 then
          k_M_fewestWidened_11 n v1 v2 v3 v4 v5 (v6 + 1) s7
        else
          k_M_fewestWidened_11 n v1 v2 v3 v6 x4 (v6 + 1) s7
set_option maxRecDepth 20000 in
theorem w_M_fewestWidened_11 {l : Launch} {z : Zt} (hz : ZOk z b_M_fewestWidened 8 "PassedOnAndBetter$Mind" 5 116) {r' : Int32} {s' : Mm} (hq : ZR z (some .int) s' (some (.int r'))) : ∀ (n : Nat) (v1 : Int32) (v2 : Int32) (v3 : Int32) (v4 : Int32) (v5 : Int32) (v6 : Int32) (s : Mm), k_M_fewestWidened_11 n v1 v2 v3 v4 v5 v6 s = some (r', s') → G l z b_M_fewestWidened 8 11 [(0, .ref 173), (1, .int v1), (2, .int v2), (3, .int v3), (4, .int v4), (5, .int v5), (6, .int v6)] [] s := by
  intro n
  induction n with
  | zero => intro v1 v2 v3 v4 v5 v6 s h; unfold k_M_fewestWidened_11 at h; cases h
  | succ n ih =>
    intro v1 v2 v3 v4 v5 v6 s h
    unfold k_M_fewestWidened_11 at h
    refine g_iload hz 6 d_M_fewestWidened_11 rfl ?_
    refine g_iconst hz d_M_fewestWidened_13 ki_1 ?_
    refine g_aload_n hz 0 d_M_fewestWidened_14 rfl rfl ?_
    refine gf_M_now hz q_290 d_M_fewestWidened_15 ?_
    refine gf_C_friends hz (by decide) q_208 d_M_fewestWidened_18 ?_
    refine g_ishl hz d_M_fewestWidened_21 ?_
    refine g_icmp_ge hz (tgt := 65) d_M_fewestWidened_22 (by decide) (fun c1 => ?_) (fun c1 => ?_)
    · replace h := (if_pos c1).symm.trans h
      refine g_iload hz 4 d_M_fewestWidened_65 rfl ?_
      exact g_iret hz (rti h hq) d_M_fewestWidened_67
    · replace h := (if_neg c1).symm.trans h
      refine g_iload hz 6 d_M_fewestWidened_25 rfl ?_
      refine bn_use h (fun x4 s3 e2 h => ?_)
      refine g_callSi hz (c_I_bitCount l e2) m_I_bitCount mi_I_bitCount q_716 ⟨Nat.le_of_ble_eq_true rfl, Nat.le_of_ble_eq_true rfl⟩ rfl (st := []) rfl (Nat.le_of_ble_eq_true rfl) d_M_fewestWidened_27 ?_
      refine g_istore hz (L' := [(7, .int x4), (0, .ref 173), (1, .int v1), (2, .int v2), (3, .int v3), (4, .int v4), (5, .int v5), (6, .int v6)]) d_M_fewestWidened_30 (by decide) rfl ?_
      refine g_iload hz 0 d_M_fewestWidened_32 rfl ?_
      refine g_iload hz 6 d_M_fewestWidened_34 rfl ?_
      refine g_icmp_ge hz (tgt := 59) d_M_fewestWidened_36 (by decide) (fun c5 => ?_) (fun c5 => ?_)
      · replace h := (if_pos c5).symm.trans h
        refine g_iinc hz (v := v6 + 1) (L' := [(6, .int (v6 + 1)), (7, .int x4), (0, .ref 173), (1, .int v1), (2, .int v2), (3, .int v3), (4, .int v4), (5, .int v5)]) 7 d_M_fewestWidened_59 rfl (congrArg (fun q => v6 + q) ki_1) (by decide) rfl ?_
        refine g_goto hz (tgt := 11) d_M_fewestWidened_62 (by decide) ?_
        refine g_sub [2, 3, 4, 5, 6, 7, 0] rfl ?_
        exact ih v1 v2 v3 v4 v5 (v6 + 1) _ h
      · replace h := (if_neg c5).symm.trans h
        refine g_aload_n hz 1 d_M_fewestWidened_39 rfl rfl ?_
        refine g_iload_n hz 2 d_M_fewestWidened_40 rfl rfl ?_
        refine g_iload_n hz 3 d_M_fewestWidened_41 rfl rfl ?_
        refine g_iload_n hz 4 d_M_fewestWidened_42 rfl rfl ?_
        refine g_iload hz 7 d_M_fewestWidened_43 rfl ?_
        refine bn_use h (fun x8 s7 e6 h => ?_)
        refine g_callVi hz (c_M_comesWithWidened l e6) (by decide) rc_M rfl rfl m_M_comesWithWidened mi_M_comesWithWidened ms_M_comesWithWidened q_722 ⟨Nat.le_of_ble_eq_true rfl, Nat.le_of_ble_eq_true rfl⟩ rfl (st := []) rfl (Nat.le_of_ble_eq_true rfl) d_M_fewestWidened_45 ?_
        refine g_if_eq hz (tgt := 59) d_M_fewestWidened_48 (by decide) (fun c9 => ?_) (fun c9 => ?_)
        · replace h := (if_pos c9).symm.trans h
          refine g_iinc hz (v := v6 + 1) (L' := [(6, .int (v6 + 1)), (7, .int x4), (0, .ref 173), (1, .int v1), (2, .int v2), (3, .int v3), (4, .int v4), (5, .int v5)]) 7 d_M_fewestWidened_59 rfl (congrArg (fun q => v6 + q) ki_1) (by decide) rfl ?_
          refine g_goto hz (tgt := 11) d_M_fewestWidened_62 (by decide) ?_
          refine g_sub [2, 3, 4, 5, 6, 7, 0] rfl ?_
          exact ih v1 v2 v3 v4 v5 (v6 + 1) _ h
        · replace h := (if_neg c9).symm.trans h
          refine g_iload hz 0 d_M_fewestWidened_51 rfl ?_
          refine g_istore hz (L' := [(5, .int x4), (7, .int x4), (0, .ref 173), (1, .int v1), (2, .int v2), (3, .int v3), (4, .int v4), (6, .int v6)]) d_M_fewestWidened_53 (by decide) rfl ?_
          refine g_iload hz 7 d_M_fewestWidened_55 rfl ?_
          refine g_istore hz (L' := [(4, .int v6), (5, .int x4), (7, .int x4), (0, .ref 173), (1, .int v1), (2, .int v2), (3, .int v3), (6, .int v6)]) d_M_fewestWidened_57 (by decide) rfl ?_
          refine g_iinc hz (v := v6 + 1) (L' := [(6, .int (v6 + 1)), (4, .int v6), (5, .int x4), (7, .int x4), (0, .ref 173), (1, .int v1), (2, .int v2), (3, .int v3)]) 7 d_M_fewestWidened_59 rfl (congrArg (fun q => v6 + q) ki_1) (by decide) rfl ?_
          refine g_goto hz (tgt := 11) d_M_fewestWidened_62 (by decide) ?_
          refine g_sub [4, 5, 6, 7, 1, 2, 0] rfl ?_
          exact ih v1 v2 v3 v6 x4 (v6 + 1) _ h
def f_M_fewestWidened (s : Mm) (a1 : Int32) (a2 : Int32) (a3 : Int32) : Option (Int32 × Mm) :=
  k_M_fewestWidened_11 KF a1 a2 a3 (-9) 7 0 s
set_option maxRecDepth 20000 in
theorem c_M_fewestWidened (l : Launch) {s : Mm} {a1 : Int32} {a2 : Int32} {a3 : Int32} {r' : Int32} {s' : Mm}  (h : f_M_fewestWidened s a1 a2 a3 = some (r', s')) : Cm l y_M_fewestWidened b_M_fewestWidened 8 (some .int) 5 116 [.ref 173, .int a1, .int a2, .int a3] s s' (some (.int r')) := by
  refine Cm.of (own := "PassedOnAndBetter$Mind") (by decide) rfl (fun ad => Nat.le_of_ble_eq_true rfl) ?_
  intro z hz hq
  show G l z b_M_fewestWidened 8 0 [(0, .ref 173), (1, .int a1), (2, .int a2), (3, .int a3)] [] s
  unfold f_M_fewestWidened at h
  refine g_bipush hz (v := (-9)) d_M_fewestWidened_0 (by decide) ?_
  refine g_istore hz (L' := [(4, .int (-9)), (0, .ref 173), (1, .int a1), (2, .int a2), (3, .int a3)]) d_M_fewestWidened_2 (by decide) rfl ?_
  refine g_bipush hz (v := 7) d_M_fewestWidened_4 (by decide) ?_
  refine g_istore hz (L' := [(5, .int 7), (4, .int (-9)), (0, .ref 173), (1, .int a1), (2, .int a2), (3, .int a3)]) d_M_fewestWidened_6 (by decide) rfl ?_
  refine g_iconst hz d_M_fewestWidened_8 ki_0 ?_
  refine g_istore hz (L' := [(6, .int 0), (5, .int 7), (4, .int (-9)), (0, .ref 173), (1, .int a1), (2, .int a2), (3, .int a3)]) d_M_fewestWidened_9 (by decide) rfl ?_
  refine g_sub [3, 4, 5, 6, 2, 1, 0] rfl ?_
  exact w_M_fewestWidened_11 hz hq KF a1 a2 a3 (-9) 7 0 _ h
def f_X_doorsFor (s : Mm) (a1 : Int32) (a2 : Int32) (a3 : Int32) : Option (Int32 × Mm) :=
  bn (f_X_giftNo s a1) fun x3 s2 =>
  bn (f_X_friendNo s2 a2) fun x6 s5 =>
  bn (f_X_spanNo s5 a3) fun x9 s8 =>
  bn (f_X_first s8 x3 x6 x9) fun x12 s11 =>
  if x12 = 0 then
    bn (f_M_fewestWidened s11 a1 a2 a3) fun x19 s18 =>
    some (x19, s18)
  else
    bn (f_X_refuse s11 x12) fun x16 s15 =>
    some (x16, s15)
set_option maxRecDepth 20000 in
theorem c_X_doorsFor (l : Launch) {s : Mm} {a1 : Int32} {a2 : Int32} {a3 : Int32} {r' : Int32} {s' : Mm}  (h : f_X_doorsFor s a1 a2 a3 = some (r', s')) : Cm l y_X_doorsFor b_X_doorsFor 5 (some .int) 6 143 [.ref 165, .int a1, .int a2, .int a3] s s' (some (.int r')) := by
  refine Cm.of (own := "PassedOnAndBetter") (by decide) rfl (fun ad => Nat.le_of_ble_eq_true rfl) ?_
  intro z hz hq
  show G l z b_X_doorsFor 5 0 [(0, .ref 165), (1, .int a1), (2, .int a2), (3, .int a3)] [] s
  unfold f_X_doorsFor at h
  refine g_aload_n hz 0 d_X_doorsFor_0 rfl rfl ?_
  refine g_iload_n hz 1 d_X_doorsFor_1 rfl rfl ?_
  refine bn_use h (fun x3 s2 e1 h => ?_)
  refine g_callVi hz (c_X_giftNo l e1) (by decide) rc_X rfl rfl m_X_giftNo mi_X_giftNo ms_X_giftNo q_555 ⟨Nat.le_of_ble_eq_true rfl, Nat.le_of_ble_eq_true rfl⟩ rfl (st := []) rfl (Nat.le_of_ble_eq_true rfl) d_X_doorsFor_2 ?_
  refine g_aload_n hz 0 d_X_doorsFor_5 rfl rfl ?_
  refine g_iload_n hz 2 d_X_doorsFor_6 rfl rfl ?_
  refine bn_use h (fun x6 s5 e4 h => ?_)
  refine g_callVi hz (c_X_friendNo l e4) (by decide) rc_X rfl rfl m_X_friendNo mi_X_friendNo ms_X_friendNo q_530 ⟨Nat.le_of_ble_eq_true rfl, Nat.le_of_ble_eq_true rfl⟩ rfl (st := [.int x3]) rfl (Nat.le_of_ble_eq_true rfl) d_X_doorsFor_7 ?_
  refine g_iload_n hz 3 d_X_doorsFor_10 rfl rfl ?_
  refine bn_use h (fun x9 s8 e7 h => ?_)
  refine g_callSi hz (c_X_spanNo l e7) m_X_spanNo mi_X_spanNo q_625 ⟨Nat.le_of_ble_eq_true rfl, Nat.le_of_ble_eq_true rfl⟩ rfl (st := [.int x6, .int x3]) rfl (Nat.le_of_ble_eq_true rfl) d_X_doorsFor_11 ?_
  refine bn_use h (fun x12 s11 e10 h => ?_)
  refine g_callSi hz (c_X_first l e10) m_X_first mi_X_first q_538 ⟨Nat.le_of_ble_eq_true rfl, Nat.le_of_ble_eq_true rfl⟩ rfl (st := []) rfl (Nat.le_of_ble_eq_true rfl) d_X_doorsFor_14 ?_
  refine g_istore hz (L' := [(4, .int x12), (0, .ref 165), (1, .int a1), (2, .int a2), (3, .int a3)]) d_X_doorsFor_17 (by decide) rfl ?_
  refine g_iload hz 0 d_X_doorsFor_19 rfl ?_
  refine g_if_ne hz (tgt := 37) d_X_doorsFor_21 (by decide) (fun c13 => ?_) (fun c13 => ?_)
  · replace h := (if_neg c13).symm.trans h
    refine g_aload_n hz 1 d_X_doorsFor_37 rfl rfl ?_
    refine g_iload hz 0 d_X_doorsFor_38 rfl ?_
    refine bn_use h (fun x16 s15 e14 h => ?_)
    refine g_callVi hz (c_X_refuse l e14) (by decide) rc_X rfl rfl m_X_refuse mi_X_refuse ms_X_refuse q_349 ⟨Nat.le_of_ble_eq_true rfl, Nat.le_of_ble_eq_true rfl⟩ rfl (st := []) rfl (Nat.le_of_ble_eq_true rfl) d_X_doorsFor_40 ?_
    exact g_iret hz (rti h hq) d_X_doorsFor_43
  · replace h := (if_pos c13).symm.trans h
    refine g_aload_n hz 1 d_X_doorsFor_24 rfl rfl ?_
    refine gf_X_mind hz q_311 d_X_doorsFor_25 ?_
    refine g_iload_n hz 2 d_X_doorsFor_28 rfl rfl ?_
    refine g_iload_n hz 3 d_X_doorsFor_29 rfl rfl ?_
    refine g_iload_n hz 4 d_X_doorsFor_30 rfl rfl ?_
    refine bn_use h (fun x19 s18 e17 h => ?_)
    refine g_callVi hz (c_M_fewestWidened l e17) (by decide) rc_M rfl rfl m_M_fewestWidened mi_M_fewestWidened ms_M_fewestWidened q_712 ⟨Nat.le_of_ble_eq_true rfl, Nat.le_of_ble_eq_true rfl⟩ rfl (st := []) rfl (Nat.le_of_ble_eq_true rfl) d_X_doorsFor_31 ?_
    refine g_goto hz (tgt := 43) d_X_doorsFor_34 (by decide) ?_
    exact g_iret hz (rti h hq) d_X_doorsFor_43
def k_C_allHands_4 : Nat → Nat → Int32 → Int32 → Mm → Option (Int32 × Mm)
  | 0, _, _, _, _ => none
  | n + 1, o, v1, v2, s => if (s o 5) ≤ v2 then
      some (v1, s)
    else
      bn (f_C_giftAt s o v2) fun x4 s3 =>
      nm (v1 + (s3 x4 5)) fun x5 =>
      k_C_allHands_4 n o x5 (v2 + 1) s3
set_option maxRecDepth 20000 in
theorem w_C_allHands_4 {l : Launch} {z : Zt} (hz : ZOk z b_C_allHands 3 "PassedOnAndBetter$Company" 1 22) {r' : Int32} {s' : Mm} (hq : ZR z (some .int) s' (some (.int r'))) : ∀ (n : Nat) (o : Nat) (v1 : Int32) (v2 : Int32) (ho : iC o) (s : Mm), k_C_allHands_4 n o v1 v2 s = some (r', s') → G l z b_C_allHands 3 4 [(0, .ref o), (1, .int v1), (2, .int v2)] [] s := by
  intro n
  induction n with
  | zero => intro o v1 v2 ho s h; unfold k_C_allHands_4 at h; cases h
  | succ n ih =>
    intro o v1 v2 ho s h
    unfold k_C_allHands_4 at h
    refine g_iload_n hz 2 d_C_allHands_4 rfl rfl ?_
    refine g_aload_n hz 0 d_C_allHands_5 rfl rfl ?_
    refine gf_C_gifts hz ho q_210 d_C_allHands_6 ?_
    refine g_icmp_ge hz (tgt := 29) d_C_allHands_9 (by decide) (fun c1 => ?_) (fun c1 => ?_)
    · replace h := (if_pos c1).symm.trans h
      refine g_iload_n hz 1 d_C_allHands_29 rfl rfl ?_
      exact g_iret hz (rti h hq) d_C_allHands_30
    · replace h := (if_neg c1).symm.trans h
      refine g_iload_n hz 1 d_C_allHands_12 rfl rfl ?_
      refine g_aload_n hz 0 d_C_allHands_13 rfl rfl ?_
      refine g_iload_n hz 2 d_C_allHands_14 rfl rfl ?_
      refine bn_use h (fun x4 s3 e2 h => ?_)
      have hx4 := rr_C_giftAt ho e2
      refine g_callVr hz (c_C_giftAt l ho e2) (iC_lt ho) (rc_C ho) rfl rfl m_C_giftAt mi_C_giftAt ms_C_giftAt q_377 ⟨Nat.le_of_ble_eq_true rfl, Nat.le_of_ble_eq_true rfl⟩ rfl (st := [.int v1]) rfl (Nat.le_of_ble_eq_true rfl) d_C_allHands_15 ?_
      refine gf_G_passed hz hx4 q_189 d_C_allHands_18 ?_
      refine g_iadd hz d_C_allHands_21 ?_
      refine g_nmi (fun x5 e6 => ?_)
      replace h := nm_use h e6
      refine g_istore_n hz (L' := [(1, .int x5), (0, .ref o), (2, .int v2)]) d_C_allHands_22 rfl (by decide) rfl ?_
      refine g_iinc hz (v := v2 + 1) (L' := [(2, .int (v2 + 1)), (1, .int x5), (0, .ref o)]) 2 d_C_allHands_23 rfl (congrArg (fun q => v2 + q) ki_1) (by decide) rfl ?_
      refine g_goto hz (tgt := 4) d_C_allHands_26 (by decide) ?_
      refine g_sub [2, 1, 0] rfl ?_
      exact ih o x5 (v2 + 1) ho _ h
def f_C_allHands (s : Mm) (o : Nat) : Option (Int32 × Mm) :=
  k_C_allHands_4 KF o 0 0 s
set_option maxRecDepth 20000 in
theorem c_C_allHands (l : Launch) {s : Mm} {o : Nat} {r' : Int32} {s' : Mm} (ho : iC o) (h : f_C_allHands s o = some (r', s')) : Cm l y_C_allHands b_C_allHands 3 (some .int) 1 22 [.ref o] s s' (some (.int r')) := by
  refine Cm.of (own := "PassedOnAndBetter$Company") (by decide) rfl (fun ad => Nat.le_of_ble_eq_true rfl) ?_
  intro z hz hq
  show G l z b_C_allHands 3 0 [(0, .ref o)] [] s
  unfold f_C_allHands at h
  refine g_iconst hz d_C_allHands_0 ki_0 ?_
  refine g_istore_n hz (L' := [(1, .int 0), (0, .ref o)]) d_C_allHands_1 rfl (by decide) rfl ?_
  refine g_iconst hz d_C_allHands_2 ki_0 ?_
  refine g_istore_n hz (L' := [(2, .int 0), (1, .int 0), (0, .ref o)]) d_C_allHands_3 rfl (by decide) rfl ?_
  refine g_sub [2, 1, 0] rfl ?_
  exact w_C_allHands_4 hz hq KF o 0 0 ho _ h
def k_M_doorOfMostHands_9 : Nat → Int32 → Int32 → Int32 → Int32 → Int32 → Int32 → Mm → Option (Int32 × Mm)
  | 0, _, _, _, _, _, _, _ => none
  | n + 1, v1, v2, v3, v4, v5, v6, s => if 99 < v6 then
      if v3 = 0 then
        some (v4, s)
      else
        some (v5, s)
    else
      bn (f_M_recall s) fun x5 s4 =>
      bn (f_C_friendAt s4 x5 v1) fun x8 s7 =>
      nm (mU s7 x8 2 v6) fun s9 =>
      bv (f_C_pass s9 2 v2) fun s12 =>
      bn (f_C_allHands s12 2) fun x15 s14 =>
      if x15 ≤ v5 then
        k_M_doorOfMostHands_9 n v1 v2 v3 v4 v5 (v6 + 1) s14
      else
        k_M_doorOfMostHands_9 n v1 v2 v3 v6 x15 (v6 + 1) s14
set_option maxRecDepth 20000 in
theorem w_M_doorOfMostHands_9 {l : Launch} {z : Zt} (hz : ZOk z b_M_doorOfMostHands 8 "PassedOnAndBetter$Mind" 4 89) {r' : Int32} {s' : Mm} (hq : ZR z (some .int) s' (some (.int r'))) : ∀ (n : Nat) (v1 : Int32) (v2 : Int32) (v3 : Int32) (v4 : Int32) (v5 : Int32) (v6 : Int32) (s : Mm), k_M_doorOfMostHands_9 n v1 v2 v3 v4 v5 v6 s = some (r', s') → G l z b_M_doorOfMostHands 8 9 [(0, .ref 173), (1, .int v1), (2, .int v2), (3, .int v3), (4, .int v4), (5, .int v5), (6, .int v6)] [] s := by
  intro n
  induction n with
  | zero => intro v1 v2 v3 v4 v5 v6 s h; unfold k_M_doorOfMostHands_9 at h; cases h
  | succ n ih =>
    intro v1 v2 v3 v4 v5 v6 s h
    unfold k_M_doorOfMostHands_9 at h
    refine g_iload hz 6 d_M_doorOfMostHands_9 rfl ?_
    refine g_bipush hz (v := 99) d_M_doorOfMostHands_11 (by decide) ?_
    refine g_icmp_gt hz (tgt := 67) d_M_doorOfMostHands_13 (by decide) (fun c1 => ?_) (fun c1 => ?_)
    · replace h := (if_pos c1).symm.trans h
      refine g_iload_n hz 3 d_M_doorOfMostHands_67 rfl rfl ?_
      refine g_if_ne hz (tgt := 76) d_M_doorOfMostHands_68 (by decide) (fun c2 => ?_) (fun c2 => ?_)
      · replace h := (if_neg c2).symm.trans h
        refine g_iload hz 5 d_M_doorOfMostHands_76 rfl ?_
        exact g_iret hz (rti h hq) d_M_doorOfMostHands_78
      · replace h := (if_pos c2).symm.trans h
        refine g_iload hz 4 d_M_doorOfMostHands_71 rfl ?_
        refine g_goto hz (tgt := 78) d_M_doorOfMostHands_73 (by decide) ?_
        exact g_iret hz (rti h hq) d_M_doorOfMostHands_78
    · replace h := (if_neg c1).symm.trans h
      refine g_aload_n hz 0 d_M_doorOfMostHands_16 rfl rfl ?_
      refine bn_use h (fun x5 s4 e3 h => ?_)
      have hx5 := rr_M_recall e3
      refine g_callVr hz (c_M_recall l e3) (by decide) rc_M rfl rfl m_M_recall mi_M_recall ms_M_recall q_632 ⟨Nat.le_of_ble_eq_true rfl, Nat.le_of_ble_eq_true rfl⟩ rfl (st := []) rfl (Nat.le_of_ble_eq_true rfl) d_M_doorOfMostHands_17 ?_
      refine g_iload_n hz 1 d_M_doorOfMostHands_20 rfl rfl ?_
      refine bn_use h (fun x8 s7 e6 h => ?_)
      have hx8 := rr_C_friendAt hx5 e6
      refine g_callVr hz (c_C_friendAt l hx5 e6) (iC_lt hx5) (rc_C hx5) rfl rfl m_C_friendAt mi_C_friendAt ms_C_friendAt q_686 ⟨Nat.le_of_ble_eq_true rfl, Nat.le_of_ble_eq_true rfl⟩ rfl (st := []) rfl (Nat.le_of_ble_eq_true rfl) d_M_doorOfMostHands_21 ?_
      refine g_iload hz 6 d_M_doorOfMostHands_24 rfl ?_
      refine pf_F_door hz hx8 q_126 d_M_doorOfMostHands_26 (fun s9 e10 => ?_)
      replace h := nm_use h e10
      refine g_aload_n hz 0 d_M_doorOfMostHands_29 rfl rfl ?_
      refine gf_M_thought hz q_292 d_M_doorOfMostHands_30 ?_
      refine g_iload_n hz 2 d_M_doorOfMostHands_33 rfl rfl ?_
      refine bv_use h (fun s12 e11 h => ?_)
      refine g_callVv hz (c_C_pass l (by decide) e11) (iC_lt (by decide)) (rc_C (by decide)) rfl rfl m_C_pass mi_C_pass ms_C_pass q_651 ⟨Nat.le_of_ble_eq_true rfl, Nat.le_of_ble_eq_true rfl⟩ rfl (st := []) rfl (Nat.le_of_ble_eq_true rfl) d_M_doorOfMostHands_34 ?_
      refine g_aload_n hz 0 d_M_doorOfMostHands_37 rfl rfl ?_
      refine gf_M_thought hz q_292 d_M_doorOfMostHands_38 ?_
      refine bn_use h (fun x15 s14 e13 h => ?_)
      refine g_callVi hz (c_C_allHands l (by decide) e13) (iC_lt (by decide)) (rc_C (by decide)) rfl rfl m_C_allHands mi_C_allHands ms_C_allHands q_734 ⟨Nat.le_of_ble_eq_true rfl, Nat.le_of_ble_eq_true rfl⟩ rfl (st := []) rfl (Nat.le_of_ble_eq_true rfl) d_M_doorOfMostHands_41 ?_
      refine g_istore hz (L' := [(7, .int x15), (0, .ref 173), (1, .int v1), (2, .int v2), (3, .int v3), (4, .int v4), (5, .int v5), (6, .int v6)]) d_M_doorOfMostHands_44 (by decide) rfl ?_
      refine g_iload hz 0 d_M_doorOfMostHands_46 rfl ?_
      refine g_iload hz 6 d_M_doorOfMostHands_48 rfl ?_
      refine g_icmp_le hz (tgt := 61) d_M_doorOfMostHands_50 (by decide) (fun c16 => ?_) (fun c16 => ?_)
      · replace h := (if_pos c16).symm.trans h
        refine g_iinc hz (v := v6 + 1) (L' := [(6, .int (v6 + 1)), (7, .int x15), (0, .ref 173), (1, .int v1), (2, .int v2), (3, .int v3), (4, .int v4), (5, .int v5)]) 7 d_M_doorOfMostHands_61 rfl (congrArg (fun q => v6 + q) ki_1) (by decide) rfl ?_
        refine g_goto hz (tgt := 9) d_M_doorOfMostHands_64 (by decide) ?_
        refine g_sub [2, 3, 4, 5, 6, 7, 0] rfl ?_
        exact ih v1 v2 v3 v4 v5 (v6 + 1) _ h
      · replace h := (if_neg c16).symm.trans h
        refine g_iload hz 0 d_M_doorOfMostHands_53 rfl ?_
        refine g_istore hz (L' := [(5, .int x15), (7, .int x15), (0, .ref 173), (1, .int v1), (2, .int v2), (3, .int v3), (4, .int v4), (6, .int v6)]) d_M_doorOfMostHands_55 (by decide) rfl ?_
        refine g_iload hz 7 d_M_doorOfMostHands_57 rfl ?_
        refine g_istore hz (L' := [(4, .int v6), (5, .int x15), (7, .int x15), (0, .ref 173), (1, .int v1), (2, .int v2), (3, .int v3), (6, .int v6)]) d_M_doorOfMostHands_59 (by decide) rfl ?_
        refine g_iinc hz (v := v6 + 1) (L' := [(6, .int (v6 + 1)), (4, .int v6), (5, .int x15), (7, .int x15), (0, .ref 173), (1, .int v1), (2, .int v2), (3, .int v3)]) 7 d_M_doorOfMostHands_61 rfl (congrArg (fun q => v6 + q) ki_1) (by decide) rfl ?_
        refine g_goto hz (tgt := 9) d_M_doorOfMostHands_64 (by decide) ?_
        refine g_sub [4, 5, 6, 7, 1, 2, 0] rfl ?_
        exact ih v1 v2 v3 v6 x15 (v6 + 1) _ h
def f_M_doorOfMostHands (s : Mm) (a1 : Int32) (a2 : Int32) (a3 : Int32) : Option (Int32 × Mm) :=
  k_M_doorOfMostHands_9 KF a1 a2 a3 1 (-1) 1 s
set_option maxRecDepth 20000 in
theorem c_M_doorOfMostHands (l : Launch) {s : Mm} {a1 : Int32} {a2 : Int32} {a3 : Int32} {r' : Int32} {s' : Mm}  (h : f_M_doorOfMostHands s a1 a2 a3 = some (r', s')) : Cm l y_M_doorOfMostHands b_M_doorOfMostHands 8 (some .int) 4 89 [.ref 173, .int a1, .int a2, .int a3] s s' (some (.int r')) := by
  refine Cm.of (own := "PassedOnAndBetter$Mind") (by decide) rfl (fun ad => Nat.le_of_ble_eq_true rfl) ?_
  intro z hz hq
  show G l z b_M_doorOfMostHands 8 0 [(0, .ref 173), (1, .int a1), (2, .int a2), (3, .int a3)] [] s
  unfold f_M_doorOfMostHands at h
  refine g_iconst hz d_M_doorOfMostHands_0 ki_1 ?_
  refine g_istore hz (L' := [(4, .int 1), (0, .ref 173), (1, .int a1), (2, .int a2), (3, .int a3)]) d_M_doorOfMostHands_1 (by decide) rfl ?_
  refine g_iconst hz d_M_doorOfMostHands_3 ki_m1 ?_
  refine g_istore hz (L' := [(5, .int (-1)), (4, .int 1), (0, .ref 173), (1, .int a1), (2, .int a2), (3, .int a3)]) d_M_doorOfMostHands_4 (by decide) rfl ?_
  refine g_iconst hz d_M_doorOfMostHands_6 ki_1 ?_
  refine g_istore hz (L' := [(6, .int 1), (5, .int (-1)), (4, .int 1), (0, .ref 173), (1, .int a1), (2, .int a2), (3, .int a3)]) d_M_doorOfMostHands_7 (by decide) rfl ?_
  refine g_sub [3, 4, 5, 6, 2, 1, 0] rfl ?_
  exact w_M_doorOfMostHands_9 hz hq KF a1 a2 a3 1 (-1) 1 _ h
def f_X_doorWanted (s : Mm) (a1 : Int32) (a2 : Int32) (a3 : Int32) : Option (Int32 × Mm) :=
  bn (f_X_friendNo s a1) fun x3 s2 =>
  bn (f_X_spanNo s2 a2) fun x6 s5 =>
  bn (f_X_whatNo s5 a3 1) fun x9 s8 =>
  bn (f_X_first s8 x3 x6 x9) fun x12 s11 =>
  if x12 = 0 then
    bn (f_M_doorOfMostHands s11 a1 a2 a3) fun x19 s18 =>
    some (x19, s18)
  else
    bn (f_X_refuse s11 x12) fun x16 s15 =>
    some (x16, s15)
set_option maxRecDepth 20000 in
theorem c_X_doorWanted (l : Launch) {s : Mm} {a1 : Int32} {a2 : Int32} {a3 : Int32} {r' : Int32} {s' : Mm}  (h : f_X_doorWanted s a1 a2 a3 = some (r', s')) : Cm l y_X_doorWanted b_X_doorWanted 5 (some .int) 5 116 [.ref 165, .int a1, .int a2, .int a3] s s' (some (.int r')) := by
  refine Cm.of (own := "PassedOnAndBetter") (by decide) rfl (fun ad => Nat.le_of_ble_eq_true rfl) ?_
  intro z hz hq
  show G l z b_X_doorWanted 5 0 [(0, .ref 165), (1, .int a1), (2, .int a2), (3, .int a3)] [] s
  unfold f_X_doorWanted at h
  refine g_aload_n hz 0 d_X_doorWanted_0 rfl rfl ?_
  refine g_iload_n hz 1 d_X_doorWanted_1 rfl rfl ?_
  refine bn_use h (fun x3 s2 e1 h => ?_)
  refine g_callVi hz (c_X_friendNo l e1) (by decide) rc_X rfl rfl m_X_friendNo mi_X_friendNo ms_X_friendNo q_530 ⟨Nat.le_of_ble_eq_true rfl, Nat.le_of_ble_eq_true rfl⟩ rfl (st := []) rfl (Nat.le_of_ble_eq_true rfl) d_X_doorWanted_2 ?_
  refine g_iload_n hz 2 d_X_doorWanted_5 rfl rfl ?_
  refine bn_use h (fun x6 s5 e4 h => ?_)
  refine g_callSi hz (c_X_spanNo l e4) m_X_spanNo mi_X_spanNo q_625 ⟨Nat.le_of_ble_eq_true rfl, Nat.le_of_ble_eq_true rfl⟩ rfl (st := [.int x3]) rfl (Nat.le_of_ble_eq_true rfl) d_X_doorWanted_6 ?_
  refine g_iload_n hz 3 d_X_doorWanted_9 rfl rfl ?_
  refine g_iconst hz d_X_doorWanted_10 ki_1 ?_
  refine bn_use h (fun x9 s8 e7 h => ?_)
  refine g_callSi hz (c_X_whatNo l e7) m_X_whatNo mi_X_whatNo q_535 ⟨Nat.le_of_ble_eq_true rfl, Nat.le_of_ble_eq_true rfl⟩ rfl (st := [.int x6, .int x3]) rfl (Nat.le_of_ble_eq_true rfl) d_X_doorWanted_11 ?_
  refine bn_use h (fun x12 s11 e10 h => ?_)
  refine g_callSi hz (c_X_first l e10) m_X_first mi_X_first q_538 ⟨Nat.le_of_ble_eq_true rfl, Nat.le_of_ble_eq_true rfl⟩ rfl (st := []) rfl (Nat.le_of_ble_eq_true rfl) d_X_doorWanted_14 ?_
  refine g_istore hz (L' := [(4, .int x12), (0, .ref 165), (1, .int a1), (2, .int a2), (3, .int a3)]) d_X_doorWanted_17 (by decide) rfl ?_
  refine g_iload hz 0 d_X_doorWanted_19 rfl ?_
  refine g_if_ne hz (tgt := 37) d_X_doorWanted_21 (by decide) (fun c13 => ?_) (fun c13 => ?_)
  · replace h := (if_neg c13).symm.trans h
    refine g_aload_n hz 1 d_X_doorWanted_37 rfl rfl ?_
    refine g_iload hz 0 d_X_doorWanted_38 rfl ?_
    refine bn_use h (fun x16 s15 e14 h => ?_)
    refine g_callVi hz (c_X_refuse l e14) (by decide) rc_X rfl rfl m_X_refuse mi_X_refuse ms_X_refuse q_349 ⟨Nat.le_of_ble_eq_true rfl, Nat.le_of_ble_eq_true rfl⟩ rfl (st := []) rfl (Nat.le_of_ble_eq_true rfl) d_X_doorWanted_40 ?_
    exact g_iret hz (rti h hq) d_X_doorWanted_43
  · replace h := (if_pos c13).symm.trans h
    refine g_aload_n hz 1 d_X_doorWanted_24 rfl rfl ?_
    refine gf_X_mind hz q_311 d_X_doorWanted_25 ?_
    refine g_iload_n hz 2 d_X_doorWanted_28 rfl rfl ?_
    refine g_iload_n hz 3 d_X_doorWanted_29 rfl rfl ?_
    refine g_iload_n hz 4 d_X_doorWanted_30 rfl rfl ?_
    refine bn_use h (fun x19 s18 e17 h => ?_)
    refine g_callVi hz (c_M_doorOfMostHands l e17) (by decide) rc_M rfl rfl m_M_doorOfMostHands mi_M_doorOfMostHands ms_M_doorOfMostHands q_730 ⟨Nat.le_of_ble_eq_true rfl, Nat.le_of_ble_eq_true rfl⟩ rfl (st := []) rfl (Nat.le_of_ble_eq_true rfl) d_X_doorWanted_31 ?_
    refine g_goto hz (tgt := 43) d_X_doorWanted_34 (by decide) ?_
    exact g_iret hz (rti h hq) d_X_doorWanted_43
def k_C_passOver_58 : Nat → Nat → Int32 → Int32 → Int32 → Mm → Option Mm
  | 0, _, _, _, _, _ => none
  | n + 1, o, v1, v2, v3, s => if (s o 5) ≤ v3 then
      some s
    else
      if v2 = (-1) then
        some s
      else
        bn (f_C_giftAt s o v3) fun x11 s10 =>
        if (s10 x11 2) = v1 then
          bn (f_C_giftAt s10 o v3) fun x15 s14 =>
          bv (f_G_goTo s14 x15 v2) fun s17 =>
          k_C_passOver_58 n o v1 v2 (v3 + 1) s17
        else
          k_C_passOver_58 n o v1 v2 (v3 + 1) s10
set_option maxRecDepth 20000 in
theorem w_C_passOver_58 {l : Launch} {z : Zt} (hz : ZOk z b_C_passOver 5 "PassedOnAndBetter$Company" 1 22) {s' : Mm} (hq : ZR z none s' none) : ∀ (n : Nat) (o : Nat) (v1 : Int32) (v2 : Int32) (v3 : Int32) (ho : iC o) (s : Mm), k_C_passOver_58 n o v1 v2 v3 s = some s' → G l z b_C_passOver 5 58 [(0, .ref o), (1, .int v1), (2, .int v2), (3, .int v3)] [] s := by
  intro n
  induction n with
  | zero => intro o v1 v2 v3 ho s h; unfold k_C_passOver_58 at h; cases h
  | succ n ih =>
    intro o v1 v2 v3 ho s h
    unfold k_C_passOver_58 at h
    refine g_iload_n hz 3 d_C_passOver_58 rfl rfl ?_
    refine g_aload_n hz 0 d_C_passOver_59 rfl rfl ?_
    refine gf_C_gifts hz ho q_210 d_C_passOver_60 ?_
    refine g_icmp_ge hz (tgt := 98) d_C_passOver_63 (by decide) (fun c7 => ?_) (fun c7 => ?_)
    · replace h := (if_pos c7).symm.trans h
      exact g_vret hz (rtv h hq) d_C_passOver_98
    · replace h := (if_neg c7).symm.trans h
      refine g_iload_n hz 2 d_C_passOver_66 rfl rfl ?_
      refine g_iconst hz d_C_passOver_67 ki_m1 ?_
      refine g_icmp_eq hz (tgt := 98) d_C_passOver_68 (by decide) (fun c8 => ?_) (fun c8 => ?_)
      · replace h := (if_pos c8).symm.trans h
        exact g_vret hz (rtv h hq) d_C_passOver_98
      · replace h := (if_neg c8).symm.trans h
        refine g_aload_n hz 0 d_C_passOver_71 rfl rfl ?_
        refine g_iload_n hz 3 d_C_passOver_72 rfl rfl ?_
        refine bn_use h (fun x11 s10 e9 h => ?_)
        have hx11 := rr_C_giftAt ho e9
        refine g_callVr hz (c_C_giftAt l ho e9) (iC_lt ho) (rc_C ho) rfl rfl m_C_giftAt mi_C_giftAt ms_C_giftAt q_377 ⟨Nat.le_of_ble_eq_true rfl, Nat.le_of_ble_eq_true rfl⟩ rfl (st := []) rfl (Nat.le_of_ble_eq_true rfl) d_C_passOver_73 ?_
        refine gf_G_with hz hx11 q_183 d_C_passOver_76 ?_
        refine g_iload_n hz 1 d_C_passOver_79 rfl rfl ?_
        refine g_icmp_ne hz (tgt := 92) d_C_passOver_80 (by decide) (fun c12 => ?_) (fun c12 => ?_)
        · replace h := (if_neg c12).symm.trans h
          refine g_iinc hz (v := v3 + 1) (L' := [(3, .int (v3 + 1)), (0, .ref o), (1, .int v1), (2, .int v2)]) 3 d_C_passOver_92 rfl (congrArg (fun q => v3 + q) ki_1) (by decide) rfl ?_
          refine g_goto hz (tgt := 58) d_C_passOver_95 (by decide) ?_
          refine g_sub [1, 2, 3, 0] rfl ?_
          exact ih o v1 v2 (v3 + 1) ho _ h
        · replace h := (if_pos c12).symm.trans h
          refine g_aload_n hz 0 d_C_passOver_83 rfl rfl ?_
          refine g_iload_n hz 3 d_C_passOver_84 rfl rfl ?_
          refine bn_use h (fun x15 s14 e13 h => ?_)
          have hx15 := rr_C_giftAt ho e13
          refine g_callVr hz (c_C_giftAt l ho e13) (iC_lt ho) (rc_C ho) rfl rfl m_C_giftAt mi_C_giftAt ms_C_giftAt q_377 ⟨Nat.le_of_ble_eq_true rfl, Nat.le_of_ble_eq_true rfl⟩ rfl (st := []) rfl (Nat.le_of_ble_eq_true rfl) d_C_passOver_85 ?_
          refine g_iload_n hz 2 d_C_passOver_88 rfl rfl ?_
          refine bv_use h (fun s17 e16 h => ?_)
          refine g_callVv hz (c_G_goTo l hx15 e16) (iG_lt hx15) (rc_G hx15) rfl rfl m_G_goTo mi_G_goTo ms_G_goTo q_750 ⟨Nat.le_of_ble_eq_true rfl, Nat.le_of_ble_eq_true rfl⟩ rfl (st := []) rfl (Nat.le_of_ble_eq_true rfl) d_C_passOver_89 ?_
          refine g_iinc hz (v := v3 + 1) (L' := [(3, .int (v3 + 1)), (0, .ref o), (1, .int v1), (2, .int v2)]) 3 d_C_passOver_92 rfl (congrArg (fun q => v3 + q) ki_1) (by decide) rfl ?_
          refine g_goto hz (tgt := 58) d_C_passOver_95 (by decide) ?_
          refine g_sub [1, 2, 3, 0] rfl ?_
          exact ih o v1 v2 (v3 + 1) ho _ h
def k_C_passOver_11 : Nat → Nat → Int32 → Int32 → Int32 → Mm → Option Mm
  | 0, _, _, _, _, _ => none
  | n + 1, o, v1, v2, v3, s => if (s o 4) ≤ v3 then
      k_C_passOver_58 KF o v1 v2 0 s
    else
      bn (f_C_friendAt s o v3) fun x20 s19 =>
      if (s19 x20 3) = v1 then
        if v2 = v3 then
          nm (mU s19 x20 3 (-1)) fun s25 =>
          k_C_passOver_11 n o v1 v2 (v3 + 1) s25
        else
          nm (mU s19 x20 3 v2) fun s23 =>
          k_C_passOver_11 n o v1 v2 (v3 + 1) s23
      else
        k_C_passOver_11 n o v1 v2 (v3 + 1) s19
set_option maxRecDepth 20000 in
theorem w_C_passOver_11 {l : Launch} {z : Zt} (hz : ZOk z b_C_passOver 5 "PassedOnAndBetter$Company" 1 22) {s' : Mm} (hq : ZR z none s' none) : ∀ (n : Nat) (o : Nat) (v1 : Int32) (v2 : Int32) (v3 : Int32) (ho : iC o) (s : Mm), k_C_passOver_11 n o v1 v2 v3 s = some s' → G l z b_C_passOver 5 11 [(0, .ref o), (1, .int v1), (2, .int v2), (3, .int v3)] [] s := by
  intro n
  induction n with
  | zero => intro o v1 v2 v3 ho s h; unfold k_C_passOver_11 at h; cases h
  | succ n ih =>
    intro o v1 v2 v3 ho s h
    unfold k_C_passOver_11 at h
    refine g_iload_n hz 3 d_C_passOver_11 rfl rfl ?_
    refine g_aload_n hz 0 d_C_passOver_12 rfl rfl ?_
    refine gf_C_friends hz ho q_207 d_C_passOver_13 ?_
    refine g_icmp_ge hz (tgt := 56) d_C_passOver_16 (by decide) (fun c6 => ?_) (fun c6 => ?_)
    · replace h := (if_pos c6).symm.trans h
      refine g_iconst hz d_C_passOver_56 ki_0 ?_
      refine g_istore_n hz (L' := [(3, .int 0), (0, .ref o), (1, .int v1), (2, .int v2)]) d_C_passOver_57 rfl (by decide) rfl ?_
      refine g_sub [1, 2, 3, 0] rfl ?_
      exact w_C_passOver_58 hz hq KF o v1 v2 0 ho _ h
    · replace h := (if_neg c6).symm.trans h
      refine g_aload_n hz 0 d_C_passOver_19 rfl rfl ?_
      refine g_iload_n hz 3 d_C_passOver_20 rfl rfl ?_
      refine bn_use h (fun x20 s19 e18 h => ?_)
      have hx20 := rr_C_friendAt ho e18
      refine g_callVr hz (c_C_friendAt l ho e18) (iC_lt ho) (rc_C ho) rfl rfl m_C_friendAt mi_C_friendAt ms_C_friendAt q_369 ⟨Nat.le_of_ble_eq_true rfl, Nat.le_of_ble_eq_true rfl⟩ rfl (st := []) rfl (Nat.le_of_ble_eq_true rfl) d_C_passOver_21 ?_
      refine g_astore hz (L' := [(4, .ref x20), (0, .ref o), (1, .int v1), (2, .int v2), (3, .int v3)]) d_C_passOver_24 (by decide) rfl ?_
      refine g_aload hz 0 d_C_passOver_26 rfl ?_
      refine gf_F_next hz hx20 q_130 d_C_passOver_28 ?_
      refine g_iload_n hz 2 d_C_passOver_31 rfl rfl ?_
      refine g_icmp_ne hz (tgt := 50) d_C_passOver_32 (by decide) (fun c21 => ?_) (fun c21 => ?_)
      · replace h := (if_neg c21).symm.trans h
        refine g_iinc hz (v := v3 + 1) (L' := [(3, .int (v3 + 1)), (4, .ref x20), (0, .ref o), (1, .int v1), (2, .int v2)]) 4 d_C_passOver_50 rfl (congrArg (fun q => v3 + q) ki_1) (by decide) rfl ?_
        refine g_goto hz (tgt := 11) d_C_passOver_53 (by decide) ?_
        refine g_sub [2, 3, 4, 0] rfl ?_
        exact ih o v1 v2 (v3 + 1) ho _ h
      · replace h := (if_pos c21).symm.trans h
        refine g_aload hz 0 d_C_passOver_35 rfl ?_
        refine g_iload_n hz 3 d_C_passOver_37 rfl rfl ?_
        refine g_iload_n hz 4 d_C_passOver_38 rfl rfl ?_
        refine g_icmp_ne hz (tgt := 46) d_C_passOver_39 (by decide) (fun c22 => ?_) (fun c22 => ?_)
        · replace h := (if_neg c22).symm.trans h
          refine g_iload_n hz 3 d_C_passOver_46 rfl rfl ?_
          refine pf_F_next hz hx20 q_130 d_C_passOver_47 (fun s23 e24 => ?_)
          replace h := nm_use h e24
          refine g_iinc hz (v := v3 + 1) (L' := [(3, .int (v3 + 1)), (4, .ref x20), (0, .ref o), (1, .int v1), (2, .int v2)]) 4 d_C_passOver_50 rfl (congrArg (fun q => v3 + q) ki_1) (by decide) rfl ?_
          refine g_goto hz (tgt := 11) d_C_passOver_53 (by decide) ?_
          refine g_sub [2, 3, 4, 0] rfl ?_
          exact ih o v1 v2 (v3 + 1) ho _ h
        · replace h := (if_pos c22).symm.trans h
          refine g_iconst hz d_C_passOver_42 ki_m1 ?_
          refine g_goto hz (tgt := 47) d_C_passOver_43 (by decide) ?_
          refine pf_F_next hz hx20 q_130 d_C_passOver_47 (fun s25 e26 => ?_)
          replace h := nm_use h e26
          refine g_iinc hz (v := v3 + 1) (L' := [(3, .int (v3 + 1)), (4, .ref x20), (0, .ref o), (1, .int v1), (2, .int v2)]) 4 d_C_passOver_50 rfl (congrArg (fun q => v3 + q) ki_1) (by decide) rfl ?_
          refine g_goto hz (tgt := 11) d_C_passOver_53 (by decide) ?_
          refine g_sub [2, 3, 4, 0] rfl ?_
          exact ih o v1 v2 (v3 + 1) ho _ h
def f_C_passOver (s : Mm) (o : Nat) (a1 : Int32) : Option Mm :=
  bn (f_C_friendAt s o a1) fun x3 s2 =>
  nm (s2 x3 3) fun x4 =>
  k_C_passOver_11 KF o a1 x4 0 s2
set_option maxRecDepth 20000 in
theorem c_C_passOver (l : Launch) {s : Mm} {o : Nat} {a1 : Int32} {s' : Mm} (ho : iC o) (h : f_C_passOver s o a1 = some s') : Cm l y_C_passOver b_C_passOver 5 none 1 22 [.ref o, .int a1] s s' none := by
  refine Cm.of (own := "PassedOnAndBetter$Company") (by decide) rfl (fun ad => Nat.le_of_ble_eq_true rfl) ?_
  intro z hz hq
  show G l z b_C_passOver 5 0 [(0, .ref o), (1, .int a1)] [] s
  unfold f_C_passOver at h
  refine g_aload_n hz 0 d_C_passOver_0 rfl rfl ?_
  refine g_iload_n hz 1 d_C_passOver_1 rfl rfl ?_
  refine bn_use h (fun x3 s2 e1 h => ?_)
  have hx3 := rr_C_friendAt ho e1
  refine g_callVr hz (c_C_friendAt l ho e1) (iC_lt ho) (rc_C ho) rfl rfl m_C_friendAt mi_C_friendAt ms_C_friendAt q_369 ⟨Nat.le_of_ble_eq_true rfl, Nat.le_of_ble_eq_true rfl⟩ rfl (st := []) rfl (Nat.le_of_ble_eq_true rfl) d_C_passOver_2 ?_
  refine gf_F_next hz hx3 q_130 d_C_passOver_5 ?_
  refine g_nmi (fun x4 e5 => ?_)
  replace h := nm_use h e5
  refine g_istore_n hz (L' := [(2, .int x4), (0, .ref o), (1, .int a1)]) d_C_passOver_8 rfl (by decide) rfl ?_
  refine g_iconst hz d_C_passOver_9 ki_0 ?_
  refine g_istore_n hz (L' := [(3, .int 0), (2, .int x4), (0, .ref o), (1, .int a1)]) d_C_passOver_10 rfl (by decide) rfl ?_
  refine g_sub [2, 3, 1, 0] rfl ?_
  exact w_C_passOver_11 hz hq KF o a1 x4 0 ho _ h
def k_M_bestWithout_8 : Nat → Int32 → Int32 → Int32 → Int32 → Mm → Option (Int32 × Mm)
  | 0, _, _, _, _, _ => none
  | n + 1, v1, v2, v3, v4, s => if (s 0 4) ≤ v4 then
      some (v2, s)
    else
      if (s 0 4) < 2 then
        some (v2, s)
      else
        bn (f_M_recall s) fun x5 s4 =>
        bv (f_C_passOver s4 x5 v4) fun s7 =>
        bv (f_C_pass s7 2 v1) fun s9 =>
        bn (f_C_allWorth s9 2) fun x12 s11 =>
        if x12 ≤ v3 then
          k_M_bestWithout_8 n v1 v2 v3 (v4 + 1) s11
        else
          k_M_bestWithout_8 n v1 v4 x12 (v4 + 1) s11
set_option maxRecDepth 20000 in
theorem w_M_bestWithout_8 {l : Launch} {z : Zt} (hz : ZOk z b_M_bestWithout 6 "PassedOnAndBetter$Mind" 4 89) {r' : Int32} {s' : Mm} (hq : ZR z (some .int) s' (some (.int r'))) : ∀ (n : Nat) (v1 : Int32) (v2 : Int32) (v3 : Int32) (v4 : Int32) (s : Mm), k_M_bestWithout_8 n v1 v2 v3 v4 s = some (r', s') → G l z b_M_bestWithout 6 8 [(0, .ref 173), (1, .int v1), (2, .int v2), (3, .int v3), (4, .int v4)] [] s := by
  intro n
  induction n with
  | zero => intro v1 v2 v3 v4 s h; unfold k_M_bestWithout_8 at h; cases h
  | succ n ih =>
    intro v1 v2 v3 v4 s h
    unfold k_M_bestWithout_8 at h
    refine g_iload hz 4 d_M_bestWithout_8 rfl ?_
    refine g_aload_n hz 0 d_M_bestWithout_10 rfl rfl ?_
    refine gf_M_now hz q_290 d_M_bestWithout_11 ?_
    refine gf_C_friends hz (by decide) q_208 d_M_bestWithout_14 ?_
    refine g_icmp_ge hz (tgt := 75) d_M_bestWithout_17 (by decide) (fun c1 => ?_) (fun c1 => ?_)
    · replace h := (if_pos c1).symm.trans h
      refine g_iload_n hz 2 d_M_bestWithout_75 rfl rfl ?_
      exact g_iret hz (rti h hq) d_M_bestWithout_76
    · replace h := (if_neg c1).symm.trans h
      refine g_aload_n hz 0 d_M_bestWithout_20 rfl rfl ?_
      refine gf_M_now hz q_290 d_M_bestWithout_21 ?_
      refine gf_C_friends hz (by decide) q_208 d_M_bestWithout_24 ?_
      refine g_iconst hz d_M_bestWithout_27 ki_2 ?_
      refine g_icmp_lt hz (tgt := 75) d_M_bestWithout_28 (by decide) (fun c2 => ?_) (fun c2 => ?_)
      · replace h := (if_pos c2).symm.trans h
        refine g_iload_n hz 2 d_M_bestWithout_75 rfl rfl ?_
        exact g_iret hz (rti h hq) d_M_bestWithout_76
      · replace h := (if_neg c2).symm.trans h
        refine g_aload_n hz 0 d_M_bestWithout_31 rfl rfl ?_
        refine bn_use h (fun x5 s4 e3 h => ?_)
        have hx5 := rr_M_recall e3
        refine g_callVr hz (c_M_recall l e3) (by decide) rc_M rfl rfl m_M_recall mi_M_recall ms_M_recall q_632 ⟨Nat.le_of_ble_eq_true rfl, Nat.le_of_ble_eq_true rfl⟩ rfl (st := []) rfl (Nat.le_of_ble_eq_true rfl) d_M_bestWithout_32 ?_
        refine g_iload hz 4 d_M_bestWithout_35 rfl ?_
        refine bv_use h (fun s7 e6 h => ?_)
        refine g_callVv hz (c_C_passOver l hx5 e6) (iC_lt hx5) (rc_C hx5) rfl rfl m_C_passOver mi_C_passOver ms_C_passOver q_746 ⟨Nat.le_of_ble_eq_true rfl, Nat.le_of_ble_eq_true rfl⟩ rfl (st := []) rfl (Nat.le_of_ble_eq_true rfl) d_M_bestWithout_37 ?_
        refine g_aload_n hz 0 d_M_bestWithout_40 rfl rfl ?_
        refine gf_M_thought hz q_292 d_M_bestWithout_41 ?_
        refine g_iload_n hz 1 d_M_bestWithout_44 rfl rfl ?_
        refine bv_use h (fun s9 e8 h => ?_)
        refine g_callVv hz (c_C_pass l (by decide) e8) (iC_lt (by decide)) (rc_C (by decide)) rfl rfl m_C_pass mi_C_pass ms_C_pass q_651 ⟨Nat.le_of_ble_eq_true rfl, Nat.le_of_ble_eq_true rfl⟩ rfl (st := []) rfl (Nat.le_of_ble_eq_true rfl) d_M_bestWithout_45 ?_
        refine g_aload_n hz 0 d_M_bestWithout_48 rfl rfl ?_
        refine gf_M_thought hz q_292 d_M_bestWithout_49 ?_
        refine bn_use h (fun x12 s11 e10 h => ?_)
        refine g_callVi hz (c_C_allWorth l (by decide) e10) (iC_lt (by decide)) (rc_C (by decide)) rfl rfl m_C_allWorth mi_C_allWorth ms_C_allWorth q_652 ⟨Nat.le_of_ble_eq_true rfl, Nat.le_of_ble_eq_true rfl⟩ rfl (st := []) rfl (Nat.le_of_ble_eq_true rfl) d_M_bestWithout_52 ?_
        refine g_istore hz (L' := [(5, .int x12), (0, .ref 173), (1, .int v1), (2, .int v2), (3, .int v3), (4, .int v4)]) d_M_bestWithout_55 (by decide) rfl ?_
        refine g_iload hz 0 d_M_bestWithout_57 rfl ?_
        refine g_iload_n hz 4 d_M_bestWithout_59 rfl rfl ?_
        refine g_icmp_le hz (tgt := 69) d_M_bestWithout_60 (by decide) (fun c13 => ?_) (fun c13 => ?_)
        · replace h := (if_pos c13).symm.trans h
          refine g_iinc hz (v := v4 + 1) (L' := [(4, .int (v4 + 1)), (5, .int x12), (0, .ref 173), (1, .int v1), (2, .int v2), (3, .int v3)]) 5 d_M_bestWithout_69 rfl (congrArg (fun q => v4 + q) ki_1) (by decide) rfl ?_
          refine g_goto hz (tgt := 8) d_M_bestWithout_72 (by decide) ?_
          refine g_sub [2, 3, 4, 5, 0] rfl ?_
          exact ih v1 v2 v3 (v4 + 1) _ h
        · replace h := (if_neg c13).symm.trans h
          refine g_iload hz 0 d_M_bestWithout_63 rfl ?_
          refine g_istore_n hz (L' := [(3, .int x12), (5, .int x12), (0, .ref 173), (1, .int v1), (2, .int v2), (4, .int v4)]) d_M_bestWithout_65 rfl (by decide) rfl ?_
          refine g_iload hz 5 d_M_bestWithout_66 rfl ?_
          refine g_istore_n hz (L' := [(2, .int v4), (3, .int x12), (5, .int x12), (0, .ref 173), (1, .int v1), (4, .int v4)]) d_M_bestWithout_68 rfl (by decide) rfl ?_
          refine g_iinc hz (v := v4 + 1) (L' := [(4, .int (v4 + 1)), (2, .int v4), (3, .int x12), (5, .int x12), (0, .ref 173), (1, .int v1)]) 5 d_M_bestWithout_69 rfl (congrArg (fun q => v4 + q) ki_1) (by decide) rfl ?_
          refine g_goto hz (tgt := 8) d_M_bestWithout_72 (by decide) ?_
          refine g_sub [4, 5, 1, 2, 0] rfl ?_
          exact ih v1 v4 x12 (v4 + 1) _ h
def f_M_bestWithout (s : Mm) (a1 : Int32) : Option (Int32 × Mm) :=
  k_M_bestWithout_8 KF a1 (-9) (-1) 0 s
set_option maxRecDepth 20000 in
theorem c_M_bestWithout (l : Launch) {s : Mm} {a1 : Int32} {r' : Int32} {s' : Mm}  (h : f_M_bestWithout s a1 = some (r', s')) : Cm l y_M_bestWithout b_M_bestWithout 6 (some .int) 4 89 [.ref 173, .int a1] s s' (some (.int r')) := by
  refine Cm.of (own := "PassedOnAndBetter$Mind") (by decide) rfl (fun ad => Nat.le_of_ble_eq_true rfl) ?_
  intro z hz hq
  show G l z b_M_bestWithout 6 0 [(0, .ref 173), (1, .int a1)] [] s
  unfold f_M_bestWithout at h
  refine g_bipush hz (v := (-9)) d_M_bestWithout_0 (by decide) ?_
  refine g_istore_n hz (L' := [(2, .int (-9)), (0, .ref 173), (1, .int a1)]) d_M_bestWithout_2 rfl (by decide) rfl ?_
  refine g_iconst hz d_M_bestWithout_3 ki_m1 ?_
  refine g_istore_n hz (L' := [(3, .int (-1)), (2, .int (-9)), (0, .ref 173), (1, .int a1)]) d_M_bestWithout_4 rfl (by decide) rfl ?_
  refine g_iconst hz d_M_bestWithout_5 ki_0 ?_
  refine g_istore hz (L' := [(4, .int 0), (3, .int (-1)), (2, .int (-9)), (0, .ref 173), (1, .int a1)]) d_M_bestWithout_6 (by decide) rfl ?_
  refine g_sub [3, 4, 2, 1, 0] rfl ?_
  exact w_M_bestWithout_8 hz hq KF a1 (-9) (-1) 0 _ h
def f_X_passedOver (s : Mm) (a1 : Int32) : Option (Int32 × Mm) :=
  bn (f_X_spanNo s a1) fun x3 s2 =>
  if x3 = 0 then
    bn (f_M_bestWithout s2 a1) fun x10 s9 =>
    some (x10, s9)
  else
    bn (f_X_refuse s2 x3) fun x7 s6 =>
    some (x7, s6)
set_option maxRecDepth 20000 in
theorem c_X_passedOver (l : Launch) {s : Mm} {a1 : Int32} {r' : Int32} {s' : Mm}  (h : f_X_passedOver s a1 = some (r', s')) : Cm l y_X_passedOver b_X_passedOver 3 (some .int) 5 114 [.ref 165, .int a1] s s' (some (.int r')) := by
  refine Cm.of (own := "PassedOnAndBetter") (by decide) rfl (fun ad => Nat.le_of_ble_eq_true rfl) ?_
  intro z hz hq
  show G l z b_X_passedOver 3 0 [(0, .ref 165), (1, .int a1)] [] s
  unfold f_X_passedOver at h
  refine g_iload_n hz 1 d_X_passedOver_0 rfl rfl ?_
  refine bn_use h (fun x3 s2 e1 h => ?_)
  refine g_callSi hz (c_X_spanNo l e1) m_X_spanNo mi_X_spanNo q_625 ⟨Nat.le_of_ble_eq_true rfl, Nat.le_of_ble_eq_true rfl⟩ rfl (st := []) rfl (Nat.le_of_ble_eq_true rfl) d_X_passedOver_1 ?_
  refine g_istore_n hz (L' := [(2, .int x3), (0, .ref 165), (1, .int a1)]) d_X_passedOver_4 rfl (by decide) rfl ?_
  refine g_iload_n hz 0 d_X_passedOver_5 rfl rfl ?_
  refine g_if_ne hz (tgt := 20) d_X_passedOver_6 (by decide) (fun c4 => ?_) (fun c4 => ?_)
  · replace h := (if_neg c4).symm.trans h
    refine g_aload_n hz 1 d_X_passedOver_20 rfl rfl ?_
    refine g_iload_n hz 0 d_X_passedOver_21 rfl rfl ?_
    refine bn_use h (fun x7 s6 e5 h => ?_)
    refine g_callVi hz (c_X_refuse l e5) (by decide) rc_X rfl rfl m_X_refuse mi_X_refuse ms_X_refuse q_349 ⟨Nat.le_of_ble_eq_true rfl, Nat.le_of_ble_eq_true rfl⟩ rfl (st := []) rfl (Nat.le_of_ble_eq_true rfl) d_X_passedOver_22 ?_
    exact g_iret hz (rti h hq) d_X_passedOver_25
  · replace h := (if_pos c4).symm.trans h
    refine g_aload_n hz 1 d_X_passedOver_9 rfl rfl ?_
    refine gf_X_mind hz q_311 d_X_passedOver_10 ?_
    refine g_iload_n hz 2 d_X_passedOver_13 rfl rfl ?_
    refine bn_use h (fun x10 s9 e8 h => ?_)
    refine g_callVi hz (c_M_bestWithout l e8) (by decide) rc_M rfl rfl m_M_bestWithout mi_M_bestWithout ms_M_bestWithout q_742 ⟨Nat.le_of_ble_eq_true rfl, Nat.le_of_ble_eq_true rfl⟩ rfl (st := []) rfl (Nat.le_of_ble_eq_true rfl) d_X_passedOver_14 ?_
    refine g_goto hz (tgt := 25) d_X_passedOver_17 (by decide) ?_
    exact g_iret hz (rti h hq) d_X_passedOver_25
def k_C_chainFrom_57 (v2 : Int32) (v4 : Int32) (v5 : Int32) (s : Mm) : Option (Int32 × Mm) :=
  if v2 = 0 then
    some (v4, s)
  else
    if v5 = (-1) then
      some (0, s)
    else
      some (1, s)
set_option maxRecDepth 20000 in
theorem w_C_chainFrom_57 {l : Launch} {z : Zt} (hz : ZOk z b_C_chainFrom 6 "PassedOnAndBetter$Company" 1 22) {r' : Int32} {s' : Mm} (hq : ZR z (some .int) s' (some (.int r'))) (v2 : Int32) (v4 : Int32) (v5 : Int32) (s : Mm) (h : k_C_chainFrom_57 v2 v4 v5 s = some (r', s')) : G l z b_C_chainFrom 6 57 [(2, .int v2), (4, .int v4), (5, .int v5)] [] s := by
  unfold k_C_chainFrom_57 at h
  refine g_iload_n hz 0 d_C_chainFrom_57 rfl rfl ?_
  refine g_if_ne hz (tgt := 64) d_C_chainFrom_58 (by decide) (fun c2 => ?_) (fun c2 => ?_)
  · replace h := (if_neg c2).symm.trans h
    refine g_iload hz 2 d_C_chainFrom_64 rfl ?_
    refine g_iconst hz d_C_chainFrom_66 ki_m1 ?_
    refine g_icmp_ne hz (tgt := 74) d_C_chainFrom_67 (by decide) (fun c3 => ?_) (fun c3 => ?_)
    · replace h := (if_neg c3).symm.trans h
      refine g_iconst hz d_C_chainFrom_74 ki_1 ?_
      exact g_iret hz (rti h hq) d_C_chainFrom_75
    · replace h := (if_pos c3).symm.trans h
      refine g_iconst hz d_C_chainFrom_70 ki_0 ?_
      refine g_goto hz (tgt := 75) d_C_chainFrom_71 (by decide) ?_
      exact g_iret hz (rti h hq) d_C_chainFrom_75
  · replace h := (if_pos c2).symm.trans h
    refine g_iload hz 1 d_C_chainFrom_61 rfl ?_
    exact g_iret hz (rti h hq) d_C_chainFrom_63
def k_C_chainFrom_8 : Nat → Nat → Int32 → Int32 → Int32 → Int32 → Mm → Option (Int32 × Mm)
  | 0, _, _, _, _, _, _ => none
  | n + 1, o, v2, v3, v4, v5, s => if 6 ≤ v4 then
      k_C_chainFrom_57 v2 v4 v5 s
    else
      bn (f_C_hasFriend s o v5) fun x6 s5 =>
      if x6 = 0 then
        k_C_chainFrom_57 v2 v4 v5 s5
      else
        if ((v3 >>> (v5 &&& 31)) &&& 1) = 0 then
          nm (v3 ||| (1 <<< (v5 &&& 31))) fun x9 =>
          bn (f_C_friendAt s5 o v5) fun x13 s12 =>
          nm (s12 x13 3) fun x14 =>
          k_C_chainFrom_8 n o v2 x9 (v4 + 1) x14 s12
        else
          k_C_chainFrom_57 v2 v4 v5 s5
set_option maxRecDepth 20000 in
theorem w_C_chainFrom_8 {l : Launch} {z : Zt} (hz : ZOk z b_C_chainFrom 6 "PassedOnAndBetter$Company" 1 22) {r' : Int32} {s' : Mm} (hq : ZR z (some .int) s' (some (.int r'))) : ∀ (n : Nat) (o : Nat) (v2 : Int32) (v3 : Int32) (v4 : Int32) (v5 : Int32) (ho : iC o) (s : Mm), k_C_chainFrom_8 n o v2 v3 v4 v5 s = some (r', s') → G l z b_C_chainFrom 6 8 [(0, .ref o), (2, .int v2), (3, .int v3), (4, .int v4), (5, .int v5)] [] s := by
  intro n
  induction n with
  | zero => intro o v2 v3 v4 v5 ho s h; unfold k_C_chainFrom_8 at h; cases h
  | succ n ih =>
    intro o v2 v3 v4 v5 ho s h
    unfold k_C_chainFrom_8 at h
    refine g_iload hz 3 d_C_chainFrom_8 rfl ?_
    refine g_bipush hz (v := 6) d_C_chainFrom_10 (by decide) ?_
    refine g_icmp_ge hz (tgt := 57) d_C_chainFrom_12 (by decide) (fun c1 => ?_) (fun c1 => ?_)
    · replace h := (if_pos c1).symm.trans h
      refine g_sub [1, 3, 4] rfl ?_
      exact w_C_chainFrom_57 hz hq v2 v4 v5 _ h
    · replace h := (if_neg c1).symm.trans h
      refine g_aload_n hz 0 d_C_chainFrom_15 rfl rfl ?_
      refine g_iload hz 4 d_C_chainFrom_16 rfl ?_
      refine bn_use h (fun x6 s5 e4 h => ?_)
      refine g_callVi hz (c_C_hasFriend l ho e4) (iC_lt ho) (rc_C ho) rfl rfl m_C_hasFriend mi_C_hasFriend ms_C_hasFriend q_759 ⟨Nat.le_of_ble_eq_true rfl, Nat.le_of_ble_eq_true rfl⟩ rfl (st := []) rfl (Nat.le_of_ble_eq_true rfl) d_C_chainFrom_18 ?_
      refine g_if_eq hz (tgt := 57) d_C_chainFrom_21 (by decide) (fun c7 => ?_) (fun c7 => ?_)
      · replace h := (if_pos c7).symm.trans h
        refine g_sub [1, 3, 4] rfl ?_
        exact w_C_chainFrom_57 hz hq v2 v4 v5 _ h
      · replace h := (if_neg c7).symm.trans h
        refine g_iload_n hz 2 d_C_chainFrom_24 rfl rfl ?_
        refine g_iload hz 4 d_C_chainFrom_25 rfl ?_
        refine g_ishr hz d_C_chainFrom_27 ?_
        refine g_iconst hz d_C_chainFrom_28 ki_1 ?_
        refine g_iand hz d_C_chainFrom_29 ?_
        refine g_if_ne hz (tgt := 57) d_C_chainFrom_30 (by decide) (fun c8 => ?_) (fun c8 => ?_)
        · replace h := (if_neg c8).symm.trans h
          refine g_sub [1, 3, 4] rfl ?_
          exact w_C_chainFrom_57 hz hq v2 v4 v5 _ h
        · replace h := (if_pos c8).symm.trans h
          refine g_iload_n hz 2 d_C_chainFrom_33 rfl rfl ?_
          refine g_iconst hz d_C_chainFrom_34 ki_1 ?_
          refine g_iload hz 4 d_C_chainFrom_35 rfl ?_
          refine g_ishl hz d_C_chainFrom_37 ?_
          refine g_ior hz d_C_chainFrom_38 ?_
          refine g_nmi (fun x9 e10 => ?_)
          replace h := nm_use h e10
          refine g_istore_n hz (L' := [(3, .int x9), (0, .ref o), (2, .int v2), (4, .int v4), (5, .int v5)]) d_C_chainFrom_39 rfl (by decide) rfl ?_
          refine g_iinc hz (v := v4 + 1) (L' := [(4, .int (v4 + 1)), (3, .int x9), (0, .ref o), (2, .int v2), (5, .int v5)]) 3 d_C_chainFrom_40 rfl (congrArg (fun q => v4 + q) ki_1) (by decide) rfl ?_
          refine g_aload_n hz 2 d_C_chainFrom_43 rfl rfl ?_
          refine g_iload hz 4 d_C_chainFrom_44 rfl ?_
          refine bn_use h (fun x13 s12 e11 h => ?_)
          have hx13 := rr_C_friendAt ho e11
          refine g_callVr hz (c_C_friendAt l ho e11) (iC_lt ho) (rc_C ho) rfl rfl m_C_friendAt mi_C_friendAt ms_C_friendAt q_369 ⟨Nat.le_of_ble_eq_true rfl, Nat.le_of_ble_eq_true rfl⟩ rfl (st := []) rfl (Nat.le_of_ble_eq_true rfl) d_C_chainFrom_46 ?_
          refine gf_F_next hz hx13 q_130 d_C_chainFrom_49 ?_
          refine g_nmi (fun x14 e15 => ?_)
          replace h := nm_use h e15
          refine g_istore hz (L' := [(5, .int x14), (4, .int (v4 + 1)), (3, .int x9), (0, .ref o), (2, .int v2)]) d_C_chainFrom_52 (by decide) rfl ?_
          refine g_goto hz (tgt := 8) d_C_chainFrom_54 (by decide) ?_
          refine g_sub [3, 4, 2, 1, 0] rfl ?_
          exact ih o v2 x9 (v4 + 1) x14 ho _ h
def f_C_chainFrom (s : Mm) (o : Nat) (a1 : Int32) (a2 : Int32) : Option (Int32 × Mm) :=
  k_C_chainFrom_8 KF o a2 0 0 a1 s
set_option maxRecDepth 20000 in
theorem c_C_chainFrom (l : Launch) {s : Mm} {o : Nat} {a1 : Int32} {a2 : Int32} {r' : Int32} {s' : Mm} (ho : iC o) (h : f_C_chainFrom s o a1 a2 = some (r', s')) : Cm l y_C_chainFrom b_C_chainFrom 6 (some .int) 1 22 [.ref o, .int a1, .int a2] s s' (some (.int r')) := by
  refine Cm.of (own := "PassedOnAndBetter$Company") (by decide) rfl (fun ad => Nat.le_of_ble_eq_true rfl) ?_
  intro z hz hq
  show G l z b_C_chainFrom 6 0 [(0, .ref o), (1, .int a1), (2, .int a2)] [] s
  unfold f_C_chainFrom at h
  refine g_iconst hz d_C_chainFrom_0 ki_0 ?_
  refine g_istore_n hz (L' := [(3, .int 0), (0, .ref o), (1, .int a1), (2, .int a2)]) d_C_chainFrom_1 rfl (by decide) rfl ?_
  refine g_iconst hz d_C_chainFrom_2 ki_0 ?_
  refine g_istore hz (L' := [(4, .int 0), (3, .int 0), (0, .ref o), (1, .int a1), (2, .int a2)]) d_C_chainFrom_3 (by decide) rfl ?_
  refine g_iload_n hz 3 d_C_chainFrom_5 rfl rfl ?_
  refine g_istore hz (L' := [(5, .int a1), (4, .int 0), (3, .int 0), (0, .ref o), (1, .int a1), (2, .int a2)]) d_C_chainFrom_6 (by decide) rfl ?_
  refine g_sub [3, 5, 2, 1, 0] rfl ?_
  exact w_C_chainFrom_8 hz hq KF o a2 0 0 a1 ho _ h
def f_X_chain (s : Mm) (a1 : Int32) (a2 : Int32) : Option (Int32 × Mm) :=
  bn (f_X_friendNo s a1) fun x3 s2 =>
  bn (f_X_whatNo s2 a2 1) fun x6 s5 =>
  bn (f_X_first s5 x3 x6 0) fun x9 s8 =>
  if x9 = 0 then
    bn (f_C_chainFrom s8 0 a1 a2) fun x16 s15 =>
    some (x16, s15)
  else
    bn (f_X_refuse s8 x9) fun x13 s12 =>
    some (x13, s12)
set_option maxRecDepth 20000 in
theorem c_X_chain (l : Launch) {s : Mm} {a1 : Int32} {a2 : Int32} {r' : Int32} {s' : Mm}  (h : f_X_chain s a1 a2 = some (r', s')) : Cm l y_X_chain b_X_chain 4 (some .int) 2 47 [.ref 165, .int a1, .int a2] s s' (some (.int r')) := by
  refine Cm.of (own := "PassedOnAndBetter") (by decide) rfl (fun ad => Nat.le_of_ble_eq_true rfl) ?_
  intro z hz hq
  show G l z b_X_chain 4 0 [(0, .ref 165), (1, .int a1), (2, .int a2)] [] s
  unfold f_X_chain at h
  refine g_aload_n hz 0 d_X_chain_0 rfl rfl ?_
  refine g_iload_n hz 1 d_X_chain_1 rfl rfl ?_
  refine bn_use h (fun x3 s2 e1 h => ?_)
  refine g_callVi hz (c_X_friendNo l e1) (by decide) rc_X rfl rfl m_X_friendNo mi_X_friendNo ms_X_friendNo q_530 ⟨Nat.le_of_ble_eq_true rfl, Nat.le_of_ble_eq_true rfl⟩ rfl (st := []) rfl (Nat.le_of_ble_eq_true rfl) d_X_chain_2 ?_
  refine g_iload_n hz 2 d_X_chain_5 rfl rfl ?_
  refine g_iconst hz d_X_chain_6 ki_1 ?_
  refine bn_use h (fun x6 s5 e4 h => ?_)
  refine g_callSi hz (c_X_whatNo l e4) m_X_whatNo mi_X_whatNo q_535 ⟨Nat.le_of_ble_eq_true rfl, Nat.le_of_ble_eq_true rfl⟩ rfl (st := [.int x3]) rfl (Nat.le_of_ble_eq_true rfl) d_X_chain_7 ?_
  refine g_iconst hz d_X_chain_10 ki_0 ?_
  refine bn_use h (fun x9 s8 e7 h => ?_)
  refine g_callSi hz (c_X_first l e7) m_X_first mi_X_first q_538 ⟨Nat.le_of_ble_eq_true rfl, Nat.le_of_ble_eq_true rfl⟩ rfl (st := []) rfl (Nat.le_of_ble_eq_true rfl) d_X_chain_11 ?_
  refine g_istore_n hz (L' := [(3, .int x9), (0, .ref 165), (1, .int a1), (2, .int a2)]) d_X_chain_14 rfl (by decide) rfl ?_
  refine g_iload_n hz 0 d_X_chain_15 rfl rfl ?_
  refine g_if_ne hz (tgt := 31) d_X_chain_16 (by decide) (fun c10 => ?_) (fun c10 => ?_)
  · replace h := (if_neg c10).symm.trans h
    refine g_aload_n hz 1 d_X_chain_31 rfl rfl ?_
    refine g_iload_n hz 0 d_X_chain_32 rfl rfl ?_
    refine bn_use h (fun x13 s12 e11 h => ?_)
    refine g_callVi hz (c_X_refuse l e11) (by decide) rc_X rfl rfl m_X_refuse mi_X_refuse ms_X_refuse q_349 ⟨Nat.le_of_ble_eq_true rfl, Nat.le_of_ble_eq_true rfl⟩ rfl (st := []) rfl (Nat.le_of_ble_eq_true rfl) d_X_chain_33 ?_
    exact g_iret hz (rti h hq) d_X_chain_36
  · replace h := (if_pos c10).symm.trans h
    refine g_aload_n hz 1 d_X_chain_19 rfl rfl ?_
    refine gf_X_now hz q_306 d_X_chain_20 ?_
    refine g_iload_n hz 2 d_X_chain_23 rfl rfl ?_
    refine g_iload_n hz 3 d_X_chain_24 rfl rfl ?_
    refine bn_use h (fun x16 s15 e14 h => ?_)
    refine g_callVi hz (c_C_chainFrom l (by decide) e14) (iC_lt (by decide)) (rc_C (by decide)) rfl rfl m_C_chainFrom mi_C_chainFrom ms_C_chainFrom q_755 ⟨Nat.le_of_ble_eq_true rfl, Nat.le_of_ble_eq_true rfl⟩ rfl (st := []) rfl (Nat.le_of_ble_eq_true rfl) d_X_chain_25 ?_
    refine g_goto hz (tgt := 36) d_X_chain_28 (by decide) ?_
    exact g_iret hz (rti h hq) d_X_chain_36
def k_C_givings_5 : Nat → Nat → Int32 → Int32 → Int32 → Mm → Option (Int32 × Mm)
  | 0, _, _, _, _, _ => none
  | n + 1, o, v2, v3, v4, s => if (s o 4) < v4 then
      some ((-9), s)
    else
      bn (f_C_friendAt s o v3) fun x4 s3 =>
      nm (s3 x4 3) fun x5 =>
      if x5 = (-1) then
        some ((-9), s3)
      else
        if x5 = v2 then
          some (v4, s3)
        else
          k_C_givings_5 n o v2 x5 (v4 + 1) s3
set_option maxRecDepth 20000 in
theorem w_C_givings_5 {l : Launch} {z : Zt} (hz : ZOk z b_C_givings 5 "PassedOnAndBetter$Company" 1 22) {r' : Int32} {s' : Mm} (hq : ZR z (some .int) s' (some (.int r'))) : ∀ (n : Nat) (o : Nat) (v2 : Int32) (v3 : Int32) (v4 : Int32) (ho : iC o) (s : Mm), k_C_givings_5 n o v2 v3 v4 s = some (r', s') → G l z b_C_givings 5 5 [(0, .ref o), (2, .int v2), (3, .int v3), (4, .int v4)] [] s := by
  intro n
  induction n with
  | zero => intro o v2 v3 v4 ho s h; unfold k_C_givings_5 at h; cases h
  | succ n ih =>
    intro o v2 v3 v4 ho s h
    unfold k_C_givings_5 at h
    refine g_iload hz 3 d_C_givings_5 rfl ?_
    refine g_aload_n hz 0 d_C_givings_7 rfl rfl ?_
    refine gf_C_friends hz ho q_207 d_C_givings_8 ?_
    refine g_icmp_gt hz (tgt := 45) d_C_givings_11 (by decide) (fun c1 => ?_) (fun c1 => ?_)
    · replace h := (if_pos c1).symm.trans h
      refine g_bipush hz (v := (-9)) d_C_givings_45 (by decide) ?_
      exact g_iret hz (rti h hq) d_C_givings_47
    · replace h := (if_neg c1).symm.trans h
      refine g_aload_n hz 0 d_C_givings_14 rfl rfl ?_
      refine g_iload_n hz 2 d_C_givings_15 rfl rfl ?_
      refine bn_use h (fun x4 s3 e2 h => ?_)
      have hx4 := rr_C_friendAt ho e2
      refine g_callVr hz (c_C_friendAt l ho e2) (iC_lt ho) (rc_C ho) rfl rfl m_C_friendAt mi_C_friendAt ms_C_friendAt q_369 ⟨Nat.le_of_ble_eq_true rfl, Nat.le_of_ble_eq_true rfl⟩ rfl (st := []) rfl (Nat.le_of_ble_eq_true rfl) d_C_givings_16 ?_
      refine gf_F_next hz hx4 q_130 d_C_givings_19 ?_
      refine g_nmi (fun x5 e6 => ?_)
      replace h := nm_use h e6
      refine g_istore_n hz (L' := [(3, .int x5), (0, .ref o), (2, .int v2), (4, .int v4)]) d_C_givings_22 rfl (by decide) rfl ?_
      refine g_iload_n hz 0 d_C_givings_23 rfl rfl ?_
      refine g_iconst hz d_C_givings_24 ki_m1 ?_
      refine g_icmp_ne hz (tgt := 31) d_C_givings_25 (by decide) (fun c7 => ?_) (fun c7 => ?_)
      · replace h := (if_neg c7).symm.trans h
        refine g_iload_n hz 0 d_C_givings_31 rfl rfl ?_
        refine g_iload_n hz 2 d_C_givings_32 rfl rfl ?_
        refine g_icmp_ne hz (tgt := 39) d_C_givings_33 (by decide) (fun c8 => ?_) (fun c8 => ?_)
        · replace h := (if_neg c8).symm.trans h
          refine g_iinc hz (v := v4 + 1) (L' := [(4, .int (v4 + 1)), (3, .int x5), (0, .ref o), (2, .int v2)]) 3 d_C_givings_39 rfl (congrArg (fun q => v4 + q) ki_1) (by decide) rfl ?_
          refine g_goto hz (tgt := 5) d_C_givings_42 (by decide) ?_
          refine g_sub [2, 3, 1, 0] rfl ?_
          exact ih o v2 x5 (v4 + 1) ho _ h
        · replace h := (if_pos c8).symm.trans h
          refine g_iload hz 3 d_C_givings_36 rfl ?_
          exact g_iret hz (rti h hq) d_C_givings_38
      · replace h := (if_pos c7).symm.trans h
        refine g_bipush hz (v := (-9)) d_C_givings_28 (by decide) ?_
        exact g_iret hz (rti h hq) d_C_givings_30
def f_C_givings (s : Mm) (o : Nat) (a1 : Int32) (a2 : Int32) : Option (Int32 × Mm) :=
  k_C_givings_5 KF o a2 a1 1 s
set_option maxRecDepth 20000 in
theorem c_C_givings (l : Launch) {s : Mm} {o : Nat} {a1 : Int32} {a2 : Int32} {r' : Int32} {s' : Mm} (ho : iC o) (h : f_C_givings s o a1 a2 = some (r', s')) : Cm l y_C_givings b_C_givings 5 (some .int) 1 22 [.ref o, .int a1, .int a2] s s' (some (.int r')) := by
  refine Cm.of (own := "PassedOnAndBetter$Company") (by decide) rfl (fun ad => Nat.le_of_ble_eq_true rfl) ?_
  intro z hz hq
  show G l z b_C_givings 5 0 [(0, .ref o), (1, .int a1), (2, .int a2)] [] s
  unfold f_C_givings at h
  refine g_iload_n hz 1 d_C_givings_0 rfl rfl ?_
  refine g_istore_n hz (L' := [(3, .int a1), (0, .ref o), (1, .int a1), (2, .int a2)]) d_C_givings_1 rfl (by decide) rfl ?_
  refine g_iconst hz d_C_givings_2 ki_1 ?_
  refine g_istore hz (L' := [(4, .int 1), (3, .int a1), (0, .ref o), (1, .int a1), (2, .int a2)]) d_C_givings_3 (by decide) rfl ?_
  refine g_sub [2, 4, 1, 0] rfl ?_
  exact w_C_givings_5 hz hq KF o a2 a1 1 ho _ h
def k_C_comingAgain_4 : Nat → Nat → Int32 → Int32 → Mm → Option (Int32 × Mm)
  | 0, _, _, _, _ => none
  | n + 1, o, v1, v2, s => if (s o 4) ≤ v2 then
      some (v1, s)
    else
      bn (f_C_givings s o v2 v2) fun x4 s3 =>
      if x4 = (-9) then
        k_C_comingAgain_4 n o v1 (v2 + 1) s3
      else
        k_C_comingAgain_4 n o (v1 + 1) (v2 + 1) s3
set_option maxRecDepth 20000 in
theorem w_C_comingAgain_4 {l : Launch} {z : Zt} (hz : ZOk z b_C_comingAgain 3 "PassedOnAndBetter$Company" 2 46) {r' : Int32} {s' : Mm} (hq : ZR z (some .int) s' (some (.int r'))) : ∀ (n : Nat) (o : Nat) (v1 : Int32) (v2 : Int32) (ho : iC o) (s : Mm), k_C_comingAgain_4 n o v1 v2 s = some (r', s') → G l z b_C_comingAgain 3 4 [(0, .ref o), (1, .int v1), (2, .int v2)] [] s := by
  intro n
  induction n with
  | zero => intro o v1 v2 ho s h; unfold k_C_comingAgain_4 at h; cases h
  | succ n ih =>
    intro o v1 v2 ho s h
    unfold k_C_comingAgain_4 at h
    refine g_iload_n hz 2 d_C_comingAgain_4 rfl rfl ?_
    refine g_aload_n hz 0 d_C_comingAgain_5 rfl rfl ?_
    refine gf_C_friends hz ho q_207 d_C_comingAgain_6 ?_
    refine g_icmp_ge hz (tgt := 32) d_C_comingAgain_9 (by decide) (fun c1 => ?_) (fun c1 => ?_)
    · replace h := (if_pos c1).symm.trans h
      refine g_iload_n hz 1 d_C_comingAgain_32 rfl rfl ?_
      exact g_iret hz (rti h hq) d_C_comingAgain_33
    · replace h := (if_neg c1).symm.trans h
      refine g_aload_n hz 0 d_C_comingAgain_12 rfl rfl ?_
      refine g_iload_n hz 2 d_C_comingAgain_13 rfl rfl ?_
      refine g_iload_n hz 2 d_C_comingAgain_14 rfl rfl ?_
      refine bn_use h (fun x4 s3 e2 h => ?_)
      refine g_callVi hz (c_C_givings l ho e2) (iC_lt ho) (rc_C ho) rfl rfl m_C_givings mi_C_givings ms_C_givings q_768 ⟨Nat.le_of_ble_eq_true rfl, Nat.le_of_ble_eq_true rfl⟩ rfl (st := []) rfl (Nat.le_of_ble_eq_true rfl) d_C_comingAgain_15 ?_
      refine g_bipush hz (v := (-9)) d_C_comingAgain_18 (by decide) ?_
      refine g_icmp_eq hz (tgt := 26) d_C_comingAgain_20 (by decide) (fun c5 => ?_) (fun c5 => ?_)
      · replace h := (if_pos c5).symm.trans h
        refine g_iinc hz (v := v2 + 1) (L' := [(2, .int (v2 + 1)), (0, .ref o), (1, .int v1)]) 2 d_C_comingAgain_26 rfl (congrArg (fun q => v2 + q) ki_1) (by decide) rfl ?_
        refine g_goto hz (tgt := 4) d_C_comingAgain_29 (by decide) ?_
        refine g_sub [1, 2, 0] rfl ?_
        exact ih o v1 (v2 + 1) ho _ h
      · replace h := (if_neg c5).symm.trans h
        refine g_iinc hz (v := v1 + 1) (L' := [(1, .int (v1 + 1)), (0, .ref o), (2, .int v2)]) 1 d_C_comingAgain_23 rfl (congrArg (fun q => v1 + q) ki_1) (by decide) rfl ?_
        refine g_iinc hz (v := v2 + 1) (L' := [(2, .int (v2 + 1)), (1, .int (v1 + 1)), (0, .ref o)]) 2 d_C_comingAgain_26 rfl (congrArg (fun q => v2 + q) ki_1) (by decide) rfl ?_
        refine g_goto hz (tgt := 4) d_C_comingAgain_29 (by decide) ?_
        refine g_sub [2, 1, 0] rfl ?_
        exact ih o (v1 + 1) (v2 + 1) ho _ h
def f_C_comingAgain (s : Mm) (o : Nat) : Option (Int32 × Mm) :=
  k_C_comingAgain_4 KF o 0 0 s
set_option maxRecDepth 20000 in
theorem c_C_comingAgain (l : Launch) {s : Mm} {o : Nat} {r' : Int32} {s' : Mm} (ho : iC o) (h : f_C_comingAgain s o = some (r', s')) : Cm l y_C_comingAgain b_C_comingAgain 3 (some .int) 2 46 [.ref o] s s' (some (.int r')) := by
  refine Cm.of (own := "PassedOnAndBetter$Company") (by decide) rfl (fun ad => Nat.le_of_ble_eq_true rfl) ?_
  intro z hz hq
  show G l z b_C_comingAgain 3 0 [(0, .ref o)] [] s
  unfold f_C_comingAgain at h
  refine g_iconst hz d_C_comingAgain_0 ki_0 ?_
  refine g_istore_n hz (L' := [(1, .int 0), (0, .ref o)]) d_C_comingAgain_1 rfl (by decide) rfl ?_
  refine g_iconst hz d_C_comingAgain_2 ki_0 ?_
  refine g_istore_n hz (L' := [(2, .int 0), (1, .int 0), (0, .ref o)]) d_C_comingAgain_3 rfl (by decide) rfl ?_
  refine g_sub [2, 1, 0] rfl ?_
  exact w_C_comingAgain_4 hz hq KF o 0 0 ho _ h
def f_X_circles (s : Mm) : Option (Int32 × Mm) :=
  bn (f_C_comingAgain s 0) fun x3 s2 =>
  some (x3, s2)
set_option maxRecDepth 20000 in
theorem c_X_circles (l : Launch) {s : Mm}  {r' : Int32} {s' : Mm}  (h : f_X_circles s = some (r', s')) : Cm l y_X_circles b_X_circles 1 (some .int) 3 68 [.ref 165] s s' (some (.int r')) := by
  refine Cm.of (own := "PassedOnAndBetter") (by decide) rfl (fun ad => Nat.le_of_ble_eq_true rfl) ?_
  intro z hz hq
  show G l z b_X_circles 1 0 [(0, .ref 165)] [] s
  unfold f_X_circles at h
  refine g_aload_n hz 0 d_X_circles_0 rfl rfl ?_
  refine gf_X_now hz q_306 d_X_circles_1 ?_
  refine bn_use h (fun x3 s2 e1 h => ?_)
  refine g_callVi hz (c_C_comingAgain l (by decide) e1) (iC_lt (by decide)) (rc_C (by decide)) rfl rfl m_C_comingAgain mi_C_comingAgain ms_C_comingAgain q_764 ⟨Nat.le_of_ble_eq_true rfl, Nat.le_of_ble_eq_true rfl⟩ rfl (st := []) rfl (Nat.le_of_ble_eq_true rfl) d_X_circles_4 ?_
  exact g_iret hz (rti h hq) d_X_circles_7
def f_X_way (s : Mm) (a1 : Int32) (a2 : Int32) : Option (Int32 × Mm) :=
  bn (f_X_twoFriendsNo s a1 a2) fun x3 s2 =>
  if x3 = 0 then
    bn (f_C_givings s2 0 a1 a2) fun x10 s9 =>
    some (x10, s9)
  else
    bn (f_X_refuse s2 x3) fun x7 s6 =>
    some (x7, s6)
set_option maxRecDepth 20000 in
theorem c_X_way (l : Launch) {s : Mm} {a1 : Int32} {a2 : Int32} {r' : Int32} {s' : Mm}  (h : f_X_way s a1 a2 = some (r', s')) : Cm l y_X_way b_X_way 4 (some .int) 3 64 [.ref 165, .int a1, .int a2] s s' (some (.int r')) := by
  refine Cm.of (own := "PassedOnAndBetter") (by decide) rfl (fun ad => Nat.le_of_ble_eq_true rfl) ?_
  intro z hz hq
  show G l z b_X_way 4 0 [(0, .ref 165), (1, .int a1), (2, .int a2)] [] s
  unfold f_X_way at h
  refine g_aload_n hz 0 d_X_way_0 rfl rfl ?_
  refine g_iload_n hz 1 d_X_way_1 rfl rfl ?_
  refine g_iload_n hz 2 d_X_way_2 rfl rfl ?_
  refine bn_use h (fun x3 s2 e1 h => ?_)
  refine g_callVi hz (c_X_twoFriendsNo l e1) (by decide) rc_X rfl rfl m_X_twoFriendsNo mi_X_twoFriendsNo ms_X_twoFriendsNo q_581 ⟨Nat.le_of_ble_eq_true rfl, Nat.le_of_ble_eq_true rfl⟩ rfl (st := []) rfl (Nat.le_of_ble_eq_true rfl) d_X_way_3 ?_
  refine g_istore_n hz (L' := [(3, .int x3), (0, .ref 165), (1, .int a1), (2, .int a2)]) d_X_way_6 rfl (by decide) rfl ?_
  refine g_iload_n hz 0 d_X_way_7 rfl rfl ?_
  refine g_if_ne hz (tgt := 23) d_X_way_8 (by decide) (fun c4 => ?_) (fun c4 => ?_)
  · replace h := (if_neg c4).symm.trans h
    refine g_aload_n hz 1 d_X_way_23 rfl rfl ?_
    refine g_iload_n hz 0 d_X_way_24 rfl rfl ?_
    refine bn_use h (fun x7 s6 e5 h => ?_)
    refine g_callVi hz (c_X_refuse l e5) (by decide) rc_X rfl rfl m_X_refuse mi_X_refuse ms_X_refuse q_349 ⟨Nat.le_of_ble_eq_true rfl, Nat.le_of_ble_eq_true rfl⟩ rfl (st := []) rfl (Nat.le_of_ble_eq_true rfl) d_X_way_25 ?_
    exact g_iret hz (rti h hq) d_X_way_28
  · replace h := (if_pos c4).symm.trans h
    refine g_aload_n hz 1 d_X_way_11 rfl rfl ?_
    refine gf_X_now hz q_306 d_X_way_12 ?_
    refine g_iload_n hz 2 d_X_way_15 rfl rfl ?_
    refine g_iload_n hz 3 d_X_way_16 rfl rfl ?_
    refine bn_use h (fun x10 s9 e8 h => ?_)
    refine g_callVi hz (c_C_givings l (by decide) e8) (iC_lt (by decide)) (rc_C (by decide)) rfl rfl m_C_givings mi_C_givings ms_C_givings q_776 ⟨Nat.le_of_ble_eq_true rfl, Nat.le_of_ble_eq_true rfl⟩ rfl (st := []) rfl (Nat.le_of_ble_eq_true rfl) d_X_way_17 ?_
    refine g_goto hz (tgt := 28) d_X_way_20 (by decide) ?_
    exact g_iret hz (rti h hq) d_X_way_28
def f_M_holderOf (s : Mm) (a1 : Int32) : Option (Nat × Mm) :=
  bn (f_M_recall s) fun x3 s2 =>
  bn (f_C_giftAt s2 2 a1) fun x6 s5 =>
  bn (f_C_friendAt s5 2 (s5 x6 2)) fun x9 s8 =>
  some (x9, s8)
set_option maxRecDepth 20000 in
theorem c_M_holderOf (l : Launch) {s : Mm} {a1 : Int32} {r' : Nat} {s' : Mm}  (h : f_M_holderOf s a1 = some (r', s')) : Cm l y_M_holderOf b_M_holderOf 2 (some (.object "PassedOnAndBetter$Friend")) 3 64 [.ref 173, .int a1] s s' (some (.ref r')) := by
  refine Cm.of (own := "PassedOnAndBetter$Mind") (by decide) rfl (fun ad => Nat.le_of_ble_eq_true rfl) ?_
  intro z hz hq
  show G l z b_M_holderOf 2 0 [(0, .ref 173), (1, .int a1)] [] s
  unfold f_M_holderOf at h
  refine g_aload_n hz 0 d_M_holderOf_0 rfl rfl ?_
  refine bn_use h (fun x3 s2 e1 h => ?_)
  have hx3 := rr_M_recall e1
  refine g_callVr hz (c_M_recall l e1) (by decide) rc_M rfl rfl m_M_recall mi_M_recall ms_M_recall q_632 ⟨Nat.le_of_ble_eq_true rfl, Nat.le_of_ble_eq_true rfl⟩ rfl (st := []) rfl (Nat.le_of_ble_eq_true rfl) d_M_holderOf_1 ?_
  refine g_pop hz d_M_holderOf_4 rfl ?_
  refine g_aload_n hz 0 d_M_holderOf_5 rfl rfl ?_
  refine gf_M_thought hz q_292 d_M_holderOf_6 ?_
  refine g_aload_n hz 0 d_M_holderOf_9 rfl rfl ?_
  refine gf_M_thought hz q_292 d_M_holderOf_10 ?_
  refine g_iload_n hz 1 d_M_holderOf_13 rfl rfl ?_
  refine bn_use h (fun x6 s5 e4 h => ?_)
  have hx6 := rr_C_giftAt (by decide) e4
  refine g_callVr hz (c_C_giftAt l (by decide) e4) (iC_lt (by decide)) (rc_C (by decide)) rfl rfl m_C_giftAt mi_C_giftAt ms_C_giftAt q_633 ⟨Nat.le_of_ble_eq_true rfl, Nat.le_of_ble_eq_true rfl⟩ rfl (st := [.ref 2]) rfl (Nat.le_of_ble_eq_true rfl) d_M_holderOf_14 ?_
  refine gf_G_with hz hx6 q_181 d_M_holderOf_17 ?_
  refine bn_use h (fun x9 s8 e7 h => ?_)
  have hx9 := rr_C_friendAt (by decide) e7
  refine g_callVr hz (c_C_friendAt l (by decide) e7) (iC_lt (by decide)) (rc_C (by decide)) rfl rfl m_C_friendAt mi_C_friendAt ms_C_friendAt q_686 ⟨Nat.le_of_ble_eq_true rfl, Nat.le_of_ble_eq_true rfl⟩ rfl (st := []) rfl (Nat.le_of_ble_eq_true rfl) d_M_holderOf_20 ?_
  exact g_aret hz (rtr h hq) d_M_holderOf_23
theorem rr_M_holderOf {s s' : Mm} {a1 : Int32} {r' : Nat} (h : f_M_holderOf s a1 = some (r', s')) : iF r' := by
  unfold f_M_holderOf at h
  refine bn_use h (fun x1 s1 e1 h => ?_)
  refine bn_use h (fun x2 s2 e2 h => ?_)
  refine bn_use h (fun x3 s3 e3 h => ?_)
  cases h
  exact rr_C_friendAt (by decide) e3
def f_N_numberAt (s : Mm) (a1 : Int32) : Option (Int32 × Mm) :=
  bn (f_X_cellOf s 172 a1) fun x3 s2 =>
  some (x3, s2)
set_option maxRecDepth 20000 in
theorem c_N_numberAt (l : Launch) {s : Mm} {a1 : Int32} {r' : Int32} {s' : Mm}  (h : f_N_numberAt s a1 = some (r', s')) : Cm l y_N_numberAt b_N_numberAt 2 (some .int) 1 21 [.ref 171, .int a1] s s' (some (.int r')) := by
  refine Cm.of (own := "PassedOnAndBetter$Numbers") (by decide) rfl (fun ad => Nat.le_of_ble_eq_true rfl) ?_
  intro z hz hq
  show G l z b_N_numberAt 2 0 [(0, .ref 171), (1, .int a1)] [] s
  unfold f_N_numberAt at h
  refine g_aload_n hz 0 d_N_numberAt_0 rfl rfl ?_
  refine gf_N_cells hz q_272 d_N_numberAt_1 ?_
  refine g_iload_n hz 1 d_N_numberAt_4 rfl rfl ?_
  refine bn_use h (fun x3 s2 e1 h => ?_)
  refine g_callSNi hz (c_X_cellOf l (by decide) e1) m_X_cellOf mi_X_cellOf (fun D cy s h => h.2.2.2.2.1) ⟨Nat.le_of_ble_eq_true rfl, Nat.le_of_ble_eq_true rfl⟩ rfl (st := []) rfl (Nat.le_of_ble_eq_true rfl) d_N_numberAt_5 ?_
  exact g_iret hz (rti h hq) d_N_numberAt_8
def k_M_worthsAreAsTold_11 : Nat → Nat → Int32 → Mm → Option (Int32 × Mm)
  | 0, _, _, _ => none
  | n + 1, o2, v3, s => if (s 171 1) ≤ v3 then
      some (1, s)
    else
      bn (f_N_numberAt s v3) fun x7 s6 =>
      if (s o2 0) = x7 then
        bv (f_G_passMonth s6 o2 2) fun s10 =>
        k_M_worthsAreAsTold_11 n o2 (v3 + 1) s10
      else
        some (0, s6)
set_option maxRecDepth 20000 in
theorem w_M_worthsAreAsTold_11 {l : Launch} {z : Zt} (hz : ZOk z b_M_worthsAreAsTold 4 "PassedOnAndBetter$Mind" 3 66) {r' : Int32} {s' : Mm} (hq : ZR z (some .boolean) s' (some (.int r'))) : ∀ (n : Nat) (o2 : Nat) (v3 : Int32) (ho2 : iG o2) (s : Mm), k_M_worthsAreAsTold_11 n o2 v3 s = some (r', s') → G l z b_M_worthsAreAsTold 4 11 [(0, .ref 173), (2, .ref o2), (3, .int v3)] [] s := by
  intro n
  induction n with
  | zero => intro o2 v3 ho2 s h; unfold k_M_worthsAreAsTold_11 at h; cases h
  | succ n ih =>
    intro o2 v3 ho2 s h
    unfold k_M_worthsAreAsTold_11 at h
    refine g_iload_n hz 2 d_M_worthsAreAsTold_11 rfl rfl ?_
    refine g_aload_n hz 0 d_M_worthsAreAsTold_12 rfl rfl ?_
    refine gf_M_numbers hz q_291 d_M_worthsAreAsTold_13 ?_
    refine gf_N_told hz q_274 d_M_worthsAreAsTold_16 ?_
    refine g_icmp_ge hz (tgt := 53) d_M_worthsAreAsTold_19 (by decide) (fun c4 => ?_) (fun c4 => ?_)
    · replace h := (if_pos c4).symm.trans h
      refine g_iconst hz d_M_worthsAreAsTold_53 ki_1 ?_
      exact g_zret hz (rti h hq) (Or.inr rfl) d_M_worthsAreAsTold_54
    · replace h := (if_neg c4).symm.trans h
      refine g_aload_n hz 1 d_M_worthsAreAsTold_22 rfl rfl ?_
      refine gf_G_worth hz ho2 q_175 d_M_worthsAreAsTold_23 ?_
      refine g_aload_n hz 0 d_M_worthsAreAsTold_26 rfl rfl ?_
      refine gf_M_numbers hz q_291 d_M_worthsAreAsTold_27 ?_
      refine g_iload_n hz 2 d_M_worthsAreAsTold_30 rfl rfl ?_
      refine bn_use h (fun x7 s6 e5 h => ?_)
      refine g_callVi hz (c_N_numberAt l e5) (by decide) rc_N rfl rfl m_N_numberAt mi_N_numberAt ms_N_numberAt q_794 ⟨Nat.le_of_ble_eq_true rfl, Nat.le_of_ble_eq_true rfl⟩ rfl (st := [.int (s o2 0)]) rfl (Nat.le_of_ble_eq_true rfl) d_M_worthsAreAsTold_31 ?_
      refine g_icmp_eq hz (tgt := 39) d_M_worthsAreAsTold_34 (by decide) (fun c8 => ?_) (fun c8 => ?_)
      · replace h := (if_pos c8).symm.trans h
        refine g_aload_n hz 1 d_M_worthsAreAsTold_39 rfl rfl ?_
        refine g_aload_n hz 0 d_M_worthsAreAsTold_40 rfl rfl ?_
        refine gf_M_thought hz q_292 d_M_worthsAreAsTold_41 ?_
        refine bv_use h (fun s10 e9 h => ?_)
        refine g_callVv hz (c_G_passMonth l ho2 (by decide) e9) (iG_lt ho2) (rc_G ho2) rfl rfl m_G_passMonth mi_G_passMonth ms_G_passMonth q_638 ⟨Nat.le_of_ble_eq_true rfl, Nat.le_of_ble_eq_true rfl⟩ rfl (st := []) rfl (Nat.le_of_ble_eq_true rfl) d_M_worthsAreAsTold_44 ?_
        refine g_iinc hz (v := v3 + 1) (L' := [(3, .int (v3 + 1)), (0, .ref 173), (2, .ref o2)]) 2 d_M_worthsAreAsTold_47 rfl (congrArg (fun q => v3 + q) ki_1) (by decide) rfl ?_
        refine g_goto hz (tgt := 11) d_M_worthsAreAsTold_50 (by decide) ?_
        refine g_sub [1, 2, 0] rfl ?_
        exact ih o2 (v3 + 1) ho2 _ h
      · replace h := (if_neg c8).symm.trans h
        refine g_iconst hz d_M_worthsAreAsTold_37 ki_0 ?_
        exact g_zret hz (rti h hq) (Or.inl rfl) d_M_worthsAreAsTold_38
def f_M_worthsAreAsTold (s : Mm) (a1 : Int32) : Option (Int32 × Mm) :=
  bn (f_C_giftAt s 2 a1) fun x3 s2 =>
  k_M_worthsAreAsTold_11 KF x3 0 s2
set_option maxRecDepth 20000 in
theorem c_M_worthsAreAsTold (l : Launch) {s : Mm} {a1 : Int32} {r' : Int32} {s' : Mm}  (h : f_M_worthsAreAsTold s a1 = some (r', s')) : Cm l y_M_worthsAreAsTold b_M_worthsAreAsTold 4 (some .boolean) 3 66 [.ref 173, .int a1] s s' (some (.int r')) := by
  refine Cm.of (own := "PassedOnAndBetter$Mind") (by decide) rfl (fun ad => Nat.le_of_ble_eq_true rfl) ?_
  intro z hz hq
  show G l z b_M_worthsAreAsTold 4 0 [(0, .ref 173), (1, .int a1)] [] s
  unfold f_M_worthsAreAsTold at h
  refine g_aload_n hz 0 d_M_worthsAreAsTold_0 rfl rfl ?_
  refine gf_M_thought hz q_292 d_M_worthsAreAsTold_1 ?_
  refine g_iload_n hz 1 d_M_worthsAreAsTold_4 rfl rfl ?_
  refine bn_use h (fun x3 s2 e1 h => ?_)
  have hx3 := rr_C_giftAt (by decide) e1
  refine g_callVr hz (c_C_giftAt l (by decide) e1) (iC_lt (by decide)) (rc_C (by decide)) rfl rfl m_C_giftAt mi_C_giftAt ms_C_giftAt q_633 ⟨Nat.le_of_ble_eq_true rfl, Nat.le_of_ble_eq_true rfl⟩ rfl (st := []) rfl (Nat.le_of_ble_eq_true rfl) d_M_worthsAreAsTold_5 ?_
  refine g_astore_n hz (L' := [(2, .ref x3), (0, .ref 173), (1, .int a1)]) d_M_worthsAreAsTold_8 rfl (by decide) rfl ?_
  refine g_iconst hz d_M_worthsAreAsTold_9 ki_0 ?_
  refine g_istore_n hz (L' := [(3, .int 0), (2, .ref x3), (0, .ref 173), (1, .int a1)]) d_M_worthsAreAsTold_10 rfl (by decide) rfl ?_
  refine g_sub [2, 1, 0] rfl ?_
  exact w_M_worthsAreAsTold_11 hz hq KF x3 0 hx3 _ h
def k_M_kindsToldBy_4 : Nat → Int32 → Int32 → Int32 → Mm → Option (Int32 × Mm)
  | 0, _, _, _, _ => none
  | n + 1, v1, v2, v3, s => if 5 < v3 then
      some (v2, s)
    else
      bn (f_M_holderOf s v1) fun x4 s3 =>
      bv (f_F_become s3 x4 v3 (s3 x4 1)) fun s6 =>
      bn (f_M_worthsAreAsTold s6 v1) fun x9 s8 =>
      if x9 = 0 then
        k_M_kindsToldBy_4 n v1 v2 (v3 + 1) s8
      else
        nm (v2 ||| (1 <<< (v3 &&& 31))) fun x11 =>
        k_M_kindsToldBy_4 n v1 x11 (v3 + 1) s8
set_option maxRecDepth 20000 in
theorem w_M_kindsToldBy_4 {l : Launch} {z : Zt} (hz : ZOk z b_M_kindsToldBy 5 "PassedOnAndBetter$Mind" 4 89) {r' : Int32} {s' : Mm} (hq : ZR z (some .int) s' (some (.int r'))) : ∀ (n : Nat) (v1 : Int32) (v2 : Int32) (v3 : Int32) (s : Mm), k_M_kindsToldBy_4 n v1 v2 v3 s = some (r', s') → G l z b_M_kindsToldBy 5 4 [(0, .ref 173), (1, .int v1), (2, .int v2), (3, .int v3)] [] s := by
  intro n
  induction n with
  | zero => intro v1 v2 v3 s h; unfold k_M_kindsToldBy_4 at h; cases h
  | succ n ih =>
    intro v1 v2 v3 s h
    unfold k_M_kindsToldBy_4 at h
    refine g_iload_n hz 3 d_M_kindsToldBy_4 rfl rfl ?_
    refine g_iconst hz d_M_kindsToldBy_5 ki_5 ?_
    refine g_icmp_gt hz (tgt := 47) d_M_kindsToldBy_6 (by decide) (fun c1 => ?_) (fun c1 => ?_)
    · replace h := (if_pos c1).symm.trans h
      refine g_iload_n hz 2 d_M_kindsToldBy_47 rfl rfl ?_
      exact g_iret hz (rti h hq) d_M_kindsToldBy_48
    · replace h := (if_neg c1).symm.trans h
      refine g_aload_n hz 0 d_M_kindsToldBy_9 rfl rfl ?_
      refine g_iload_n hz 1 d_M_kindsToldBy_10 rfl rfl ?_
      refine bn_use h (fun x4 s3 e2 h => ?_)
      have hx4 := rr_M_holderOf e2
      refine g_callVr hz (c_M_holderOf l e2) (by decide) rc_M rfl rfl m_M_holderOf mi_M_holderOf ms_M_holderOf q_785 ⟨Nat.le_of_ble_eq_true rfl, Nat.le_of_ble_eq_true rfl⟩ rfl (st := []) rfl (Nat.le_of_ble_eq_true rfl) d_M_kindsToldBy_11 ?_
      refine g_astore hz (L' := [(4, .ref x4), (0, .ref 173), (1, .int v1), (2, .int v2), (3, .int v3)]) d_M_kindsToldBy_14 (by decide) rfl ?_
      refine g_aload hz 0 d_M_kindsToldBy_16 rfl ?_
      refine g_iload_n hz 4 d_M_kindsToldBy_18 rfl rfl ?_
      refine g_aload hz 0 d_M_kindsToldBy_19 rfl ?_
      refine gf_F_figure hz hx4 q_121 d_M_kindsToldBy_21 ?_
      refine bv_use h (fun s6 e5 h => ?_)
      refine g_callVv hz (c_F_become l hx4 e5) (iF_lt hx4) (rc_F hx4) rfl rfl m_F_become mi_F_become ms_F_become q_789 ⟨Nat.le_of_ble_eq_true rfl, Nat.le_of_ble_eq_true rfl⟩ rfl (st := []) rfl (Nat.le_of_ble_eq_true rfl) d_M_kindsToldBy_24 ?_
      refine g_aload_n hz 1 d_M_kindsToldBy_27 rfl rfl ?_
      refine g_iload_n hz 2 d_M_kindsToldBy_28 rfl rfl ?_
      refine bn_use h (fun x9 s8 e7 h => ?_)
      refine g_callVi hz (c_M_worthsAreAsTold l e7) (by decide) rc_M rfl rfl m_M_worthsAreAsTold mi_M_worthsAreAsTold ms_M_worthsAreAsTold q_790 ⟨Nat.le_of_ble_eq_true rfl, Nat.le_of_ble_eq_true rfl⟩ rfl (st := []) rfl (Nat.le_of_ble_eq_true rfl) d_M_kindsToldBy_29 ?_
      refine g_if_eq hz (tgt := 41) d_M_kindsToldBy_32 (by decide) (fun c10 => ?_) (fun c10 => ?_)
      · replace h := (if_pos c10).symm.trans h
        refine g_iinc hz (v := v3 + 1) (L' := [(3, .int (v3 + 1)), (4, .ref x4), (0, .ref 173), (1, .int v1), (2, .int v2)]) 4 d_M_kindsToldBy_41 rfl (congrArg (fun q => v3 + q) ki_1) (by decide) rfl ?_
        refine g_goto hz (tgt := 4) d_M_kindsToldBy_44 (by decide) ?_
        refine g_sub [2, 3, 4, 0] rfl ?_
        exact ih v1 v2 (v3 + 1) _ h
      · replace h := (if_neg c10).symm.trans h
        refine g_iload_n hz 3 d_M_kindsToldBy_35 rfl rfl ?_
        refine g_iconst hz d_M_kindsToldBy_36 ki_1 ?_
        refine g_iload_n hz 4 d_M_kindsToldBy_37 rfl rfl ?_
        refine g_ishl hz d_M_kindsToldBy_38 ?_
        refine g_ior hz d_M_kindsToldBy_39 ?_
        refine g_nmi (fun x11 e12 => ?_)
        replace h := nm_use h e12
        refine g_istore_n hz (L' := [(2, .int x11), (4, .ref x4), (0, .ref 173), (1, .int v1), (3, .int v3)]) d_M_kindsToldBy_40 rfl (by decide) rfl ?_
        refine g_iinc hz (v := v3 + 1) (L' := [(3, .int (v3 + 1)), (2, .int x11), (4, .ref x4), (0, .ref 173), (1, .int v1)]) 4 d_M_kindsToldBy_41 rfl (congrArg (fun q => v3 + q) ki_1) (by decide) rfl ?_
        refine g_goto hz (tgt := 4) d_M_kindsToldBy_44 (by decide) ?_
        refine g_sub [3, 4, 1, 0] rfl ?_
        exact ih v1 x11 (v3 + 1) _ h
def f_M_kindsToldBy (s : Mm) (a1 : Int32) : Option (Int32 × Mm) :=
  k_M_kindsToldBy_4 KF a1 0 0 s
set_option maxRecDepth 20000 in
theorem c_M_kindsToldBy (l : Launch) {s : Mm} {a1 : Int32} {r' : Int32} {s' : Mm}  (h : f_M_kindsToldBy s a1 = some (r', s')) : Cm l y_M_kindsToldBy b_M_kindsToldBy 5 (some .int) 4 89 [.ref 173, .int a1] s s' (some (.int r')) := by
  refine Cm.of (own := "PassedOnAndBetter$Mind") (by decide) rfl (fun ad => Nat.le_of_ble_eq_true rfl) ?_
  intro z hz hq
  show G l z b_M_kindsToldBy 5 0 [(0, .ref 173), (1, .int a1)] [] s
  unfold f_M_kindsToldBy at h
  refine g_iconst hz d_M_kindsToldBy_0 ki_0 ?_
  refine g_istore_n hz (L' := [(2, .int 0), (0, .ref 173), (1, .int a1)]) d_M_kindsToldBy_1 rfl (by decide) rfl ?_
  refine g_iconst hz d_M_kindsToldBy_2 ki_0 ?_
  refine g_istore_n hz (L' := [(3, .int 0), (2, .int 0), (0, .ref 173), (1, .int a1)]) d_M_kindsToldBy_3 rfl (by decide) rfl ?_
  refine g_sub [2, 3, 1, 0] rfl ?_
  exact w_M_kindsToldBy_4 hz hq KF a1 0 0 _ h
def k_M_figuresToldBy_4 : Nat → Int32 → Int32 → Int32 → Mm → Option (Int32 × Mm)
  | 0, _, _, _, _ => none
  | n + 1, v1, v2, v3, s => if 9 < v3 then
      some (v2, s)
    else
      bn (f_M_holderOf s v1) fun x4 s3 =>
      bv (f_F_become s3 x4 (s3 x4 0) v3) fun s6 =>
      bn (f_M_worthsAreAsTold s6 v1) fun x9 s8 =>
      if x9 = 0 then
        k_M_figuresToldBy_4 n v1 v2 (v3 + 1) s8
      else
        nm (v2 ||| (1 <<< (v3 &&& 31))) fun x11 =>
        k_M_figuresToldBy_4 n v1 x11 (v3 + 1) s8
set_option maxRecDepth 20000 in
theorem w_M_figuresToldBy_4 {l : Launch} {z : Zt} (hz : ZOk z b_M_figuresToldBy 5 "PassedOnAndBetter$Mind" 4 89) {r' : Int32} {s' : Mm} (hq : ZR z (some .int) s' (some (.int r'))) : ∀ (n : Nat) (v1 : Int32) (v2 : Int32) (v3 : Int32) (s : Mm), k_M_figuresToldBy_4 n v1 v2 v3 s = some (r', s') → G l z b_M_figuresToldBy 5 4 [(0, .ref 173), (1, .int v1), (2, .int v2), (3, .int v3)] [] s := by
  intro n
  induction n with
  | zero => intro v1 v2 v3 s h; unfold k_M_figuresToldBy_4 at h; cases h
  | succ n ih =>
    intro v1 v2 v3 s h
    unfold k_M_figuresToldBy_4 at h
    refine g_iload_n hz 3 d_M_figuresToldBy_4 rfl rfl ?_
    refine g_bipush hz (v := 9) d_M_figuresToldBy_5 (by decide) ?_
    refine g_icmp_gt hz (tgt := 48) d_M_figuresToldBy_7 (by decide) (fun c1 => ?_) (fun c1 => ?_)
    · replace h := (if_pos c1).symm.trans h
      refine g_iload_n hz 2 d_M_figuresToldBy_48 rfl rfl ?_
      exact g_iret hz (rti h hq) d_M_figuresToldBy_49
    · replace h := (if_neg c1).symm.trans h
      refine g_aload_n hz 0 d_M_figuresToldBy_10 rfl rfl ?_
      refine g_iload_n hz 1 d_M_figuresToldBy_11 rfl rfl ?_
      refine bn_use h (fun x4 s3 e2 h => ?_)
      have hx4 := rr_M_holderOf e2
      refine g_callVr hz (c_M_holderOf l e2) (by decide) rc_M rfl rfl m_M_holderOf mi_M_holderOf ms_M_holderOf q_785 ⟨Nat.le_of_ble_eq_true rfl, Nat.le_of_ble_eq_true rfl⟩ rfl (st := []) rfl (Nat.le_of_ble_eq_true rfl) d_M_figuresToldBy_12 ?_
      refine g_astore hz (L' := [(4, .ref x4), (0, .ref 173), (1, .int v1), (2, .int v2), (3, .int v3)]) d_M_figuresToldBy_15 (by decide) rfl ?_
      refine g_aload hz 0 d_M_figuresToldBy_17 rfl ?_
      refine g_aload hz 0 d_M_figuresToldBy_19 rfl ?_
      refine gf_F_kind hz hx4 q_119 d_M_figuresToldBy_21 ?_
      refine g_iload_n hz 4 d_M_figuresToldBy_24 rfl rfl ?_
      refine bv_use h (fun s6 e5 h => ?_)
      refine g_callVv hz (c_F_become l hx4 e5) (iF_lt hx4) (rc_F hx4) rfl rfl m_F_become mi_F_become ms_F_become q_789 ⟨Nat.le_of_ble_eq_true rfl, Nat.le_of_ble_eq_true rfl⟩ rfl (st := []) rfl (Nat.le_of_ble_eq_true rfl) d_M_figuresToldBy_25 ?_
      refine g_aload_n hz 1 d_M_figuresToldBy_28 rfl rfl ?_
      refine g_iload_n hz 2 d_M_figuresToldBy_29 rfl rfl ?_
      refine bn_use h (fun x9 s8 e7 h => ?_)
      refine g_callVi hz (c_M_worthsAreAsTold l e7) (by decide) rc_M rfl rfl m_M_worthsAreAsTold mi_M_worthsAreAsTold ms_M_worthsAreAsTold q_790 ⟨Nat.le_of_ble_eq_true rfl, Nat.le_of_ble_eq_true rfl⟩ rfl (st := []) rfl (Nat.le_of_ble_eq_true rfl) d_M_figuresToldBy_30 ?_
      refine g_if_eq hz (tgt := 42) d_M_figuresToldBy_33 (by decide) (fun c10 => ?_) (fun c10 => ?_)
      · replace h := (if_pos c10).symm.trans h
        refine g_iinc hz (v := v3 + 1) (L' := [(3, .int (v3 + 1)), (4, .ref x4), (0, .ref 173), (1, .int v1), (2, .int v2)]) 4 d_M_figuresToldBy_42 rfl (congrArg (fun q => v3 + q) ki_1) (by decide) rfl ?_
        refine g_goto hz (tgt := 4) d_M_figuresToldBy_45 (by decide) ?_
        refine g_sub [2, 3, 4, 0] rfl ?_
        exact ih v1 v2 (v3 + 1) _ h
      · replace h := (if_neg c10).symm.trans h
        refine g_iload_n hz 3 d_M_figuresToldBy_36 rfl rfl ?_
        refine g_iconst hz d_M_figuresToldBy_37 ki_1 ?_
        refine g_iload_n hz 4 d_M_figuresToldBy_38 rfl rfl ?_
        refine g_ishl hz d_M_figuresToldBy_39 ?_
        refine g_ior hz d_M_figuresToldBy_40 ?_
        refine g_nmi (fun x11 e12 => ?_)
        replace h := nm_use h e12
        refine g_istore_n hz (L' := [(2, .int x11), (4, .ref x4), (0, .ref 173), (1, .int v1), (3, .int v3)]) d_M_figuresToldBy_41 rfl (by decide) rfl ?_
        refine g_iinc hz (v := v3 + 1) (L' := [(3, .int (v3 + 1)), (2, .int x11), (4, .ref x4), (0, .ref 173), (1, .int v1)]) 4 d_M_figuresToldBy_42 rfl (congrArg (fun q => v3 + q) ki_1) (by decide) rfl ?_
        refine g_goto hz (tgt := 4) d_M_figuresToldBy_45 (by decide) ?_
        refine g_sub [3, 4, 1, 0] rfl ?_
        exact ih v1 x11 (v3 + 1) _ h
def f_M_figuresToldBy (s : Mm) (a1 : Int32) : Option (Int32 × Mm) :=
  k_M_figuresToldBy_4 KF a1 0 0 s
set_option maxRecDepth 20000 in
theorem c_M_figuresToldBy (l : Launch) {s : Mm} {a1 : Int32} {r' : Int32} {s' : Mm}  (h : f_M_figuresToldBy s a1 = some (r', s')) : Cm l y_M_figuresToldBy b_M_figuresToldBy 5 (some .int) 4 89 [.ref 173, .int a1] s s' (some (.int r')) := by
  refine Cm.of (own := "PassedOnAndBetter$Mind") (by decide) rfl (fun ad => Nat.le_of_ble_eq_true rfl) ?_
  intro z hz hq
  show G l z b_M_figuresToldBy 5 0 [(0, .ref 173), (1, .int a1)] [] s
  unfold f_M_figuresToldBy at h
  refine g_iconst hz d_M_figuresToldBy_0 ki_0 ?_
  refine g_istore_n hz (L' := [(2, .int 0), (0, .ref 173), (1, .int a1)]) d_M_figuresToldBy_1 rfl (by decide) rfl ?_
  refine g_iconst hz d_M_figuresToldBy_2 ki_0 ?_
  refine g_istore_n hz (L' := [(3, .int 0), (2, .int 0), (0, .ref 173), (1, .int a1)]) d_M_figuresToldBy_3 rfl (by decide) rfl ?_
  refine g_sub [2, 3, 1, 0] rfl ?_
  exact w_M_figuresToldBy_4 hz hq KF a1 0 0 _ h
def k_M_keptsToldBy_4 : Nat → Int32 → Int32 → Int32 → Mm → Option (Int32 × Mm)
  | 0, _, _, _, _ => none
  | n + 1, v1, v2, v3, s => if 12 < v3 then
      some (v2, s)
    else
      bn (f_M_recall s) fun x4 s3 =>
      bn (f_C_giftAt s3 x4 v1) fun x7 s6 =>
      nm (mU s6 x7 3 v3) fun s8 =>
      bn (f_M_worthsAreAsTold s8 v1) fun x12 s11 =>
      if x12 = 0 then
        k_M_keptsToldBy_4 n v1 v2 (v3 + 1) s11
      else
        k_M_keptsToldBy_4 n v1 (v2 + 1) (v3 + 1) s11
set_option maxRecDepth 20000 in
theorem w_M_keptsToldBy_4 {l : Launch} {z : Zt} (hz : ZOk z b_M_keptsToldBy 4 "PassedOnAndBetter$Mind" 4 89) {r' : Int32} {s' : Mm} (hq : ZR z (some .int) s' (some (.int r'))) : ∀ (n : Nat) (v1 : Int32) (v2 : Int32) (v3 : Int32) (s : Mm), k_M_keptsToldBy_4 n v1 v2 v3 s = some (r', s') → G l z b_M_keptsToldBy 4 4 [(0, .ref 173), (1, .int v1), (2, .int v2), (3, .int v3)] [] s := by
  intro n
  induction n with
  | zero => intro v1 v2 v3 s h; unfold k_M_keptsToldBy_4 at h; cases h
  | succ n ih =>
    intro v1 v2 v3 s h
    unfold k_M_keptsToldBy_4 at h
    refine g_iload_n hz 3 d_M_keptsToldBy_4 rfl rfl ?_
    refine g_bipush hz (v := 12) d_M_keptsToldBy_5 (by decide) ?_
    refine g_icmp_gt hz (tgt := 39) d_M_keptsToldBy_7 (by decide) (fun c1 => ?_) (fun c1 => ?_)
    · replace h := (if_pos c1).symm.trans h
      refine g_iload_n hz 2 d_M_keptsToldBy_39 rfl rfl ?_
      exact g_iret hz (rti h hq) d_M_keptsToldBy_40
    · replace h := (if_neg c1).symm.trans h
      refine g_aload_n hz 0 d_M_keptsToldBy_10 rfl rfl ?_
      refine bn_use h (fun x4 s3 e2 h => ?_)
      have hx4 := rr_M_recall e2
      refine g_callVr hz (c_M_recall l e2) (by decide) rc_M rfl rfl m_M_recall mi_M_recall ms_M_recall q_632 ⟨Nat.le_of_ble_eq_true rfl, Nat.le_of_ble_eq_true rfl⟩ rfl (st := []) rfl (Nat.le_of_ble_eq_true rfl) d_M_keptsToldBy_11 ?_
      refine g_iload_n hz 1 d_M_keptsToldBy_14 rfl rfl ?_
      refine bn_use h (fun x7 s6 e5 h => ?_)
      have hx7 := rr_C_giftAt hx4 e5
      refine g_callVr hz (c_C_giftAt l hx4 e5) (iC_lt hx4) (rc_C hx4) rfl rfl m_C_giftAt mi_C_giftAt ms_C_giftAt q_633 ⟨Nat.le_of_ble_eq_true rfl, Nat.le_of_ble_eq_true rfl⟩ rfl (st := []) rfl (Nat.le_of_ble_eq_true rfl) d_M_keptsToldBy_15 ?_
      refine g_iload_n hz 3 d_M_keptsToldBy_18 rfl rfl ?_
      refine pf_G_kept hz hx7 q_185 d_M_keptsToldBy_19 (fun s8 e9 => ?_)
      replace h := nm_use h e9
      refine g_aload_n hz 0 d_M_keptsToldBy_22 rfl rfl ?_
      refine g_iload_n hz 1 d_M_keptsToldBy_23 rfl rfl ?_
      refine bn_use h (fun x12 s11 e10 h => ?_)
      refine g_callVi hz (c_M_worthsAreAsTold l e10) (by decide) rc_M rfl rfl m_M_worthsAreAsTold mi_M_worthsAreAsTold ms_M_worthsAreAsTold q_790 ⟨Nat.le_of_ble_eq_true rfl, Nat.le_of_ble_eq_true rfl⟩ rfl (st := []) rfl (Nat.le_of_ble_eq_true rfl) d_M_keptsToldBy_24 ?_
      refine g_if_eq hz (tgt := 33) d_M_keptsToldBy_27 (by decide) (fun c13 => ?_) (fun c13 => ?_)
      · replace h := (if_pos c13).symm.trans h
        refine g_iinc hz (v := v3 + 1) (L' := [(3, .int (v3 + 1)), (0, .ref 173), (1, .int v1), (2, .int v2)]) 3 d_M_keptsToldBy_33 rfl (congrArg (fun q => v3 + q) ki_1) (by decide) rfl ?_
        refine g_goto hz (tgt := 4) d_M_keptsToldBy_36 (by decide) ?_
        refine g_sub [1, 2, 3, 0] rfl ?_
        exact ih v1 v2 (v3 + 1) _ h
      · replace h := (if_neg c13).symm.trans h
        refine g_iinc hz (v := v2 + 1) (L' := [(2, .int (v2 + 1)), (0, .ref 173), (1, .int v1), (3, .int v3)]) 2 d_M_keptsToldBy_30 rfl (congrArg (fun q => v2 + q) ki_1) (by decide) rfl ?_
        refine g_iinc hz (v := v3 + 1) (L' := [(3, .int (v3 + 1)), (2, .int (v2 + 1)), (0, .ref 173), (1, .int v1)]) 3 d_M_keptsToldBy_33 rfl (congrArg (fun q => v3 + q) ki_1) (by decide) rfl ?_
        refine g_goto hz (tgt := 4) d_M_keptsToldBy_36 (by decide) ?_
        refine g_sub [2, 3, 1, 0] rfl ?_
        exact ih v1 (v2 + 1) (v3 + 1) _ h
def f_M_keptsToldBy (s : Mm) (a1 : Int32) : Option (Int32 × Mm) :=
  k_M_keptsToldBy_4 KF a1 0 0 s
set_option maxRecDepth 20000 in
theorem c_M_keptsToldBy (l : Launch) {s : Mm} {a1 : Int32} {r' : Int32} {s' : Mm}  (h : f_M_keptsToldBy s a1 = some (r', s')) : Cm l y_M_keptsToldBy b_M_keptsToldBy 4 (some .int) 4 89 [.ref 173, .int a1] s s' (some (.int r')) := by
  refine Cm.of (own := "PassedOnAndBetter$Mind") (by decide) rfl (fun ad => Nat.le_of_ble_eq_true rfl) ?_
  intro z hz hq
  show G l z b_M_keptsToldBy 4 0 [(0, .ref 173), (1, .int a1)] [] s
  unfold f_M_keptsToldBy at h
  refine g_iconst hz d_M_keptsToldBy_0 ki_0 ?_
  refine g_istore_n hz (L' := [(2, .int 0), (0, .ref 173), (1, .int a1)]) d_M_keptsToldBy_1 rfl (by decide) rfl ?_
  refine g_iconst hz d_M_keptsToldBy_2 ki_0 ?_
  refine g_istore_n hz (L' := [(3, .int 0), (2, .int 0), (0, .ref 173), (1, .int a1)]) d_M_keptsToldBy_3 rfl (by decide) rfl ?_
  refine g_sub [2, 3, 1, 0] rfl ?_
  exact w_M_keptsToldBy_4 hz hq KF a1 0 0 _ h
def f_X_whatItWas (s : Mm) (a1 : Int32) (a2 : Int32) : Option (Int32 × Mm) :=
  bn (f_X_giftNo s a1) fun x3 s2 =>
  bn (f_X_whatNo s2 a2 2) fun x6 s5 =>
  bn (f_X_first s5 x3 x6 0) fun x9 s8 =>
  if x9 = 0 then
    if a2 = 0 then
      bn (f_M_kindsToldBy s8 a1) fun x21 s20 =>
      some (x21, s20)
    else
      if a2 = 1 then
        bn (f_M_figuresToldBy s8 a1) fun x18 s17 =>
        some (x18, s17)
      else
        bn (f_M_keptsToldBy s8 a1) fun x15 s14 =>
        some (x15, s14)
  else
    bn (f_X_refuse s8 x9) fun x24 s23 =>
    some (x24, s23)
set_option maxRecDepth 20000 in
theorem c_X_whatItWas (l : Launch) {s : Mm} {a1 : Int32} {a2 : Int32} {r' : Int32} {s' : Mm}  (h : f_X_whatItWas s a1 a2 = some (r', s')) : Cm l y_X_whatItWas b_X_whatItWas 4 (some .int) 5 113 [.ref 165, .int a1, .int a2] s s' (some (.int r')) := by
  refine Cm.of (own := "PassedOnAndBetter") (by decide) rfl (fun ad => Nat.le_of_ble_eq_true rfl) ?_
  intro z hz hq
  show G l z b_X_whatItWas 4 0 [(0, .ref 165), (1, .int a1), (2, .int a2)] [] s
  unfold f_X_whatItWas at h
  refine g_aload_n hz 0 d_X_whatItWas_0 rfl rfl ?_
  refine g_iload_n hz 1 d_X_whatItWas_1 rfl rfl ?_
  refine bn_use h (fun x3 s2 e1 h => ?_)
  refine g_callVi hz (c_X_giftNo l e1) (by decide) rc_X rfl rfl m_X_giftNo mi_X_giftNo ms_X_giftNo q_555 ⟨Nat.le_of_ble_eq_true rfl, Nat.le_of_ble_eq_true rfl⟩ rfl (st := []) rfl (Nat.le_of_ble_eq_true rfl) d_X_whatItWas_2 ?_
  refine g_iload_n hz 2 d_X_whatItWas_5 rfl rfl ?_
  refine g_iconst hz d_X_whatItWas_6 ki_2 ?_
  refine bn_use h (fun x6 s5 e4 h => ?_)
  refine g_callSi hz (c_X_whatNo l e4) m_X_whatNo mi_X_whatNo q_535 ⟨Nat.le_of_ble_eq_true rfl, Nat.le_of_ble_eq_true rfl⟩ rfl (st := [.int x3]) rfl (Nat.le_of_ble_eq_true rfl) d_X_whatItWas_7 ?_
  refine g_iconst hz d_X_whatItWas_10 ki_0 ?_
  refine bn_use h (fun x9 s8 e7 h => ?_)
  refine g_callSi hz (c_X_first l e7) m_X_first mi_X_first q_538 ⟨Nat.le_of_ble_eq_true rfl, Nat.le_of_ble_eq_true rfl⟩ rfl (st := []) rfl (Nat.le_of_ble_eq_true rfl) d_X_whatItWas_11 ?_
  refine g_istore_n hz (L' := [(3, .int x9), (0, .ref 165), (1, .int a1), (2, .int a2)]) d_X_whatItWas_14 rfl (by decide) rfl ?_
  refine g_iload_n hz 0 d_X_whatItWas_15 rfl rfl ?_
  refine g_if_eq hz (tgt := 25) d_X_whatItWas_16 (by decide) (fun c10 => ?_) (fun c10 => ?_)
  · replace h := (if_pos c10).symm.trans h
    refine g_iload_n hz 3 d_X_whatItWas_25 rfl rfl ?_
    refine g_if_ne hz (tgt := 38) d_X_whatItWas_26 (by decide) (fun c11 => ?_) (fun c11 => ?_)
    · replace h := (if_neg c11).symm.trans h
      refine g_iload_n hz 3 d_X_whatItWas_38 rfl rfl ?_
      refine g_iconst hz d_X_whatItWas_39 ki_1 ?_
      refine g_icmp_ne hz (tgt := 54) d_X_whatItWas_40 (by decide) (fun c12 => ?_) (fun c12 => ?_)
      · replace h := (if_neg c12).symm.trans h
        refine g_aload_n hz 1 d_X_whatItWas_54 rfl rfl ?_
        refine gf_X_mind hz q_311 d_X_whatItWas_55 ?_
        refine g_iload_n hz 2 d_X_whatItWas_58 rfl rfl ?_
        refine bn_use h (fun x15 s14 e13 h => ?_)
        refine g_callVi hz (c_M_keptsToldBy l e13) (by decide) rc_M rfl rfl m_M_keptsToldBy mi_M_keptsToldBy ms_M_keptsToldBy q_803 ⟨Nat.le_of_ble_eq_true rfl, Nat.le_of_ble_eq_true rfl⟩ rfl (st := []) rfl (Nat.le_of_ble_eq_true rfl) d_X_whatItWas_59 ?_
        exact g_iret hz (rti h hq) d_X_whatItWas_62
      · replace h := (if_pos c12).symm.trans h
        refine g_aload_n hz 1 d_X_whatItWas_43 rfl rfl ?_
        refine gf_X_mind hz q_311 d_X_whatItWas_44 ?_
        refine g_iload_n hz 2 d_X_whatItWas_47 rfl rfl ?_
        refine bn_use h (fun x18 s17 e16 h => ?_)
        refine g_callVi hz (c_M_figuresToldBy l e16) (by decide) rc_M rfl rfl m_M_figuresToldBy mi_M_figuresToldBy ms_M_figuresToldBy q_799 ⟨Nat.le_of_ble_eq_true rfl, Nat.le_of_ble_eq_true rfl⟩ rfl (st := []) rfl (Nat.le_of_ble_eq_true rfl) d_X_whatItWas_48 ?_
        refine g_goto hz (tgt := 62) d_X_whatItWas_51 (by decide) ?_
        exact g_iret hz (rti h hq) d_X_whatItWas_62
    · replace h := (if_pos c11).symm.trans h
      refine g_aload_n hz 1 d_X_whatItWas_29 rfl rfl ?_
      refine gf_X_mind hz q_311 d_X_whatItWas_30 ?_
      refine g_iload_n hz 2 d_X_whatItWas_33 rfl rfl ?_
      refine bn_use h (fun x21 s20 e19 h => ?_)
      refine g_callVi hz (c_M_kindsToldBy l e19) (by decide) rc_M rfl rfl m_M_kindsToldBy mi_M_kindsToldBy ms_M_kindsToldBy q_781 ⟨Nat.le_of_ble_eq_true rfl, Nat.le_of_ble_eq_true rfl⟩ rfl (st := []) rfl (Nat.le_of_ble_eq_true rfl) d_X_whatItWas_34 ?_
      exact g_iret hz (rti h hq) d_X_whatItWas_37
  · replace h := (if_neg c10).symm.trans h
    refine g_aload_n hz 1 d_X_whatItWas_19 rfl rfl ?_
    refine g_iload_n hz 0 d_X_whatItWas_20 rfl rfl ?_
    refine bn_use h (fun x24 s23 e22 h => ?_)
    refine g_callVi hz (c_X_refuse l e22) (by decide) rc_X rfl rfl m_X_refuse mi_X_refuse ms_X_refuse q_349 ⟨Nat.le_of_ble_eq_true rfl, Nat.le_of_ble_eq_true rfl⟩ rfl (st := []) rfl (Nat.le_of_ble_eq_true rfl) d_X_whatItWas_21 ?_
    exact g_iret hz (rti h hq) d_X_whatItWas_24
