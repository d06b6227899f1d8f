def f_X_twoFriendsNo (s : Mm) (a1 : Int32) (a2 : Int32) : Option (Int32 × Mm) :=
  bn (f_X_friendNo s a1) fun x3 s2 =>
  bn (f_X_friendNo s2 a2) fun x6 s5 =>
  if a1 = a2 then
    bn (f_X_first s5 x3 x6 (-1)) fun x13 s12 =>
    some (x13, s12)
  else
    bn (f_X_first s5 x3 x6 0) fun x10 s9 =>
    some (x10, s9)
set_option maxRecDepth 20000 in
theorem c_X_twoFriendsNo (l : Launch) {s : Mm} {a1 : Int32} {a2 : Int32} {r' : Int32} {s' : Mm}  (h : f_X_twoFriendsNo s a1 a2 = some (r', s')) : Cm l y_X_twoFriendsNo b_X_twoFriendsNo 3 (some .int) 2 42 [.ref 165, .int a1, .int a2] s s' (some (.int r')) := by
  refine Cm.of (own := "PassedOnAndBetter") (by decide) rfl (fun ad => Nat.le_of_ble_eq_true rfl) ?_
  intro z hz hq
  show G l z b_X_twoFriendsNo 3 0 [(0, .ref 165), (1, .int a1), (2, .int a2)] [] s
  unfold f_X_twoFriendsNo at h
  refine g_aload_n hz 0 d_X_twoFriendsNo_0 rfl rfl ?_
  refine g_iload_n hz 1 d_X_twoFriendsNo_1 rfl rfl ?_
  refine bn_use h (fun x3 s2 e1 h => ?_)
  refine g_callVi hz (c_X_friendNo l e1) (by decide) rc_X rfl rfl m_X_friendNo mi_X_friendNo ms_X_friendNo q_530 ⟨Nat.le_of_ble_eq_true rfl, Nat.le_of_ble_eq_true rfl⟩ rfl (st := []) rfl (Nat.le_of_ble_eq_true rfl) d_X_twoFriendsNo_2 ?_
  refine g_aload_n hz 0 d_X_twoFriendsNo_5 rfl rfl ?_
  refine g_iload_n hz 2 d_X_twoFriendsNo_6 rfl rfl ?_
  refine bn_use h (fun x6 s5 e4 h => ?_)
  refine g_callVi hz (c_X_friendNo l e4) (by decide) rc_X rfl rfl m_X_friendNo mi_X_friendNo ms_X_friendNo q_530 ⟨Nat.le_of_ble_eq_true rfl, Nat.le_of_ble_eq_true rfl⟩ rfl (st := [.int x3]) rfl (Nat.le_of_ble_eq_true rfl) d_X_twoFriendsNo_7 ?_
  refine g_iload_n hz 1 d_X_twoFriendsNo_10 rfl rfl ?_
  refine g_iload_n hz 2 d_X_twoFriendsNo_11 rfl rfl ?_
  refine g_icmp_ne hz (tgt := 19) d_X_twoFriendsNo_12 (by decide) (fun c7 => ?_) (fun c7 => ?_)
  · replace h := (if_neg c7).symm.trans h
    refine g_iconst hz d_X_twoFriendsNo_19 ki_0 ?_
    refine bn_use h (fun x10 s9 e8 h => ?_)
    refine g_callSi hz (c_X_first l e8) m_X_first mi_X_first q_538 ⟨Nat.le_of_ble_eq_true rfl, Nat.le_of_ble_eq_true rfl⟩ rfl (st := []) rfl (Nat.le_of_ble_eq_true rfl) d_X_twoFriendsNo_20 ?_
    exact g_iret hz (rti h hq) d_X_twoFriendsNo_23
  · replace h := (if_pos c7).symm.trans h
    refine g_iconst hz d_X_twoFriendsNo_15 ki_m1 ?_
    refine g_goto hz (tgt := 20) d_X_twoFriendsNo_16 (by decide) ?_
    refine bn_use h (fun x13 s12 e11 h => ?_)
    refine g_callSi hz (c_X_first l e11) m_X_first mi_X_first q_538 ⟨Nat.le_of_ble_eq_true rfl, Nat.le_of_ble_eq_true rfl⟩ rfl (st := []) rfl (Nat.le_of_ble_eq_true rfl) d_X_twoFriendsNo_20 ?_
    exact g_iret hz (rti h hq) d_X_twoFriendsNo_23
def f_P_storedAt (s : Mm) (a1 : Int32) : Option (Nat × Mm) :=
  nm (((s 167 1) + a1) - ((s 167 1) + a1) / 8 * 8) fun x1 =>
  if x1 < 0 then
    none
  else
    if 8 ≤ x1 then
      none
    else
      gd x1 8 <|
      some (3 + x1.toNatClampNeg, s)
set_option maxRecDepth 20000 in
theorem c_P_storedAt (l : Launch) {s : Mm} {a1 : Int32} {r' : Nat} {s' : Mm}  (h : f_P_storedAt s a1 = some (r', s')) : Cm l y_P_storedAt b_P_storedAt 3 (some (.object "PassedOnAndBetter$Company")) 0 0 [.ref 167, .int a1] s s' (some (.ref r')) := by
  refine Cm.of (own := "PassedOnAndBetter$Past") (by decide) rfl (fun ad => Nat.le_of_ble_eq_true rfl) ?_
  intro z hz hq
  show G l z b_P_storedAt 3 0 [(0, .ref 167), (1, .int a1)] [] s
  unfold f_P_storedAt at h
  refine g_aload_n hz 0 d_P_storedAt_0 rfl rfl ?_
  refine gf_P_start hz q_241 d_P_storedAt_1 ?_
  refine g_iload_n hz 1 d_P_storedAt_4 rfl rfl ?_
  refine g_iadd hz d_P_storedAt_5 ?_
  refine g_bipush hz (v := 8) d_P_storedAt_6 (by decide) ?_
  refine g_irem hz d_P_storedAt_8 (by decide) ?_
  refine g_nmi (fun x1 e2 => ?_)
  replace h := nm_use h e2
  refine g_istore_n hz (L' := [(2, .int x1), (0, .ref 167), (1, .int a1)]) d_P_storedAt_9 rfl (by decide) rfl ?_
  refine g_iload_n hz 0 d_P_storedAt_10 rfl rfl ?_
  refine g_if_lt hz (tgt := 32) d_P_storedAt_11 (by decide) (fun c3 => ?_) (fun c3 => ?_)
  · replace h := (if_pos c3).symm.trans h
    cases h
  · replace h := (if_neg c3).symm.trans h
    refine g_iload_n hz 0 d_P_storedAt_14 rfl rfl ?_
    refine g_aload_n hz 1 d_P_storedAt_15 rfl rfl ?_
    refine gf_P_before hz q_240 d_P_storedAt_16 ?_
    refine g_alenC hz d_P_storedAt_19 ?_
    refine g_icmp_ge hz (tgt := 32) d_P_storedAt_20 (by decide) (fun c4 => ?_) (fun c4 => ?_)
    · replace h := (if_pos c4).symm.trans h
      cases h
    · replace h := (if_neg c4).symm.trans h
      refine g_aload_n hz 1 d_P_storedAt_23 rfl rfl ?_
      refine gf_P_before hz q_240 d_P_storedAt_24 ?_
      refine g_iload_n hz 0 d_P_storedAt_27 rfl rfl ?_
      obtain ⟨n5, h⟩ := gd_use h
      refine g_aaldC hz n5 d_P_storedAt_28 ?_
      refine g_goto hz (tgt := 33) d_P_storedAt_29 (by decide) ?_
      exact g_aret hz (rtr h hq) d_P_storedAt_33
theorem rr_P_storedAt {s s' : Mm} {a1 : Int32} {r' : Nat} (h : f_P_storedAt s a1 = some (r', s')) : iC r' := by
  unfold f_P_storedAt at h
  replace h := nm_use h rfl
  split at h
  · cases h
  · split at h
    · cases h
    · obtain ⟨hi, h⟩ := gd_use h
      cases h
      exact rg_C hi
def k_P_remember_32 (o1 : Nat) (s : Mm) : Option Mm :=
  bn (f_P_storedAt s (s 167 2)) fun x4 s3 =>
  bv (f_C_copyFrom s3 x4 o1) fun s6 =>
  nm (mU s6 167 2 ((s6 167 2) + 1)) fun s7 =>
  some s7
set_option maxRecDepth 20000 in
theorem w_P_remember_32 {l : Launch} {z : Zt} (hz : ZOk z b_P_remember 3 "PassedOnAndBetter$Past" 2 44) {s' : Mm} (hq : ZR z none s' none) (o1 : Nat) (ho1 : iC o1) (s : Mm) (h : k_P_remember_32 o1 s = some s') : G l z b_P_remember 3 32 [(0, .ref 167), (1, .ref o1)] [] s := by
  unfold k_P_remember_32 at h
  refine g_aload_n hz 0 d_P_remember_32 rfl rfl ?_
  refine g_aload_n hz 0 d_P_remember_33 rfl rfl ?_
  refine gf_P_held hz q_242 d_P_remember_34 ?_
  refine bn_use h (fun x4 s3 e2 h => ?_)
  have hx4 := rr_P_storedAt e2
  refine g_callVr hz (c_P_storedAt l e2) (by decide) rc_P rfl rfl m_P_storedAt mi_P_storedAt ms_P_storedAt q_589 ⟨Nat.le_of_ble_eq_true rfl, Nat.le_of_ble_eq_true rfl⟩ rfl (st := []) rfl (Nat.le_of_ble_eq_true rfl) d_P_remember_37 ?_
  refine g_astore_n hz (L' := [(2, .ref x4), (0, .ref 167), (1, .ref o1)]) d_P_remember_40 rfl (by decide) rfl ?_
  refine g_aload_n hz 0 d_P_remember_41 rfl rfl ?_
  refine g_ifnull hz d_P_remember_42 ?_
  refine g_aload_n hz 0 d_P_remember_45 rfl rfl ?_
  refine g_aload_n hz 2 d_P_remember_46 rfl rfl ?_
  refine bv_use h (fun s6 e5 h => ?_)
  refine g_callVv hz (c_C_copyFrom l hx4 ho1 e5) (iC_lt hx4) (rc_C hx4) rfl rfl m_C_copyFrom mi_C_copyFrom ms_C_copyFrom q_593 ⟨Nat.le_of_ble_eq_true rfl, Nat.le_of_ble_eq_true rfl⟩ rfl (st := []) rfl (Nat.le_of_ble_eq_true rfl) d_P_remember_47 ?_
  refine g_aload_n hz 1 d_P_remember_50 rfl rfl ?_
  refine g_dup hz d_P_remember_51 rfl ?_
  refine gf_P_held hz q_242 d_P_remember_52 ?_
  refine g_iconst hz d_P_remember_55 ki_1 ?_
  refine g_iadd hz d_P_remember_56 ?_
  refine pf_P_held hz q_242 d_P_remember_57 (fun s7 e8 => ?_)
  replace h := nm_use h e8
  exact g_vret hz (rtv h hq) d_P_remember_60
def f_P_remember (s : Mm) (o1 : Nat) : Option Mm :=
  if (s 167 2) = 8 then
    nm (mU s 167 1 (((s 167 1) + 1) - ((s 167 1) + 1) / 8 * 8)) fun s9 =>
    nm (mU s9 167 2 ((s9 167 2) - 1)) fun s11 =>
    k_P_remember_32 o1 s11
  else
    k_P_remember_32 o1 s
set_option maxRecDepth 20000 in
theorem c_P_remember (l : Launch) {s : Mm} {o1 : Nat} {s' : Mm} (ho1 : iC o1) (h : f_P_remember s o1 = some s') : Cm l y_P_remember b_P_remember 3 none 2 44 [.ref 167, .ref o1] s s' none := by
  refine Cm.of (own := "PassedOnAndBetter$Past") (by decide) rfl (fun ad => Nat.le_of_ble_eq_true rfl) ?_
  intro z hz hq
  show G l z b_P_remember 3 0 [(0, .ref 167), (1, .ref o1)] [] s
  unfold f_P_remember at h
  refine g_aload_n hz 0 d_P_remember_0 rfl rfl ?_
  refine gf_P_held hz q_242 d_P_remember_1 ?_
  refine g_bipush hz (v := 8) d_P_remember_4 (by decide) ?_
  refine g_icmp_ne hz (tgt := 32) d_P_remember_6 (by decide) (fun c1 => ?_) (fun c1 => ?_)
  · replace h := (if_neg c1).symm.trans h
    exact w_P_remember_32 hz hq o1 ho1 _ h
  · replace h := (if_pos c1).symm.trans h
    refine g_aload_n hz 0 d_P_remember_9 rfl rfl ?_
    refine g_aload_n hz 0 d_P_remember_10 rfl rfl ?_
    refine gf_P_start hz q_241 d_P_remember_11 ?_
    refine g_iconst hz d_P_remember_14 ki_1 ?_
    refine g_iadd hz d_P_remember_15 ?_
    refine g_bipush hz (v := 8) d_P_remember_16 (by decide) ?_
    refine g_irem hz d_P_remember_18 (by decide) ?_
    refine pf_P_start hz q_241 d_P_remember_19 (fun s9 e10 => ?_)
    replace h := nm_use h e10
    refine g_aload_n hz 0 d_P_remember_22 rfl rfl ?_
    refine g_dup hz d_P_remember_23 rfl ?_
    refine gf_P_held hz q_242 d_P_remember_24 ?_
    refine g_iconst hz d_P_remember_27 ki_1 ?_
    refine g_isub hz d_P_remember_28 ?_
    refine pf_P_held hz q_242 d_P_remember_29 (fun s11 e12 => ?_)
    replace h := nm_use h e12
    exact w_P_remember_32 hz hq o1 ho1 _ h
def f_X_nexts (s : Mm) (a1 : Int32) (a2 : Int32) : Option (Int32 × Mm) :=
  bn (f_X_twoFriendsNo s a1 a2) fun x3 s2 =>
  if x3 = 0 then
    bv (f_P_remember s2 0) fun s6 =>
    bn (f_C_turnNext s6 0 a1 a2) fun x9 s8 =>
    some (x9, s8)
  else
    bn (f_X_refuse s2 x3) fun x12 s11 =>
    some (x12, s11)
set_option maxRecDepth 20000 in
theorem c_X_nexts (l : Launch) {s : Mm} {a1 : Int32} {a2 : Int32} {r' : Int32} {s' : Mm}  (h : f_X_nexts s a1 a2 = some (r', s')) : Cm l y_X_nexts b_X_nexts 4 (some .int) 3 66 [.ref 165, .int a1, .int a2] s s' (some (.int r')) := by
  refine Cm.of (own := "PassedOnAndBetter") (by decide) rfl (fun ad => Nat.le_of_ble_eq_true rfl) ?_
  intro z hz hq
  show G l z b_X_nexts 4 0 [(0, .ref 165), (1, .int a1), (2, .int a2)] [] s
  unfold f_X_nexts at h
  refine g_aload_n hz 0 d_X_nexts_0 rfl rfl ?_
  refine g_iload_n hz 1 d_X_nexts_1 rfl rfl ?_
  refine g_iload_n hz 2 d_X_nexts_2 rfl rfl ?_
  refine bn_use h (fun x3 s2 e1 h => ?_)
  refine g_callVi hz (c_X_twoFriendsNo l e1) (by decide) rc_X rfl rfl m_X_twoFriendsNo mi_X_twoFriendsNo ms_X_twoFriendsNo q_581 ⟨Nat.le_of_ble_eq_true rfl, Nat.le_of_ble_eq_true rfl⟩ rfl (st := []) rfl (Nat.le_of_ble_eq_true rfl) d_X_nexts_3 ?_
  refine g_istore_n hz (L' := [(3, .int x3), (0, .ref 165), (1, .int a1), (2, .int a2)]) d_X_nexts_6 rfl (by decide) rfl ?_
  refine g_iload_n hz 0 d_X_nexts_7 rfl rfl ?_
  refine g_if_eq hz (tgt := 17) d_X_nexts_8 (by decide) (fun c4 => ?_) (fun c4 => ?_)
  · replace h := (if_pos c4).symm.trans h
    refine g_aload_n hz 1 d_X_nexts_17 rfl rfl ?_
    refine gf_X_past hz q_308 d_X_nexts_18 ?_
    refine g_aload_n hz 1 d_X_nexts_21 rfl rfl ?_
    refine gf_X_now hz q_306 d_X_nexts_22 ?_
    refine bv_use h (fun s6 e5 h => ?_)
    refine g_callVv hz (c_P_remember l (by decide) e5) (by decide) rc_P rfl rfl m_P_remember mi_P_remember ms_P_remember q_585 ⟨Nat.le_of_ble_eq_true rfl, Nat.le_of_ble_eq_true rfl⟩ rfl (st := []) rfl (Nat.le_of_ble_eq_true rfl) d_X_nexts_25 ?_
    refine g_aload_n hz 1 d_X_nexts_28 rfl rfl ?_
    refine gf_X_now hz q_306 d_X_nexts_29 ?_
    refine g_iload_n hz 2 d_X_nexts_32 rfl rfl ?_
    refine g_iload_n hz 3 d_X_nexts_33 rfl rfl ?_
    refine bn_use h (fun x9 s8 e7 h => ?_)
    refine g_callVi hz (c_C_turnNext l (by decide) e7) (iC_lt (by decide)) (rc_C (by decide)) rfl rfl m_C_turnNext mi_C_turnNext ms_C_turnNext q_594 ⟨Nat.le_of_ble_eq_true rfl, Nat.le_of_ble_eq_true rfl⟩ rfl (st := []) rfl (Nat.le_of_ble_eq_true rfl) d_X_nexts_34 ?_
    exact g_iret hz (rti h hq) d_X_nexts_37
  · replace h := (if_neg c4).symm.trans h
    refine g_aload_n hz 1 d_X_nexts_11 rfl rfl ?_
    refine g_iload_n hz 0 d_X_nexts_12 rfl rfl ?_
    refine bn_use h (fun x12 s11 e10 h => ?_)
    refine g_callVi hz (c_X_refuse l e10) (by decide) rc_X rfl rfl m_X_refuse mi_X_refuse ms_X_refuse q_349 ⟨Nat.le_of_ble_eq_true rfl, Nat.le_of_ble_eq_true rfl⟩ rfl (st := []) rfl (Nat.le_of_ble_eq_true rfl) d_X_nexts_13 ?_
    exact g_iret hz (rti h hq) d_X_nexts_16
def f_X_doors (s : Mm) (a1 : Int32) (a2 : Int32) : Option (Int32 × Mm) :=
  bn (f_X_friendNo s a1) fun x3 s2 =>
  bn (f_X_between s2 a2 1 99) fun x6 s5 =>
  bn (f_X_first s5 x3 x6 0) fun x9 s8 =>
  if x9 = 0 then
    bv (f_P_remember s8 0) fun s12 =>
    bn (f_C_friendAt s12 0 a1) fun x15 s14 =>
    nm (s14 x15 2) fun x16 =>
    nm (mU s14 x15 2 a2) fun s18 =>
    some (x16, s18)
  else
    bn (f_X_refuse s8 x9) fun x22 s21 =>
    some (x22, s21)
set_option maxRecDepth 20000 in
theorem c_X_doors (l : Launch) {s : Mm} {a1 : Int32} {a2 : Int32} {r' : Int32} {s' : Mm}  (h : f_X_doors s a1 a2 = some (r', s')) : Cm l y_X_doors b_X_doors 6 (some .int) 3 66 [.ref 165, .int a1, .int a2] s s' (some (.int r')) := by
  refine Cm.of (own := "PassedOnAndBetter") (by decide) rfl (fun ad => Nat.le_of_ble_eq_true rfl) ?_
  intro z hz hq
  show G l z b_X_doors 6 0 [(0, .ref 165), (1, .int a1), (2, .int a2)] [] s
  unfold f_X_doors at h
  refine g_aload_n hz 0 d_X_doors_0 rfl rfl ?_
  refine g_iload_n hz 1 d_X_doors_1 rfl rfl ?_
  refine bn_use h (fun x3 s2 e1 h => ?_)
  refine g_callVi hz (c_X_friendNo l e1) (by decide) rc_X rfl rfl m_X_friendNo mi_X_friendNo ms_X_friendNo q_530 ⟨Nat.le_of_ble_eq_true rfl, Nat.le_of_ble_eq_true rfl⟩ rfl (st := []) rfl (Nat.le_of_ble_eq_true rfl) d_X_doors_2 ?_
  refine g_iload_n hz 2 d_X_doors_5 rfl rfl ?_
  refine g_iconst hz d_X_doors_6 ki_1 ?_
  refine g_bipush hz (v := 99) d_X_doors_7 (by decide) ?_
  refine bn_use h (fun x6 s5 e4 h => ?_)
  refine g_callSi hz (c_X_between l e4) m_X_between mi_X_between q_335 ⟨Nat.le_of_ble_eq_true rfl, Nat.le_of_ble_eq_true rfl⟩ rfl (st := [.int x3]) rfl (Nat.le_of_ble_eq_true rfl) d_X_doors_9 ?_
  refine g_iconst hz d_X_doors_12 ki_0 ?_
  refine bn_use h (fun x9 s8 e7 h => ?_)
  refine g_callSi hz (c_X_first l e7) m_X_first mi_X_first q_538 ⟨Nat.le_of_ble_eq_true rfl, Nat.le_of_ble_eq_true rfl⟩ rfl (st := []) rfl (Nat.le_of_ble_eq_true rfl) d_X_doors_13 ?_
  refine g_istore_n hz (L' := [(3, .int x9), (0, .ref 165), (1, .int a1), (2, .int a2)]) d_X_doors_16 rfl (by decide) rfl ?_
  refine g_iload_n hz 0 d_X_doors_17 rfl rfl ?_
  refine g_if_eq hz (tgt := 27) d_X_doors_18 (by decide) (fun c10 => ?_) (fun c10 => ?_)
  · replace h := (if_pos c10).symm.trans h
    refine g_aload_n hz 1 d_X_doors_27 rfl rfl ?_
    refine gf_X_past hz q_308 d_X_doors_28 ?_
    refine g_aload_n hz 1 d_X_doors_31 rfl rfl ?_
    refine gf_X_now hz q_306 d_X_doors_32 ?_
    refine bv_use h (fun s12 e11 h => ?_)
    refine g_callVv hz (c_P_remember l (by decide) e11) (by decide) rc_P rfl rfl m_P_remember mi_P_remember ms_P_remember q_585 ⟨Nat.le_of_ble_eq_true rfl, Nat.le_of_ble_eq_true rfl⟩ rfl (st := []) rfl (Nat.le_of_ble_eq_true rfl) d_X_doors_35 ?_
    refine g_aload_n hz 1 d_X_doors_38 rfl rfl ?_
    refine gf_X_now hz q_306 d_X_doors_39 ?_
    refine g_iload_n hz 2 d_X_doors_42 rfl rfl ?_
    refine bn_use h (fun x15 s14 e13 h => ?_)
    have hx15 := rr_C_friendAt (by decide) e13
    refine g_callVr hz (c_C_friendAt l (by decide) e13) (iC_lt (by decide)) (rc_C (by decide)) rfl rfl m_C_friendAt mi_C_friendAt ms_C_friendAt q_545 ⟨Nat.le_of_ble_eq_true rfl, Nat.le_of_ble_eq_true rfl⟩ rfl (st := []) rfl (Nat.le_of_ble_eq_true rfl) d_X_doors_43 ?_
    refine g_astore hz (L' := [(4, .ref x15), (3, .int x9), (0, .ref 165), (1, .int a1), (2, .int a2)]) d_X_doors_46 (by decide) rfl ?_
    refine g_aload hz 0 d_X_doors_48 rfl ?_
    refine gf_F_door hz hx15 q_124 d_X_doors_50 ?_
    refine g_nmi (fun x16 e17 => ?_)
    replace h := nm_use h e17
    refine g_istore hz (L' := [(5, .int x16), (4, .ref x15), (3, .int x9), (0, .ref 165), (1, .int a1), (2, .int a2)]) d_X_doors_53 (by decide) rfl ?_
    refine g_aload hz 1 d_X_doors_55 rfl ?_
    refine g_iload_n hz 5 d_X_doors_57 rfl rfl ?_
    refine pf_F_door hz hx15 q_124 d_X_doors_58 (fun s18 e19 => ?_)
    replace h := nm_use h e19
    refine g_iload hz 0 d_X_doors_61 rfl ?_
    exact g_iret hz (rti h hq) d_X_doors_63
  · replace h := (if_neg c10).symm.trans h
    refine g_aload_n hz 1 d_X_doors_21 rfl rfl ?_
    refine g_iload_n hz 0 d_X_doors_22 rfl rfl ?_
    refine bn_use h (fun x22 s21 e20 h => ?_)
    refine g_callVi hz (c_X_refuse l e20) (by decide) rc_X rfl rfl m_X_refuse mi_X_refuse ms_X_refuse q_349 ⟨Nat.le_of_ble_eq_true rfl, Nat.le_of_ble_eq_true rfl⟩ rfl (st := []) rfl (Nat.le_of_ble_eq_true rfl) d_X_doors_23 ?_
    exact g_iret hz (rti h hq) d_X_doors_26
def f_X_hands (s : Mm) (a1 : Int32) (a2 : Int32) : Option (Int32 × Mm) :=
  bn (f_X_giftNo s a1) fun x3 s2 =>
  bn (f_X_friendNo s2 a2) fun x6 s5 =>
  bn (f_X_first s5 x3 x6 0) fun x9 s8 =>
  if x9 = 0 then
    bv (f_P_remember s8 0) fun s12 =>
    bn (f_C_giftAt s12 0 a1) fun x15 s14 =>
    nm (s14 x15 2) fun x16 =>
    bv (f_G_goTo s14 x15 a2) fun s19 =>
    some (x16, s19)
  else
    bn (f_X_refuse s8 x9) fun x22 s21 =>
    some (x22, s21)
set_option maxRecDepth 20000 in
theorem c_X_hands (l : Launch) {s : Mm} {a1 : Int32} {a2 : Int32} {r' : Int32} {s' : Mm}  (h : f_X_hands s a1 a2 = some (r', s')) : Cm l y_X_hands b_X_hands 6 (some .int) 3 66 [.ref 165, .int a1, .int a2] s s' (some (.int r')) := by
  refine Cm.of (own := "PassedOnAndBetter") (by decide) rfl (fun ad => Nat.le_of_ble_eq_true rfl) ?_
  intro z hz hq
  show G l z b_X_hands 6 0 [(0, .ref 165), (1, .int a1), (2, .int a2)] [] s
  unfold f_X_hands at h
  refine g_aload_n hz 0 d_X_hands_0 rfl rfl ?_
  refine g_iload_n hz 1 d_X_hands_1 rfl rfl ?_
  refine bn_use h (fun x3 s2 e1 h => ?_)
  refine g_callVi hz (c_X_giftNo l e1) (by decide) rc_X rfl rfl m_X_giftNo mi_X_giftNo ms_X_giftNo q_555 ⟨Nat.le_of_ble_eq_true rfl, Nat.le_of_ble_eq_true rfl⟩ rfl (st := []) rfl (Nat.le_of_ble_eq_true rfl) d_X_hands_2 ?_
  refine g_aload_n hz 0 d_X_hands_5 rfl rfl ?_
  refine g_iload_n hz 2 d_X_hands_6 rfl rfl ?_
  refine bn_use h (fun x6 s5 e4 h => ?_)
  refine g_callVi hz (c_X_friendNo l e4) (by decide) rc_X rfl rfl m_X_friendNo mi_X_friendNo ms_X_friendNo q_530 ⟨Nat.le_of_ble_eq_true rfl, Nat.le_of_ble_eq_true rfl⟩ rfl (st := [.int x3]) rfl (Nat.le_of_ble_eq_true rfl) d_X_hands_7 ?_
  refine g_iconst hz d_X_hands_10 ki_0 ?_
  refine bn_use h (fun x9 s8 e7 h => ?_)
  refine g_callSi hz (c_X_first l e7) m_X_first mi_X_first q_538 ⟨Nat.le_of_ble_eq_true rfl, Nat.le_of_ble_eq_true rfl⟩ rfl (st := []) rfl (Nat.le_of_ble_eq_true rfl) d_X_hands_11 ?_
  refine g_istore_n hz (L' := [(3, .int x9), (0, .ref 165), (1, .int a1), (2, .int a2)]) d_X_hands_14 rfl (by decide) rfl ?_
  refine g_iload_n hz 0 d_X_hands_15 rfl rfl ?_
  refine g_if_eq hz (tgt := 25) d_X_hands_16 (by decide) (fun c10 => ?_) (fun c10 => ?_)
  · replace h := (if_pos c10).symm.trans h
    refine g_aload_n hz 1 d_X_hands_25 rfl rfl ?_
    refine gf_X_past hz q_308 d_X_hands_26 ?_
    refine g_aload_n hz 1 d_X_hands_29 rfl rfl ?_
    refine gf_X_now hz q_306 d_X_hands_30 ?_
    refine bv_use h (fun s12 e11 h => ?_)
    refine g_callVv hz (c_P_remember l (by decide) e11) (by decide) rc_P rfl rfl m_P_remember mi_P_remember ms_P_remember q_585 ⟨Nat.le_of_ble_eq_true rfl, Nat.le_of_ble_eq_true rfl⟩ rfl (st := []) rfl (Nat.le_of_ble_eq_true rfl) d_X_hands_33 ?_
    refine g_aload_n hz 1 d_X_hands_36 rfl rfl ?_
    refine gf_X_now hz q_306 d_X_hands_37 ?_
    refine g_iload_n hz 2 d_X_hands_40 rfl rfl ?_
    refine bn_use h (fun x15 s14 e13 h => ?_)
    have hx15 := rr_C_giftAt (by decide) e13
    refine g_callVr hz (c_C_giftAt l (by decide) e13) (iC_lt (by decide)) (rc_C (by decide)) rfl rfl m_C_giftAt mi_C_giftAt ms_C_giftAt q_560 ⟨Nat.le_of_ble_eq_true rfl, Nat.le_of_ble_eq_true rfl⟩ rfl (st := []) rfl (Nat.le_of_ble_eq_true rfl) d_X_hands_41 ?_
    refine g_astore hz (L' := [(4, .ref x15), (3, .int x9), (0, .ref 165), (1, .int a1), (2, .int a2)]) d_X_hands_44 (by decide) rfl ?_
    refine g_aload hz 0 d_X_hands_46 rfl ?_
    refine gf_G_with hz hx15 q_182 d_X_hands_48 ?_
    refine g_nmi (fun x16 e17 => ?_)
    replace h := nm_use h e17
    refine g_istore hz (L' := [(5, .int x16), (4, .ref x15), (3, .int x9), (0, .ref 165), (1, .int a1), (2, .int a2)]) d_X_hands_51 (by decide) rfl ?_
    refine g_aload hz 1 d_X_hands_53 rfl ?_
    refine g_iload_n hz 5 d_X_hands_55 rfl rfl ?_
    refine bv_use h (fun s19 e18 h => ?_)
    refine g_callVv hz (c_G_goTo l hx15 e18) (iG_lt hx15) (rc_G hx15) rfl rfl m_G_goTo mi_G_goTo ms_G_goTo q_603 ⟨Nat.le_of_ble_eq_true rfl, Nat.le_of_ble_eq_true rfl⟩ rfl (st := []) rfl (Nat.le_of_ble_eq_true rfl) d_X_hands_56 ?_
    refine g_iload hz 0 d_X_hands_59 rfl ?_
    exact g_iret hz (rti h hq) d_X_hands_61
  · replace h := (if_neg c10).symm.trans h
    refine g_aload_n hz 1 d_X_hands_19 rfl rfl ?_
    refine g_iload_n hz 0 d_X_hands_20 rfl rfl ?_
    refine bn_use h (fun x22 s21 e20 h => ?_)
    refine g_callVi hz (c_X_refuse l e20) (by decide) rc_X rfl rfl m_X_refuse mi_X_refuse ms_X_refuse q_349 ⟨Nat.le_of_ble_eq_true rfl, Nat.le_of_ble_eq_true rfl⟩ rfl (st := []) rfl (Nat.le_of_ble_eq_true rfl) d_X_hands_21 ?_
    exact g_iret hz (rti h hq) d_X_hands_24
def k_C_allWorth_4 : Nat → Nat → Int32 → Int32 → Mm → Option (Int32 × Mm)
  | 0, _, _, _, _ => none
  | n + 1, o, v1, v2, s => if (s o 5) ≤ v2 then
      some (v1, s)
    else
      bn (f_C_giftAt s o v2) fun x4 s3 =>
      nm (v1 + (s3 x4 0)) fun x5 =>
      k_C_allWorth_4 n o x5 (v2 + 1) s3
set_option maxRecDepth 20000 in
theorem w_C_allWorth_4 {l : Launch} {z : Zt} (hz : ZOk z b_C_allWorth 3 "PassedOnAndBetter$Company" 1 22) {r' : Int32} {s' : Mm} (hq : ZR z (some .int) s' (some (.int r'))) : ∀ (n : Nat) (o : Nat) (v1 : Int32) (v2 : Int32) (ho : iC o) (s : Mm), k_C_allWorth_4 n o v1 v2 s = some (r', s') → G l z b_C_allWorth 3 4 [(0, .ref o), (1, .int v1), (2, .int v2)] [] s := by
  intro n
  induction n with
  | zero => intro o v1 v2 ho s h; unfold k_C_allWorth_4 at h; cases h
  | succ n ih =>
    intro o v1 v2 ho s h
    unfold k_C_allWorth_4 at h
    refine g_iload_n hz 2 d_C_allWorth_4 rfl rfl ?_
    refine g_aload_n hz 0 d_C_allWorth_5 rfl rfl ?_
    refine gf_C_gifts hz ho q_210 d_C_allWorth_6 ?_
    refine g_icmp_ge hz (tgt := 29) d_C_allWorth_9 (by decide) (fun c1 => ?_) (fun c1 => ?_)
    · replace h := (if_pos c1).symm.trans h
      refine g_iload_n hz 1 d_C_allWorth_29 rfl rfl ?_
      exact g_iret hz (rti h hq) d_C_allWorth_30
    · replace h := (if_neg c1).symm.trans h
      refine g_iload_n hz 1 d_C_allWorth_12 rfl rfl ?_
      refine g_aload_n hz 0 d_C_allWorth_13 rfl rfl ?_
      refine g_iload_n hz 2 d_C_allWorth_14 rfl rfl ?_
      refine bn_use h (fun x4 s3 e2 h => ?_)
      have hx4 := rr_C_giftAt ho e2
      refine g_callVr hz (c_C_giftAt l ho e2) (iC_lt ho) (rc_C ho) rfl rfl m_C_giftAt mi_C_giftAt ms_C_giftAt q_377 ⟨Nat.le_of_ble_eq_true rfl, Nat.le_of_ble_eq_true rfl⟩ rfl (st := [.int v1]) rfl (Nat.le_of_ble_eq_true rfl) d_C_allWorth_15 ?_
      refine gf_G_worth hz hx4 q_176 d_C_allWorth_18 ?_
      refine g_iadd hz d_C_allWorth_21 ?_
      refine g_nmi (fun x5 e6 => ?_)
      replace h := nm_use h e6
      refine g_istore_n hz (L' := [(1, .int x5), (0, .ref o), (2, .int v2)]) d_C_allWorth_22 rfl (by decide) rfl ?_
      refine g_iinc hz (v := v2 + 1) (L' := [(2, .int (v2 + 1)), (1, .int x5), (0, .ref o)]) 2 d_C_allWorth_23 rfl (congrArg (fun q => v2 + q) ki_1) (by decide) rfl ?_
      refine g_goto hz (tgt := 4) d_C_allWorth_26 (by decide) ?_
      refine g_sub [2, 1, 0] rfl ?_
      exact ih o x5 (v2 + 1) ho _ h
def f_C_allWorth (s : Mm) (o : Nat) : Option (Int32 × Mm) :=
  k_C_allWorth_4 KF o 0 0 s
set_option maxRecDepth 20000 in
theorem c_C_allWorth (l : Launch) {s : Mm} {o : Nat} {r' : Int32} {s' : Mm} (ho : iC o) (h : f_C_allWorth s o = some (r', s')) : Cm l y_C_allWorth b_C_allWorth 3 (some .int) 1 22 [.ref o] s s' (some (.int r')) := by
  refine Cm.of (own := "PassedOnAndBetter$Company") (by decide) rfl (fun ad => Nat.le_of_ble_eq_true rfl) ?_
  intro z hz hq
  show G l z b_C_allWorth 3 0 [(0, .ref o)] [] s
  unfold f_C_allWorth at h
  refine g_iconst hz d_C_allWorth_0 ki_0 ?_
  refine g_istore_n hz (L' := [(1, .int 0), (0, .ref o)]) d_C_allWorth_1 rfl (by decide) rfl ?_
  refine g_iconst hz d_C_allWorth_2 ki_0 ?_
  refine g_istore_n hz (L' := [(2, .int 0), (1, .int 0), (0, .ref o)]) d_C_allWorth_3 rfl (by decide) rfl ?_
  refine g_sub [2, 1, 0] rfl ?_
  exact w_C_allWorth_4 hz hq KF o 0 0 ho _ h
def k_X_months_30 (v1 : Int32) (v2 : Int32) (s : Mm) : Option (Int32 × Mm) :=
  if v2 = 0 then
    bv (f_P_remember s 0) fun s7 =>
    bv (f_C_pass s7 0 v1) fun s9 =>
    bn (f_C_allWorth s9 0) fun x12 s11 =>
    some (x12, s11)
  else
    bn (f_X_refuse s v2) fun x15 s14 =>
    some (x15, s14)
set_option maxRecDepth 20000 in
theorem w_X_months_30 {l : Launch} {z : Zt} (hz : ZOk z b_X_months 3 "PassedOnAndBetter" 4 89) {r' : Int32} {s' : Mm} (hq : ZR z (some .int) s' (some (.int r'))) (v1 : Int32) (v2 : Int32) (s : Mm) (h : k_X_months_30 v1 v2 s = some (r', s')) : G l z b_X_months 3 30 [(0, .ref 165), (1, .int v1), (2, .int v2)] [] s := by
  unfold k_X_months_30 at h
  refine g_iload_n hz 2 d_X_months_30 rfl rfl ?_
  refine g_if_eq hz (tgt := 40) d_X_months_31 (by decide) (fun c5 => ?_) (fun c5 => ?_)
  · replace h := (if_pos c5).symm.trans h
    refine g_aload_n hz 0 d_X_months_40 rfl rfl ?_
    refine gf_X_past hz q_308 d_X_months_41 ?_
    refine g_aload_n hz 0 d_X_months_44 rfl rfl ?_
    refine gf_X_now hz q_306 d_X_months_45 ?_
    refine bv_use h (fun s7 e6 h => ?_)
    refine g_callVv hz (c_P_remember l (by decide) e6) (by decide) rc_P rfl rfl m_P_remember mi_P_remember ms_P_remember q_585 ⟨Nat.le_of_ble_eq_true rfl, Nat.le_of_ble_eq_true rfl⟩ rfl (st := []) rfl (Nat.le_of_ble_eq_true rfl) d_X_months_48 ?_
    refine g_aload_n hz 0 d_X_months_51 rfl rfl ?_
    refine gf_X_now hz q_306 d_X_months_52 ?_
    refine g_iload_n hz 1 d_X_months_55 rfl rfl ?_
    refine bv_use h (fun s9 e8 h => ?_)
    refine g_callVv hz (c_C_pass l (by decide) e8) (iC_lt (by decide)) (rc_C (by decide)) rfl rfl m_C_pass mi_C_pass ms_C_pass q_608 ⟨Nat.le_of_ble_eq_true rfl, Nat.le_of_ble_eq_true rfl⟩ rfl (st := []) rfl (Nat.le_of_ble_eq_true rfl) d_X_months_56 ?_
    refine g_aload_n hz 0 d_X_months_59 rfl rfl ?_
    refine gf_X_now hz q_306 d_X_months_60 ?_
    refine bn_use h (fun x12 s11 e10 h => ?_)
    refine g_callVi hz (c_C_allWorth l (by decide) e10) (iC_lt (by decide)) (rc_C (by decide)) rfl rfl m_C_allWorth mi_C_allWorth ms_C_allWorth q_609 ⟨Nat.le_of_ble_eq_true rfl, Nat.le_of_ble_eq_true rfl⟩ rfl (st := []) rfl (Nat.le_of_ble_eq_true rfl) d_X_months_63 ?_
    exact g_iret hz (rti h hq) d_X_months_66
  · replace h := (if_neg c5).symm.trans h
    refine g_aload_n hz 0 d_X_months_34 rfl rfl ?_
    refine g_iload_n hz 2 d_X_months_35 rfl rfl ?_
    refine bn_use h (fun x15 s14 e13 h => ?_)
    refine g_callVi hz (c_X_refuse l e13) (by decide) rc_X rfl rfl m_X_refuse mi_X_refuse ms_X_refuse q_349 ⟨Nat.le_of_ble_eq_true rfl, Nat.le_of_ble_eq_true rfl⟩ rfl (st := []) rfl (Nat.le_of_ble_eq_true rfl) d_X_months_36 ?_
    exact g_iret hz (rti h hq) d_X_months_39
def f_X_months (s : Mm) (a1 : Int32) : Option (Int32 × Mm) :=
  bn (f_X_between s a1 1 60) fun x3 s2 =>
  if x3 = 0 then
    if ((s2 0 6) + a1) ≤ 999 then
      k_X_months_30 a1 x3 s2
    else
      k_X_months_30 a1 (-6) s2
  else
    k_X_months_30 a1 x3 s2
set_option maxRecDepth 20000 in
theorem c_X_months (l : Launch) {s : Mm} {a1 : Int32} {r' : Int32} {s' : Mm}  (h : f_X_months s a1 = some (r', s')) : Cm l y_X_months b_X_months 3 (some .int) 4 89 [.ref 165, .int a1] s s' (some (.int r')) := by
  refine Cm.of (own := "PassedOnAndBetter") (by decide) rfl (fun ad => Nat.le_of_ble_eq_true rfl) ?_
  intro z hz hq
  show G l z b_X_months 3 0 [(0, .ref 165), (1, .int a1)] [] s
  unfold f_X_months at h
  refine g_iload_n hz 1 d_X_months_0 rfl rfl ?_
  refine g_iconst hz d_X_months_1 ki_1 ?_
  refine g_bipush hz (v := 60) d_X_months_2 (by decide) ?_
  refine bn_use h (fun x3 s2 e1 h => ?_)
  refine g_callSi hz (c_X_between l e1) m_X_between mi_X_between q_335 ⟨Nat.le_of_ble_eq_true rfl, Nat.le_of_ble_eq_true rfl⟩ rfl (st := []) rfl (Nat.le_of_ble_eq_true rfl) d_X_months_4 ?_
  refine g_istore_n hz (L' := [(2, .int x3), (0, .ref 165), (1, .int a1)]) d_X_months_7 rfl (by decide) rfl ?_
  refine g_iload_n hz 0 d_X_months_8 rfl rfl ?_
  refine g_if_ne hz (tgt := 30) d_X_months_9 (by decide) (fun c4 => ?_) (fun c4 => ?_)
  · replace h := (if_neg c4).symm.trans h
    refine g_sub [1, 2, 0] rfl ?_
    exact w_X_months_30 hz hq a1 x3 _ h
  · replace h := (if_pos c4).symm.trans h
    refine g_aload_n hz 1 d_X_months_12 rfl rfl ?_
    refine gf_X_now hz q_306 d_X_months_13 ?_
    refine gf_C_month hz (by decide) q_214 d_X_months_16 ?_
    refine g_iload_n hz 2 d_X_months_19 rfl rfl ?_
    refine g_iadd hz d_X_months_20 ?_
    refine g_sipush hz (v := 999) d_X_months_21 (by decide) ?_
    refine g_icmp_le hz (tgt := 30) d_X_months_24 (by decide) (fun c16 => ?_) (fun c16 => ?_)
    · replace h := (if_pos c16).symm.trans h
      refine g_sub [1, 2, 0] rfl ?_
      exact w_X_months_30 hz hq a1 x3 _ h
    · replace h := (if_neg c16).symm.trans h
      refine g_bipush hz (v := (-6)) d_X_months_27 (by decide) ?_
      refine g_istore_n hz (L' := [(2, .int (-6)), (0, .ref 165), (1, .int a1)]) d_X_months_29 rfl (by decide) rfl ?_
      refine g_sub [1, 2, 0] rfl ?_
      exact w_X_months_30 hz hq a1 (-6) _ h
def f_P_takeBack (s : Mm) (o1 : Nat) : Option Mm :=
  if (s 167 2) ≤ 0 then
    some s
  else
    nm (mU s 167 2 ((s 167 2) - 1)) fun s2 =>
    bn (f_P_storedAt s2 (s2 167 2)) fun x6 s5 =>
    bv (f_C_copyFrom s5 o1 x6) fun s8 =>
    some s8
set_option maxRecDepth 20000 in
theorem c_P_takeBack (l : Launch) {s : Mm} {o1 : Nat} {s' : Mm} (ho1 : iC o1) (h : f_P_takeBack s o1 = some s') : Cm l y_P_takeBack b_P_takeBack 2 none 2 44 [.ref 167, .ref o1] s s' none := by
  refine Cm.of (own := "PassedOnAndBetter$Past") (by decide) rfl (fun ad => Nat.le_of_ble_eq_true rfl) ?_
  intro z hz hq
  show G l z b_P_takeBack 2 0 [(0, .ref 167), (1, .ref o1)] [] s
  unfold f_P_takeBack at h
  refine g_aload_n hz 0 d_P_takeBack_0 rfl rfl ?_
  refine gf_P_held hz q_242 d_P_takeBack_1 ?_
  refine g_if_le hz (tgt := 11) d_P_takeBack_4 (by decide) (fun c1 => ?_) (fun c1 => ?_)
  · replace h := (if_pos c1).symm.trans h
    exact g_vret hz (rtv h hq) d_P_takeBack_11
  · replace h := (if_neg c1).symm.trans h
    refine g_aload_n hz 1 d_P_takeBack_7 rfl rfl ?_
    refine g_ifnonnull hz (tgt := 12) d_P_takeBack_8 (by decide) ?_
    refine g_aload_n hz 0 d_P_takeBack_12 rfl rfl ?_
    refine g_dup hz d_P_takeBack_13 rfl ?_
    refine gf_P_held hz q_242 d_P_takeBack_14 ?_
    refine g_iconst hz d_P_takeBack_17 ki_1 ?_
    refine g_isub hz d_P_takeBack_18 ?_
    refine pf_P_held hz q_242 d_P_takeBack_19 (fun s2 e3 => ?_)
    replace h := nm_use h e3
    refine g_aload_n hz 1 d_P_takeBack_22 rfl rfl ?_
    refine g_aload_n hz 0 d_P_takeBack_23 rfl rfl ?_
    refine g_aload_n hz 0 d_P_takeBack_24 rfl rfl ?_
    refine gf_P_held hz q_242 d_P_takeBack_25 ?_
    refine bn_use h (fun x6 s5 e4 h => ?_)
    have hx6 := rr_P_storedAt e4
    refine g_callVr hz (c_P_storedAt l e4) (by decide) rc_P rfl rfl m_P_storedAt mi_P_storedAt ms_P_storedAt q_589 ⟨Nat.le_of_ble_eq_true rfl, Nat.le_of_ble_eq_true rfl⟩ rfl (st := [.ref o1]) rfl (Nat.le_of_ble_eq_true rfl) d_P_takeBack_28 ?_
    refine bv_use h (fun s8 e7 h => ?_)
    refine g_callVv hz (c_C_copyFrom l ho1 hx6 e7) (iC_lt ho1) (rc_C ho1) rfl rfl m_C_copyFrom mi_C_copyFrom ms_C_copyFrom q_593 ⟨Nat.le_of_ble_eq_true rfl, Nat.le_of_ble_eq_true rfl⟩ rfl (st := []) rfl (Nat.le_of_ble_eq_true rfl) d_P_takeBack_31 ?_
    exact g_vret hz (rtv h hq) d_P_takeBack_34
def f_X_back (s : Mm) : Option (Int32 × Mm) :=
  if (s 167 2) = 0 then
    bn (f_X_refuse s (-3)) fun x6 s5 =>
    some (x6, s5)
  else
    bv (f_P_takeBack s 0) fun s3 =>
    some (s3 167 2, s3)
set_option maxRecDepth 20000 in
theorem c_X_back (l : Launch) {s : Mm}  {r' : Int32} {s' : Mm}  (h : f_X_back s = some (r', s')) : Cm l y_X_back b_X_back 1 (some .int) 3 65 [.ref 165] s s' (some (.int r')) := by
  refine Cm.of (own := "PassedOnAndBetter") (by decide) rfl (fun ad => Nat.le_of_ble_eq_true rfl) ?_
  intro z hz hq
  show G l z b_X_back 1 0 [(0, .ref 165)] [] s
  unfold f_X_back at h
  refine g_aload_n hz 0 d_X_back_0 rfl rfl ?_
  refine gf_X_past hz q_308 d_X_back_1 ?_
  refine gf_P_held hz q_243 d_X_back_4 ?_
  refine g_if_ne hz (tgt := 17) d_X_back_7 (by decide) (fun c1 => ?_) (fun c1 => ?_)
  · replace h := (if_neg c1).symm.trans h
    refine g_aload_n hz 0 d_X_back_17 rfl rfl ?_
    refine gf_X_past hz q_308 d_X_back_18 ?_
    refine g_aload_n hz 0 d_X_back_21 rfl rfl ?_
    refine gf_X_now hz q_306 d_X_back_22 ?_
    refine bv_use h (fun s3 e2 h => ?_)
    refine g_callVv hz (c_P_takeBack l (by decide) e2) (by decide) rc_P rfl rfl m_P_takeBack mi_P_takeBack ms_P_takeBack q_617 ⟨Nat.le_of_ble_eq_true rfl, Nat.le_of_ble_eq_true rfl⟩ rfl (st := []) rfl (Nat.le_of_ble_eq_true rfl) d_X_back_25 ?_
    refine g_aload_n hz 0 d_X_back_28 rfl rfl ?_
    refine gf_X_past hz q_308 d_X_back_29 ?_
    refine gf_P_held hz q_243 d_X_back_32 ?_
    exact g_iret hz (rti h hq) d_X_back_35
  · replace h := (if_pos c1).symm.trans h
    refine g_aload_n hz 0 d_X_back_10 rfl rfl ?_
    refine g_bipush hz (v := (-3)) d_X_back_11 (by decide) ?_
    refine bn_use h (fun x6 s5 e4 h => ?_)
    refine g_callVi hz (c_X_refuse l e4) (by decide) rc_X rfl rfl m_X_refuse mi_X_refuse ms_X_refuse q_349 ⟨Nat.le_of_ble_eq_true rfl, Nat.le_of_ble_eq_true rfl⟩ rfl (st := []) rfl (Nat.le_of_ble_eq_true rfl) d_X_back_13 ?_
    exact g_iret hz (rti h hq) d_X_back_16
def f_X_spanNo (s : Mm) (a0 : Int32) : Option (Int32 × Mm) :=
  bn (f_X_between s a0 0 60) fun x3 s2 =>
  some (x3, s2)
set_option maxRecDepth 20000 in
theorem c_X_spanNo (l : Launch) {s : Mm} {a0 : Int32} {r' : Int32} {s' : Mm}  (h : f_X_spanNo s a0 = some (r', s')) : Cm l y_X_spanNo b_X_spanNo 1 (some .int) 1 22 [.int a0] s s' (some (.int r')) := by
  refine Cm.of (own := "PassedOnAndBetter") (by decide) rfl (fun ad => Nat.le_of_ble_eq_true rfl) ?_
  intro z hz hq
  show G l z b_X_spanNo 1 0 [(0, .int a0)] [] s
  unfold f_X_spanNo at h
  refine g_iload_n hz 0 d_X_spanNo_0 rfl rfl ?_
  refine g_iconst hz d_X_spanNo_1 ki_0 ?_
  refine g_bipush hz (v := 60) d_X_spanNo_2 (by decide) ?_
  refine bn_use h (fun x3 s2 e1 h => ?_)
  refine g_callSi hz (c_X_between l e1) m_X_between mi_X_between q_335 ⟨Nat.le_of_ble_eq_true rfl, Nat.le_of_ble_eq_true rfl⟩ rfl (st := []) rfl (Nat.le_of_ble_eq_true rfl) d_X_spanNo_4 ?_
  exact g_iret hz (rti h hq) d_X_spanNo_7
def k_M_passGift_2 : Nat → Nat → Int32 → Int32 → Mm → Option Mm
  | 0, _, _, _, _ => none
  | n + 1, o1, v2, v3, s => if v2 ≤ v3 then
      some s
    else
      bv (f_G_passMonth s o1 2) fun s3 =>
      k_M_passGift_2 n o1 v2 (v3 + 1) s3
set_option maxRecDepth 20000 in
theorem w_M_passGift_2 {l : Launch} {z : Zt} (hz : ZOk z b_M_passGift 4 "PassedOnAndBetter$Mind" 3 66) {s' : Mm} (hq : ZR z none s' none) : ∀ (n : Nat) (o1 : Nat) (v2 : Int32) (v3 : Int32) (ho1 : iG o1) (s : Mm), k_M_passGift_2 n o1 v2 v3 s = some s' → G l z b_M_passGift 4 2 [(0, .ref 173), (1, .ref o1), (2, .int v2), (3, .int v3)] [] s := by
  intro n
  induction n with
  | zero => intro o1 v2 v3 ho1 s h; unfold k_M_passGift_2 at h; cases h
  | succ n ih =>
    intro o1 v2 v3 ho1 s h
    unfold k_M_passGift_2 at h
    refine g_iload_n hz 3 d_M_passGift_2 rfl rfl ?_
    refine g_iload_n hz 2 d_M_passGift_3 rfl rfl ?_
    refine g_icmp_ge hz (tgt := 25) d_M_passGift_4 (by decide) (fun c1 => ?_) (fun c1 => ?_)
    · replace h := (if_pos c1).symm.trans h
      exact g_vret hz (rtv h hq) d_M_passGift_25
    · replace h := (if_neg c1).symm.trans h
      refine g_aload_n hz 1 d_M_passGift_7 rfl rfl ?_
      refine g_ifnull hz d_M_passGift_8 ?_
      refine g_aload_n hz 1 d_M_passGift_11 rfl rfl ?_
      refine g_aload_n hz 0 d_M_passGift_12 rfl rfl ?_
      refine gf_M_thought hz q_292 d_M_passGift_13 ?_
      refine bv_use h (fun s3 e2 h => ?_)
      refine g_callVv hz (c_G_passMonth l ho1 (by decide) e2) (iG_lt ho1) (rc_G ho1) rfl rfl m_G_passMonth mi_G_passMonth ms_G_passMonth q_638 ⟨Nat.le_of_ble_eq_true rfl, Nat.le_of_ble_eq_true rfl⟩ rfl (st := []) rfl (Nat.le_of_ble_eq_true rfl) d_M_passGift_16 ?_
      refine g_iinc hz (v := v3 + 1) (L' := [(3, .int (v3 + 1)), (0, .ref 173), (1, .ref o1), (2, .int v2)]) 3 d_M_passGift_19 rfl (congrArg (fun q => v3 + q) ki_1) (by decide) rfl ?_
      refine g_goto hz (tgt := 2) d_M_passGift_22 (by decide) ?_
      refine g_sub [1, 2, 3, 0] rfl ?_
      exact ih o1 v2 (v3 + 1) ho1 _ h
def f_M_passGift (s : Mm) (o1 : Nat) (a2 : Int32) : Option Mm :=
  k_M_passGift_2 KF o1 a2 0 s
set_option maxRecDepth 20000 in
theorem c_M_passGift (l : Launch) {s : Mm} {o1 : Nat} {a2 : Int32} {s' : Mm} (ho1 : iG o1) (h : f_M_passGift s o1 a2 = some s') : Cm l y_M_passGift b_M_passGift 4 none 3 66 [.ref 173, .ref o1, .int a2] s s' none := by
  refine Cm.of (own := "PassedOnAndBetter$Mind") (by decide) rfl (fun ad => Nat.le_of_ble_eq_true rfl) ?_
  intro z hz hq
  show G l z b_M_passGift 4 0 [(0, .ref 173), (1, .ref o1), (2, .int a2)] [] s
  unfold f_M_passGift at h
  refine g_iconst hz d_M_passGift_0 ki_0 ?_
  refine g_istore_n hz (L' := [(3, .int 0), (0, .ref 173), (1, .ref o1), (2, .int a2)]) d_M_passGift_1 rfl (by decide) rfl ?_
  refine g_sub [1, 2, 3, 0] rfl ?_
  exact w_M_passGift_2 hz hq KF o1 a2 0 ho1 _ h
def f_M_giftThen (s : Mm) (a1 : Int32) (a2 : Int32) (a3 : Int32) : Option (Int32 × Mm) :=
  bn (f_M_recall s) fun x3 s2 =>
  bn (f_C_giftAt s2 x3 a1) fun x6 s5 =>
  bv (f_M_passGift s5 x6 a2) fun s8 =>
  if a3 = 0 then
    some (s8 x6 2, s8)
  else if a3 = 1 then
    some (s8 x6 0, s8)
  else if a3 = 2 then
    some (s8 x6 1, s8)
  else
    some (s8 x6 5, s8)
set_option maxRecDepth 20000 in
theorem c_M_giftThen (l : Launch) {s : Mm} {a1 : Int32} {a2 : Int32} {a3 : Int32} {r' : Int32} {s' : Mm}  (h : f_M_giftThen s a1 a2 a3 = some (r', s')) : Cm l y_M_giftThen b_M_giftThen 5 (some .int) 4 89 [.ref 173, .int a1, .int a2, .int a3] s s' (some (.int r')) := by
  refine Cm.of (own := "PassedOnAndBetter$Mind") (by decide) rfl (fun ad => Nat.le_of_ble_eq_true rfl) ?_
  intro z hz hq
  show G l z b_M_giftThen 5 0 [(0, .ref 173), (1, .int a1), (2, .int a2), (3, .int a3)] [] s
  unfold f_M_giftThen at h
  refine g_aload_n hz 0 d_M_giftThen_0 rfl rfl ?_
  refine bn_use h (fun x3 s2 e1 h => ?_)
  have hx3 := rr_M_recall e1
  refine g_callVr hz (c_M_recall l e1) (by decide) rc_M rfl rfl m_M_recall mi_M_recall ms_M_recall q_632 ⟨Nat.le_of_ble_eq_true rfl, Nat.le_of_ble_eq_true rfl⟩ rfl (st := []) rfl (Nat.le_of_ble_eq_true rfl) d_M_giftThen_1 ?_
  refine g_iload_n hz 1 d_M_giftThen_4 rfl rfl ?_
  refine bn_use h (fun x6 s5 e4 h => ?_)
  have hx6 := rr_C_giftAt hx3 e4
  refine g_callVr hz (c_C_giftAt l hx3 e4) (iC_lt hx3) (rc_C hx3) rfl rfl m_C_giftAt mi_C_giftAt ms_C_giftAt q_633 ⟨Nat.le_of_ble_eq_true rfl, Nat.le_of_ble_eq_true rfl⟩ rfl (st := []) rfl (Nat.le_of_ble_eq_true rfl) d_M_giftThen_5 ?_
  refine g_astore hz (L' := [(4, .ref x6), (0, .ref 173), (1, .int a1), (2, .int a2), (3, .int a3)]) d_M_giftThen_8 (by decide) rfl ?_
  refine g_aload_n hz 1 d_M_giftThen_10 rfl rfl ?_
  refine g_aload hz 0 d_M_giftThen_11 rfl ?_
  refine g_iload_n hz 3 d_M_giftThen_13 rfl rfl ?_
  refine bv_use h (fun s8 e7 h => ?_)
  refine g_callVv hz (c_M_passGift l hx6 e7) (by decide) rc_M rfl rfl m_M_passGift mi_M_passGift ms_M_passGift q_634 ⟨Nat.le_of_ble_eq_true rfl, Nat.le_of_ble_eq_true rfl⟩ rfl (st := []) rfl (Nat.le_of_ble_eq_true rfl) d_M_giftThen_14 ?_
  refine g_iload_n hz 4 d_M_giftThen_17 rfl rfl ?_
  by_cases c9 : a3 = 0
  · replace h := (if_pos c9).symm.trans h
    refine g_tin hz (off := 26) (tgt := 44) d_M_giftThen_18 c9 (by decide) (by decide) (by decide) (by decide) ?_
    refine g_aload hz 0 d_M_giftThen_44 rfl ?_
    refine gf_G_with hz hx6 q_181 d_M_giftThen_46 ?_
    exact g_iret hz (rti h hq) d_M_giftThen_49
  · replace h := (if_neg c9).symm.trans h
    by_cases c10 : a3 = 1
    · replace h := (if_pos c10).symm.trans h
      refine g_tin hz (off := 32) (tgt := 50) d_M_giftThen_18 c10 (by decide) (by decide) (by decide) (by decide) ?_
      refine g_aload hz 0 d_M_giftThen_50 rfl ?_
      refine gf_G_worth hz hx6 q_175 d_M_giftThen_52 ?_
      exact g_iret hz (rti h hq) d_M_giftThen_55
    · replace h := (if_neg c10).symm.trans h
      by_cases c11 : a3 = 2
      · replace h := (if_pos c11).symm.trans h
        refine g_tin hz (off := 38) (tgt := 56) d_M_giftThen_18 c11 (by decide) (by decide) (by decide) (by decide) ?_
        refine g_aload hz 0 d_M_giftThen_56 rfl ?_
        refine gf_G_size hz hx6 q_178 d_M_giftThen_58 ?_
        exact g_iret hz (rti h hq) d_M_giftThen_61
      · replace h := (if_neg c11).symm.trans h
        refine g_tdf hz (tgt := 62) d_M_giftThen_18 (fun i hi hx => ?_) (by decide) ?_
        · match i, hi, hx with
          | 0, _, hx => exact absurd hx (lv_neT c9 (by decide))
          | 1, _, hx => exact absurd hx (lv_neT c10 (by decide))
          | 2, _, hx => exact absurd hx (lv_neT c11 (by decide))
          | q + 3, hi, _ => exact absurd hi (by omega)
        · refine g_aload hz 0 d_M_giftThen_62 rfl ?_
          refine gf_G_passed hz hx6 q_188 d_M_giftThen_64 ?_
          exact g_iret hz (rti h hq) d_M_giftThen_67
def f_X_behind (s : Mm) (a1 : Int32) (a2 : Int32) (a3 : Int32) : Option (Int32 × Mm) :=
  bn (f_X_giftNo s a1) fun x3 s2 =>
  bn (f_X_spanNo s2 a2) fun x6 s5 =>
  bn (f_X_whatNo s5 a3 3) fun x9 s8 =>
  bn (f_X_first s8 x3 x6 x9) fun x12 s11 =>
  if x12 = 0 then
    bn (f_M_giftThen s11 a1 a2 a3) fun x19 s18 =>
    some (x19, s18)
  else
    bn (f_X_refuse s11 x12) fun x16 s15 =>
    some (x16, s15)
set_option maxRecDepth 20000 in
theorem c_X_behind (l : Launch) {s : Mm} {a1 : Int32} {a2 : Int32} {a3 : Int32} {r' : Int32} {s' : Mm}  (h : f_X_behind s a1 a2 a3 = some (r', s')) : Cm l y_X_behind b_X_behind 5 (some .int) 5 113 [.ref 165, .int a1, .int a2, .int a3] s s' (some (.int r')) := by
  refine Cm.of (own := "PassedOnAndBetter") (by decide) rfl (fun ad => Nat.le_of_ble_eq_true rfl) ?_
  intro z hz hq
  show G l z b_X_behind 5 0 [(0, .ref 165), (1, .int a1), (2, .int a2), (3, .int a3)] [] s
  unfold f_X_behind at h
  refine g_aload_n hz 0 d_X_behind_0 rfl rfl ?_
  refine g_iload_n hz 1 d_X_behind_1 rfl rfl ?_
  refine bn_use h (fun x3 s2 e1 h => ?_)
  refine g_callVi hz (c_X_giftNo l e1) (by decide) rc_X rfl rfl m_X_giftNo mi_X_giftNo ms_X_giftNo q_555 ⟨Nat.le_of_ble_eq_true rfl, Nat.le_of_ble_eq_true rfl⟩ rfl (st := []) rfl (Nat.le_of_ble_eq_true rfl) d_X_behind_2 ?_
  refine g_iload_n hz 2 d_X_behind_5 rfl rfl ?_
  refine bn_use h (fun x6 s5 e4 h => ?_)
  refine g_callSi hz (c_X_spanNo l e4) m_X_spanNo mi_X_spanNo q_625 ⟨Nat.le_of_ble_eq_true rfl, Nat.le_of_ble_eq_true rfl⟩ rfl (st := [.int x3]) rfl (Nat.le_of_ble_eq_true rfl) d_X_behind_6 ?_
  refine g_iload_n hz 3 d_X_behind_9 rfl rfl ?_
  refine g_iconst hz d_X_behind_10 ki_3 ?_
  refine bn_use h (fun x9 s8 e7 h => ?_)
  refine g_callSi hz (c_X_whatNo l e7) m_X_whatNo mi_X_whatNo q_535 ⟨Nat.le_of_ble_eq_true rfl, Nat.le_of_ble_eq_true rfl⟩ rfl (st := [.int x6, .int x3]) rfl (Nat.le_of_ble_eq_true rfl) d_X_behind_11 ?_
  refine bn_use h (fun x12 s11 e10 h => ?_)
  refine g_callSi hz (c_X_first l e10) m_X_first mi_X_first q_538 ⟨Nat.le_of_ble_eq_true rfl, Nat.le_of_ble_eq_true rfl⟩ rfl (st := []) rfl (Nat.le_of_ble_eq_true rfl) d_X_behind_14 ?_
  refine g_istore hz (L' := [(4, .int x12), (0, .ref 165), (1, .int a1), (2, .int a2), (3, .int a3)]) d_X_behind_17 (by decide) rfl ?_
  refine g_iload hz 0 d_X_behind_19 rfl ?_
  refine g_if_ne hz (tgt := 37) d_X_behind_21 (by decide) (fun c13 => ?_) (fun c13 => ?_)
  · replace h := (if_neg c13).symm.trans h
    refine g_aload_n hz 1 d_X_behind_37 rfl rfl ?_
    refine g_iload hz 0 d_X_behind_38 rfl ?_
    refine bn_use h (fun x16 s15 e14 h => ?_)
    refine g_callVi hz (c_X_refuse l e14) (by decide) rc_X rfl rfl m_X_refuse mi_X_refuse ms_X_refuse q_349 ⟨Nat.le_of_ble_eq_true rfl, Nat.le_of_ble_eq_true rfl⟩ rfl (st := []) rfl (Nat.le_of_ble_eq_true rfl) d_X_behind_40 ?_
    exact g_iret hz (rti h hq) d_X_behind_43
  · replace h := (if_pos c13).symm.trans h
    refine g_aload_n hz 1 d_X_behind_24 rfl rfl ?_
    refine gf_X_mind hz q_311 d_X_behind_25 ?_
    refine g_iload_n hz 2 d_X_behind_28 rfl rfl ?_
    refine g_iload_n hz 3 d_X_behind_29 rfl rfl ?_
    refine g_iload_n hz 4 d_X_behind_30 rfl rfl ?_
    refine bn_use h (fun x19 s18 e17 h => ?_)
    refine g_callVi hz (c_M_giftThen l e17) (by decide) rc_M rfl rfl m_M_giftThen mi_M_giftThen ms_M_giftThen q_628 ⟨Nat.le_of_ble_eq_true rfl, Nat.le_of_ble_eq_true rfl⟩ rfl (st := []) rfl (Nat.le_of_ble_eq_true rfl) d_X_behind_31 ?_
    refine g_goto hz (tgt := 43) d_X_behind_34 (by decide) ?_
    exact g_iret hz (rti h hq) d_X_behind_43
def f_X_friendOrAllNo (s : Mm) (a1 : Int32) : Option (Int32 × Mm) :=
  if a1 = (-1) then
    some (0, s)
  else
    bn (f_X_friendNo s a1) fun x4 s3 =>
    some (x4, s3)
set_option maxRecDepth 20000 in
theorem c_X_friendOrAllNo (l : Launch) {s : Mm} {a1 : Int32} {r' : Int32} {s' : Mm}  (h : f_X_friendOrAllNo s a1 = some (r', s')) : Cm l y_X_friendOrAllNo b_X_friendOrAllNo 2 (some .int) 2 42 [.ref 165, .int a1] s s' (some (.int r')) := by
  refine Cm.of (own := "PassedOnAndBetter") (by decide) rfl (fun ad => Nat.le_of_ble_eq_true rfl) ?_
  intro z hz hq
  show G l z b_X_friendOrAllNo 2 0 [(0, .ref 165), (1, .int a1)] [] s
  unfold f_X_friendOrAllNo at h
  refine g_iload_n hz 1 d_X_friendOrAllNo_0 rfl rfl ?_
  refine g_iconst hz d_X_friendOrAllNo_1 ki_m1 ?_
  refine g_icmp_ne hz (tgt := 9) d_X_friendOrAllNo_2 (by decide) (fun c1 => ?_) (fun c1 => ?_)
  · replace h := (if_neg c1).symm.trans h
    refine g_aload_n hz 0 d_X_friendOrAllNo_9 rfl rfl ?_
    refine g_iload_n hz 1 d_X_friendOrAllNo_10 rfl rfl ?_
    refine bn_use h (fun x4 s3 e2 h => ?_)
    refine g_callVi hz (c_X_friendNo l e2) (by decide) rc_X rfl rfl m_X_friendNo mi_X_friendNo ms_X_friendNo q_530 ⟨Nat.le_of_ble_eq_true rfl, Nat.le_of_ble_eq_true rfl⟩ rfl (st := []) rfl (Nat.le_of_ble_eq_true rfl) d_X_friendOrAllNo_11 ?_
    exact g_iret hz (rti h hq) d_X_friendOrAllNo_14
  · replace h := (if_pos c1).symm.trans h
    refine g_iconst hz d_X_friendOrAllNo_5 ki_0 ?_
    refine g_goto hz (tgt := 14) d_X_friendOrAllNo_6 (by decide) ?_
    exact g_iret hz (rti h hq) d_X_friendOrAllNo_14
def f_M_heldThen (s : Mm) (a1 : Int32) (a2 : Int32) : Option (Int32 × Mm) :=
  bn (f_M_recall s) fun x3 s2 =>
  bv (f_C_pass s2 x3 a2) fun s5 =>
  if a1 = (-1) then
    bn (f_C_allWorth s5 2) fun x12 s11 =>
    some (x12, s11)
  else
    bn (f_C_holdsOf s5 2 a1) fun x9 s8 =>
    some (x9, s8)
set_option maxRecDepth 20000 in
theorem c_M_heldThen (l : Launch) {s : Mm} {a1 : Int32} {a2 : Int32} {r' : Int32} {s' : Mm}  (h : f_M_heldThen s a1 a2 = some (r', s')) : Cm l y_M_heldThen b_M_heldThen 3 (some .int) 4 89 [.ref 173, .int a1, .int a2] s s' (some (.int r')) := by
  refine Cm.of (own := "PassedOnAndBetter$Mind") (by decide) rfl (fun ad => Nat.le_of_ble_eq_true rfl) ?_
  intro z hz hq
  show G l z b_M_heldThen 3 0 [(0, .ref 173), (1, .int a1), (2, .int a2)] [] s
  unfold f_M_heldThen at h
  refine g_aload_n hz 0 d_M_heldThen_0 rfl rfl ?_
  refine bn_use h (fun x3 s2 e1 h => ?_)
  have hx3 := rr_M_recall e1
  refine g_callVr hz (c_M_recall l e1) (by decide) rc_M rfl rfl m_M_recall mi_M_recall ms_M_recall q_632 ⟨Nat.le_of_ble_eq_true rfl, Nat.le_of_ble_eq_true rfl⟩ rfl (st := []) rfl (Nat.le_of_ble_eq_true rfl) d_M_heldThen_1 ?_
  refine g_iload_n hz 2 d_M_heldThen_4 rfl rfl ?_
  refine bv_use h (fun s5 e4 h => ?_)
  refine g_callVv hz (c_C_pass l hx3 e4) (iC_lt hx3) (rc_C hx3) rfl rfl m_C_pass mi_C_pass ms_C_pass q_651 ⟨Nat.le_of_ble_eq_true rfl, Nat.le_of_ble_eq_true rfl⟩ rfl (st := []) rfl (Nat.le_of_ble_eq_true rfl) d_M_heldThen_5 ?_
  refine g_iload_n hz 1 d_M_heldThen_8 rfl rfl ?_
  refine g_iconst hz d_M_heldThen_9 ki_m1 ?_
  refine g_icmp_ne hz (tgt := 23) d_M_heldThen_10 (by decide) (fun c6 => ?_) (fun c6 => ?_)
  · replace h := (if_neg c6).symm.trans h
    refine g_aload_n hz 0 d_M_heldThen_23 rfl rfl ?_
    refine gf_M_thought hz q_292 d_M_heldThen_24 ?_
    refine g_iload_n hz 1 d_M_heldThen_27 rfl rfl ?_
    refine bn_use h (fun x9 s8 e7 h => ?_)
    refine g_callVi hz (c_C_holdsOf l (by decide) e7) (iC_lt (by decide)) (rc_C (by decide)) rfl rfl m_C_holdsOf mi_C_holdsOf ms_C_holdsOf q_653 ⟨Nat.le_of_ble_eq_true rfl, Nat.le_of_ble_eq_true rfl⟩ rfl (st := []) rfl (Nat.le_of_ble_eq_true rfl) d_M_heldThen_28 ?_
    exact g_iret hz (rti h hq) d_M_heldThen_31
  · replace h := (if_pos c6).symm.trans h
    refine g_aload_n hz 0 d_M_heldThen_13 rfl rfl ?_
    refine gf_M_thought hz q_292 d_M_heldThen_14 ?_
    refine bn_use h (fun x12 s11 e10 h => ?_)
    refine g_callVi hz (c_C_allWorth l (by decide) e10) (iC_lt (by decide)) (rc_C (by decide)) rfl rfl m_C_allWorth mi_C_allWorth ms_C_allWorth q_652 ⟨Nat.le_of_ble_eq_true rfl, Nat.le_of_ble_eq_true rfl⟩ rfl (st := []) rfl (Nat.le_of_ble_eq_true rfl) d_M_heldThen_17 ?_
    refine g_goto hz (tgt := 31) d_M_heldThen_20 (by decide) ?_
    exact g_iret hz (rti h hq) d_M_heldThen_31
def f_X_then (s : Mm) (a1 : Int32) (a2 : Int32) : Option (Int32 × Mm) :=
  bn (f_X_friendOrAllNo s a1) fun x3 s2 =>
  bn (f_X_spanNo s2 a2) fun x6 s5 =>
  bn (f_X_first s5 x3 x6 0) fun x9 s8 =>
  if x9 = 0 then
    bn (f_M_heldThen s8 a1 a2) fun x16 s15 =>
    some (x16, s15)
  else
    bn (f_X_refuse s8 x9) fun x13 s12 =>
    some (x13, s12)
set_option maxRecDepth 20000 in
theorem c_X_then (l : Launch) {s : Mm} {a1 : Int32} {a2 : Int32} {r' : Int32} {s' : Mm}  (h : f_X_then s a1 a2 = some (r', s')) : Cm l y_X_then b_X_then 4 (some .int) 5 111 [.ref 165, .int a1, .int a2] s s' (some (.int r')) := by
  refine Cm.of (own := "PassedOnAndBetter") (by decide) rfl (fun ad => Nat.le_of_ble_eq_true rfl) ?_
  intro z hz hq
  show G l z b_X_then 4 0 [(0, .ref 165), (1, .int a1), (2, .int a2)] [] s
  unfold f_X_then at h
  refine g_aload_n hz 0 d_X_then_0 rfl rfl ?_
  refine g_iload_n hz 1 d_X_then_1 rfl rfl ?_
  refine bn_use h (fun x3 s2 e1 h => ?_)
  refine g_callVi hz (c_X_friendOrAllNo l e1) (by decide) rc_X rfl rfl m_X_friendOrAllNo mi_X_friendOrAllNo ms_X_friendOrAllNo q_643 ⟨Nat.le_of_ble_eq_true rfl, Nat.le_of_ble_eq_true rfl⟩ rfl (st := []) rfl (Nat.le_of_ble_eq_true rfl) d_X_then_2 ?_
  refine g_iload_n hz 2 d_X_then_5 rfl rfl ?_
  refine bn_use h (fun x6 s5 e4 h => ?_)
  refine g_callSi hz (c_X_spanNo l e4) m_X_spanNo mi_X_spanNo q_625 ⟨Nat.le_of_ble_eq_true rfl, Nat.le_of_ble_eq_true rfl⟩ rfl (st := [.int x3]) rfl (Nat.le_of_ble_eq_true rfl) d_X_then_6 ?_
  refine g_iconst hz d_X_then_9 ki_0 ?_
  refine bn_use h (fun x9 s8 e7 h => ?_)
  refine g_callSi hz (c_X_first l e7) m_X_first mi_X_first q_538 ⟨Nat.le_of_ble_eq_true rfl, Nat.le_of_ble_eq_true rfl⟩ rfl (st := []) rfl (Nat.le_of_ble_eq_true rfl) d_X_then_10 ?_
  refine g_istore_n hz (L' := [(3, .int x9), (0, .ref 165), (1, .int a1), (2, .int a2)]) d_X_then_13 rfl (by decide) rfl ?_
  refine g_iload_n hz 0 d_X_then_14 rfl rfl ?_
  refine g_if_ne hz (tgt := 30) d_X_then_15 (by decide) (fun c10 => ?_) (fun c10 => ?_)
  · replace h := (if_neg c10).symm.trans h
    refine g_aload_n hz 1 d_X_then_30 rfl rfl ?_
    refine g_iload_n hz 0 d_X_then_31 rfl rfl ?_
    refine bn_use h (fun x13 s12 e11 h => ?_)
    refine g_callVi hz (c_X_refuse l e11) (by decide) rc_X rfl rfl m_X_refuse mi_X_refuse ms_X_refuse q_349 ⟨Nat.le_of_ble_eq_true rfl, Nat.le_of_ble_eq_true rfl⟩ rfl (st := []) rfl (Nat.le_of_ble_eq_true rfl) d_X_then_32 ?_
    exact g_iret hz (rti h hq) d_X_then_35
  · replace h := (if_pos c10).symm.trans h
    refine g_aload_n hz 1 d_X_then_18 rfl rfl ?_
    refine gf_X_mind hz q_311 d_X_then_19 ?_
    refine g_iload_n hz 2 d_X_then_22 rfl rfl ?_
    refine g_iload_n hz 3 d_X_then_23 rfl rfl ?_
    refine bn_use h (fun x16 s15 e14 h => ?_)
    refine g_callVi hz (c_M_heldThen l e14) (by decide) rc_M rfl rfl m_M_heldThen mi_M_heldThen ms_M_heldThen q_647 ⟨Nat.le_of_ble_eq_true rfl, Nat.le_of_ble_eq_true rfl⟩ rfl (st := []) rfl (Nat.le_of_ble_eq_true rfl) d_X_then_24 ?_
    refine g_goto hz (tgt := 35) d_X_then_27 (by decide) ?_
    exact g_iret hz (rti h hq) d_X_then_35
def k_M_firstAway_17 : Nat → Nat → Int32 → Int32 → Mm → Option (Int32 × Mm)
  | 0, _, _, _, _ => none
  | n + 1, o2, v3, v4, s => if 60 < v4 then
      some ((-9), s)
    else
      bv (f_G_passMonth s o2 2) fun s11 =>
      if (s11 o2 2) = v3 then
        k_M_firstAway_17 n o2 v3 (v4 + 1) s11
      else
        some (v4, s11)
set_option maxRecDepth 20000 in
theorem w_M_firstAway_17 {l : Launch} {z : Zt} (hz : ZOk z b_M_firstAway 5 "PassedOnAndBetter$Mind" 3 66) {r' : Int32} {s' : Mm} (hq : ZR z (some .int) s' (some (.int r'))) : ∀ (n : Nat) (o2 : Nat) (v3 : Int32) (v4 : Int32) (ho2 : iG o2) (s : Mm), k_M_firstAway_17 n o2 v3 v4 s = some (r', s') → G l z b_M_firstAway 5 17 [(0, .ref 173), (2, .ref o2), (3, .int v3), (4, .int v4)] [] s := by
  intro n
  induction n with
  | zero => intro o2 v3 v4 ho2 s h; unfold k_M_firstAway_17 at h; cases h
  | succ n ih =>
    intro o2 v3 v4 ho2 s h
    unfold k_M_firstAway_17 at h
    refine g_iload hz 3 d_M_firstAway_17 rfl ?_
    refine g_bipush hz (v := 60) d_M_firstAway_19 (by decide) ?_
    refine g_icmp_gt hz (tgt := 49) d_M_firstAway_21 (by decide) (fun c9 => ?_) (fun c9 => ?_)
    · replace h := (if_pos c9).symm.trans h
      refine g_bipush hz (v := (-9)) d_M_firstAway_49 (by decide) ?_
      exact g_iret hz (rti h hq) d_M_firstAway_51
    · replace h := (if_neg c9).symm.trans h
      refine g_aload_n hz 1 d_M_firstAway_24 rfl rfl ?_
      refine g_aload_n hz 0 d_M_firstAway_25 rfl rfl ?_
      refine gf_M_thought hz q_292 d_M_firstAway_26 ?_
      refine bv_use h (fun s11 e10 h => ?_)
      refine g_callVv hz (c_G_passMonth l ho2 (by decide) e10) (iG_lt ho2) (rc_G ho2) rfl rfl m_G_passMonth mi_G_passMonth ms_G_passMonth q_638 ⟨Nat.le_of_ble_eq_true rfl, Nat.le_of_ble_eq_true rfl⟩ rfl (st := []) rfl (Nat.le_of_ble_eq_true rfl) d_M_firstAway_29 ?_
      refine g_aload_n hz 1 d_M_firstAway_32 rfl rfl ?_
      refine gf_G_with hz ho2 q_181 d_M_firstAway_33 ?_
      refine g_iload_n hz 2 d_M_firstAway_36 rfl rfl ?_
      refine g_icmp_eq hz (tgt := 43) d_M_firstAway_37 (by decide) (fun c12 => ?_) (fun c12 => ?_)
      · replace h := (if_pos c12).symm.trans h
        refine g_iinc hz (v := v4 + 1) (L' := [(4, .int (v4 + 1)), (0, .ref 173), (2, .ref o2), (3, .int v3)]) 3 d_M_firstAway_43 rfl (congrArg (fun q => v4 + q) ki_1) (by decide) rfl ?_
        refine g_goto hz (tgt := 17) d_M_firstAway_46 (by decide) ?_
        refine g_sub [1, 2, 3, 0] rfl ?_
        exact ih o2 v3 (v4 + 1) ho2 _ h
      · replace h := (if_neg c12).symm.trans h
        refine g_iload hz 3 d_M_firstAway_40 rfl ?_
        exact g_iret hz (rti h hq) d_M_firstAway_42
def f_M_firstAway (s : Mm) (a1 : Int32) : Option (Int32 × Mm) :=
  bn (f_M_recall s) fun x3 s2 =>
  bn (f_C_giftAt s2 x3 a1) fun x6 s5 =>
  nm (s5 x6 2) fun x7 =>
  k_M_firstAway_17 KF x6 x7 1 s5
set_option maxRecDepth 20000 in
theorem c_M_firstAway (l : Launch) {s : Mm} {a1 : Int32} {r' : Int32} {s' : Mm}  (h : f_M_firstAway s a1 = some (r', s')) : Cm l y_M_firstAway b_M_firstAway 5 (some .int) 3 66 [.ref 173, .int a1] s s' (some (.int r')) := by
  refine Cm.of (own := "PassedOnAndBetter$Mind") (by decide) rfl (fun ad => Nat.le_of_ble_eq_true rfl) ?_
  intro z hz hq
  show G l z b_M_firstAway 5 0 [(0, .ref 173), (1, .int a1)] [] s
  unfold f_M_firstAway at h
  refine g_aload_n hz 0 d_M_firstAway_0 rfl rfl ?_
  refine bn_use h (fun x3 s2 e1 h => ?_)
  have hx3 := rr_M_recall e1
  refine g_callVr hz (c_M_recall l e1) (by decide) rc_M rfl rfl m_M_recall mi_M_recall ms_M_recall q_632 ⟨Nat.le_of_ble_eq_true rfl, Nat.le_of_ble_eq_true rfl⟩ rfl (st := []) rfl (Nat.le_of_ble_eq_true rfl) d_M_firstAway_1 ?_
  refine g_iload_n hz 1 d_M_firstAway_4 rfl rfl ?_
  refine bn_use h (fun x6 s5 e4 h => ?_)
  have hx6 := rr_C_giftAt hx3 e4
  refine g_callVr hz (c_C_giftAt l hx3 e4) (iC_lt hx3) (rc_C hx3) rfl rfl m_C_giftAt mi_C_giftAt ms_C_giftAt q_633 ⟨Nat.le_of_ble_eq_true rfl, Nat.le_of_ble_eq_true rfl⟩ rfl (st := []) rfl (Nat.le_of_ble_eq_true rfl) d_M_firstAway_5 ?_
  refine g_astore_n hz (L' := [(2, .ref x6), (0, .ref 173), (1, .int a1)]) d_M_firstAway_8 rfl (by decide) rfl ?_
  refine g_aload_n hz 0 d_M_firstAway_9 rfl rfl ?_
  refine gf_G_with hz hx6 q_181 d_M_firstAway_10 ?_
  refine g_nmi (fun x7 e8 => ?_)
  replace h := nm_use h e8
  refine g_istore_n hz (L' := [(3, .int x7), (2, .ref x6), (0, .ref 173), (1, .int a1)]) d_M_firstAway_13 rfl (by decide) rfl ?_
  refine g_iconst hz d_M_firstAway_14 ki_1 ?_
  refine g_istore hz (L' := [(4, .int 1), (3, .int x7), (2, .ref x6), (0, .ref 173), (1, .int a1)]) d_M_firstAway_15 (by decide) rfl ?_
  refine g_sub [3, 2, 1, 0] rfl ?_
  exact w_M_firstAway_17 hz hq KF x6 x7 1 hx6 _ h
def k_M_firstRound_20 : Nat → Nat → Int32 → Int32 → Int32 → Mm → Option (Int32 × Mm)
  | 0, _, _, _, _, _ => none
  | n + 1, o2, v3, v4, v5, s => if 60 < v5 then
      some ((-9), s)
    else
      bv (f_G_passMonth s o2 2) fun s11 =>
      if (s11 o2 2) = v3 then
        if v4 = 0 then
          k_M_firstRound_20 n o2 v3 v4 (v5 + 1) s11
        else
          some (v5, s11)
      else
        k_M_firstRound_20 n o2 v3 1 (v5 + 1) s11
set_option maxRecDepth 20000 in
theorem w_M_firstRound_20 {l : Launch} {z : Zt} (hz : ZOk z b_M_firstRound 6 "PassedOnAndBetter$Mind" 3 66) {r' : Int32} {s' : Mm} (hq : ZR z (some .int) s' (some (.int r'))) : ∀ (n : Nat) (o2 : Nat) (v3 : Int32) (v4 : Int32) (v5 : Int32) (ho2 : iG o2) (s : Mm), k_M_firstRound_20 n o2 v3 v4 v5 s = some (r', s') → G l z b_M_firstRound 6 20 [(0, .ref 173), (2, .ref o2), (3, .int v3), (4, .int v4), (5, .int v5)] [] s := by
  intro n
  induction n with
  | zero => intro o2 v3 v4 v5 ho2 s h; unfold k_M_firstRound_20 at h; cases h
  | succ n ih =>
    intro o2 v3 v4 v5 ho2 s h
    unfold k_M_firstRound_20 at h
    refine g_iload hz 4 d_M_firstRound_20 rfl ?_
    refine g_bipush hz (v := 60) d_M_firstRound_22 (by decide) ?_
    refine g_icmp_gt hz (tgt := 63) d_M_firstRound_24 (by decide) (fun c9 => ?_) (fun c9 => ?_)
    · replace h := (if_pos c9).symm.trans h
      refine g_bipush hz (v := (-9)) d_M_firstRound_63 (by decide) ?_
      exact g_iret hz (rti h hq) d_M_firstRound_65
    · replace h := (if_neg c9).symm.trans h
      refine g_aload_n hz 1 d_M_firstRound_27 rfl rfl ?_
      refine g_aload_n hz 0 d_M_firstRound_28 rfl rfl ?_
      refine gf_M_thought hz q_292 d_M_firstRound_29 ?_
      refine bv_use h (fun s11 e10 h => ?_)
      refine g_callVv hz (c_G_passMonth l ho2 (by decide) e10) (iG_lt ho2) (rc_G ho2) rfl rfl m_G_passMonth mi_G_passMonth ms_G_passMonth q_638 ⟨Nat.le_of_ble_eq_true rfl, Nat.le_of_ble_eq_true rfl⟩ rfl (st := []) rfl (Nat.le_of_ble_eq_true rfl) d_M_firstRound_32 ?_
      refine g_aload_n hz 1 d_M_firstRound_35 rfl rfl ?_
      refine gf_G_with hz ho2 q_181 d_M_firstRound_36 ?_
      refine g_iload_n hz 2 d_M_firstRound_39 rfl rfl ?_
      refine g_icmp_eq hz (tgt := 49) d_M_firstRound_40 (by decide) (fun c12 => ?_) (fun c12 => ?_)
      · replace h := (if_pos c12).symm.trans h
        refine g_iload hz 3 d_M_firstRound_49 rfl ?_
        refine g_if_eq hz (tgt := 57) d_M_firstRound_51 (by decide) (fun c13 => ?_) (fun c13 => ?_)
        · replace h := (if_pos c13).symm.trans h
          refine g_iinc hz (v := v5 + 1) (L' := [(5, .int (v5 + 1)), (0, .ref 173), (2, .ref o2), (3, .int v3), (4, .int v4)]) 4 d_M_firstRound_57 rfl (congrArg (fun q => v5 + q) ki_1) (by decide) rfl ?_
          refine g_goto hz (tgt := 20) d_M_firstRound_60 (by decide) ?_
          refine g_sub [1, 2, 3, 4, 0] rfl ?_
          exact ih o2 v3 v4 (v5 + 1) ho2 _ h
        · replace h := (if_neg c13).symm.trans h
          refine g_iload hz 4 d_M_firstRound_54 rfl ?_
          exact g_iret hz (rti h hq) d_M_firstRound_56
      · replace h := (if_neg c12).symm.trans h
        refine g_iconst hz d_M_firstRound_43 ki_1 ?_
        refine g_istore hz (L' := [(4, .int 1), (0, .ref 173), (2, .ref o2), (3, .int v3), (5, .int v5)]) d_M_firstRound_44 (by decide) rfl ?_
        refine g_goto hz (tgt := 57) d_M_firstRound_46 (by decide) ?_
        refine g_iinc hz (v := v5 + 1) (L' := [(5, .int (v5 + 1)), (4, .int 1), (0, .ref 173), (2, .ref o2), (3, .int v3)]) 4 d_M_firstRound_57 rfl (congrArg (fun q => v5 + q) ki_1) (by decide) rfl ?_
        refine g_goto hz (tgt := 20) d_M_firstRound_60 (by decide) ?_
        refine g_sub [2, 3, 4, 1, 0] rfl ?_
        exact ih o2 v3 1 (v5 + 1) ho2 _ h
def f_M_firstRound (s : Mm) (a1 : Int32) : Option (Int32 × Mm) :=
  bn (f_M_recall s) fun x3 s2 =>
  bn (f_C_giftAt s2 x3 a1) fun x6 s5 =>
  nm (s5 x6 2) fun x7 =>
  k_M_firstRound_20 KF x6 x7 0 1 s5
set_option maxRecDepth 20000 in
theorem c_M_firstRound (l : Launch) {s : Mm} {a1 : Int32} {r' : Int32} {s' : Mm}  (h : f_M_firstRound s a1 = some (r', s')) : Cm l y_M_firstRound b_M_firstRound 6 (some .int) 3 66 [.ref 173, .int a1] s s' (some (.int r')) := by
  refine Cm.of (own := "PassedOnAndBetter$Mind") (by decide) rfl (fun ad => Nat.le_of_ble_eq_true rfl) ?_
  intro z hz hq
  show G l z b_M_firstRound 6 0 [(0, .ref 173), (1, .int a1)] [] s
  unfold f_M_firstRound at h
  refine g_aload_n hz 0 d_M_firstRound_0 rfl rfl ?_
  refine bn_use h (fun x3 s2 e1 h => ?_)
  have hx3 := rr_M_recall e1
  refine g_callVr hz (c_M_recall l e1) (by decide) rc_M rfl rfl m_M_recall mi_M_recall ms_M_recall q_632 ⟨Nat.le_of_ble_eq_true rfl, Nat.le_of_ble_eq_true rfl⟩ rfl (st := []) rfl (Nat.le_of_ble_eq_true rfl) d_M_firstRound_1 ?_
  refine g_iload_n hz 1 d_M_firstRound_4 rfl rfl ?_
  refine bn_use h (fun x6 s5 e4 h => ?_)
  have hx6 := rr_C_giftAt hx3 e4
  refine g_callVr hz (c_C_giftAt l hx3 e4) (iC_lt hx3) (rc_C hx3) rfl rfl m_C_giftAt mi_C_giftAt ms_C_giftAt q_633 ⟨Nat.le_of_ble_eq_true rfl, Nat.le_of_ble_eq_true rfl⟩ rfl (st := []) rfl (Nat.le_of_ble_eq_true rfl) d_M_firstRound_5 ?_
  refine g_astore_n hz (L' := [(2, .ref x6), (0, .ref 173), (1, .int a1)]) d_M_firstRound_8 rfl (by decide) rfl ?_
  refine g_aload_n hz 0 d_M_firstRound_9 rfl rfl ?_
  refine gf_G_with hz hx6 q_181 d_M_firstRound_10 ?_
  refine g_nmi (fun x7 e8 => ?_)
  replace h := nm_use h e8
  refine g_istore_n hz (L' := [(3, .int x7), (2, .ref x6), (0, .ref 173), (1, .int a1)]) d_M_firstRound_13 rfl (by decide) rfl ?_
  refine g_iconst hz d_M_firstRound_14 ki_0 ?_
  refine g_istore hz (L' := [(4, .int 0), (3, .int x7), (2, .ref x6), (0, .ref 173), (1, .int a1)]) d_M_firstRound_15 (by decide) rfl ?_
  refine g_iconst hz d_M_firstRound_17 ki_1 ?_
  refine g_istore hz (L' := [(5, .int 1), (4, .int 0), (3, .int x7), (2, .ref x6), (0, .ref 173), (1, .int a1)]) d_M_firstRound_18 (by decide) rfl ?_
  refine g_sub [4, 3, 2, 1, 0] rfl ?_
  exact w_M_firstRound_20 hz hq KF x6 x7 0 1 hx6 _ h
def f_X_given (s : Mm) (a1 : Int32) (a2 : Int32) : Option (Int32 × Mm) :=
  bn (f_X_giftNo s a1) fun x3 s2 =>
  bn (f_X_whatNo s2 a2 1) fun x6 s5 =>
  bn (f_X_first s5 x3 x6 0) fun x9 s8 =>
  if x9 = 0 then
    if a2 = 0 then
      bn (f_M_firstAway s8 a1) fun x17 s16 =>
      some (x17, s16)
    else
      bn (f_M_firstRound s8 a1) fun x14 s13 =>
      some (x14, s13)
  else
    bn (f_X_refuse s8 x9) fun x20 s19 =>
    some (x20, s19)
set_option maxRecDepth 20000 in
theorem c_X_given (l : Launch) {s : Mm} {a1 : Int32} {a2 : Int32} {r' : Int32} {s' : Mm}  (h : f_X_given s a1 a2 = some (r', s')) : Cm l y_X_given b_X_given 4 (some .int) 4 91 [.ref 165, .int a1, .int a2] s s' (some (.int r')) := by
  refine Cm.of (own := "PassedOnAndBetter") (by decide) rfl (fun ad => Nat.le_of_ble_eq_true rfl) ?_
  intro z hz hq
  show G l z b_X_given 4 0 [(0, .ref 165), (1, .int a1), (2, .int a2)] [] s
  unfold f_X_given at h
  refine g_aload_n hz 0 d_X_given_0 rfl rfl ?_
  refine g_iload_n hz 1 d_X_given_1 rfl rfl ?_
  refine bn_use h (fun x3 s2 e1 h => ?_)
  refine g_callVi hz (c_X_giftNo l e1) (by decide) rc_X rfl rfl m_X_giftNo mi_X_giftNo ms_X_giftNo q_555 ⟨Nat.le_of_ble_eq_true rfl, Nat.le_of_ble_eq_true rfl⟩ rfl (st := []) rfl (Nat.le_of_ble_eq_true rfl) d_X_given_2 ?_
  refine g_iload_n hz 2 d_X_given_5 rfl rfl ?_
  refine g_iconst hz d_X_given_6 ki_1 ?_
  refine bn_use h (fun x6 s5 e4 h => ?_)
  refine g_callSi hz (c_X_whatNo l e4) m_X_whatNo mi_X_whatNo q_535 ⟨Nat.le_of_ble_eq_true rfl, Nat.le_of_ble_eq_true rfl⟩ rfl (st := [.int x3]) rfl (Nat.le_of_ble_eq_true rfl) d_X_given_7 ?_
  refine g_iconst hz d_X_given_10 ki_0 ?_
  refine bn_use h (fun x9 s8 e7 h => ?_)
  refine g_callSi hz (c_X_first l e7) m_X_first mi_X_first q_538 ⟨Nat.le_of_ble_eq_true rfl, Nat.le_of_ble_eq_true rfl⟩ rfl (st := []) rfl (Nat.le_of_ble_eq_true rfl) d_X_given_11 ?_
  refine g_istore_n hz (L' := [(3, .int x9), (0, .ref 165), (1, .int a1), (2, .int a2)]) d_X_given_14 rfl (by decide) rfl ?_
  refine g_iload_n hz 0 d_X_given_15 rfl rfl ?_
  refine g_if_eq hz (tgt := 25) d_X_given_16 (by decide) (fun c10 => ?_) (fun c10 => ?_)
  · replace h := (if_pos c10).symm.trans h
    refine g_iload_n hz 3 d_X_given_25 rfl rfl ?_
    refine g_if_ne hz (tgt := 40) d_X_given_26 (by decide) (fun c11 => ?_) (fun c11 => ?_)
    · replace h := (if_neg c11).symm.trans h
      refine g_aload_n hz 1 d_X_given_40 rfl rfl ?_
      refine gf_X_mind hz q_311 d_X_given_41 ?_
      refine g_iload_n hz 2 d_X_given_44 rfl rfl ?_
      refine bn_use h (fun x14 s13 e12 h => ?_)
      refine g_callVi hz (c_M_firstRound l e12) (by decide) rc_M rfl rfl m_M_firstRound mi_M_firstRound ms_M_firstRound q_662 ⟨Nat.le_of_ble_eq_true rfl, Nat.le_of_ble_eq_true rfl⟩ rfl (st := []) rfl (Nat.le_of_ble_eq_true rfl) d_X_given_45 ?_
      exact g_iret hz (rti h hq) d_X_given_48
    · replace h := (if_pos c11).symm.trans h
      refine g_aload_n hz 1 d_X_given_29 rfl rfl ?_
      refine gf_X_mind hz q_311 d_X_given_30 ?_
      refine g_iload_n hz 2 d_X_given_33 rfl rfl ?_
      refine bn_use h (fun x17 s16 e15 h => ?_)
      refine g_callVi hz (c_M_firstAway l e15) (by decide) rc_M rfl rfl m_M_firstAway mi_M_firstAway ms_M_firstAway q_658 ⟨Nat.le_of_ble_eq_true rfl, Nat.le_of_ble_eq_true rfl⟩ rfl (st := []) rfl (Nat.le_of_ble_eq_true rfl) d_X_given_34 ?_
      refine g_goto hz (tgt := 48) d_X_given_37 (by decide) ?_
      exact g_iret hz (rti h hq) d_X_given_48
  · replace h := (if_neg c10).symm.trans h
    refine g_aload_n hz 1 d_X_given_19 rfl rfl ?_
    refine g_iload_n hz 0 d_X_given_20 rfl rfl ?_
    refine bn_use h (fun x20 s19 e18 h => ?_)
    refine g_callVi hz (c_X_refuse l e18) (by decide) rc_X rfl rfl m_X_refuse mi_X_refuse ms_X_refuse q_349 ⟨Nat.le_of_ble_eq_true rfl, Nat.le_of_ble_eq_true rfl⟩ rfl (st := []) rfl (Nat.le_of_ble_eq_true rfl) d_X_given_21 ?_
    exact g_iret hz (rti h hq) d_X_given_24
def k_M_arrival_13 : Nat → Int32 → Int32 → Nat → Int32 → Mm → Option (Int32 × Mm)
  | 0, _, _, _, _, _ => none
  | n + 1, v2, v3, o4, v5, s => if v3 < v5 then
      some ((-9), s)
    else
      if (s o4 2) = v2 then
        some (v5, s)
      else
        bv (f_G_passMonth s o4 2) fun s7 =>
        k_M_arrival_13 n v2 v3 o4 (v5 + 1) s7
set_option maxRecDepth 20000 in
theorem w_M_arrival_13 {l : Launch} {z : Zt} (hz : ZOk z b_M_arrival 6 "PassedOnAndBetter$Mind" 3 66) {r' : Int32} {s' : Mm} (hq : ZR z (some .int) s' (some (.int r'))) : ∀ (n : Nat) (v2 : Int32) (v3 : Int32) (o4 : Nat) (v5 : Int32) (ho4 : iG o4) (s : Mm), k_M_arrival_13 n v2 v3 o4 v5 s = some (r', s') → G l z b_M_arrival 6 13 [(0, .ref 173), (2, .int v2), (3, .int v3), (4, .ref o4), (5, .int v5)] [] s := by
  intro n
  induction n with
  | zero => intro v2 v3 o4 v5 ho4 s h; unfold k_M_arrival_13 at h; cases h
  | succ n ih =>
    intro v2 v3 o4 v5 ho4 s h
    unfold k_M_arrival_13 at h
    refine g_iload hz 4 d_M_arrival_13 rfl ?_
    refine g_iload_n hz 2 d_M_arrival_15 rfl rfl ?_
    refine g_icmp_gt hz (tgt := 46) d_M_arrival_16 (by decide) (fun c4 => ?_) (fun c4 => ?_)
    · replace h := (if_pos c4).symm.trans h
      refine g_bipush hz (v := (-9)) d_M_arrival_46 (by decide) ?_
      exact g_iret hz (rti h hq) d_M_arrival_48
    · replace h := (if_neg c4).symm.trans h
      refine g_aload hz 3 d_M_arrival_19 rfl ?_
      refine gf_G_with hz ho4 q_181 d_M_arrival_21 ?_
      refine g_iload_n hz 1 d_M_arrival_24 rfl rfl ?_
      refine g_icmp_ne hz (tgt := 31) d_M_arrival_25 (by decide) (fun c5 => ?_) (fun c5 => ?_)
      · replace h := (if_neg c5).symm.trans h
        refine g_aload hz 3 d_M_arrival_31 rfl ?_
        refine g_aload_n hz 0 d_M_arrival_33 rfl rfl ?_
        refine gf_M_thought hz q_292 d_M_arrival_34 ?_
        refine bv_use h (fun s7 e6 h => ?_)
        refine g_callVv hz (c_G_passMonth l ho4 (by decide) e6) (iG_lt ho4) (rc_G ho4) rfl rfl m_G_passMonth mi_G_passMonth ms_G_passMonth q_638 ⟨Nat.le_of_ble_eq_true rfl, Nat.le_of_ble_eq_true rfl⟩ rfl (st := []) rfl (Nat.le_of_ble_eq_true rfl) d_M_arrival_37 ?_
        refine g_iinc hz (v := v5 + 1) (L' := [(5, .int (v5 + 1)), (0, .ref 173), (2, .int v2), (3, .int v3), (4, .ref o4)]) 4 d_M_arrival_40 rfl (congrArg (fun q => v5 + q) ki_1) (by decide) rfl ?_
        refine g_goto hz (tgt := 13) d_M_arrival_43 (by decide) ?_
        refine g_sub [1, 2, 3, 4, 0] rfl ?_
        exact ih v2 v3 o4 (v5 + 1) ho4 _ h
      · replace h := (if_pos c5).symm.trans h
        refine g_iload hz 4 d_M_arrival_28 rfl ?_
        exact g_iret hz (rti h hq) d_M_arrival_30
def f_M_arrival (s : Mm) (a1 : Int32) (a2 : Int32) (a3 : Int32) : Option (Int32 × Mm) :=
  bn (f_C_giftAt s 2 a1) fun x3 s2 =>
  k_M_arrival_13 KF a2 a3 x3 0 s2
set_option maxRecDepth 20000 in
theorem c_M_arrival (l : Launch) {s : Mm} {a1 : Int32} {a2 : Int32} {a3 : Int32} {r' : Int32} {s' : Mm}  (h : f_M_arrival s a1 a2 a3 = some (r', s')) : Cm l y_M_arrival b_M_arrival 6 (some .int) 3 66 [.ref 173, .int a1, .int a2, .int a3] s s' (some (.int r')) := by
  refine Cm.of (own := "PassedOnAndBetter$Mind") (by decide) rfl (fun ad => Nat.le_of_ble_eq_true rfl) ?_
  intro z hz hq
  show G l z b_M_arrival 6 0 [(0, .ref 173), (1, .int a1), (2, .int a2), (3, .int a3)] [] s
  unfold f_M_arrival at h
  refine g_aload_n hz 0 d_M_arrival_0 rfl rfl ?_
  refine gf_M_thought hz q_292 d_M_arrival_1 ?_
  refine g_iload_n hz 1 d_M_arrival_4 rfl rfl ?_
  refine bn_use h (fun x3 s2 e1 h => ?_)
  have hx3 := rr_C_giftAt (by decide) e1
  refine g_callVr hz (c_C_giftAt l (by decide) e1) (iC_lt (by decide)) (rc_C (by decide)) rfl rfl m_C_giftAt mi_C_giftAt ms_C_giftAt q_633 ⟨Nat.le_of_ble_eq_true rfl, Nat.le_of_ble_eq_true rfl⟩ rfl (st := []) rfl (Nat.le_of_ble_eq_true rfl) d_M_arrival_5 ?_
  refine g_astore hz (L' := [(4, .ref x3), (0, .ref 173), (1, .int a1), (2, .int a2), (3, .int a3)]) d_M_arrival_8 (by decide) rfl ?_
  refine g_iconst hz d_M_arrival_10 ki_0 ?_
  refine g_istore hz (L' := [(5, .int 0), (4, .ref x3), (0, .ref 173), (1, .int a1), (2, .int a2), (3, .int a3)]) d_M_arrival_11 (by decide) rfl ?_
  refine g_sub [2, 4, 5, 1, 0] rfl ?_
  exact w_M_arrival_13 hz hq KF a2 a3 x3 0 hx3 _ h
def f_M_firstWith (s : Mm) (a1 : Int32) (a2 : Int32) : Option (Int32 × Mm) :=
  bn (f_M_recall s) fun x3 s2 =>
  bn (f_M_arrival s2 a1 a2 60) fun x6 s5 =>
  some (x6, s5)
set_option maxRecDepth 20000 in
theorem c_M_firstWith (l : Launch) {s : Mm} {a1 : Int32} {a2 : Int32} {r' : Int32} {s' : Mm}  (h : f_M_firstWith s a1 a2 = some (r', s')) : Cm l y_M_firstWith b_M_firstWith 3 (some .int) 4 91 [.ref 173, .int a1, .int a2] s s' (some (.int r')) := by
  refine Cm.of (own := "PassedOnAndBetter$Mind") (by decide) rfl (fun ad => Nat.le_of_ble_eq_true rfl) ?_
  intro z hz hq
  show G l z b_M_firstWith 3 0 [(0, .ref 173), (1, .int a1), (2, .int a2)] [] s
  unfold f_M_firstWith at h
  refine g_aload_n hz 0 d_M_firstWith_0 rfl rfl ?_
  refine bn_use h (fun x3 s2 e1 h => ?_)
  have hx3 := rr_M_recall e1
  refine g_callVr hz (c_M_recall l e1) (by decide) rc_M rfl rfl m_M_recall mi_M_recall ms_M_recall q_632 ⟨Nat.le_of_ble_eq_true rfl, Nat.le_of_ble_eq_true rfl⟩ rfl (st := []) rfl (Nat.le_of_ble_eq_true rfl) d_M_firstWith_1 ?_
  refine g_pop hz d_M_firstWith_4 rfl ?_
  refine g_aload_n hz 0 d_M_firstWith_5 rfl rfl ?_
  refine g_iload_n hz 1 d_M_firstWith_6 rfl rfl ?_
  refine g_iload_n hz 2 d_M_firstWith_7 rfl rfl ?_
  refine g_bipush hz (v := 60) d_M_firstWith_8 (by decide) ?_
  refine bn_use h (fun x6 s5 e4 h => ?_)
  refine g_callVi hz (c_M_arrival l e4) (by decide) rc_M rfl rfl m_M_arrival mi_M_arrival ms_M_arrival q_674 ⟨Nat.le_of_ble_eq_true rfl, Nat.le_of_ble_eq_true rfl⟩ rfl (st := []) rfl (Nat.le_of_ble_eq_true rfl) d_M_firstWith_10 ?_
  exact g_iret hz (rti h hq) d_M_firstWith_13
def f_X_comes (s : Mm) (a1 : Int32) (a2 : Int32) : Option (Int32 × Mm) :=
  bn (f_X_giftNo s a1) fun x3 s2 =>
  bn (f_X_friendNo s2 a2) fun x6 s5 =>
  bn (f_X_first s5 x3 x6 0) fun x9 s8 =>
  if x9 = 0 then
    bn (f_M_firstWith s8 a1 a2) fun x16 s15 =>
    some (x16, s15)
  else
    bn (f_X_refuse s8 x9) fun x13 s12 =>
    some (x13, s12)
set_option maxRecDepth 20000 in
theorem c_X_comes (l : Launch) {s : Mm} {a1 : Int32} {a2 : Int32} {r' : Int32} {s' : Mm}  (h : f_X_comes s a1 a2 = some (r', s')) : Cm l y_X_comes b_X_comes 4 (some .int) 5 113 [.ref 165, .int a1, .int a2] s s' (some (.int r')) := by
  refine Cm.of (own := "PassedOnAndBetter") (by decide) rfl (fun ad => Nat.le_of_ble_eq_true rfl) ?_
  intro z hz hq
  show G l z b_X_comes 4 0 [(0, .ref 165), (1, .int a1), (2, .int a2)] [] s
  unfold f_X_comes at h
  refine g_aload_n hz 0 d_X_comes_0 rfl rfl ?_
  refine g_iload_n hz 1 d_X_comes_1 rfl rfl ?_
  refine bn_use h (fun x3 s2 e1 h => ?_)
  refine g_callVi hz (c_X_giftNo l e1) (by decide) rc_X rfl rfl m_X_giftNo mi_X_giftNo ms_X_giftNo q_555 ⟨Nat.le_of_ble_eq_true rfl, Nat.le_of_ble_eq_true rfl⟩ rfl (st := []) rfl (Nat.le_of_ble_eq_true rfl) d_X_comes_2 ?_
  refine g_aload_n hz 0 d_X_comes_5 rfl rfl ?_
  refine g_iload_n hz 2 d_X_comes_6 rfl rfl ?_
  refine bn_use h (fun x6 s5 e4 h => ?_)
  refine g_callVi hz (c_X_friendNo l e4) (by decide) rc_X rfl rfl m_X_friendNo mi_X_friendNo ms_X_friendNo q_530 ⟨Nat.le_of_ble_eq_true rfl, Nat.le_of_ble_eq_true rfl⟩ rfl (st := [.int x3]) rfl (Nat.le_of_ble_eq_true rfl) d_X_comes_7 ?_
  refine g_iconst hz d_X_comes_10 ki_0 ?_
  refine bn_use h (fun x9 s8 e7 h => ?_)
  refine g_callSi hz (c_X_first l e7) m_X_first mi_X_first q_538 ⟨Nat.le_of_ble_eq_true rfl, Nat.le_of_ble_eq_true rfl⟩ rfl (st := []) rfl (Nat.le_of_ble_eq_true rfl) d_X_comes_11 ?_
  refine g_istore_n hz (L' := [(3, .int x9), (0, .ref 165), (1, .int a1), (2, .int a2)]) d_X_comes_14 rfl (by decide) rfl ?_
  refine g_iload_n hz 0 d_X_comes_15 rfl rfl ?_
  refine g_if_ne hz (tgt := 31) d_X_comes_16 (by decide) (fun c10 => ?_) (fun c10 => ?_)
  · replace h := (if_neg c10).symm.trans h
    refine g_aload_n hz 1 d_X_comes_31 rfl rfl ?_
    refine g_iload_n hz 0 d_X_comes_32 rfl rfl ?_
    refine bn_use h (fun x13 s12 e11 h => ?_)
    refine g_callVi hz (c_X_refuse l e11) (by decide) rc_X rfl rfl m_X_refuse mi_X_refuse ms_X_refuse q_349 ⟨Nat.le_of_ble_eq_true rfl, Nat.le_of_ble_eq_true rfl⟩ rfl (st := []) rfl (Nat.le_of_ble_eq_true rfl) d_X_comes_33 ?_
    exact g_iret hz (rti h hq) d_X_comes_36
  · replace h := (if_pos c10).symm.trans h
    refine g_aload_n hz 1 d_X_comes_19 rfl rfl ?_
    refine gf_X_mind hz q_311 d_X_comes_20 ?_
    refine g_iload_n hz 2 d_X_comes_23 rfl rfl ?_
    refine g_iload_n hz 3 d_X_comes_24 rfl rfl ?_
    refine bn_use h (fun x16 s15 e14 h => ?_)
    refine g_callVi hz (c_M_firstWith l e14) (by decide) rc_M rfl rfl m_M_firstWith mi_M_firstWith ms_M_firstWith q_670 ⟨Nat.le_of_ble_eq_true rfl, Nat.le_of_ble_eq_true rfl⟩ rfl (st := []) rfl (Nat.le_of_ble_eq_true rfl) d_X_comes_25 ?_
    refine g_goto hz (tgt := 36) d_X_comes_28 (by decide) ?_
    exact g_iret hz (rti h hq) d_X_comes_36
def k_M_stuck_61 (kc9 : (Int32 → Int32 → Mm → Option (Int32 × Mm))) (v1 : Int32) (v2 : Int32) (o3 : Nat) (v4 : Int32) (vt0 : Int32) (s : Mm) : Option (Int32 × Mm) :=
  bv (f_G_passMonth s o3 2) fun s15 =>
  if vt0 = 0 then
    kc9 v1 (v2 + 1) s15
  else
    if (s15 o3 2) = v4 then
      nm (v1 ||| (1 <<< (v2 &&& 31))) fun x18 =>
      kc9 x18 (v2 + 1) s15
    else
      kc9 v1 (v2 + 1) s15
set_option maxRecDepth 20000 in
theorem w_M_stuck_61 {l : Launch} {z : Zt} (hz : ZOk z b_M_stuck 6 "PassedOnAndBetter$Mind" 3 66) {r' : Int32} {s' : Mm} (hq : ZR z (some .int) s' (some (.int r'))) {kc9 : (Int32 → Int32 → Mm → Option (Int32 × Mm))} (hk9 : (∀ (v1 : Int32) (v2 : Int32) (s : Mm), kc9 v1 v2 s = some (r', s') → G l z b_M_stuck 6 9 [(0, .ref 173), (1, .int v1), (2, .int v2)] [] s)) (v1 : Int32) (v2 : Int32) (o3 : Nat) (v4 : Int32) (vt0 : Int32) (ho3 : iG o3) (s : Mm) (h : k_M_stuck_61 kc9 v1 v2 o3 v4 vt0 s = some (r', s')) : G l z b_M_stuck 6 61 [(0, .ref 173), (1, .int v1), (2, .int v2), (3, .ref o3), (4, .int v4)] [.int vt0] s := by
  unfold k_M_stuck_61 at h
  refine g_istore hz (L' := [(5, .int vt0), (0, .ref 173), (1, .int v1), (2, .int v2), (3, .ref o3), (4, .int v4)]) d_M_stuck_61 (by decide) rfl ?_
  refine g_aload_n hz 4 d_M_stuck_63 rfl rfl ?_
  refine g_aload_n hz 1 d_M_stuck_64 rfl rfl ?_
  refine gf_M_thought hz q_292 d_M_stuck_65 ?_
  refine bv_use h (fun s15 e14 h => ?_)
  refine g_callVv hz (c_G_passMonth l ho3 (by decide) e14) (iG_lt ho3) (rc_G ho3) rfl rfl m_G_passMonth mi_G_passMonth ms_G_passMonth q_638 ⟨Nat.le_of_ble_eq_true rfl, Nat.le_of_ble_eq_true rfl⟩ rfl (st := []) rfl (Nat.le_of_ble_eq_true rfl) d_M_stuck_68 ?_
  refine g_iload hz 0 d_M_stuck_71 rfl ?_
  refine g_if_eq hz (tgt := 91) d_M_stuck_73 (by decide) (fun c16 => ?_) (fun c16 => ?_)
  · replace h := (if_pos c16).symm.trans h
    refine g_iinc hz (v := v2 + 1) (L' := [(2, .int (v2 + 1)), (5, .int vt0), (0, .ref 173), (1, .int v1), (3, .ref o3), (4, .int v4)]) 3 d_M_stuck_91 rfl (congrArg (fun q => v2 + q) ki_1) (by decide) rfl ?_
    refine g_goto hz (tgt := 9) d_M_stuck_94 (by decide) ?_
    refine g_sub [2, 3, 0] rfl ?_
    exact hk9 v1 (v2 + 1) _ h
  · replace h := (if_neg c16).symm.trans h
    refine g_aload_n hz 4 d_M_stuck_76 rfl rfl ?_
    refine gf_G_with hz ho3 q_181 d_M_stuck_77 ?_
    refine g_iload hz 5 d_M_stuck_80 rfl ?_
    refine g_icmp_ne hz (tgt := 91) d_M_stuck_82 (by decide) (fun c17 => ?_) (fun c17 => ?_)
    · replace h := (if_neg c17).symm.trans h
      refine g_iinc hz (v := v2 + 1) (L' := [(2, .int (v2 + 1)), (5, .int vt0), (0, .ref 173), (1, .int v1), (3, .ref o3), (4, .int v4)]) 3 d_M_stuck_91 rfl (congrArg (fun q => v2 + q) ki_1) (by decide) rfl ?_
      refine g_goto hz (tgt := 9) d_M_stuck_94 (by decide) ?_
      refine g_sub [2, 3, 0] rfl ?_
      exact hk9 v1 (v2 + 1) _ h
    · replace h := (if_pos c17).symm.trans h
      refine g_iload_n hz 2 d_M_stuck_85 rfl rfl ?_
      refine g_iconst hz d_M_stuck_86 ki_1 ?_
      refine g_iload_n hz 3 d_M_stuck_87 rfl rfl ?_
      refine g_ishl hz d_M_stuck_88 ?_
      refine g_ior hz d_M_stuck_89 ?_
      refine g_nmi (fun x18 e19 => ?_)
      replace h := nm_use h e19
      refine g_istore_n hz (L' := [(1, .int x18), (5, .int vt0), (0, .ref 173), (2, .int v2), (3, .ref o3), (4, .int v4)]) d_M_stuck_90 rfl (by decide) rfl ?_
      refine g_iinc hz (v := v2 + 1) (L' := [(2, .int (v2 + 1)), (1, .int x18), (5, .int vt0), (0, .ref 173), (3, .ref o3), (4, .int v4)]) 3 d_M_stuck_91 rfl (congrArg (fun q => v2 + q) ki_1) (by decide) rfl ?_
      refine g_goto hz (tgt := 9) d_M_stuck_94 (by decide) ?_
      refine g_sub [3, 1, 0] rfl ?_
      exact hk9 x18 (v2 + 1) _ h
def k_M_stuck_9 : Nat → Int32 → Int32 → Mm → Option (Int32 × Mm)
  | 0, _, _, _ => none
  | n + 1, v1, v2, s => if (s 2 5) ≤ v2 then
      some (v1, s)
    else
      bn (f_C_giftAt s 2 v2) fun x7 s6 =>
      nm (s6 x7 2) fun x8 =>
      bn (f_C_friendAt s6 2 x8) fun x12 s11 =>
      if ((s6 x7 3) + 1) < (s11 x12 4) then
        k_M_stuck_61 (fun v1 v2 s => k_M_stuck_9 n v1 v2 s) v1 v2 x7 x8 0 s11
      else
        k_M_stuck_61 (fun v1 v2 s => k_M_stuck_9 n v1 v2 s) v1 v2 x7 x8 1 s11
set_option maxRecDepth 20000 in
theorem w_M_stuck_9 {l : Launch} {z : Zt} (hz : ZOk z b_M_stuck 6 "PassedOnAndBetter$Mind" 3 66) {r' : Int32} {s' : Mm} (hq : ZR z (some .int) s' (some (.int r'))) : ∀ (n : Nat) (v1 : Int32) (v2 : Int32) (s : Mm), k_M_stuck_9 n v1 v2 s = some (r', s') → G l z b_M_stuck 6 9 [(0, .ref 173), (1, .int v1), (2, .int v2)] [] s := by
  intro n
  induction n with
  | zero => intro v1 v2 s h; unfold k_M_stuck_9 at h; cases h
  | succ n ih =>
    intro v1 v2 s h
    unfold k_M_stuck_9 at h
    refine g_iload_n hz 2 d_M_stuck_9 rfl rfl ?_
    refine g_aload_n hz 0 d_M_stuck_10 rfl rfl ?_
    refine gf_M_thought hz q_292 d_M_stuck_11 ?_
    refine gf_C_gifts hz (by decide) q_211 d_M_stuck_14 ?_
    refine g_icmp_ge hz (tgt := 97) d_M_stuck_17 (by decide) (fun c4 => ?_) (fun c4 => ?_)
    · replace h := (if_pos c4).symm.trans h
      refine g_iload_n hz 1 d_M_stuck_97 rfl rfl ?_
      exact g_iret hz (rti h hq) d_M_stuck_98
    · replace h := (if_neg c4).symm.trans h
      refine g_aload_n hz 0 d_M_stuck_20 rfl rfl ?_
      refine gf_M_thought hz q_292 d_M_stuck_21 ?_
      refine g_iload_n hz 2 d_M_stuck_24 rfl rfl ?_
      refine bn_use h (fun x7 s6 e5 h => ?_)
      have hx7 := rr_C_giftAt (by decide) e5
      refine g_callVr hz (c_C_giftAt l (by decide) e5) (iC_lt (by decide)) (rc_C (by decide)) rfl rfl m_C_giftAt mi_C_giftAt ms_C_giftAt q_633 ⟨Nat.le_of_ble_eq_true rfl, Nat.le_of_ble_eq_true rfl⟩ rfl (st := []) rfl (Nat.le_of_ble_eq_true rfl) d_M_stuck_25 ?_
      refine g_astore_n hz (L' := [(3, .ref x7), (0, .ref 173), (1, .int v1), (2, .int v2)]) d_M_stuck_28 rfl (by decide) rfl ?_
      refine g_aload_n hz 0 d_M_stuck_29 rfl rfl ?_
      refine gf_G_with hz hx7 q_181 d_M_stuck_30 ?_
      refine g_nmi (fun x8 e9 => ?_)
      replace h := nm_use h e9
      refine g_istore hz (L' := [(4, .int x8), (3, .ref x7), (0, .ref 173), (1, .int v1), (2, .int v2)]) d_M_stuck_33 (by decide) rfl ?_
      refine g_aload_n hz 1 d_M_stuck_35 rfl rfl ?_
      refine gf_G_kept hz hx7 q_185 d_M_stuck_36 ?_
      refine g_iconst hz d_M_stuck_39 ki_1 ?_
      refine g_iadd hz d_M_stuck_40 ?_
      refine g_aload_n hz 2 d_M_stuck_41 rfl rfl ?_
      refine gf_M_thought hz q_292 d_M_stuck_42 ?_
      refine g_iload hz 0 d_M_stuck_45 rfl ?_
      refine bn_use h (fun x12 s11 e10 h => ?_)
      have hx12 := rr_C_friendAt (by decide) e10
      refine g_callVr hz (c_C_friendAt l (by decide) e10) (iC_lt (by decide)) (rc_C (by decide)) rfl rfl m_C_friendAt mi_C_friendAt ms_C_friendAt q_686 ⟨Nat.le_of_ble_eq_true rfl, Nat.le_of_ble_eq_true rfl⟩ rfl (st := [.int ((s6 x7 3) + 1)]) rfl (Nat.le_of_ble_eq_true rfl) d_M_stuck_47 ?_
      refine gf_F_waits hz hx12 q_134 d_M_stuck_50 ?_
      refine g_icmp_lt hz (tgt := 60) d_M_stuck_53 (by decide) (fun c13 => ?_) (fun c13 => ?_)
      · replace h := (if_pos c13).symm.trans h
        refine g_iconst hz d_M_stuck_60 ki_0 ?_
        refine g_sub [2, 3, 4, 1, 0] rfl ?_
        exact w_M_stuck_61 hz hq ih v1 v2 x7 x8 0 hx7 _ h
      · replace h := (if_neg c13).symm.trans h
        refine g_iconst hz d_M_stuck_56 ki_1 ?_
        refine g_goto hz (tgt := 61) d_M_stuck_57 (by decide) ?_
        refine g_sub [2, 3, 4, 1, 0] rfl ?_
        exact w_M_stuck_61 hz hq ih v1 v2 x7 x8 1 hx7 _ h
def f_M_stuck (s : Mm) : Option (Int32 × Mm) :=
  bn (f_M_recall s) fun x3 s2 =>
  k_M_stuck_9 KF 0 0 s2
set_option maxRecDepth 20000 in
theorem c_M_stuck (l : Launch) {s : Mm}  {r' : Int32} {s' : Mm}  (h : f_M_stuck s = some (r', s')) : Cm l y_M_stuck b_M_stuck 6 (some .int) 3 66 [.ref 173] s s' (some (.int r')) := by
  refine Cm.of (own := "PassedOnAndBetter$Mind") (by decide) rfl (fun ad => Nat.le_of_ble_eq_true rfl) ?_
  intro z hz hq
  show G l z b_M_stuck 6 0 [(0, .ref 173)] [] s
  unfold f_M_stuck at h
  refine g_iconst hz d_M_stuck_0 ki_0 ?_
  refine g_istore_n hz (L' := [(1, .int 0), (0, .ref 173)]) d_M_stuck_1 rfl (by decide) rfl ?_
  refine g_aload_n hz 1 d_M_stuck_2 rfl rfl ?_
  refine bn_use h (fun x3 s2 e1 h => ?_)
  have hx3 := rr_M_recall e1
  refine g_callVr hz (c_M_recall l e1) (by decide) rc_M rfl rfl m_M_recall mi_M_recall ms_M_recall q_632 ⟨Nat.le_of_ble_eq_true rfl, Nat.le_of_ble_eq_true rfl⟩ rfl (st := []) rfl (Nat.le_of_ble_eq_true rfl) d_M_stuck_3 ?_
  refine g_pop hz d_M_stuck_6 rfl ?_
  refine g_iconst hz d_M_stuck_7 ki_0 ?_
  refine g_istore_n hz (L' := [(2, .int 0), (1, .int 0), (0, .ref 173)]) d_M_stuck_8 rfl (by decide) rfl ?_
  refine g_sub [2, 1, 0] rfl ?_
  exact w_M_stuck_9 hz hq KF 0 0 _ h
def f_X_sticks (s : Mm) : Option (Int32 × Mm) :=
  bn (f_M_stuck s) fun x3 s2 =>
  some (x3, s2)
set_option maxRecDepth 20000 in
theorem c_X_sticks (l : Launch) {s : Mm}  {r' : Int32} {s' : Mm}  (h : f_X_sticks s = some (r', s')) : Cm l y_X_sticks b_X_sticks 1 (some .int) 4 91 [.ref 165] s s' (some (.int r')) := by
  refine Cm.of (own := "PassedOnAndBetter") (by decide) rfl (fun ad => Nat.le_of_ble_eq_true rfl) ?_
  intro z hz hq
  show G l z b_X_sticks 1 0 [(0, .ref 165)] [] s
  unfold f_X_sticks at h
  refine g_aload_n hz 0 d_X_sticks_0 rfl rfl ?_
  refine gf_X_mind hz q_311 d_X_sticks_1 ?_
  refine bn_use h (fun x3 s2 e1 h => ?_)
  refine g_callVi hz (c_M_stuck l e1) (by decide) rc_M rfl rfl m_M_stuck mi_M_stuck ms_M_stuck q_682 ⟨Nat.le_of_ble_eq_true rfl, Nat.le_of_ble_eq_true rfl⟩ rfl (st := []) rfl (Nat.le_of_ble_eq_true rfl) d_X_sticks_4 ?_
  exact g_iret hz (rti h hq) d_X_sticks_7
def k_M_startOfMostWorth_10 : Nat → Int32 → Int32 → Int32 → Int32 → Int32 → Int32 → Mm → Option (Int32 × Mm)
  | 0, _, _, _, _, _, _, _ => none
  | n + 1, v1, v2, v3, v4, v5, v6, s => if (s 0 4) ≤ v6 then
      if v3 = 0 then
        some (v4, s)
      else
        some (v5, s)
    else
      bn (f_M_recall s) fun x5 s4 =>
      bn (f_C_giftAt s4 x5 v1) fun x8 s7 =>
      bv (f_G_goTo s7 x8 v6) fun s10 =>
      bv (f_M_passGift s10 x8 v2) fun s12 =>
      if (s12 x8 0) ≤ v5 then
        k_M_startOfMostWorth_10 n v1 v2 v3 v4 v5 (v6 + 1) s12
      else
        nm (s12 x8 0) fun x14 =>
        k_M_startOfMostWorth_10 n v1 v2 v3 v6 x14 (v6 + 1) s12
set_option maxRecDepth 20000 in
theorem w_M_startOfMostWorth_10 {l : Launch} {z : Zt} (hz : ZOk z b_M_startOfMostWorth 8 "PassedOnAndBetter$Mind" 4 89) {r' : Int32} {s' : Mm} (hq : ZR z (some .int) s' (some (.int r'))) : ∀ (n : Nat) (v1 : Int32) (v2 : Int32) (v3 : Int32) (v4 : Int32) (v5 : Int32) (v6 : Int32) (s : Mm), k_M_startOfMostWorth_10 n v1 v2 v3 v4 v5 v6 s = some (r', s') → G l z b_M_startOfMostWorth 8 10 [(0, .ref 173), (1, .int v1), (2, .int v2), (3, .int v3), (4, .int v4), (5, .int v5), (6, .int v6)] [] s := by
  intro n
  induction n with
  | zero => intro v1 v2 v3 v4 v5 v6 s h; unfold k_M_startOfMostWorth_10 at h; cases h
  | succ n ih =>
    intro v1 v2 v3 v4 v5 v6 s h
    unfold k_M_startOfMostWorth_10 at h
    refine g_iload hz 6 d_M_startOfMostWorth_10 rfl ?_
    refine g_aload_n hz 0 d_M_startOfMostWorth_12 rfl rfl ?_
    refine gf_M_now hz q_290 d_M_startOfMostWorth_13 ?_
    refine gf_C_friends hz (by decide) q_208 d_M_startOfMostWorth_16 ?_
    refine g_icmp_ge hz (tgt := 73) d_M_startOfMostWorth_19 (by decide) (fun c1 => ?_) (fun c1 => ?_)
    · replace h := (if_pos c1).symm.trans h
      refine g_iload_n hz 3 d_M_startOfMostWorth_73 rfl rfl ?_
      refine g_if_ne hz (tgt := 82) d_M_startOfMostWorth_74 (by decide) (fun c2 => ?_) (fun c2 => ?_)
      · replace h := (if_neg c2).symm.trans h
        refine g_iload hz 5 d_M_startOfMostWorth_82 rfl ?_
        exact g_iret hz (rti h hq) d_M_startOfMostWorth_84
      · replace h := (if_pos c2).symm.trans h
        refine g_iload hz 4 d_M_startOfMostWorth_77 rfl ?_
        refine g_goto hz (tgt := 84) d_M_startOfMostWorth_79 (by decide) ?_
        exact g_iret hz (rti h hq) d_M_startOfMostWorth_84
    · replace h := (if_neg c1).symm.trans h
      refine g_aload_n hz 0 d_M_startOfMostWorth_22 rfl rfl ?_
      refine bn_use h (fun x5 s4 e3 h => ?_)
      have hx5 := rr_M_recall e3
      refine g_callVr hz (c_M_recall l e3) (by decide) rc_M rfl rfl m_M_recall mi_M_recall ms_M_recall q_632 ⟨Nat.le_of_ble_eq_true rfl, Nat.le_of_ble_eq_true rfl⟩ rfl (st := []) rfl (Nat.le_of_ble_eq_true rfl) d_M_startOfMostWorth_23 ?_
      refine g_iload_n hz 1 d_M_startOfMostWorth_26 rfl rfl ?_
      refine bn_use h (fun x8 s7 e6 h => ?_)
      have hx8 := rr_C_giftAt hx5 e6
      refine g_callVr hz (c_C_giftAt l hx5 e6) (iC_lt hx5) (rc_C hx5) rfl rfl m_C_giftAt mi_C_giftAt ms_C_giftAt q_633 ⟨Nat.le_of_ble_eq_true rfl, Nat.le_of_ble_eq_true rfl⟩ rfl (st := []) rfl (Nat.le_of_ble_eq_true rfl) d_M_startOfMostWorth_27 ?_
      refine g_astore hz (L' := [(7, .ref x8), (0, .ref 173), (1, .int v1), (2, .int v2), (3, .int v3), (4, .int v4), (5, .int v5), (6, .int v6)]) d_M_startOfMostWorth_30 (by decide) rfl ?_
      refine g_aload hz 0 d_M_startOfMostWorth_32 rfl ?_
      refine g_iload hz 7 d_M_startOfMostWorth_34 rfl ?_
      refine bv_use h (fun s10 e9 h => ?_)
      refine g_callVv hz (c_G_goTo l hx8 e9) (iG_lt hx8) (rc_G hx8) rfl rfl m_G_goTo mi_G_goTo ms_G_goTo q_695 ⟨Nat.le_of_ble_eq_true rfl, Nat.le_of_ble_eq_true rfl⟩ rfl (st := []) rfl (Nat.le_of_ble_eq_true rfl) d_M_startOfMostWorth_36 ?_
      refine g_aload_n hz 1 d_M_startOfMostWorth_39 rfl rfl ?_
      refine g_aload hz 0 d_M_startOfMostWorth_40 rfl ?_
      refine g_iload_n hz 3 d_M_startOfMostWorth_42 rfl rfl ?_
      refine bv_use h (fun s12 e11 h => ?_)
      refine g_callVv hz (c_M_passGift l hx8 e11) (by decide) rc_M rfl rfl m_M_passGift mi_M_passGift ms_M_passGift q_634 ⟨Nat.le_of_ble_eq_true rfl, Nat.le_of_ble_eq_true rfl⟩ rfl (st := []) rfl (Nat.le_of_ble_eq_true rfl) d_M_startOfMostWorth_43 ?_
      refine g_aload hz 0 d_M_startOfMostWorth_46 rfl ?_
      refine gf_G_worth hz hx8 q_175 d_M_startOfMostWorth_48 ?_
      refine g_iload hz 6 d_M_startOfMostWorth_51 rfl ?_
      refine g_icmp_le hz (tgt := 67) d_M_startOfMostWorth_53 (by decide) (fun c13 => ?_) (fun c13 => ?_)
      · replace h := (if_pos c13).symm.trans h
        refine g_iinc hz (v := v6 + 1) (L' := [(6, .int (v6 + 1)), (7, .ref x8), (0, .ref 173), (1, .int v1), (2, .int v2), (3, .int v3), (4, .int v4), (5, .int v5)]) 7 d_M_startOfMostWorth_67 rfl (congrArg (fun q => v6 + q) ki_1) (by decide) rfl ?_
        refine g_goto hz (tgt := 10) d_M_startOfMostWorth_70 (by decide) ?_
        refine g_sub [2, 3, 4, 5, 6, 7, 0] rfl ?_
        exact ih v1 v2 v3 v4 v5 (v6 + 1) _ h
      · replace h := (if_neg c13).symm.trans h
        refine g_aload hz 0 d_M_startOfMostWorth_56 rfl ?_
        refine gf_G_worth hz hx8 q_175 d_M_startOfMostWorth_58 ?_
        refine g_nmi (fun x14 e15 => ?_)
        replace h := nm_use h e15
        refine g_istore hz (L' := [(5, .int x14), (7, .ref x8), (0, .ref 173), (1, .int v1), (2, .int v2), (3, .int v3), (4, .int v4), (6, .int v6)]) d_M_startOfMostWorth_61 (by decide) rfl ?_
        refine g_iload hz 7 d_M_startOfMostWorth_63 rfl ?_
        refine g_istore hz (L' := [(4, .int v6), (5, .int x14), (7, .ref x8), (0, .ref 173), (1, .int v1), (2, .int v2), (3, .int v3), (6, .int v6)]) d_M_startOfMostWorth_65 (by decide) rfl ?_
        refine g_iinc hz (v := v6 + 1) (L' := [(6, .int (v6 + 1)), (4, .int v6), (5, .int x14), (7, .ref x8), (0, .ref 173), (1, .int v1), (2, .int v2), (3, .int v3)]) 7 d_M_startOfMostWorth_67 rfl (congrArg (fun q => v6 + q) ki_1) (by decide) rfl ?_
        refine g_goto hz (tgt := 10) d_M_startOfMostWorth_70 (by decide) ?_
        refine g_sub [4, 5, 6, 7, 1, 2, 0] rfl ?_
        exact ih v1 v2 v3 v6 x14 (v6 + 1) _ h
def f_M_startOfMostWorth (s : Mm) (a1 : Int32) (a2 : Int32) (a3 : Int32) : Option (Int32 × Mm) :=
  k_M_startOfMostWorth_10 KF a1 a2 a3 (-9) (-1) 0 s
set_option maxRecDepth 20000 in
theorem c_M_startOfMostWorth (l : Launch) {s : Mm} {a1 : Int32} {a2 : Int32} {a3 : Int32} {r' : Int32} {s' : Mm}  (h : f_M_startOfMostWorth s a1 a2 a3 = some (r', s')) : Cm l y_M_startOfMostWorth b_M_startOfMostWorth 8 (some .int) 4 89 [.ref 173, .int a1, .int a2, .int a3] s s' (some (.int r')) := by
  refine Cm.of (own := "PassedOnAndBetter$Mind") (by decide) rfl (fun ad => Nat.le_of_ble_eq_true rfl) ?_
  intro z hz hq
  show G l z b_M_startOfMostWorth 8 0 [(0, .ref 173), (1, .int a1), (2, .int a2), (3, .int a3)] [] s
  unfold f_M_startOfMostWorth at h
  refine g_bipush hz (v := (-9)) d_M_startOfMostWorth_0 (by decide) ?_
  refine g_istore hz (L' := [(4, .int (-9)), (0, .ref 173), (1, .int a1), (2, .int a2), (3, .int a3)]) d_M_startOfMostWorth_2 (by decide) rfl ?_
  refine g_iconst hz d_M_startOfMostWorth_4 ki_m1 ?_
  refine g_istore hz (L' := [(5, .int (-1)), (4, .int (-9)), (0, .ref 173), (1, .int a1), (2, .int a2), (3, .int a3)]) d_M_startOfMostWorth_5 (by decide) rfl ?_
  refine g_iconst hz d_M_startOfMostWorth_7 ki_0 ?_
  refine g_istore hz (L' := [(6, .int 0), (5, .int (-1)), (4, .int (-9)), (0, .ref 173), (1, .int a1), (2, .int a2), (3, .int a3)]) d_M_startOfMostWorth_8 (by decide) rfl ?_
  refine g_sub [3, 4, 5, 6, 2, 1, 0] rfl ?_
  exact w_M_startOfMostWorth_10 hz hq KF a1 a2 a3 (-9) (-1) 0 _ h
def f_X_bestStart (s : Mm) (a1 : Int32) (a2 : Int32) (a3 : Int32) : Option (Int32 × Mm) :=
  bn (f_X_giftNo s a1) fun x3 s2 =>
  bn (f_X_spanNo s2 a2) fun x6 s5 =>
  bn (f_X_whatNo s5 a3 1) fun x9 s8 =>
  bn (f_X_first s8 x3 x6 x9) fun x12 s11 =>
  if x12 = 0 then
    bn (f_M_startOfMostWorth s11 a1 a2 a3) fun x19 s18 =>
    some (x19, s18)
  else
    bn (f_X_refuse s11 x12) fun x16 s15 =>
    some (x16, s15)
set_option maxRecDepth 20000 in
theorem c_X_bestStart (l : Launch) {s : Mm} {a1 : Int32} {a2 : Int32} {a3 : Int32} {r' : Int32} {s' : Mm}  (h : f_X_bestStart s a1 a2 a3 = some (r', s')) : Cm l y_X_bestStart b_X_bestStart 5 (some .int) 5 116 [.ref 165, .int a1, .int a2, .int a3] s s' (some (.int r')) := by
  refine Cm.of (own := "PassedOnAndBetter") (by decide) rfl (fun ad => Nat.le_of_ble_eq_true rfl) ?_
  intro z hz hq
  show G l z b_X_bestStart 5 0 [(0, .ref 165), (1, .int a1), (2, .int a2), (3, .int a3)] [] s
  unfold f_X_bestStart at h
  refine g_aload_n hz 0 d_X_bestStart_0 rfl rfl ?_
  refine g_iload_n hz 1 d_X_bestStart_1 rfl rfl ?_
  refine bn_use h (fun x3 s2 e1 h => ?_)
  refine g_callVi hz (c_X_giftNo l e1) (by decide) rc_X rfl rfl m_X_giftNo mi_X_giftNo ms_X_giftNo q_555 ⟨Nat.le_of_ble_eq_true rfl, Nat.le_of_ble_eq_true rfl⟩ rfl (st := []) rfl (Nat.le_of_ble_eq_true rfl) d_X_bestStart_2 ?_
  refine g_iload_n hz 2 d_X_bestStart_5 rfl rfl ?_
  refine bn_use h (fun x6 s5 e4 h => ?_)
  refine g_callSi hz (c_X_spanNo l e4) m_X_spanNo mi_X_spanNo q_625 ⟨Nat.le_of_ble_eq_true rfl, Nat.le_of_ble_eq_true rfl⟩ rfl (st := [.int x3]) rfl (Nat.le_of_ble_eq_true rfl) d_X_bestStart_6 ?_
  refine g_iload_n hz 3 d_X_bestStart_9 rfl rfl ?_
  refine g_iconst hz d_X_bestStart_10 ki_1 ?_
  refine bn_use h (fun x9 s8 e7 h => ?_)
  refine g_callSi hz (c_X_whatNo l e7) m_X_whatNo mi_X_whatNo q_535 ⟨Nat.le_of_ble_eq_true rfl, Nat.le_of_ble_eq_true rfl⟩ rfl (st := [.int x6, .int x3]) rfl (Nat.le_of_ble_eq_true rfl) d_X_bestStart_11 ?_
  refine bn_use h (fun x12 s11 e10 h => ?_)
  refine g_callSi hz (c_X_first l e10) m_X_first mi_X_first q_538 ⟨Nat.le_of_ble_eq_true rfl, Nat.le_of_ble_eq_true rfl⟩ rfl (st := []) rfl (Nat.le_of_ble_eq_true rfl) d_X_bestStart_14 ?_
  refine g_istore hz (L' := [(4, .int x12), (0, .ref 165), (1, .int a1), (2, .int a2), (3, .int a3)]) d_X_bestStart_17 (by decide) rfl ?_
  refine g_iload hz 0 d_X_bestStart_19 rfl ?_
  refine g_if_ne hz (tgt := 37) d_X_bestStart_21 (by decide) (fun c13 => ?_) (fun c13 => ?_)
  · replace h := (if_neg c13).symm.trans h
    refine g_aload_n hz 1 d_X_bestStart_37 rfl rfl ?_
    refine g_iload hz 0 d_X_bestStart_38 rfl ?_
    refine bn_use h (fun x16 s15 e14 h => ?_)
    refine g_callVi hz (c_X_refuse l e14) (by decide) rc_X rfl rfl m_X_refuse mi_X_refuse ms_X_refuse q_349 ⟨Nat.le_of_ble_eq_true rfl, Nat.le_of_ble_eq_true rfl⟩ rfl (st := []) rfl (Nat.le_of_ble_eq_true rfl) d_X_bestStart_40 ?_
    exact g_iret hz (rti h hq) d_X_bestStart_43
  · replace h := (if_pos c13).symm.trans h
    refine g_aload_n hz 1 d_X_bestStart_24 rfl rfl ?_
    refine gf_X_mind hz q_311 d_X_bestStart_25 ?_
    refine g_iload_n hz 2 d_X_bestStart_28 rfl rfl ?_
    refine g_iload_n hz 3 d_X_bestStart_29 rfl rfl ?_
    refine g_iload_n hz 4 d_X_bestStart_30 rfl rfl ?_
    refine bn_use h (fun x19 s18 e17 h => ?_)
    refine g_callVi hz (c_M_startOfMostWorth l e17) (by decide) rc_M rfl rfl m_M_startOfMostWorth mi_M_startOfMostWorth ms_M_startOfMostWorth q_691 ⟨Nat.le_of_ble_eq_true rfl, Nat.le_of_ble_eq_true rfl⟩ rfl (st := []) rfl (Nat.le_of_ble_eq_true rfl) d_X_bestStart_31 ?_
    refine g_goto hz (tgt := 43) d_X_bestStart_34 (by decide) ?_
    exact g_iret hz (rti h hq) d_X_bestStart_43
def f_M_worthWithNext (s : Mm) (a1 : Int32) (a2 : Int32) (a3 : Int32) : Option (Int32 × Mm) :=
  bn (f_M_recall s) fun x3 s2 =>
  bn (f_C_friendAt s2 x3 a1) fun x6 s5 =>
  nm (mU s5 x6 3 a2) fun s7 =>
  bv (f_C_pass s7 2 a3) fun s10 =>
  bn (f_C_allWorth s10 2) fun x13 s12 =>
  some (x13, s12)
set_option maxRecDepth 20000 in
theorem c_M_worthWithNext (l : Launch) {s : Mm} {a1 : Int32} {a2 : Int32} {a3 : Int32} {r' : Int32} {s' : Mm}  (h : f_M_worthWithNext s a1 a2 a3 = some (r', s')) : Cm l y_M_worthWithNext b_M_worthWithNext 4 (some .int) 4 89 [.ref 173, .int a1, .int a2, .int a3] s s' (some (.int r')) := by
  refine Cm.of (own := "PassedOnAndBetter$Mind") (by decide) rfl (fun ad => Nat.le_of_ble_eq_true rfl) ?_
  intro z hz hq
  show G l z b_M_worthWithNext 4 0 [(0, .ref 173), (1, .int a1), (2, .int a2), (3, .int a3)] [] s
  unfold f_M_worthWithNext at h
  refine g_aload_n hz 0 d_M_worthWithNext_0 rfl rfl ?_
  refine bn_use h (fun x3 s2 e1 h => ?_)
  have hx3 := rr_M_recall e1
  refine g_callVr hz (c_M_recall l e1) (by decide) rc_M rfl rfl m_M_recall mi_M_recall ms_M_recall q_632 ⟨Nat.le_of_ble_eq_true rfl, Nat.le_of_ble_eq_true rfl⟩ rfl (st := []) rfl (Nat.le_of_ble_eq_true rfl) d_M_worthWithNext_1 ?_
  refine g_iload_n hz 1 d_M_worthWithNext_4 rfl rfl ?_
  refine bn_use h (fun x6 s5 e4 h => ?_)
  have hx6 := rr_C_friendAt hx3 e4
  refine g_callVr hz (c_C_friendAt l hx3 e4) (iC_lt hx3) (rc_C hx3) rfl rfl m_C_friendAt mi_C_friendAt ms_C_friendAt q_686 ⟨Nat.le_of_ble_eq_true rfl, Nat.le_of_ble_eq_true rfl⟩ rfl (st := []) rfl (Nat.le_of_ble_eq_true rfl) d_M_worthWithNext_5 ?_
  refine g_iload_n hz 2 d_M_worthWithNext_8 rfl rfl ?_
  refine pf_F_next hz hx6 q_131 d_M_worthWithNext_9 (fun s7 e8 => ?_)
  replace h := nm_use h e8
  refine g_aload_n hz 0 d_M_worthWithNext_12 rfl rfl ?_
  refine gf_M_thought hz q_292 d_M_worthWithNext_13 ?_
  refine g_iload_n hz 3 d_M_worthWithNext_16 rfl rfl ?_
  refine bv_use h (fun s10 e9 h => ?_)
  refine g_callVv hz (c_C_pass l (by decide) e9) (iC_lt (by decide)) (rc_C (by decide)) rfl rfl m_C_pass mi_C_pass ms_C_pass q_651 ⟨Nat.le_of_ble_eq_true rfl, Nat.le_of_ble_eq_true rfl⟩ rfl (st := []) rfl (Nat.le_of_ble_eq_true rfl) d_M_worthWithNext_17 ?_
  refine g_aload_n hz 0 d_M_worthWithNext_20 rfl rfl ?_
  refine gf_M_thought hz q_292 d_M_worthWithNext_21 ?_
  refine bn_use h (fun x13 s12 e11 h => ?_)
  refine g_callVi hz (c_C_allWorth l (by decide) e11) (iC_lt (by decide)) (rc_C (by decide)) rfl rfl m_C_allWorth mi_C_allWorth ms_C_allWorth q_652 ⟨Nat.le_of_ble_eq_true rfl, Nat.le_of_ble_eq_true rfl⟩ rfl (st := []) rfl (Nat.le_of_ble_eq_true rfl) d_M_worthWithNext_24 ?_
  exact g_iret hz (rti h hq) d_M_worthWithNext_27
def k_M_nextOfMostWorth_40 (kc10 : (Int32 → Int32 → Int32 → Int32 → Int32 → Int32 → Mm → Option (Int32 × Mm))) (v1 : Int32) (v2 : Int32) (v3 : Int32) (v4 : Int32) (v5 : Int32) (v6 : Int32) (vt0 : Int32) (s : Mm) : Option (Int32 × Mm) :=
  if vt0 ≤ v5 then
    kc10 v1 v2 v3 v4 v5 (v6 + 1) s
  else
    kc10 v1 v2 v3 v6 vt0 (v6 + 1) s
set_option maxRecDepth 20000 in
theorem w_M_nextOfMostWorth_40 {l : Launch} {z : Zt} (hz : ZOk z b_M_nextOfMostWorth 8 "PassedOnAndBetter$Mind" 5 112) {r' : Int32} {s' : Mm} (hq : ZR z (some .int) s' (some (.int r'))) {kc10 : (Int32 → Int32 → Int32 → Int32 → Int32 → Int32 → Mm → Option (Int32 × Mm))} (hk10 : (∀ (v1 : Int32) (v2 : Int32) (v3 : Int32) (v4 : Int32) (v5 : Int32) (v6 : Int32) (s : Mm), kc10 v1 v2 v3 v4 v5 v6 s = some (r', s') → G l z b_M_nextOfMostWorth 8 10 [(0, .ref 173), (1, .int v1), (2, .int v2), (3, .int v3), (4, .int v4), (5, .int v5), (6, .int v6)] [] s)) (v1 : Int32) (v2 : Int32) (v3 : Int32) (v4 : Int32) (v5 : Int32) (v6 : Int32) (vt0 : Int32) (s : Mm) (h : k_M_nextOfMostWorth_40 kc10 v1 v2 v3 v4 v5 v6 vt0 s = some (r', s')) : G l z b_M_nextOfMostWorth 8 40 [(0, .ref 173), (1, .int v1), (2, .int v2), (3, .int v3), (4, .int v4), (5, .int v5), (6, .int v6)] [.int vt0] s := by
  unfold k_M_nextOfMostWorth_40 at h
  refine g_istore hz (L' := [(7, .int vt0), (0, .ref 173), (1, .int v1), (2, .int v2), (3, .int v3), (4, .int v4), (5, .int v5), (6, .int v6)]) d_M_nextOfMostWorth_40 (by decide) rfl ?_
  refine g_iload hz 0 d_M_nextOfMostWorth_42 rfl ?_
  refine g_iload hz 6 d_M_nextOfMostWorth_44 rfl ?_
  refine g_icmp_le hz (tgt := 57) d_M_nextOfMostWorth_46 (by decide) (fun c12 => ?_) (fun c12 => ?_)
  · replace h := (if_pos c12).symm.trans h
    refine g_iinc hz (v := v6 + 1) (L' := [(6, .int (v6 + 1)), (7, .int vt0), (0, .ref 173), (1, .int v1), (2, .int v2), (3, .int v3), (4, .int v4), (5, .int v5)]) 7 d_M_nextOfMostWorth_57 rfl (congrArg (fun q => v6 + q) ki_1) (by decide) rfl ?_
    refine g_goto hz (tgt := 10) d_M_nextOfMostWorth_60 (by decide) ?_
    refine g_sub [2, 3, 4, 5, 6, 7, 0] rfl ?_
    exact hk10 v1 v2 v3 v4 v5 (v6 + 1) _ h
  · replace h := (if_neg c12).symm.trans h
    refine g_iload hz 0 d_M_nextOfMostWorth_49 rfl ?_
    refine g_istore hz (L' := [(5, .int vt0), (7, .int vt0), (0, .ref 173), (1, .int v1), (2, .int v2), (3, .int v3), (4, .int v4), (6, .int v6)]) d_M_nextOfMostWorth_51 (by decide) rfl ?_
    refine g_iload hz 7 d_M_nextOfMostWorth_53 rfl ?_
    refine g_istore hz (L' := [(4, .int v6), (5, .int vt0), (7, .int vt0), (0, .ref 173), (1, .int v1), (2, .int v2), (3, .int v3), (6, .int v6)]) d_M_nextOfMostWorth_55 (by decide) rfl ?_
    refine g_iinc hz (v := v6 + 1) (L' := [(6, .int (v6 + 1)), (4, .int v6), (5, .int vt0), (7, .int vt0), (0, .ref 173), (1, .int v1), (2, .int v2), (3, .int v3)]) 7 d_M_nextOfMostWorth_57 rfl (congrArg (fun q => v6 + q) ki_1) (by decide) rfl ?_
    refine g_goto hz (tgt := 10) d_M_nextOfMostWorth_60 (by decide) ?_
    refine g_sub [4, 5, 6, 7, 1, 2, 0] rfl ?_
    exact hk10 v1 v2 v3 v6 vt0 (v6 + 1) _ h
def k_M_nextOfMostWorth_10 : Nat → Int32 → Int32 → Int32 → Int32 → Int32 → Int32 → Mm → Option (Int32 × Mm)
  | 0, _, _, _, _, _, _, _ => none
  | n + 1, v1, v2, v3, v4, v5, v6, s => if (s 0 4) ≤ v6 then
      bn (f_M_worthWithNext s v1 (-1) v2) fun x4 s3 =>
      if x4 ≤ v5 then
        if v3 = 0 then
          some (v4, s3)
        else
          some (v5, s3)
      else
        if v3 = 0 then
          some (9, s3)
        else
          some (x4, s3)
    else
      if v6 = v1 then
        k_M_nextOfMostWorth_40 (fun v1 v2 v3 v4 v5 v6 s => k_M_nextOfMostWorth_10 n v1 v2 v3 v4 v5 v6 s) v1 v2 v3 v4 v5 v6 (-1) s
      else
        bn (f_M_worthWithNext s v1 v6 v2) fun x11 s10 =>
        k_M_nextOfMostWorth_40 (fun v1 v2 v3 v4 v5 v6 s => k_M_nextOfMostWorth_10 n v1 v2 v3 v4 v5 v6 s) v1 v2 v3 v4 v5 v6 x11 s10
set_option maxRecDepth 20000 in
theorem w_M_nextOfMostWorth_10 {l : Launch} {z : Zt} (hz : ZOk z b_M_nextOfMostWorth 8 "PassedOnAndBetter$Mind" 5 112) {r' : Int32} {s' : Mm} (hq : ZR z (some .int) s' (some (.int r'))) : ∀ (n : Nat) (v1 : Int32) (v2 : Int32) (v3 : Int32) (v4 : Int32) (v5 : Int32) (v6 : Int32) (s : Mm), k_M_nextOfMostWorth_10 n v1 v2 v3 v4 v5 v6 s = some (r', s') → G l z b_M_nextOfMostWorth 8 10 [(0, .ref 173), (1, .int v1), (2, .int v2), (3, .int v3), (4, .int v4), (5, .int v5), (6, .int v6)] [] s := by
  intro n
  induction n with
  | zero => intro v1 v2 v3 v4 v5 v6 s h; unfold k_M_nextOfMostWorth_10 at h; cases h
  | succ n ih =>
    intro v1 v2 v3 v4 v5 v6 s h
    unfold k_M_nextOfMostWorth_10 at h
    refine g_iload hz 6 d_M_nextOfMostWorth_10 rfl ?_
    refine g_aload_n hz 0 d_M_nextOfMostWorth_12 rfl rfl ?_
    refine gf_M_now hz q_290 d_M_nextOfMostWorth_13 ?_
    refine gf_C_friends hz (by decide) q_208 d_M_nextOfMostWorth_16 ?_
    refine g_icmp_ge hz (tgt := 63) d_M_nextOfMostWorth_19 (by decide) (fun c1 => ?_) (fun c1 => ?_)
    · replace h := (if_pos c1).symm.trans h
      refine g_aload_n hz 0 d_M_nextOfMostWorth_63 rfl rfl ?_
      refine g_iload_n hz 1 d_M_nextOfMostWorth_64 rfl rfl ?_
      refine g_iconst hz d_M_nextOfMostWorth_65 ki_m1 ?_
      refine g_iload_n hz 2 d_M_nextOfMostWorth_66 rfl rfl ?_
      refine bn_use h (fun x4 s3 e2 h => ?_)
      refine g_callVi hz (c_M_worthWithNext l e2) (by decide) rc_M rfl rfl m_M_worthWithNext mi_M_worthWithNext ms_M_worthWithNext q_704 ⟨Nat.le_of_ble_eq_true rfl, Nat.le_of_ble_eq_true rfl⟩ rfl (st := []) rfl (Nat.le_of_ble_eq_true rfl) d_M_nextOfMostWorth_67 ?_
      refine g_istore hz (L' := [(6, .int x4), (0, .ref 173), (1, .int v1), (2, .int v2), (3, .int v3), (4, .int v4), (5, .int v5)]) d_M_nextOfMostWorth_70 (by decide) rfl ?_
      refine g_iload hz 0 d_M_nextOfMostWorth_72 rfl ?_
      refine g_iload hz 6 d_M_nextOfMostWorth_74 rfl ?_
      refine g_icmp_le hz (tgt := 87) d_M_nextOfMostWorth_76 (by decide) (fun c5 => ?_) (fun c5 => ?_)
      · replace h := (if_pos c5).symm.trans h
        refine g_iload_n hz 4 d_M_nextOfMostWorth_87 rfl rfl ?_
        refine g_if_ne hz (tgt := 96) d_M_nextOfMostWorth_88 (by decide) (fun c6 => ?_) (fun c6 => ?_)
        · replace h := (if_neg c6).symm.trans h
          refine g_iload hz 6 d_M_nextOfMostWorth_96 rfl ?_
          exact g_iret hz (rti h hq) d_M_nextOfMostWorth_98
        · replace h := (if_pos c6).symm.trans h
          refine g_iload hz 5 d_M_nextOfMostWorth_91 rfl ?_
          refine g_goto hz (tgt := 98) d_M_nextOfMostWorth_93 (by decide) ?_
          exact g_iret hz (rti h hq) d_M_nextOfMostWorth_98
      · replace h := (if_neg c5).symm.trans h
        refine g_iload hz 0 d_M_nextOfMostWorth_79 rfl ?_
        refine g_istore hz (L' := [(5, .int x4), (6, .int x4), (0, .ref 173), (1, .int v1), (2, .int v2), (3, .int v3), (4, .int v4)]) d_M_nextOfMostWorth_81 (by decide) rfl ?_
        refine g_bipush hz (v := 9) d_M_nextOfMostWorth_83 (by decide) ?_
        refine g_istore hz (L' := [(4, .int 9), (5, .int x4), (6, .int x4), (0, .ref 173), (1, .int v1), (2, .int v2), (3, .int v3)]) d_M_nextOfMostWorth_85 (by decide) rfl ?_
        refine g_iload_n hz 6 d_M_nextOfMostWorth_87 rfl rfl ?_
        refine g_if_ne hz (tgt := 96) d_M_nextOfMostWorth_88 (by decide) (fun c7 => ?_) (fun c7 => ?_)
        · replace h := (if_neg c7).symm.trans h
          refine g_iload hz 1 d_M_nextOfMostWorth_96 rfl ?_
          exact g_iret hz (rti h hq) d_M_nextOfMostWorth_98
        · replace h := (if_pos c7).symm.trans h
          refine g_iload hz 0 d_M_nextOfMostWorth_91 rfl ?_
          refine g_goto hz (tgt := 98) d_M_nextOfMostWorth_93 (by decide) ?_
          exact g_iret hz (rti h hq) d_M_nextOfMostWorth_98
    · replace h := (if_neg c1).symm.trans h
      refine g_iload hz 6 d_M_nextOfMostWorth_22 rfl ?_
      refine g_iload_n hz 1 d_M_nextOfMostWorth_24 rfl rfl ?_
      refine g_icmp_ne hz (tgt := 32) d_M_nextOfMostWorth_25 (by decide) (fun c8 => ?_) (fun c8 => ?_)
      · replace h := (if_neg c8).symm.trans h
        refine g_aload_n hz 0 d_M_nextOfMostWorth_32 rfl rfl ?_
        refine g_iload_n hz 1 d_M_nextOfMostWorth_33 rfl rfl ?_
        refine g_iload hz 6 d_M_nextOfMostWorth_34 rfl ?_
        refine g_iload_n hz 2 d_M_nextOfMostWorth_36 rfl rfl ?_
        refine bn_use h (fun x11 s10 e9 h => ?_)
        refine g_callVi hz (c_M_worthWithNext l e9) (by decide) rc_M rfl rfl m_M_worthWithNext mi_M_worthWithNext ms_M_worthWithNext q_704 ⟨Nat.le_of_ble_eq_true rfl, Nat.le_of_ble_eq_true rfl⟩ rfl (st := []) rfl (Nat.le_of_ble_eq_true rfl) d_M_nextOfMostWorth_37 ?_
        exact w_M_nextOfMostWorth_40 hz hq ih v1 v2 v3 v4 v5 v6 x11 _ h
      · replace h := (if_pos c8).symm.trans h
        refine g_iconst hz d_M_nextOfMostWorth_28 ki_m1 ?_
        refine g_goto hz (tgt := 40) d_M_nextOfMostWorth_29 (by decide) ?_
        exact w_M_nextOfMostWorth_40 hz hq ih v1 v2 v3 v4 v5 v6 (-1) _ h
def f_M_nextOfMostWorth (s : Mm) (a1 : Int32) (a2 : Int32) (a3 : Int32) : Option (Int32 × Mm) :=
  k_M_nextOfMostWorth_10 KF a1 a2 a3 9 (-1) 0 s
set_option maxRecDepth 20000 in
theorem c_M_nextOfMostWorth (l : Launch) {s : Mm} {a1 : Int32} {a2 : Int32} {a3 : Int32} {r' : Int32} {s' : Mm}  (h : f_M_nextOfMostWorth s a1 a2 a3 = some (r', s')) : Cm l y_M_nextOfMostWorth b_M_nextOfMostWorth 8 (some .int) 5 112 [.ref 173, .int a1, .int a2, .int a3] s s' (some (.int r')) := by
  refine Cm.of (own := "PassedOnAndBetter$Mind") (by decide) rfl (fun ad => Nat.le_of_ble_eq_true rfl) ?_
  intro z hz hq
  show G l z b_M_nextOfMostWorth 8 0 [(0, .ref 173), (1, .int a1), (2, .int a2), (3, .int a3)] [] s
  unfold f_M_nextOfMostWorth at h
  refine g_bipush hz (v := 9) d_M_nextOfMostWorth_0 (by decide) ?_
  refine g_istore hz (L' := [(4, .int 9), (0, .ref 173), (1, .int a1), (2, .int a2), (3, .int a3)]) d_M_nextOfMostWorth_2 (by decide) rfl ?_
  refine g_iconst hz d_M_nextOfMostWorth_4 ki_m1 ?_
  refine g_istore hz (L' := [(5, .int (-1)), (4, .int 9), (0, .ref 173), (1, .int a1), (2, .int a2), (3, .int a3)]) d_M_nextOfMostWorth_5 (by decide) rfl ?_
  refine g_iconst hz d_M_nextOfMostWorth_7 ki_0 ?_
  refine g_istore hz (L' := [(6, .int 0), (5, .int (-1)), (4, .int 9), (0, .ref 173), (1, .int a1), (2, .int a2), (3, .int a3)]) d_M_nextOfMostWorth_8 (by decide) rfl ?_
  refine g_sub [3, 4, 5, 6, 2, 1, 0] rfl ?_
  exact w_M_nextOfMostWorth_10 hz hq KF a1 a2 a3 9 (-1) 0 _ h
