def k_M_firstNotAsTold_11 : Nat → Nat → Int32 → Mm → Option (Int32 × Mm)
  | 0, _, _, _ => none
  | n + 1, o2, v3, s => if (s 171 1) ≤ v3 then
      some ((-9), s)
    else
      bn (f_N_numberAt s v3) fun x7 s6 =>
      if (s o2 2) = x7 then
        bv (f_G_passMonth s6 o2 2) fun s10 =>
        k_M_firstNotAsTold_11 n o2 (v3 + 1) s10
      else
        some (v3, s6)
set_option maxRecDepth 20000 in
theorem w_M_firstNotAsTold_11 {l : Launch} {z : Zt} (hz : ZOk z b_M_firstNotAsTold 4 "PassedOnAndBetter$Mind" 3 66) {r' : Int32} {s' : Mm} (hq : ZR z (some .int) s' (some (.int r'))) : ∀ (n : Nat) (o2 : Nat) (v3 : Int32) (ho2 : iG o2) (s : Mm), k_M_firstNotAsTold_11 n o2 v3 s = some (r', s') → G l z b_M_firstNotAsTold 4 11 [(0, .ref 173), (2, .ref o2), (3, .int v3)] [] s := by
  intro n
  induction n with
  | zero => intro o2 v3 ho2 s h; unfold k_M_firstNotAsTold_11 at h; cases h
  | succ n ih =>
    intro o2 v3 ho2 s h
    unfold k_M_firstNotAsTold_11 at h
    refine g_iload_n hz 2 d_M_firstNotAsTold_11 rfl rfl ?_
    refine g_aload_n hz 0 d_M_firstNotAsTold_12 rfl rfl ?_
    refine gf_M_numbers hz q_291 d_M_firstNotAsTold_13 ?_
    refine gf_N_told hz q_274 d_M_firstNotAsTold_16 ?_
    refine g_icmp_ge hz (tgt := 53) d_M_firstNotAsTold_19 (by decide) (fun c4 => ?_) (fun c4 => ?_)
    · replace h := (if_pos c4).symm.trans h
      refine g_bipush hz (v := (-9)) d_M_firstNotAsTold_53 (by decide) ?_
      exact g_iret hz (rti h hq) d_M_firstNotAsTold_55
    · replace h := (if_neg c4).symm.trans h
      refine g_aload_n hz 1 d_M_firstNotAsTold_22 rfl rfl ?_
      refine gf_G_with hz ho2 q_181 d_M_firstNotAsTold_23 ?_
      refine g_aload_n hz 0 d_M_firstNotAsTold_26 rfl rfl ?_
      refine gf_M_numbers hz q_291 d_M_firstNotAsTold_27 ?_
      refine g_iload_n hz 2 d_M_firstNotAsTold_30 rfl rfl ?_
      refine bn_use h (fun x7 s6 e5 h => ?_)
      refine g_callVi hz (c_N_numberAt l e5) (by decide) rc_N rfl rfl m_N_numberAt mi_N_numberAt ms_N_numberAt q_794 ⟨Nat.le_of_ble_eq_true rfl, Nat.le_of_ble_eq_true rfl⟩ rfl (st := [.int (s o2 2)]) rfl (Nat.le_of_ble_eq_true rfl) d_M_firstNotAsTold_31 ?_
      refine g_icmp_eq hz (tgt := 39) d_M_firstNotAsTold_34 (by decide) (fun c8 => ?_) (fun c8 => ?_)
      · replace h := (if_pos c8).symm.trans h
        refine g_aload_n hz 1 d_M_firstNotAsTold_39 rfl rfl ?_
        refine g_aload_n hz 0 d_M_firstNotAsTold_40 rfl rfl ?_
        refine gf_M_thought hz q_292 d_M_firstNotAsTold_41 ?_
        refine bv_use h (fun s10 e9 h => ?_)
        refine g_callVv hz (c_G_passMonth l ho2 (by decide) e9) (iG_lt ho2) (rc_G ho2) rfl rfl m_G_passMonth mi_G_passMonth ms_G_passMonth q_638 ⟨Nat.le_of_ble_eq_true rfl, Nat.le_of_ble_eq_true rfl⟩ rfl (st := []) rfl (Nat.le_of_ble_eq_true rfl) d_M_firstNotAsTold_44 ?_
        refine g_iinc hz (v := v3 + 1) (L' := [(3, .int (v3 + 1)), (0, .ref 173), (2, .ref o2)]) 2 d_M_firstNotAsTold_47 rfl (congrArg (fun q => v3 + q) ki_1) (by decide) rfl ?_
        refine g_goto hz (tgt := 11) d_M_firstNotAsTold_50 (by decide) ?_
        refine g_sub [1, 2, 0] rfl ?_
        exact ih o2 (v3 + 1) ho2 _ h
      · replace h := (if_neg c8).symm.trans h
        refine g_iload_n hz 2 d_M_firstNotAsTold_37 rfl rfl ?_
        exact g_iret hz (rti h hq) d_M_firstNotAsTold_38
def f_M_firstNotAsTold (s : Mm) (a1 : Int32) : Option (Int32 × Mm) :=
  bn (f_C_giftAt s 2 a1) fun x3 s2 =>
  k_M_firstNotAsTold_11 KF x3 0 s2
set_option maxRecDepth 20000 in
theorem c_M_firstNotAsTold (l : Launch) {s : Mm} {a1 : Int32} {r' : Int32} {s' : Mm}  (h : f_M_firstNotAsTold s a1 = some (r', s')) : Cm l y_M_firstNotAsTold b_M_firstNotAsTold 4 (some .int) 3 66 [.ref 173, .int a1] s s' (some (.int r')) := by
  refine Cm.of (own := "PassedOnAndBetter$Mind") (by decide) rfl (fun ad => Nat.le_of_ble_eq_true rfl) ?_
  intro z hz hq
  show G l z b_M_firstNotAsTold 4 0 [(0, .ref 173), (1, .int a1)] [] s
  unfold f_M_firstNotAsTold at h
  refine g_aload_n hz 0 d_M_firstNotAsTold_0 rfl rfl ?_
  refine gf_M_thought hz q_292 d_M_firstNotAsTold_1 ?_
  refine g_iload_n hz 1 d_M_firstNotAsTold_4 rfl rfl ?_
  refine bn_use h (fun x3 s2 e1 h => ?_)
  have hx3 := rr_C_giftAt (by decide) e1
  refine g_callVr hz (c_C_giftAt l (by decide) e1) (iC_lt (by decide)) (rc_C (by decide)) rfl rfl m_C_giftAt mi_C_giftAt ms_C_giftAt q_633 ⟨Nat.le_of_ble_eq_true rfl, Nat.le_of_ble_eq_true rfl⟩ rfl (st := []) rfl (Nat.le_of_ble_eq_true rfl) d_M_firstNotAsTold_5 ?_
  refine g_astore_n hz (L' := [(2, .ref x3), (0, .ref 173), (1, .int a1)]) d_M_firstNotAsTold_8 rfl (by decide) rfl ?_
  refine g_iconst hz d_M_firstNotAsTold_9 ki_0 ?_
  refine g_istore_n hz (L' := [(3, .int 0), (2, .ref x3), (0, .ref 173), (1, .int a1)]) d_M_firstNotAsTold_10 rfl (by decide) rfl ?_
  refine g_sub [2, 1, 0] rfl ?_
  exact w_M_firstNotAsTold_11 hz hq KF x3 0 hx3 _ h
def f_M_firstNotWith (s : Mm) (a1 : Int32) : Option (Int32 × Mm) :=
  bn (f_M_recall s) fun x3 s2 =>
  bn (f_M_firstNotAsTold s2 a1) fun x6 s5 =>
  some (x6, s5)
set_option maxRecDepth 20000 in
theorem c_M_firstNotWith (l : Launch) {s : Mm} {a1 : Int32} {r' : Int32} {s' : Mm}  (h : f_M_firstNotWith s a1 = some (r', s')) : Cm l y_M_firstNotWith b_M_firstNotWith 2 (some .int) 4 89 [.ref 173, .int a1] s s' (some (.int r')) := by
  refine Cm.of (own := "PassedOnAndBetter$Mind") (by decide) rfl (fun ad => Nat.le_of_ble_eq_true rfl) ?_
  intro z hz hq
  show G l z b_M_firstNotWith 2 0 [(0, .ref 173), (1, .int a1)] [] s
  unfold f_M_firstNotWith at h
  refine g_aload_n hz 0 d_M_firstNotWith_0 rfl rfl ?_
  refine bn_use h (fun x3 s2 e1 h => ?_)
  have hx3 := rr_M_recall e1
  refine g_callVr hz (c_M_recall l e1) (by decide) rc_M rfl rfl m_M_recall mi_M_recall ms_M_recall q_632 ⟨Nat.le_of_ble_eq_true rfl, Nat.le_of_ble_eq_true rfl⟩ rfl (st := []) rfl (Nat.le_of_ble_eq_true rfl) d_M_firstNotWith_1 ?_
  refine g_pop hz d_M_firstNotWith_4 rfl ?_
  refine g_aload_n hz 0 d_M_firstNotWith_5 rfl rfl ?_
  refine g_iload_n hz 1 d_M_firstNotWith_6 rfl rfl ?_
  refine bn_use h (fun x6 s5 e4 h => ?_)
  refine g_callVi hz (c_M_firstNotAsTold l e4) (by decide) rc_M rfl rfl m_M_firstNotAsTold mi_M_firstNotAsTold ms_M_firstNotAsTold q_815 ⟨Nat.le_of_ble_eq_true rfl, Nat.le_of_ble_eq_true rfl⟩ rfl (st := []) rfl (Nat.le_of_ble_eq_true rfl) d_M_firstNotWith_7 ?_
  exact g_iret hz (rti h hq) d_M_firstNotWith_10
def k_M_startsToldBy_4 : Nat → Int32 → Int32 → Int32 → Mm → Option (Int32 × Mm)
  | 0, _, _, _, _ => none
  | n + 1, v1, v2, v3, s => if (s 0 4) ≤ v3 then
      some (v2, s)
    else
      bn (f_M_recall s) fun x4 s3 =>
      bn (f_C_giftAt s3 x4 v1) fun x7 s6 =>
      bv (f_G_goTo s6 x7 v3) fun s9 =>
      bn (f_M_firstNotAsTold s9 v1) fun x12 s11 =>
      if x12 = (-9) then
        nm (v2 ||| (1 <<< (v3 &&& 31))) fun x14 =>
        k_M_startsToldBy_4 n v1 x14 (v3 + 1) s11
      else
        k_M_startsToldBy_4 n v1 v2 (v3 + 1) s11
set_option maxRecDepth 20000 in
theorem w_M_startsToldBy_4 {l : Launch} {z : Zt} (hz : ZOk z b_M_startsToldBy 4 "PassedOnAndBetter$Mind" 4 89) {r' : Int32} {s' : Mm} (hq : ZR z (some .int) s' (some (.int r'))) : ∀ (n : Nat) (v1 : Int32) (v2 : Int32) (v3 : Int32) (s : Mm), k_M_startsToldBy_4 n v1 v2 v3 s = some (r', s') → G l z b_M_startsToldBy 4 4 [(0, .ref 173), (1, .int v1), (2, .int v2), (3, .int v3)] [] s := by
  intro n
  induction n with
  | zero => intro v1 v2 v3 s h; unfold k_M_startsToldBy_4 at h; cases h
  | succ n ih =>
    intro v1 v2 v3 s h
    unfold k_M_startsToldBy_4 at h
    refine g_iload_n hz 3 d_M_startsToldBy_4 rfl rfl ?_
    refine g_aload_n hz 0 d_M_startsToldBy_5 rfl rfl ?_
    refine gf_M_now hz q_290 d_M_startsToldBy_6 ?_
    refine gf_C_friends hz (by decide) q_208 d_M_startsToldBy_9 ?_
    refine g_icmp_ge hz (tgt := 49) d_M_startsToldBy_12 (by decide) (fun c1 => ?_) (fun c1 => ?_)
    · replace h := (if_pos c1).symm.trans h
      refine g_iload_n hz 2 d_M_startsToldBy_49 rfl rfl ?_
      exact g_iret hz (rti h hq) d_M_startsToldBy_50
    · replace h := (if_neg c1).symm.trans h
      refine g_aload_n hz 0 d_M_startsToldBy_15 rfl rfl ?_
      refine bn_use h (fun x4 s3 e2 h => ?_)
      have hx4 := rr_M_recall e2
      refine g_callVr hz (c_M_recall l e2) (by decide) rc_M rfl rfl m_M_recall mi_M_recall ms_M_recall q_632 ⟨Nat.le_of_ble_eq_true rfl, Nat.le_of_ble_eq_true rfl⟩ rfl (st := []) rfl (Nat.le_of_ble_eq_true rfl) d_M_startsToldBy_16 ?_
      refine g_iload_n hz 1 d_M_startsToldBy_19 rfl rfl ?_
      refine bn_use h (fun x7 s6 e5 h => ?_)
      have hx7 := rr_C_giftAt hx4 e5
      refine g_callVr hz (c_C_giftAt l hx4 e5) (iC_lt hx4) (rc_C hx4) rfl rfl m_C_giftAt mi_C_giftAt ms_C_giftAt q_633 ⟨Nat.le_of_ble_eq_true rfl, Nat.le_of_ble_eq_true rfl⟩ rfl (st := []) rfl (Nat.le_of_ble_eq_true rfl) d_M_startsToldBy_20 ?_
      refine g_iload_n hz 3 d_M_startsToldBy_23 rfl rfl ?_
      refine bv_use h (fun s9 e8 h => ?_)
      refine g_callVv hz (c_G_goTo l hx7 e8) (iG_lt hx7) (rc_G hx7) rfl rfl m_G_goTo mi_G_goTo ms_G_goTo q_695 ⟨Nat.le_of_ble_eq_true rfl, Nat.le_of_ble_eq_true rfl⟩ rfl (st := []) rfl (Nat.le_of_ble_eq_true rfl) d_M_startsToldBy_24 ?_
      refine g_aload_n hz 0 d_M_startsToldBy_27 rfl rfl ?_
      refine g_iload_n hz 1 d_M_startsToldBy_28 rfl rfl ?_
      refine bn_use h (fun x12 s11 e10 h => ?_)
      refine g_callVi hz (c_M_firstNotAsTold l e10) (by decide) rc_M rfl rfl m_M_firstNotAsTold mi_M_firstNotAsTold ms_M_firstNotAsTold q_815 ⟨Nat.le_of_ble_eq_true rfl, Nat.le_of_ble_eq_true rfl⟩ rfl (st := []) rfl (Nat.le_of_ble_eq_true rfl) d_M_startsToldBy_29 ?_
      refine g_bipush hz (v := (-9)) d_M_startsToldBy_32 (by decide) ?_
      refine g_icmp_ne hz (tgt := 43) d_M_startsToldBy_34 (by decide) (fun c13 => ?_) (fun c13 => ?_)
      · replace h := (if_neg c13).symm.trans h
        refine g_iinc hz (v := v3 + 1) (L' := [(3, .int (v3 + 1)), (0, .ref 173), (1, .int v1), (2, .int v2)]) 3 d_M_startsToldBy_43 rfl (congrArg (fun q => v3 + q) ki_1) (by decide) rfl ?_
        refine g_goto hz (tgt := 4) d_M_startsToldBy_46 (by decide) ?_
        refine g_sub [1, 2, 3, 0] rfl ?_
        exact ih v1 v2 (v3 + 1) _ h
      · replace h := (if_pos c13).symm.trans h
        refine g_iload_n hz 2 d_M_startsToldBy_37 rfl rfl ?_
        refine g_iconst hz d_M_startsToldBy_38 ki_1 ?_
        refine g_iload_n hz 3 d_M_startsToldBy_39 rfl rfl ?_
        refine g_ishl hz d_M_startsToldBy_40 ?_
        refine g_ior hz d_M_startsToldBy_41 ?_
        refine g_nmi (fun x14 e15 => ?_)
        replace h := nm_use h e15
        refine g_istore_n hz (L' := [(2, .int x14), (0, .ref 173), (1, .int v1), (3, .int v3)]) d_M_startsToldBy_42 rfl (by decide) rfl ?_
        refine g_iinc hz (v := v3 + 1) (L' := [(3, .int (v3 + 1)), (2, .int x14), (0, .ref 173), (1, .int v1)]) 3 d_M_startsToldBy_43 rfl (congrArg (fun q => v3 + q) ki_1) (by decide) rfl ?_
        refine g_goto hz (tgt := 4) d_M_startsToldBy_46 (by decide) ?_
        refine g_sub [2, 3, 1, 0] rfl ?_
        exact ih v1 x14 (v3 + 1) _ h
def f_M_startsToldBy (s : Mm) (a1 : Int32) : Option (Int32 × Mm) :=
  k_M_startsToldBy_4 KF a1 0 0 s
set_option maxRecDepth 20000 in
theorem c_M_startsToldBy (l : Launch) {s : Mm} {a1 : Int32} {r' : Int32} {s' : Mm}  (h : f_M_startsToldBy s a1 = some (r', s')) : Cm l y_M_startsToldBy b_M_startsToldBy 4 (some .int) 4 89 [.ref 173, .int a1] s s' (some (.int r')) := by
  refine Cm.of (own := "PassedOnAndBetter$Mind") (by decide) rfl (fun ad => Nat.le_of_ble_eq_true rfl) ?_
  intro z hz hq
  show G l z b_M_startsToldBy 4 0 [(0, .ref 173), (1, .int a1)] [] s
  unfold f_M_startsToldBy at h
  refine g_iconst hz d_M_startsToldBy_0 ki_0 ?_
  refine g_istore_n hz (L' := [(2, .int 0), (0, .ref 173), (1, .int a1)]) d_M_startsToldBy_1 rfl (by decide) rfl ?_
  refine g_iconst hz d_M_startsToldBy_2 ki_0 ?_
  refine g_istore_n hz (L' := [(3, .int 0), (2, .int 0), (0, .ref 173), (1, .int a1)]) d_M_startsToldBy_3 rfl (by decide) rfl ?_
  refine g_sub [2, 3, 1, 0] rfl ?_
  exact w_M_startsToldBy_4 hz hq KF a1 0 0 _ h
def f_X_whoHad (s : Mm) (a1 : Int32) (a2 : Int32) : Option (Int32 × Mm) :=
  bn (f_X_giftNo s a1) fun x3 s2 =>
  bn (f_X_whatNo s2 a2 1) fun x6 s5 =>
  bn (f_X_first s5 x3 x6 0) fun x9 s8 =>
  if x9 = 0 then
    if a2 = 0 then
      bn (f_M_firstNotWith s8 a1) fun x17 s16 =>
      some (x17, s16)
    else
      bn (f_M_startsToldBy s8 a1) fun x14 s13 =>
      some (x14, s13)
  else
    bn (f_X_refuse s8 x9) fun x20 s19 =>
    some (x20, s19)
set_option maxRecDepth 20000 in
theorem c_X_whoHad (l : Launch) {s : Mm} {a1 : Int32} {a2 : Int32} {r' : Int32} {s' : Mm}  (h : f_X_whoHad s a1 a2 = some (r', s')) : Cm l y_X_whoHad b_X_whoHad 4 (some .int) 5 112 [.ref 165, .int a1, .int a2] s s' (some (.int r')) := by
  refine Cm.of (own := "PassedOnAndBetter") (by decide) rfl (fun ad => Nat.le_of_ble_eq_true rfl) ?_
  intro z hz hq
  show G l z b_X_whoHad 4 0 [(0, .ref 165), (1, .int a1), (2, .int a2)] [] s
  unfold f_X_whoHad at h
  refine g_aload_n hz 0 d_X_whoHad_0 rfl rfl ?_
  refine g_iload_n hz 1 d_X_whoHad_1 rfl rfl ?_
  refine bn_use h (fun x3 s2 e1 h => ?_)
  refine g_callVi hz (c_X_giftNo l e1) (by decide) rc_X rfl rfl m_X_giftNo mi_X_giftNo ms_X_giftNo q_555 ⟨Nat.le_of_ble_eq_true rfl, Nat.le_of_ble_eq_true rfl⟩ rfl (st := []) rfl (Nat.le_of_ble_eq_true rfl) d_X_whoHad_2 ?_
  refine g_iload_n hz 2 d_X_whoHad_5 rfl rfl ?_
  refine g_iconst hz d_X_whoHad_6 ki_1 ?_
  refine bn_use h (fun x6 s5 e4 h => ?_)
  refine g_callSi hz (c_X_whatNo l e4) m_X_whatNo mi_X_whatNo q_535 ⟨Nat.le_of_ble_eq_true rfl, Nat.le_of_ble_eq_true rfl⟩ rfl (st := [.int x3]) rfl (Nat.le_of_ble_eq_true rfl) d_X_whoHad_7 ?_
  refine g_iconst hz d_X_whoHad_10 ki_0 ?_
  refine bn_use h (fun x9 s8 e7 h => ?_)
  refine g_callSi hz (c_X_first l e7) m_X_first mi_X_first q_538 ⟨Nat.le_of_ble_eq_true rfl, Nat.le_of_ble_eq_true rfl⟩ rfl (st := []) rfl (Nat.le_of_ble_eq_true rfl) d_X_whoHad_11 ?_
  refine g_istore_n hz (L' := [(3, .int x9), (0, .ref 165), (1, .int a1), (2, .int a2)]) d_X_whoHad_14 rfl (by decide) rfl ?_
  refine g_iload_n hz 0 d_X_whoHad_15 rfl rfl ?_
  refine g_if_eq hz (tgt := 25) d_X_whoHad_16 (by decide) (fun c10 => ?_) (fun c10 => ?_)
  · replace h := (if_pos c10).symm.trans h
    refine g_iload_n hz 3 d_X_whoHad_25 rfl rfl ?_
    refine g_if_ne hz (tgt := 40) d_X_whoHad_26 (by decide) (fun c11 => ?_) (fun c11 => ?_)
    · replace h := (if_neg c11).symm.trans h
      refine g_aload_n hz 1 d_X_whoHad_40 rfl rfl ?_
      refine gf_X_mind hz q_311 d_X_whoHad_41 ?_
      refine g_iload_n hz 2 d_X_whoHad_44 rfl rfl ?_
      refine bn_use h (fun x14 s13 e12 h => ?_)
      refine g_callVi hz (c_M_startsToldBy l e12) (by decide) rc_M rfl rfl m_M_startsToldBy mi_M_startsToldBy ms_M_startsToldBy q_819 ⟨Nat.le_of_ble_eq_true rfl, Nat.le_of_ble_eq_true rfl⟩ rfl (st := []) rfl (Nat.le_of_ble_eq_true rfl) d_X_whoHad_45 ?_
      exact g_iret hz (rti h hq) d_X_whoHad_48
    · replace h := (if_pos c11).symm.trans h
      refine g_aload_n hz 1 d_X_whoHad_29 rfl rfl ?_
      refine gf_X_mind hz q_311 d_X_whoHad_30 ?_
      refine g_iload_n hz 2 d_X_whoHad_33 rfl rfl ?_
      refine bn_use h (fun x17 s16 e15 h => ?_)
      refine g_callVi hz (c_M_firstNotWith l e15) (by decide) rc_M rfl rfl m_M_firstNotWith mi_M_firstNotWith ms_M_firstNotWith q_811 ⟨Nat.le_of_ble_eq_true rfl, Nat.le_of_ble_eq_true rfl⟩ rfl (st := []) rfl (Nat.le_of_ble_eq_true rfl) d_X_whoHad_34 ?_
      refine g_goto hz (tgt := 48) d_X_whoHad_37 (by decide) ?_
      exact g_iret hz (rti h hq) d_X_whoHad_48
  · replace h := (if_neg c10).symm.trans h
    refine g_aload_n hz 1 d_X_whoHad_19 rfl rfl ?_
    refine g_iload_n hz 0 d_X_whoHad_20 rfl rfl ?_
    refine bn_use h (fun x20 s19 e18 h => ?_)
    refine g_callVi hz (c_X_refuse l e18) (by decide) rc_X rfl rfl m_X_refuse mi_X_refuse ms_X_refuse q_349 ⟨Nat.le_of_ble_eq_true rfl, Nat.le_of_ble_eq_true rfl⟩ rfl (st := []) rfl (Nat.le_of_ble_eq_true rfl) d_X_whoHad_21 ?_
    exact g_iret hz (rti h hq) d_X_whoHad_24
def k_C_worthWith_4 : Nat → Nat → Int32 → Int32 → Int32 → Mm → Option (Int32 × Mm)
  | 0, _, _, _, _, _ => none
  | n + 1, o, v1, v2, v3, s => if (s o 5) ≤ v3 then
      some (v2, s)
    else
      bn (f_C_giftAt s o v3) fun x4 s3 =>
      if (s3 x4 2) = v1 then
        bn (f_C_giftAt s3 o v3) fun x8 s7 =>
        nm (v2 + (s7 x8 0)) fun x9 =>
        k_C_worthWith_4 n o v1 x9 (v3 + 1) s7
      else
        k_C_worthWith_4 n o v1 v2 (v3 + 1) s3
set_option maxRecDepth 20000 in
theorem w_C_worthWith_4 {l : Launch} {z : Zt} (hz : ZOk z b_C_worthWith 4 "PassedOnAndBetter$Company" 1 22) {r' : Int32} {s' : Mm} (hq : ZR z (some .int) s' (some (.int r'))) : ∀ (n : Nat) (o : Nat) (v1 : Int32) (v2 : Int32) (v3 : Int32) (ho : iC o) (s : Mm), k_C_worthWith_4 n o v1 v2 v3 s = some (r', s') → G l z b_C_worthWith 4 4 [(0, .ref o), (1, .int v1), (2, .int v2), (3, .int v3)] [] s := by
  intro n
  induction n with
  | zero => intro o v1 v2 v3 ho s h; unfold k_C_worthWith_4 at h; cases h
  | succ n ih =>
    intro o v1 v2 v3 ho s h
    unfold k_C_worthWith_4 at h
    refine g_iload_n hz 3 d_C_worthWith_4 rfl rfl ?_
    refine g_aload_n hz 0 d_C_worthWith_5 rfl rfl ?_
    refine gf_C_gifts hz ho q_210 d_C_worthWith_6 ?_
    refine g_icmp_ge hz (tgt := 41) d_C_worthWith_9 (by decide) (fun c1 => ?_) (fun c1 => ?_)
    · replace h := (if_pos c1).symm.trans h
      refine g_iload_n hz 2 d_C_worthWith_41 rfl rfl ?_
      exact g_iret hz (rti h hq) d_C_worthWith_42
    · replace h := (if_neg c1).symm.trans h
      refine g_aload_n hz 0 d_C_worthWith_12 rfl rfl ?_
      refine g_iload_n hz 3 d_C_worthWith_13 rfl rfl ?_
      refine bn_use h (fun x4 s3 e2 h => ?_)
      have hx4 := rr_C_giftAt ho e2
      refine g_callVr hz (c_C_giftAt l ho e2) (iC_lt ho) (rc_C ho) rfl rfl m_C_giftAt mi_C_giftAt ms_C_giftAt q_377 ⟨Nat.le_of_ble_eq_true rfl, Nat.le_of_ble_eq_true rfl⟩ rfl (st := []) rfl (Nat.le_of_ble_eq_true rfl) d_C_worthWith_14 ?_
      refine gf_G_with hz hx4 q_183 d_C_worthWith_17 ?_
      refine g_iload_n hz 1 d_C_worthWith_20 rfl rfl ?_
      refine g_icmp_ne hz (tgt := 35) d_C_worthWith_21 (by decide) (fun c5 => ?_) (fun c5 => ?_)
      · replace h := (if_neg c5).symm.trans h
        refine g_iinc hz (v := v3 + 1) (L' := [(3, .int (v3 + 1)), (0, .ref o), (1, .int v1), (2, .int v2)]) 3 d_C_worthWith_35 rfl (congrArg (fun q => v3 + q) ki_1) (by decide) rfl ?_
        refine g_goto hz (tgt := 4) d_C_worthWith_38 (by decide) ?_
        refine g_sub [1, 2, 3, 0] rfl ?_
        exact ih o v1 v2 (v3 + 1) ho _ h
      · replace h := (if_pos c5).symm.trans h
        refine g_iload_n hz 2 d_C_worthWith_24 rfl rfl ?_
        refine g_aload_n hz 0 d_C_worthWith_25 rfl rfl ?_
        refine g_iload_n hz 3 d_C_worthWith_26 rfl rfl ?_
        refine bn_use h (fun x8 s7 e6 h => ?_)
        have hx8 := rr_C_giftAt ho e6
        refine g_callVr hz (c_C_giftAt l ho e6) (iC_lt ho) (rc_C ho) rfl rfl m_C_giftAt mi_C_giftAt ms_C_giftAt q_377 ⟨Nat.le_of_ble_eq_true rfl, Nat.le_of_ble_eq_true rfl⟩ rfl (st := [.int v2]) rfl (Nat.le_of_ble_eq_true rfl) d_C_worthWith_27 ?_
        refine gf_G_worth hz hx8 q_176 d_C_worthWith_30 ?_
        refine g_iadd hz d_C_worthWith_33 ?_
        refine g_nmi (fun x9 e10 => ?_)
        replace h := nm_use h e10
        refine g_istore_n hz (L' := [(2, .int x9), (0, .ref o), (1, .int v1), (3, .int v3)]) d_C_worthWith_34 rfl (by decide) rfl ?_
        refine g_iinc hz (v := v3 + 1) (L' := [(3, .int (v3 + 1)), (2, .int x9), (0, .ref o), (1, .int v1)]) 3 d_C_worthWith_35 rfl (congrArg (fun q => v3 + q) ki_1) (by decide) rfl ?_
        refine g_goto hz (tgt := 4) d_C_worthWith_38 (by decide) ?_
        refine g_sub [2, 3, 1, 0] rfl ?_
        exact ih o v1 x9 (v3 + 1) ho _ h
def f_C_worthWith (s : Mm) (o : Nat) (a1 : Int32) : Option (Int32 × Mm) :=
  k_C_worthWith_4 KF o a1 0 0 s
set_option maxRecDepth 20000 in
theorem c_C_worthWith (l : Launch) {s : Mm} {o : Nat} {a1 : Int32} {r' : Int32} {s' : Mm} (ho : iC o) (h : f_C_worthWith s o a1 = some (r', s')) : Cm l y_C_worthWith b_C_worthWith 4 (some .int) 1 22 [.ref o, .int a1] s s' (some (.int r')) := by
  refine Cm.of (own := "PassedOnAndBetter$Company") (by decide) rfl (fun ad => Nat.le_of_ble_eq_true rfl) ?_
  intro z hz hq
  show G l z b_C_worthWith 4 0 [(0, .ref o), (1, .int a1)] [] s
  unfold f_C_worthWith at h
  refine g_iconst hz d_C_worthWith_0 ki_0 ?_
  refine g_istore_n hz (L' := [(2, .int 0), (0, .ref o), (1, .int a1)]) d_C_worthWith_1 rfl (by decide) rfl ?_
  refine g_iconst hz d_C_worthWith_2 ki_0 ?_
  refine g_istore_n hz (L' := [(3, .int 0), (2, .int 0), (0, .ref o), (1, .int a1)]) d_C_worthWith_3 rfl (by decide) rfl ?_
  refine g_sub [2, 3, 1, 0] rfl ?_
  exact w_C_worthWith_4 hz hq KF o a1 0 0 ho _ h
def k_M_restingPair_94 : Nat → Int32 → Mm → Option (Int32 × Mm)
  | 0, _, _ => none
  | n + 1, v4, s => if 4 ≤ v4 then
      some ((-9), s)
    else
      bn (f_X_cellOf s 174 v4) fun x5 s4 =>
      bn (f_X_cellOf s4 174 (v4 ^^^ 2)) fun x8 s7 =>
      if x5 < x8 then
        k_M_restingPair_94 n (v4 + 1) s7
      else
        bn (f_X_cellOf s7 175 v4) fun x12 s11 =>
        bn (f_X_cellOf s11 175 (v4 ^^^ 1)) fun x15 s14 =>
        if x12 < x15 then
          k_M_restingPair_94 n (v4 + 1) s14
        else
          some ((10 * (v4 / 2)) + (v4 - v4 / 2 * 2), s14)
set_option maxRecDepth 20000 in
theorem w_M_restingPair_94 {l : Launch} {z : Zt} (hz : ZOk z b_M_restingPair 5 "PassedOnAndBetter$Mind" 4 89) {r' : Int32} {s' : Mm} (hq : ZR z (some .int) s' (some (.int r'))) : ∀ (n : Nat) (v4 : Int32) (s : Mm), k_M_restingPair_94 n v4 s = some (r', s') → G l z b_M_restingPair 5 94 [(0, .ref 173), (4, .int v4)] [] s := by
  intro n
  induction n with
  | zero => intro v4 s h; unfold k_M_restingPair_94 at h; cases h
  | succ n ih =>
    intro v4 s h
    unfold k_M_restingPair_94 at h
    refine g_iload hz 1 d_M_restingPair_94 rfl ?_
    refine g_iconst hz d_M_restingPair_96 ki_4 ?_
    refine g_icmp_ge hz (tgt := 165) d_M_restingPair_97 (by decide) (fun c2 => ?_) (fun c2 => ?_)
    · replace h := (if_pos c2).symm.trans h
      refine g_bipush hz (v := (-9)) d_M_restingPair_165 (by decide) ?_
      exact g_iret hz (rti h hq) d_M_restingPair_167
    · replace h := (if_neg c2).symm.trans h
      refine g_aload_n hz 0 d_M_restingPair_100 rfl rfl ?_
      refine gf_M_oneHas hz q_293 d_M_restingPair_101 ?_
      refine g_iload hz 1 d_M_restingPair_104 rfl ?_
      refine bn_use h (fun x5 s4 e3 h => ?_)
      refine g_callSNi hz (c_X_cellOf l (by decide) e3) m_X_cellOf mi_X_cellOf (fun D cy s h => h.2.2.2.2.2.2.1) ⟨Nat.le_of_ble_eq_true rfl, Nat.le_of_ble_eq_true rfl⟩ rfl (st := []) rfl (Nat.le_of_ble_eq_true rfl) d_M_restingPair_106 ?_
      refine g_aload_n hz 0 d_M_restingPair_109 rfl rfl ?_
      refine gf_M_oneHas hz q_293 d_M_restingPair_110 ?_
      refine g_iload hz 1 d_M_restingPair_113 rfl ?_
      refine g_iconst hz d_M_restingPair_115 ki_2 ?_
      refine g_ixor hz d_M_restingPair_116 ?_
      refine bn_use h (fun x8 s7 e6 h => ?_)
      refine g_callSNi hz (c_X_cellOf l (by decide) e6) m_X_cellOf mi_X_cellOf (fun D cy s h => h.2.2.2.2.2.2.1) ⟨Nat.le_of_ble_eq_true rfl, Nat.le_of_ble_eq_true rfl⟩ rfl (st := [.int x5]) rfl (Nat.le_of_ble_eq_true rfl) d_M_restingPair_117 ?_
      refine g_icmp_lt hz (tgt := 159) d_M_restingPair_120 (by decide) (fun c9 => ?_) (fun c9 => ?_)
      · replace h := (if_pos c9).symm.trans h
        refine g_iinc hz (v := v4 + 1) (L' := [(4, .int (v4 + 1)), (0, .ref 173)]) 1 d_M_restingPair_159 rfl (congrArg (fun q => v4 + q) ki_1) (by decide) rfl ?_
        refine g_goto hz (tgt := 94) d_M_restingPair_162 (by decide) ?_
        refine g_sub [1, 0] rfl ?_
        exact ih (v4 + 1) _ h
      · replace h := (if_neg c9).symm.trans h
        refine g_aload_n hz 0 d_M_restingPair_123 rfl rfl ?_
        refine gf_M_otherHas hz q_294 d_M_restingPair_124 ?_
        refine g_iload hz 1 d_M_restingPair_127 rfl ?_
        refine bn_use h (fun x12 s11 e10 h => ?_)
        refine g_callSNi hz (c_X_cellOf l (by decide) e10) m_X_cellOf mi_X_cellOf (fun D cy s h => h.2.2.2.2.2.2.1) ⟨Nat.le_of_ble_eq_true rfl, Nat.le_of_ble_eq_true rfl⟩ rfl (st := []) rfl (Nat.le_of_ble_eq_true rfl) d_M_restingPair_129 ?_
        refine g_aload_n hz 0 d_M_restingPair_132 rfl rfl ?_
        refine gf_M_otherHas hz q_294 d_M_restingPair_133 ?_
        refine g_iload hz 1 d_M_restingPair_136 rfl ?_
        refine g_iconst hz d_M_restingPair_138 ki_1 ?_
        refine g_ixor hz d_M_restingPair_139 ?_
        refine bn_use h (fun x15 s14 e13 h => ?_)
        refine g_callSNi hz (c_X_cellOf l (by decide) e13) m_X_cellOf mi_X_cellOf (fun D cy s h => h.2.2.2.2.2.2.1) ⟨Nat.le_of_ble_eq_true rfl, Nat.le_of_ble_eq_true rfl⟩ rfl (st := [.int x12]) rfl (Nat.le_of_ble_eq_true rfl) d_M_restingPair_140 ?_
        refine g_icmp_lt hz (tgt := 159) d_M_restingPair_143 (by decide) (fun c16 => ?_) (fun c16 => ?_)
        · replace h := (if_pos c16).symm.trans h
          refine g_iinc hz (v := v4 + 1) (L' := [(4, .int (v4 + 1)), (0, .ref 173)]) 1 d_M_restingPair_159 rfl (congrArg (fun q => v4 + q) ki_1) (by decide) rfl ?_
          refine g_goto hz (tgt := 94) d_M_restingPair_162 (by decide) ?_
          refine g_sub [1, 0] rfl ?_
          exact ih (v4 + 1) _ h
        · replace h := (if_neg c16).symm.trans h
          refine g_bipush hz (v := 10) d_M_restingPair_146 (by decide) ?_
          refine g_iload hz 1 d_M_restingPair_148 rfl ?_
          refine g_iconst hz d_M_restingPair_150 ki_2 ?_
          refine g_idiv hz d_M_restingPair_151 (by decide) ?_
          refine g_imul hz d_M_restingPair_152 ?_
          refine g_iload hz 1 d_M_restingPair_153 rfl ?_
          refine g_iconst hz d_M_restingPair_155 ki_2 ?_
          refine g_irem hz d_M_restingPair_156 (by decide) ?_
          refine g_iadd hz d_M_restingPair_157 ?_
          exact g_iret hz (rti h hq) d_M_restingPair_158
def k_M_restingPair_3 : Nat → Int32 → Int32 → Int32 → Int32 → Mm → Option (Int32 × Mm)
  | 0, _, _, _, _, _ => none
  | n + 1, v1, v2, v3, v4, s => if 4 ≤ v4 then
      k_M_restingPair_94 KF 0 s
    else
      bn (f_M_recall s) fun x19 s18 =>
      bn (f_C_friendAt s18 x19 v1) fun x22 s21 =>
      nm (mU s21 x22 7 (1 + (v4 / 2))) fun s23 =>
      bn (f_C_friendAt s23 2 v2) fun x27 s26 =>
      nm (mU s26 x27 7 (1 + (v4 - v4 / 2 * 2))) fun s28 =>
      bv (f_C_pass s28 2 v3) fun s31 =>
      bn (f_C_worthWith s31 2 v1) fun x34 s33 =>
      bv (f_X_setCell s33 174 v4 x34) fun s36 =>
      bn (f_C_worthWith s36 2 v2) fun x39 s38 =>
      bv (f_X_setCell s38 175 v4 x39) fun s41 =>
      k_M_restingPair_3 n v1 v2 v3 (v4 + 1) s41
set_option maxRecDepth 20000 in
theorem w_M_restingPair_3 {l : Launch} {z : Zt} (hz : ZOk z b_M_restingPair 5 "PassedOnAndBetter$Mind" 4 89) {r' : Int32} {s' : Mm} (hq : ZR z (some .int) s' (some (.int r'))) : ∀ (n : Nat) (v1 : Int32) (v2 : Int32) (v3 : Int32) (v4 : Int32) (s : Mm), k_M_restingPair_3 n v1 v2 v3 v4 s = some (r', s') → G l z b_M_restingPair 5 3 [(0, .ref 173), (1, .int v1), (2, .int v2), (3, .int v3), (4, .int v4)] [] s := by
  intro n
  induction n with
  | zero => intro v1 v2 v3 v4 s h; unfold k_M_restingPair_3 at h; cases h
  | succ n ih =>
    intro v1 v2 v3 v4 s h
    unfold k_M_restingPair_3 at h
    refine g_iload hz 4 d_M_restingPair_3 rfl ?_
    refine g_iconst hz d_M_restingPair_5 ki_4 ?_
    refine g_icmp_ge hz (tgt := 91) d_M_restingPair_6 (by decide) (fun c1 => ?_) (fun c1 => ?_)
    · replace h := (if_pos c1).symm.trans h
      refine g_iconst hz d_M_restingPair_91 ki_0 ?_
      refine g_istore hz (L' := [(4, .int 0), (0, .ref 173), (1, .int v1), (2, .int v2), (3, .int v3)]) d_M_restingPair_92 (by decide) rfl ?_
      refine g_sub [1, 0] rfl ?_
      exact w_M_restingPair_94 hz hq KF 0 _ h
    · replace h := (if_neg c1).symm.trans h
      refine g_aload_n hz 0 d_M_restingPair_9 rfl rfl ?_
      refine bn_use h (fun x19 s18 e17 h => ?_)
      have hx19 := rr_M_recall e17
      refine g_callVr hz (c_M_recall l e17) (by decide) rc_M rfl rfl m_M_recall mi_M_recall ms_M_recall q_632 ⟨Nat.le_of_ble_eq_true rfl, Nat.le_of_ble_eq_true rfl⟩ rfl (st := []) rfl (Nat.le_of_ble_eq_true rfl) d_M_restingPair_10 ?_
      refine g_iload_n hz 1 d_M_restingPair_13 rfl rfl ?_
      refine bn_use h (fun x22 s21 e20 h => ?_)
      have hx22 := rr_C_friendAt hx19 e20
      refine g_callVr hz (c_C_friendAt l hx19 e20) (iC_lt hx19) (rc_C hx19) rfl rfl m_C_friendAt mi_C_friendAt ms_C_friendAt q_686 ⟨Nat.le_of_ble_eq_true rfl, Nat.le_of_ble_eq_true rfl⟩ rfl (st := []) rfl (Nat.le_of_ble_eq_true rfl) d_M_restingPair_14 ?_
      refine g_iconst hz d_M_restingPair_17 ki_1 ?_
      refine g_iload hz 4 d_M_restingPair_18 rfl ?_
      refine g_iconst hz d_M_restingPair_20 ki_2 ?_
      refine g_idiv hz d_M_restingPair_21 (by decide) ?_
      refine g_iadd hz d_M_restingPair_22 ?_
      refine pf_F_times hz hx22 q_142 d_M_restingPair_23 (fun s23 e24 => ?_)
      replace h := nm_use h e24
      refine g_aload_n hz 0 d_M_restingPair_26 rfl rfl ?_
      refine gf_M_thought hz q_292 d_M_restingPair_27 ?_
      refine g_iload_n hz 2 d_M_restingPair_30 rfl rfl ?_
      refine bn_use h (fun x27 s26 e25 h => ?_)
      have hx27 := rr_C_friendAt (by decide) e25
      refine g_callVr hz (c_C_friendAt l (by decide) e25) (iC_lt (by decide)) (rc_C (by decide)) rfl rfl m_C_friendAt mi_C_friendAt ms_C_friendAt q_686 ⟨Nat.le_of_ble_eq_true rfl, Nat.le_of_ble_eq_true rfl⟩ rfl (st := []) rfl (Nat.le_of_ble_eq_true rfl) d_M_restingPair_31 ?_
      refine g_iconst hz d_M_restingPair_34 ki_1 ?_
      refine g_iload hz 4 d_M_restingPair_35 rfl ?_
      refine g_iconst hz d_M_restingPair_37 ki_2 ?_
      refine g_irem hz d_M_restingPair_38 (by decide) ?_
      refine g_iadd hz d_M_restingPair_39 ?_
      refine pf_F_times hz hx27 q_142 d_M_restingPair_40 (fun s28 e29 => ?_)
      replace h := nm_use h e29
      refine g_aload_n hz 0 d_M_restingPair_43 rfl rfl ?_
      refine gf_M_thought hz q_292 d_M_restingPair_44 ?_
      refine g_iload_n hz 3 d_M_restingPair_47 rfl rfl ?_
      refine bv_use h (fun s31 e30 h => ?_)
      refine g_callVv hz (c_C_pass l (by decide) e30) (iC_lt (by decide)) (rc_C (by decide)) rfl rfl m_C_pass mi_C_pass ms_C_pass q_651 ⟨Nat.le_of_ble_eq_true rfl, Nat.le_of_ble_eq_true rfl⟩ rfl (st := []) rfl (Nat.le_of_ble_eq_true rfl) d_M_restingPair_48 ?_
      refine g_aload_n hz 0 d_M_restingPair_51 rfl rfl ?_
      refine gf_M_oneHas hz q_293 d_M_restingPair_52 ?_
      refine g_iload hz 4 d_M_restingPair_55 rfl ?_
      refine g_aload_n hz 0 d_M_restingPair_57 rfl rfl ?_
      refine gf_M_thought hz q_292 d_M_restingPair_58 ?_
      refine g_iload_n hz 1 d_M_restingPair_61 rfl rfl ?_
      refine bn_use h (fun x34 s33 e32 h => ?_)
      refine g_callVi hz (c_C_worthWith l (by decide) e32) (iC_lt (by decide)) (rc_C (by decide)) rfl rfl m_C_worthWith mi_C_worthWith ms_C_worthWith q_831 ⟨Nat.le_of_ble_eq_true rfl, Nat.le_of_ble_eq_true rfl⟩ rfl (st := [.int v4, .ref 174]) rfl (Nat.le_of_ble_eq_true rfl) d_M_restingPair_62 ?_
      refine bv_use h (fun s36 e35 h => ?_)
      refine g_callSNv hz (c_X_setCell l (by decide) e35) m_X_setCell mi_X_setCell (fun D cy s h => h.2.2.2.2.2.1) ⟨Nat.le_of_ble_eq_true rfl, Nat.le_of_ble_eq_true rfl⟩ rfl (st := []) rfl (Nat.le_of_ble_eq_true rfl) d_M_restingPair_65 ?_
      refine g_aload_n hz 0 d_M_restingPair_68 rfl rfl ?_
      refine gf_M_otherHas hz q_294 d_M_restingPair_69 ?_
      refine g_iload hz 4 d_M_restingPair_72 rfl ?_
      refine g_aload_n hz 0 d_M_restingPair_74 rfl rfl ?_
      refine gf_M_thought hz q_292 d_M_restingPair_75 ?_
      refine g_iload_n hz 2 d_M_restingPair_78 rfl rfl ?_
      refine bn_use h (fun x39 s38 e37 h => ?_)
      refine g_callVi hz (c_C_worthWith l (by decide) e37) (iC_lt (by decide)) (rc_C (by decide)) rfl rfl m_C_worthWith mi_C_worthWith ms_C_worthWith q_831 ⟨Nat.le_of_ble_eq_true rfl, Nat.le_of_ble_eq_true rfl⟩ rfl (st := [.int v4, .ref 175]) rfl (Nat.le_of_ble_eq_true rfl) d_M_restingPair_79 ?_
      refine bv_use h (fun s41 e40 h => ?_)
      refine g_callSNv hz (c_X_setCell l (by decide) e40) m_X_setCell mi_X_setCell (fun D cy s h => h.2.2.2.2.2.1) ⟨Nat.le_of_ble_eq_true rfl, Nat.le_of_ble_eq_true rfl⟩ rfl (st := []) rfl (Nat.le_of_ble_eq_true rfl) d_M_restingPair_82 ?_
      refine g_iinc hz (v := v4 + 1) (L' := [(4, .int (v4 + 1)), (0, .ref 173), (1, .int v1), (2, .int v2), (3, .int v3)]) 4 d_M_restingPair_85 rfl (congrArg (fun q => v4 + q) ki_1) (by decide) rfl ?_
      refine g_goto hz (tgt := 3) d_M_restingPair_88 (by decide) ?_
      refine g_sub [1, 2, 3, 4, 0] rfl ?_
      exact ih v1 v2 v3 (v4 + 1) _ h
def f_M_restingPair (s : Mm) (a1 : Int32) (a2 : Int32) (a3 : Int32) : Option (Int32 × Mm) :=
  k_M_restingPair_3 KF a1 a2 a3 0 s
set_option maxRecDepth 20000 in
theorem c_M_restingPair (l : Launch) {s : Mm} {a1 : Int32} {a2 : Int32} {a3 : Int32} {r' : Int32} {s' : Mm}  (h : f_M_restingPair s a1 a2 a3 = some (r', s')) : Cm l y_M_restingPair b_M_restingPair 5 (some .int) 4 89 [.ref 173, .int a1, .int a2, .int a3] s s' (some (.int r')) := by
  refine Cm.of (own := "PassedOnAndBetter$Mind") (by decide) rfl (fun ad => Nat.le_of_ble_eq_true rfl) ?_
  intro z hz hq
  show G l z b_M_restingPair 5 0 [(0, .ref 173), (1, .int a1), (2, .int a2), (3, .int a3)] [] s
  unfold f_M_restingPair at h
  refine g_iconst hz d_M_restingPair_0 ki_0 ?_
  refine g_istore hz (L' := [(4, .int 0), (0, .ref 173), (1, .int a1), (2, .int a2), (3, .int a3)]) d_M_restingPair_1 (by decide) rfl ?_
  refine g_sub [1, 2, 3, 4, 0] rfl ?_
  exact w_M_restingPair_3 hz hq KF a1 a2 a3 0 _ h
def f_X_two (s : Mm) (a1 : Int32) (a2 : Int32) (a3 : Int32) : Option (Int32 × Mm) :=
  bn (f_X_twoFriendsNo s a1 a2) fun x3 s2 =>
  bn (f_X_spanNo s2 a3) fun x6 s5 =>
  bn (f_X_first s5 x3 x6 0) fun x9 s8 =>
  if x9 = 0 then
    bn (f_M_restingPair s8 a1 a2 a3) fun x16 s15 =>
    some (x16, s15)
  else
    bn (f_X_refuse s8 x9) fun x13 s12 =>
    some (x13, s12)
set_option maxRecDepth 20000 in
theorem c_X_two (l : Launch) {s : Mm} {a1 : Int32} {a2 : Int32} {a3 : Int32} {r' : Int32} {s' : Mm}  (h : f_X_two s a1 a2 a3 = some (r', s')) : Cm l y_X_two b_X_two 5 (some .int) 5 113 [.ref 165, .int a1, .int a2, .int a3] s s' (some (.int r')) := by
  refine Cm.of (own := "PassedOnAndBetter") (by decide) rfl (fun ad => Nat.le_of_ble_eq_true rfl) ?_
  intro z hz hq
  show G l z b_X_two 5 0 [(0, .ref 165), (1, .int a1), (2, .int a2), (3, .int a3)] [] s
  unfold f_X_two at h
  refine g_aload_n hz 0 d_X_two_0 rfl rfl ?_
  refine g_iload_n hz 1 d_X_two_1 rfl rfl ?_
  refine g_iload_n hz 2 d_X_two_2 rfl rfl ?_
  refine bn_use h (fun x3 s2 e1 h => ?_)
  refine g_callVi hz (c_X_twoFriendsNo l e1) (by decide) rc_X rfl rfl m_X_twoFriendsNo mi_X_twoFriendsNo ms_X_twoFriendsNo q_581 ⟨Nat.le_of_ble_eq_true rfl, Nat.le_of_ble_eq_true rfl⟩ rfl (st := []) rfl (Nat.le_of_ble_eq_true rfl) d_X_two_3 ?_
  refine g_iload_n hz 3 d_X_two_6 rfl rfl ?_
  refine bn_use h (fun x6 s5 e4 h => ?_)
  refine g_callSi hz (c_X_spanNo l e4) m_X_spanNo mi_X_spanNo q_625 ⟨Nat.le_of_ble_eq_true rfl, Nat.le_of_ble_eq_true rfl⟩ rfl (st := [.int x3]) rfl (Nat.le_of_ble_eq_true rfl) d_X_two_7 ?_
  refine g_iconst hz d_X_two_10 ki_0 ?_
  refine bn_use h (fun x9 s8 e7 h => ?_)
  refine g_callSi hz (c_X_first l e7) m_X_first mi_X_first q_538 ⟨Nat.le_of_ble_eq_true rfl, Nat.le_of_ble_eq_true rfl⟩ rfl (st := []) rfl (Nat.le_of_ble_eq_true rfl) d_X_two_11 ?_
  refine g_istore hz (L' := [(4, .int x9), (0, .ref 165), (1, .int a1), (2, .int a2), (3, .int a3)]) d_X_two_14 (by decide) rfl ?_
  refine g_iload hz 0 d_X_two_16 rfl ?_
  refine g_if_ne hz (tgt := 34) d_X_two_18 (by decide) (fun c10 => ?_) (fun c10 => ?_)
  · replace h := (if_neg c10).symm.trans h
    refine g_aload_n hz 1 d_X_two_34 rfl rfl ?_
    refine g_iload hz 0 d_X_two_35 rfl ?_
    refine bn_use h (fun x13 s12 e11 h => ?_)
    refine g_callVi hz (c_X_refuse l e11) (by decide) rc_X rfl rfl m_X_refuse mi_X_refuse ms_X_refuse q_349 ⟨Nat.le_of_ble_eq_true rfl, Nat.le_of_ble_eq_true rfl⟩ rfl (st := []) rfl (Nat.le_of_ble_eq_true rfl) d_X_two_37 ?_
    exact g_iret hz (rti h hq) d_X_two_40
  · replace h := (if_pos c10).symm.trans h
    refine g_aload_n hz 1 d_X_two_21 rfl rfl ?_
    refine gf_X_mind hz q_311 d_X_two_22 ?_
    refine g_iload_n hz 2 d_X_two_25 rfl rfl ?_
    refine g_iload_n hz 3 d_X_two_26 rfl rfl ?_
    refine g_iload_n hz 4 d_X_two_27 rfl rfl ?_
    refine bn_use h (fun x16 s15 e14 h => ?_)
    refine g_callVi hz (c_M_restingPair l e14) (by decide) rc_M rfl rfl m_M_restingPair mi_M_restingPair ms_M_restingPair q_827 ⟨Nat.le_of_ble_eq_true rfl, Nat.le_of_ble_eq_true rfl⟩ rfl (st := []) rfl (Nat.le_of_ble_eq_true rfl) d_X_two_28 ?_
    refine g_goto hz (tgt := 40) d_X_two_31 (by decide) ?_
    exact g_iret hz (rti h hq) d_X_two_40
def f_X_refuseLong (s : Mm) (a1 : Int32) : Option (Int64 × Mm) :=
  bn (f_X_refuse s a1) fun x3 s2 =>
  some (4000000000000000000 - (x3.toInt64), s2)
set_option maxRecDepth 20000 in
theorem c_X_refuseLong (l : Launch) {s : Mm} {a1 : Int32} {r' : Int64} {s' : Mm}  (h : f_X_refuseLong s a1 = some (r', s')) : Cm l y_X_refuseLong b_X_refuseLong 2 (some .long) 2 43 [.ref 165, .int a1] s s' (some (.long r')) := by
  refine Cm.of (own := "PassedOnAndBetter") (by decide) rfl (fun ad => Nat.le_of_ble_eq_true rfl) ?_
  intro z hz hq
  show G l z b_X_refuseLong 2 0 [(0, .ref 165), (1, .int a1)] [] s
  unfold f_X_refuseLong at h
  refine g_ldc2 hz q_845 d_X_refuseLong_0 ?_
  refine g_aload_n hz 0 d_X_refuseLong_3 rfl rfl ?_
  refine g_iload_n hz 1 d_X_refuseLong_4 rfl rfl ?_
  refine bn_use h (fun x3 s2 e1 h => ?_)
  refine g_callVi hz (c_X_refuse l e1) (by decide) rc_X rfl rfl m_X_refuse mi_X_refuse ms_X_refuse q_349 ⟨Nat.le_of_ble_eq_true rfl, Nat.le_of_ble_eq_true rfl⟩ rfl (st := [.long 4000000000000000000]) rfl (Nat.le_of_ble_eq_true rfl) d_X_refuseLong_5 ?_
  refine g_i2l hz d_X_refuseLong_8 ?_
  refine g_lsub hz d_X_refuseLong_9 ?_
  exact g_lret hz (rtl h hq) d_X_refuseLong_10
def k_M_passWithLost_3 : Nat → Nat → Int32 → Int32 → Int32 → Mm → Option Mm
  | 0, _, _, _, _, _ => none
  | n + 1, o1, v2, v3, v4, s => if v2 ≤ v4 then
      some s
    else
      if ((v3 >>> (v4 &&& 31)) &&& 1) = 1 then
        bv (f_G_keep s o1) fun s6 =>
        k_M_passWithLost_3 n o1 v2 v3 (v4 + 1) s6
      else
        bv (f_G_passMonth s o1 2) fun s4 =>
        k_M_passWithLost_3 n o1 v2 v3 (v4 + 1) s4
set_option maxRecDepth 20000 in
theorem w_M_passWithLost_3 {l : Launch} {z : Zt} (hz : ZOk z b_M_passWithLost 5 "PassedOnAndBetter$Mind" 3 66) {s' : Mm} (hq : ZR z none s' none) : ∀ (n : Nat) (o1 : Nat) (v2 : Int32) (v3 : Int32) (v4 : Int32) (ho1 : iG o1) (s : Mm), k_M_passWithLost_3 n o1 v2 v3 v4 s = some s' → G l z b_M_passWithLost 5 3 [(0, .ref 173), (1, .ref o1), (2, .int v2), (3, .int v3), (4, .int v4)] [] s := by
  intro n
  induction n with
  | zero => intro o1 v2 v3 v4 ho1 s h; unfold k_M_passWithLost_3 at h; cases h
  | succ n ih =>
    intro o1 v2 v3 v4 ho1 s h
    unfold k_M_passWithLost_3 at h
    refine g_iload hz 4 d_M_passWithLost_3 rfl ?_
    refine g_iload_n hz 2 d_M_passWithLost_5 rfl rfl ?_
    refine g_icmp_ge hz (tgt := 44) d_M_passWithLost_6 (by decide) (fun c1 => ?_) (fun c1 => ?_)
    · replace h := (if_pos c1).symm.trans h
      exact g_vret hz (rtv h hq) d_M_passWithLost_44
    · replace h := (if_neg c1).symm.trans h
      refine g_aload_n hz 1 d_M_passWithLost_9 rfl rfl ?_
      refine g_ifnull hz d_M_passWithLost_10 ?_
      refine g_iload_n hz 3 d_M_passWithLost_13 rfl rfl ?_
      refine g_iload hz 4 d_M_passWithLost_14 rfl ?_
      refine g_ishr hz d_M_passWithLost_16 ?_
      refine g_iconst hz d_M_passWithLost_17 ki_1 ?_
      refine g_iand hz d_M_passWithLost_18 ?_
      refine g_iconst hz d_M_passWithLost_19 ki_1 ?_
      refine g_icmp_ne hz (tgt := 30) d_M_passWithLost_20 (by decide) (fun c2 => ?_) (fun c2 => ?_)
      · replace h := (if_neg c2).symm.trans h
        refine g_aload_n hz 1 d_M_passWithLost_30 rfl rfl ?_
        refine g_aload_n hz 0 d_M_passWithLost_31 rfl rfl ?_
        refine gf_M_thought hz q_292 d_M_passWithLost_32 ?_
        refine bv_use h (fun s4 e3 h => ?_)
        refine g_callVv hz (c_G_passMonth l ho1 (by decide) e3) (iG_lt ho1) (rc_G ho1) rfl rfl m_G_passMonth mi_G_passMonth ms_G_passMonth q_638 ⟨Nat.le_of_ble_eq_true rfl, Nat.le_of_ble_eq_true rfl⟩ rfl (st := []) rfl (Nat.le_of_ble_eq_true rfl) d_M_passWithLost_35 ?_
        refine g_iinc hz (v := v4 + 1) (L' := [(4, .int (v4 + 1)), (0, .ref 173), (1, .ref o1), (2, .int v2), (3, .int v3)]) 4 d_M_passWithLost_38 rfl (congrArg (fun q => v4 + q) ki_1) (by decide) rfl ?_
        refine g_goto hz (tgt := 3) d_M_passWithLost_41 (by decide) ?_
        refine g_sub [1, 2, 3, 4, 0] rfl ?_
        exact ih o1 v2 v3 (v4 + 1) ho1 _ h
      · replace h := (if_pos c2).symm.trans h
        refine g_aload_n hz 1 d_M_passWithLost_23 rfl rfl ?_
        refine bv_use h (fun s6 e5 h => ?_)
        refine g_callVv hz (c_G_keep l ho1 e5) (iG_lt ho1) (rc_G ho1) rfl rfl m_G_keep mi_G_keep ms_G_keep q_855 ⟨Nat.le_of_ble_eq_true rfl, Nat.le_of_ble_eq_true rfl⟩ rfl (st := []) rfl (Nat.le_of_ble_eq_true rfl) d_M_passWithLost_24 ?_
        refine g_goto hz (tgt := 38) d_M_passWithLost_27 (by decide) ?_
        refine g_iinc hz (v := v4 + 1) (L' := [(4, .int (v4 + 1)), (0, .ref 173), (1, .ref o1), (2, .int v2), (3, .int v3)]) 4 d_M_passWithLost_38 rfl (congrArg (fun q => v4 + q) ki_1) (by decide) rfl ?_
        refine g_goto hz (tgt := 3) d_M_passWithLost_41 (by decide) ?_
        refine g_sub [1, 2, 3, 4, 0] rfl ?_
        exact ih o1 v2 v3 (v4 + 1) ho1 _ h
def f_M_passWithLost (s : Mm) (o1 : Nat) (a2 : Int32) (a3 : Int32) : Option Mm :=
  k_M_passWithLost_3 KF o1 a2 a3 0 s
set_option maxRecDepth 20000 in
theorem c_M_passWithLost (l : Launch) {s : Mm} {o1 : Nat} {a2 : Int32} {a3 : Int32} {s' : Mm} (ho1 : iG o1) (h : f_M_passWithLost s o1 a2 a3 = some s') : Cm l y_M_passWithLost b_M_passWithLost 5 none 3 66 [.ref 173, .ref o1, .int a2, .int a3] s s' none := by
  refine Cm.of (own := "PassedOnAndBetter$Mind") (by decide) rfl (fun ad => Nat.le_of_ble_eq_true rfl) ?_
  intro z hz hq
  show G l z b_M_passWithLost 5 0 [(0, .ref 173), (1, .ref o1), (2, .int a2), (3, .int a3)] [] s
  unfold f_M_passWithLost at h
  refine g_iconst hz d_M_passWithLost_0 ki_0 ?_
  refine g_istore hz (L' := [(4, .int 0), (0, .ref 173), (1, .ref o1), (2, .int a2), (3, .int a3)]) d_M_passWithLost_1 (by decide) rfl ?_
  refine g_sub [1, 2, 3, 4, 0] rfl ?_
  exact w_M_passWithLost_3 hz hq KF o1 a2 a3 0 ho1 _ h
def k_X_power_5 : Nat → Int32 → Int32 → Int64 → Int32 → Mm → Option (Int64 × Mm)
  | 0, _, _, _, _, _ => none
  | n + 1, v0, v1, w2, v4, s => if v1 ≤ v4 then
      some (w2, s)
    else
      nm (w2 * (v0.toInt64)) fun x2 =>
      k_X_power_5 n v0 v1 x2 (v4 + 1) s
set_option maxRecDepth 20000 in
theorem w_X_power_5 {l : Launch} {z : Zt} (hz : ZOk z b_X_power 5 "PassedOnAndBetter" 0 0) {r' : Int64} {s' : Mm} (hq : ZR z (some .long) s' (some (.long r'))) : ∀ (n : Nat) (v0 : Int32) (v1 : Int32) (w2 : Int64) (v4 : Int32) (s : Mm), k_X_power_5 n v0 v1 w2 v4 s = some (r', s') → G l z b_X_power 5 5 [(0, .int v0), (1, .int v1), (2, .long w2), (4, .int v4)] [] s := by
  intro n
  induction n with
  | zero => intro v0 v1 w2 v4 s h; unfold k_X_power_5 at h; cases h
  | succ n ih =>
    intro v0 v1 w2 v4 s h
    unfold k_X_power_5 at h
    refine g_iload hz 3 d_X_power_5 rfl ?_
    refine g_iload_n hz 1 d_X_power_7 rfl rfl ?_
    refine g_icmp_ge hz (tgt := 22) d_X_power_8 (by decide) (fun c1 => ?_) (fun c1 => ?_)
    · replace h := (if_pos c1).symm.trans h
      refine g_lload_n hz 2 d_X_power_22 rfl rfl ?_
      exact g_lret hz (rtl h hq) d_X_power_23
    · replace h := (if_neg c1).symm.trans h
      refine g_lload_n hz 2 d_X_power_11 rfl rfl ?_
      refine g_iload_n hz 0 d_X_power_12 rfl rfl ?_
      refine g_i2l hz d_X_power_13 ?_
      refine g_lmul hz d_X_power_14 ?_
      refine g_nml (fun x2 e3 => ?_)
      replace h := nm_use h e3
      refine g_lstore_n hz (L' := [(2, .long x2), (0, .int v0), (1, .int v1), (4, .int v4)]) d_X_power_15 rfl (by decide) rfl ?_
      refine g_iinc hz (v := v4 + 1) (L' := [(4, .int (v4 + 1)), (2, .long x2), (0, .int v0), (1, .int v1)]) 3 d_X_power_16 rfl (congrArg (fun q => v4 + q) ki_1) (by decide) rfl ?_
      refine g_goto hz (tgt := 5) d_X_power_19 (by decide) ?_
      refine g_sub [2, 3, 1, 0] rfl ?_
      exact ih v0 v1 x2 (v4 + 1) _ h
def f_X_power (s : Mm) (a0 : Int32) (a1 : Int32) : Option (Int64 × Mm) :=
  k_X_power_5 KF a0 a1 1 0 s
set_option maxRecDepth 20000 in
theorem c_X_power (l : Launch) {s : Mm} {a0 : Int32} {a1 : Int32} {r' : Int64} {s' : Mm}  (h : f_X_power s a0 a1 = some (r', s')) : Cm l y_X_power b_X_power 5 (some .long) 0 0 [.int a0, .int a1] s s' (some (.long r')) := by
  refine Cm.of (own := "PassedOnAndBetter") (by decide) rfl (fun ad => Nat.le_of_ble_eq_true rfl) ?_
  intro z hz hq
  show G l z b_X_power 5 0 [(0, .int a0), (1, .int a1)] [] s
  unfold f_X_power at h
  refine g_lconst hz (v := 1) d_X_power_0 (by decide) ?_
  refine g_lstore_n hz (L' := [(2, .long 1), (0, .int a0), (1, .int a1)]) d_X_power_1 rfl (by decide) rfl ?_
  refine g_iconst hz d_X_power_2 ki_0 ?_
  refine g_istore hz (L' := [(4, .int 0), (2, .long 1), (0, .int a0), (1, .int a1)]) d_X_power_3 (by decide) rfl ?_
  refine g_sub [2, 3, 1, 0] rfl ?_
  exact w_X_power_5 hz hq KF a0 a1 1 0 _ h
def k_M_waysWithLost_21 : Nat → Int32 → Int32 → Int32 → Int32 → Int64 → Nat → Int32 → Mm → Option (Int64 × Mm)
  | 0, _, _, _, _, _, _, _, _ => none
  | n + 1, v1, v2, v3, v4, w5, o7, v8, s => if (1 <<< (v3 &&& 31)) ≤ v8 then
      some (w5, s)
    else
      bn (f_C_giftAt s 0 v1) fun x10 s9 =>
      bv (f_G_copyFrom s9 o7 x10) fun s12 =>
      bv (f_M_passWithLost s12 o7 v3 v8) fun s14 =>
      if (s14 o7 2) = v2 then
        bn (f_I_bitCount s14 v8) fun x18 s17 =>
        bn (f_X_power s17 (v4 - 1) (v3 - x18)) fun x21 s20 =>
        nm (w5 + x21) fun x22 =>
        k_M_waysWithLost_21 n v1 v2 v3 v4 x22 o7 (v8 + 1) s20
      else
        k_M_waysWithLost_21 n v1 v2 v3 v4 w5 o7 (v8 + 1) s14
set_option maxRecDepth 20000 in
theorem w_M_waysWithLost_21 {l : Launch} {z : Zt} (hz : ZOk z b_M_waysWithLost 9 "PassedOnAndBetter$Mind" 4 90) {r' : Int64} {s' : Mm} (hq : ZR z (some .long) s' (some (.long r'))) : ∀ (n : Nat) (v1 : Int32) (v2 : Int32) (v3 : Int32) (v4 : Int32) (w5 : Int64) (o7 : Nat) (v8 : Int32) (ho7 : iG o7) (s : Mm), k_M_waysWithLost_21 n v1 v2 v3 v4 w5 o7 v8 s = some (r', s') → G l z b_M_waysWithLost 9 21 [(0, .ref 173), (1, .int v1), (2, .int v2), (3, .int v3), (4, .int v4), (5, .long w5), (7, .ref o7), (8, .int v8)] [] s := by
  intro n
  induction n with
  | zero => intro v1 v2 v3 v4 w5 o7 v8 ho7 s h; unfold k_M_waysWithLost_21 at h; cases h
  | succ n ih =>
    intro v1 v2 v3 v4 w5 o7 v8 ho7 s h
    unfold k_M_waysWithLost_21 at h
    refine g_iload hz 7 d_M_waysWithLost_21 rfl ?_
    refine g_iconst hz d_M_waysWithLost_23 ki_1 ?_
    refine g_iload_n hz 3 d_M_waysWithLost_24 rfl rfl ?_
    refine g_ishl hz d_M_waysWithLost_25 ?_
    refine g_icmp_ge hz (tgt := 85) d_M_waysWithLost_26 (by decide) (fun c7 => ?_) (fun c7 => ?_)
    · replace h := (if_pos c7).symm.trans h
      refine g_lload hz 5 d_M_waysWithLost_85 rfl ?_
      exact g_lret hz (rtl h hq) d_M_waysWithLost_87
    · replace h := (if_neg c7).symm.trans h
      refine g_aload hz 6 d_M_waysWithLost_29 rfl ?_
      refine g_aload_n hz 0 d_M_waysWithLost_31 rfl rfl ?_
      refine gf_M_now hz q_290 d_M_waysWithLost_32 ?_
      refine g_iload_n hz 1 d_M_waysWithLost_35 rfl rfl ?_
      refine bn_use h (fun x10 s9 e8 h => ?_)
      have hx10 := rr_C_giftAt (by decide) e8
      refine g_callVr hz (c_C_giftAt l (by decide) e8) (iC_lt (by decide)) (rc_C (by decide)) rfl rfl m_C_giftAt mi_C_giftAt ms_C_giftAt q_633 ⟨Nat.le_of_ble_eq_true rfl, Nat.le_of_ble_eq_true rfl⟩ rfl (st := [.ref o7]) rfl (Nat.le_of_ble_eq_true rfl) d_M_waysWithLost_36 ?_
      refine bv_use h (fun s12 e11 h => ?_)
      refine g_callVv hz (c_G_copyFrom l ho7 hx10 e11) (iG_lt ho7) (rc_G ho7) rfl rfl m_G_copyFrom mi_G_copyFrom ms_G_copyFrom q_850 ⟨Nat.le_of_ble_eq_true rfl, Nat.le_of_ble_eq_true rfl⟩ rfl (st := []) rfl (Nat.le_of_ble_eq_true rfl) d_M_waysWithLost_39 ?_
      refine g_aload_n hz 0 d_M_waysWithLost_42 rfl rfl ?_
      refine g_aload hz 6 d_M_waysWithLost_43 rfl ?_
      refine g_iload_n hz 3 d_M_waysWithLost_45 rfl rfl ?_
      refine g_iload hz 7 d_M_waysWithLost_46 rfl ?_
      refine bv_use h (fun s14 e13 h => ?_)
      refine g_callVv hz (c_M_passWithLost l ho7 e13) (by decide) rc_M rfl rfl m_M_passWithLost mi_M_passWithLost ms_M_passWithLost q_851 ⟨Nat.le_of_ble_eq_true rfl, Nat.le_of_ble_eq_true rfl⟩ rfl (st := []) rfl (Nat.le_of_ble_eq_true rfl) d_M_waysWithLost_48 ?_
      refine g_aload hz 6 d_M_waysWithLost_51 rfl ?_
      refine gf_G_with hz ho7 q_181 d_M_waysWithLost_53 ?_
      refine g_iload_n hz 2 d_M_waysWithLost_56 rfl rfl ?_
      refine g_icmp_ne hz (tgt := 79) d_M_waysWithLost_57 (by decide) (fun c15 => ?_) (fun c15 => ?_)
      · replace h := (if_neg c15).symm.trans h
        refine g_iinc hz (v := v8 + 1) (L' := [(8, .int (v8 + 1)), (0, .ref 173), (1, .int v1), (2, .int v2), (3, .int v3), (4, .int v4), (5, .long w5), (7, .ref o7)]) 7 d_M_waysWithLost_79 rfl (congrArg (fun q => v8 + q) ki_1) (by decide) rfl ?_
        refine g_goto hz (tgt := 21) d_M_waysWithLost_82 (by decide) ?_
        refine g_sub [1, 2, 3, 4, 5, 6, 7, 0] rfl ?_
        exact ih v1 v2 v3 v4 w5 o7 (v8 + 1) ho7 _ h
      · replace h := (if_pos c15).symm.trans h
        refine g_lload hz 5 d_M_waysWithLost_60 rfl ?_
        refine g_iload hz 4 d_M_waysWithLost_62 rfl ?_
        refine g_iconst hz d_M_waysWithLost_64 ki_1 ?_
        refine g_isub hz d_M_waysWithLost_65 ?_
        refine g_iload_n hz 3 d_M_waysWithLost_66 rfl rfl ?_
        refine g_iload hz 7 d_M_waysWithLost_67 rfl ?_
        refine bn_use h (fun x18 s17 e16 h => ?_)
        refine g_callSi hz (c_I_bitCount l e16) m_I_bitCount mi_I_bitCount q_716 ⟨Nat.le_of_ble_eq_true rfl, Nat.le_of_ble_eq_true rfl⟩ rfl (st := [.int v3, .int (v4 - 1), .long w5]) rfl (Nat.le_of_ble_eq_true rfl) d_M_waysWithLost_69 ?_
        refine g_isub hz d_M_waysWithLost_72 ?_
        refine bn_use h (fun x21 s20 e19 h => ?_)
        refine g_callSNl hz (c_X_power l e19) m_X_power mi_X_power (fun D cy s h => h.2.2.2.2.2.2.2.1) ⟨Nat.le_of_ble_eq_true rfl, Nat.le_of_ble_eq_true rfl⟩ rfl (st := [.long w5]) rfl (Nat.le_of_ble_eq_true rfl) d_M_waysWithLost_73 ?_
        refine g_ladd hz d_M_waysWithLost_76 ?_
        refine g_nml (fun x22 e23 => ?_)
        replace h := nm_use h e23
        refine g_lstore hz (L' := [(5, .long x22), (0, .ref 173), (1, .int v1), (2, .int v2), (3, .int v3), (4, .int v4), (7, .ref o7), (8, .int v8)]) d_M_waysWithLost_77 (by decide) rfl ?_
        refine g_iinc hz (v := v8 + 1) (L' := [(8, .int (v8 + 1)), (5, .long x22), (0, .ref 173), (1, .int v1), (2, .int v2), (3, .int v3), (4, .int v4), (7, .ref o7)]) 7 d_M_waysWithLost_79 rfl (congrArg (fun q => v8 + q) ki_1) (by decide) rfl ?_
        refine g_goto hz (tgt := 21) d_M_waysWithLost_82 (by decide) ?_
        refine g_sub [2, 3, 4, 5, 6, 1, 7, 0] rfl ?_
        exact ih v1 v2 v3 v4 x22 o7 (v8 + 1) ho7 _ h
def f_M_waysWithLost (s : Mm) (a1 : Int32) (a2 : Int32) (a3 : Int32) (a4 : Int32) : Option (Int64 × Mm) :=
  bn (f_M_recall s) fun x3 s2 =>
  bn (f_C_giftAt s2 2 a1) fun x6 s5 =>
  k_M_waysWithLost_21 KF a1 a2 a3 a4 0 x6 0 s5
set_option maxRecDepth 20000 in
theorem c_M_waysWithLost (l : Launch) {s : Mm} {a1 : Int32} {a2 : Int32} {a3 : Int32} {a4 : Int32} {r' : Int64} {s' : Mm}  (h : f_M_waysWithLost s a1 a2 a3 a4 = some (r', s')) : Cm l y_M_waysWithLost b_M_waysWithLost 9 (some .long) 4 90 [.ref 173, .int a1, .int a2, .int a3, .int a4] s s' (some (.long r')) := by
  refine Cm.of (own := "PassedOnAndBetter$Mind") (by decide) rfl (fun ad => Nat.le_of_ble_eq_true rfl) ?_
  intro z hz hq
  show G l z b_M_waysWithLost 9 0 [(0, .ref 173), (1, .int a1), (2, .int a2), (3, .int a3), (4, .int a4)] [] s
  unfold f_M_waysWithLost at h
  refine g_lconst hz (v := 0) d_M_waysWithLost_0 (by decide) ?_
  refine g_lstore hz (L' := [(5, .long 0), (0, .ref 173), (1, .int a1), (2, .int a2), (3, .int a3), (4, .int a4)]) d_M_waysWithLost_1 (by decide) rfl ?_
  refine g_aload_n hz 1 d_M_waysWithLost_3 rfl rfl ?_
  refine bn_use h (fun x3 s2 e1 h => ?_)
  have hx3 := rr_M_recall e1
  refine g_callVr hz (c_M_recall l e1) (by decide) rc_M rfl rfl m_M_recall mi_M_recall ms_M_recall q_632 ⟨Nat.le_of_ble_eq_true rfl, Nat.le_of_ble_eq_true rfl⟩ rfl (st := []) rfl (Nat.le_of_ble_eq_true rfl) d_M_waysWithLost_4 ?_
  refine g_pop hz d_M_waysWithLost_7 rfl ?_
  refine g_aload_n hz 1 d_M_waysWithLost_8 rfl rfl ?_
  refine gf_M_thought hz q_292 d_M_waysWithLost_9 ?_
  refine g_iload_n hz 2 d_M_waysWithLost_12 rfl rfl ?_
  refine bn_use h (fun x6 s5 e4 h => ?_)
  have hx6 := rr_C_giftAt (by decide) e4
  refine g_callVr hz (c_C_giftAt l (by decide) e4) (iC_lt (by decide)) (rc_C (by decide)) rfl rfl m_C_giftAt mi_C_giftAt ms_C_giftAt q_633 ⟨Nat.le_of_ble_eq_true rfl, Nat.le_of_ble_eq_true rfl⟩ rfl (st := []) rfl (Nat.le_of_ble_eq_true rfl) d_M_waysWithLost_13 ?_
  refine g_astore hz (L' := [(7, .ref x6), (5, .long 0), (0, .ref 173), (1, .int a1), (2, .int a2), (3, .int a3), (4, .int a4)]) d_M_waysWithLost_16 (by decide) rfl ?_
  refine g_iconst hz d_M_waysWithLost_18 ki_0 ?_
  refine g_istore hz (L' := [(8, .int 0), (7, .ref x6), (5, .long 0), (0, .ref 173), (1, .int a1), (2, .int a2), (3, .int a3), (4, .int a4)]) d_M_waysWithLost_19 (by decide) rfl ?_
  refine g_sub [3, 4, 5, 6, 7, 2, 1, 0] rfl ?_
  exact w_M_waysWithLost_21 hz hq KF a1 a2 a3 a4 0 x6 0 hx6 _ h
def k_X_commonDivisor_9 : Nat → Int64 → Int64 → Int32 → Mm → Option (Int64 × Mm)
  | 0, _, _, _, _ => none
  | n + 1, w4, w6, v8, s => if 100 ≤ v8 then
      some (w4, s)
    else
      if (lg_cmp w6 0) = 0 then
        some (w4, s)
      else
        gZ w6 <|
        nm (w4 - w4 / w6 * w6) fun x4 =>
        k_X_commonDivisor_9 n w6 x4 (v8 + 1) s
set_option maxRecDepth 20000 in
theorem w_X_commonDivisor_9 {l : Launch} {z : Zt} (hz : ZOk z b_X_commonDivisor 11 "PassedOnAndBetter" 0 0) {r' : Int64} {s' : Mm} (hq : ZR z (some .long) s' (some (.long r'))) : ∀ (n : Nat) (w4 : Int64) (w6 : Int64) (v8 : Int32) (s : Mm), k_X_commonDivisor_9 n w4 w6 v8 s = some (r', s') → G l z b_X_commonDivisor 11 9 [(4, .long w4), (6, .long w6), (8, .int v8)] [] s := by
  intro n
  induction n with
  | zero => intro w4 w6 v8 s h; unfold k_X_commonDivisor_9 at h; cases h
  | succ n ih =>
    intro w4 w6 v8 s h
    unfold k_X_commonDivisor_9 at h
    refine g_iload hz 2 d_X_commonDivisor_9 rfl ?_
    refine g_bipush hz (v := 100) d_X_commonDivisor_11 (by decide) ?_
    refine g_icmp_ge hz (tgt := 44) d_X_commonDivisor_13 (by decide) (fun c1 => ?_) (fun c1 => ?_)
    · replace h := (if_pos c1).symm.trans h
      refine g_lload hz 0 d_X_commonDivisor_44 rfl ?_
      exact g_lret hz (rtl h hq) d_X_commonDivisor_46
    · replace h := (if_neg c1).symm.trans h
      refine g_lload hz 1 d_X_commonDivisor_16 rfl ?_
      refine g_lconst hz (v := 0) d_X_commonDivisor_18 (by decide) ?_
      refine g_lcmp hz d_X_commonDivisor_19 ?_
      refine g_if_eq hz (tgt := 44) d_X_commonDivisor_20 (by decide) (fun c2 => ?_) (fun c2 => ?_)
      · replace h := (if_pos c2).symm.trans h
        refine g_lload hz 0 d_X_commonDivisor_44 rfl ?_
        exact g_lret hz (rtl h hq) d_X_commonDivisor_46
      · replace h := (if_neg c2).symm.trans h
        refine g_lload hz 0 d_X_commonDivisor_23 rfl ?_
        refine g_lload hz 1 d_X_commonDivisor_25 rfl ?_
        obtain ⟨n3, h⟩ := gZ_use h
        refine g_lrem hz d_X_commonDivisor_27 n3 ?_
        refine g_nml (fun x4 e5 => ?_)
        replace h := nm_use h e5
        refine g_lstore hz (L' := [(9, .long x4), (4, .long w4), (6, .long w6), (8, .int v8)]) d_X_commonDivisor_28 (by decide) rfl ?_
        refine g_lload hz 2 d_X_commonDivisor_30 rfl ?_
        refine g_lstore hz (L' := [(4, .long w6), (9, .long x4), (6, .long w6), (8, .int v8)]) d_X_commonDivisor_32 (by decide) rfl ?_
        refine g_lload hz 1 d_X_commonDivisor_34 rfl ?_
        refine g_lstore hz (L' := [(6, .long x4), (4, .long w6), (9, .long x4), (8, .int v8)]) d_X_commonDivisor_36 (by decide) rfl ?_
        refine g_iinc hz (v := v8 + 1) (L' := [(8, .int (v8 + 1)), (6, .long x4), (4, .long w6), (9, .long x4)]) 3 d_X_commonDivisor_38 rfl (congrArg (fun q => v8 + q) ki_1) (by decide) rfl ?_
        refine g_goto hz (tgt := 9) d_X_commonDivisor_41 (by decide) ?_
        refine g_sub [2, 1, 0] rfl ?_
        exact ih w6 x4 (v8 + 1) _ h
def f_X_commonDivisor (s : Mm) (a0 : Int64) (a2 : Int64) : Option (Int64 × Mm) :=
  k_X_commonDivisor_9 KF a0 a2 0 s
set_option maxRecDepth 20000 in
theorem c_X_commonDivisor (l : Launch) {s : Mm} {a0 : Int64} {a2 : Int64} {r' : Int64} {s' : Mm}  (h : f_X_commonDivisor s a0 a2 = some (r', s')) : Cm l y_X_commonDivisor b_X_commonDivisor 11 (some .long) 0 0 [.long a0, .long a2] s s' (some (.long r')) := by
  refine Cm.of (own := "PassedOnAndBetter") (by decide) rfl (fun ad => Nat.le_of_ble_eq_true rfl) ?_
  intro z hz hq
  show G l z b_X_commonDivisor 11 0 [(0, .long a0), (2, .long a2)] [] s
  unfold f_X_commonDivisor at h
  refine g_lload_n hz 0 d_X_commonDivisor_0 rfl rfl ?_
  refine g_lstore hz (L' := [(4, .long a0), (0, .long a0), (2, .long a2)]) d_X_commonDivisor_1 (by decide) rfl ?_
  refine g_lload_n hz 2 d_X_commonDivisor_3 rfl rfl ?_
  refine g_lstore hz (L' := [(6, .long a2), (4, .long a0), (0, .long a0), (2, .long a2)]) d_X_commonDivisor_4 (by decide) rfl ?_
  refine g_iconst hz d_X_commonDivisor_6 ki_0 ?_
  refine g_istore hz (L' := [(8, .int 0), (6, .long a2), (4, .long a0), (0, .long a0), (2, .long a2)]) d_X_commonDivisor_7 (by decide) rfl ?_
  refine g_sub [2, 1, 0] rfl ?_
  exact w_X_commonDivisor_9 hz hq KF a0 a2 0 _ h
def f_X_part (s : Mm) (a0 : Int64) (a2 : Int64) (a4 : Int32) : Option (Int64 × Mm) :=
  bn (f_X_commonDivisor s a0 a2) fun x3 s2 =>
  if 0 < (lg_cmp x3 0) then
    if a4 = 0 then
      gZ x3 <|
      some (a0 / x3, s2)
    else
      gZ x3 <|
      some (a2 / x3, s2)
  else
    if a4 = 0 then
      some (0, s2)
    else
      some (1, s2)
set_option maxRecDepth 20000 in
theorem c_X_part (l : Launch) {s : Mm} {a0 : Int64} {a2 : Int64} {a4 : Int32} {r' : Int64} {s' : Mm}  (h : f_X_part s a0 a2 a4 = some (r', s')) : Cm l y_X_part b_X_part 7 (some .long) 1 30 [.long a0, .long a2, .int a4] s s' (some (.long r')) := by
  refine Cm.of (own := "PassedOnAndBetter") (by decide) rfl (fun ad => Nat.le_of_ble_eq_true rfl) ?_
  intro z hz hq
  show G l z b_X_part 7 0 [(0, .long a0), (2, .long a2), (4, .int a4)] [] s
  unfold f_X_part at h
  refine g_lload_n hz 0 d_X_part_0 rfl rfl ?_
  refine g_lload_n hz 1 d_X_part_1 rfl rfl ?_
  refine bn_use h (fun x3 s2 e1 h => ?_)
  refine g_callSl hz (c_X_commonDivisor l e1) m_X_commonDivisor mi_X_commonDivisor q_863 ⟨Nat.le_of_ble_eq_true rfl, Nat.le_of_ble_eq_true rfl⟩ rfl (st := []) rfl (Nat.le_of_ble_eq_true rfl) d_X_part_2 ?_
  refine g_lstore hz (L' := [(5, .long x3), (0, .long a0), (2, .long a2), (4, .int a4)]) d_X_part_5 (by decide) rfl ?_
  refine g_lload hz 0 d_X_part_7 rfl ?_
  refine g_lconst hz (v := 0) d_X_part_9 (by decide) ?_
  refine g_lcmp hz d_X_part_10 ?_
  refine g_if_gt hz (tgt := 25) d_X_part_11 (by decide) (fun c4 => ?_) (fun c4 => ?_)
  · replace h := (if_pos c4).symm.trans h
    refine g_iload hz 3 d_X_part_25 rfl ?_
    refine g_if_ne hz (tgt := 37) d_X_part_27 (by decide) (fun c5 => ?_) (fun c5 => ?_)
    · replace h := (if_neg c5).symm.trans h
      refine g_lload_n hz 2 d_X_part_37 rfl rfl ?_
      refine g_lload hz 0 d_X_part_38 rfl ?_
      obtain ⟨n6, h⟩ := gZ_use h
      refine g_ldiv hz d_X_part_40 n6 ?_
      exact g_lret hz (rtl h hq) d_X_part_41
    · replace h := (if_pos c5).symm.trans h
      refine g_lload_n hz 1 d_X_part_30 rfl rfl ?_
      refine g_lload hz 0 d_X_part_31 rfl ?_
      obtain ⟨n7, h⟩ := gZ_use h
      refine g_ldiv hz d_X_part_33 n7 ?_
      refine g_goto hz (tgt := 41) d_X_part_34 (by decide) ?_
      exact g_lret hz (rtl h hq) d_X_part_41
  · replace h := (if_neg c4).symm.trans h
    refine g_iload hz 3 d_X_part_14 rfl ?_
    refine g_if_ne hz (tgt := 23) d_X_part_16 (by decide) (fun c8 => ?_) (fun c8 => ?_)
    · replace h := (if_neg c8).symm.trans h
      refine g_lconst hz (v := 1) d_X_part_23 (by decide) ?_
      exact g_lret hz (rtl h hq) d_X_part_24
    · replace h := (if_pos c8).symm.trans h
      refine g_lconst hz (v := 0) d_X_part_19 (by decide) ?_
      refine g_goto hz (tgt := 24) d_X_part_20 (by decide) ?_
      exact g_lret hz (rtl h hq) d_X_part_24
def k_X_lost_57 (v1 : Int32) (v2 : Int32) (v3 : Int32) (v4 : Int32) (v5 : Int32) (v6 : Int32) (s : Mm) : Option (Int64 × Mm) :=
  bn (f_X_whatNo s v5 1) fun x14 s13 =>
  bn (f_X_first s13 v6 x14 0) fun x17 s16 =>
  if x17 = 0 then
    bn (f_M_waysWithLost s16 v1 v2 v3 v4) fun x21 s20 =>
    bn (f_X_power s20 v4 v3) fun x24 s23 =>
    bn (f_X_part s23 x21 x24 v5) fun x27 s26 =>
    some (x27, s26)
  else
    bn (f_X_refuseLong s16 x17) fun x30 s29 =>
    some (x30, s29)
set_option maxRecDepth 20000 in
theorem w_X_lost_57 {l : Launch} {z : Zt} (hz : ZOk z b_X_lost 7 "PassedOnAndBetter" 5 118) {r' : Int64} {s' : Mm} (hq : ZR z (some .long) s' (some (.long r'))) (v1 : Int32) (v2 : Int32) (v3 : Int32) (v4 : Int32) (v5 : Int32) (v6 : Int32) (s : Mm) (h : k_X_lost_57 v1 v2 v3 v4 v5 v6 s = some (r', s')) : G l z b_X_lost 7 57 [(0, .ref 165), (1, .int v1), (2, .int v2), (3, .int v3), (4, .int v4), (5, .int v5), (6, .int v6)] [] s := by
  unfold k_X_lost_57 at h
  refine g_iload hz 6 d_X_lost_57 rfl ?_
  refine g_iload hz 5 d_X_lost_59 rfl ?_
  refine g_iconst hz d_X_lost_61 ki_1 ?_
  refine bn_use h (fun x14 s13 e12 h => ?_)
  refine g_callSi hz (c_X_whatNo l e12) m_X_whatNo mi_X_whatNo q_535 ⟨Nat.le_of_ble_eq_true rfl, Nat.le_of_ble_eq_true rfl⟩ rfl (st := [.int v6]) rfl (Nat.le_of_ble_eq_true rfl) d_X_lost_62 ?_
  refine g_iconst hz d_X_lost_65 ki_0 ?_
  refine bn_use h (fun x17 s16 e15 h => ?_)
  refine g_callSi hz (c_X_first l e15) m_X_first mi_X_first q_538 ⟨Nat.le_of_ble_eq_true rfl, Nat.le_of_ble_eq_true rfl⟩ rfl (st := []) rfl (Nat.le_of_ble_eq_true rfl) d_X_lost_66 ?_
  refine g_istore hz (L' := [(6, .int x17), (0, .ref 165), (1, .int v1), (2, .int v2), (3, .int v3), (4, .int v4), (5, .int v5)]) d_X_lost_69 (by decide) rfl ?_
  refine g_iload hz 0 d_X_lost_71 rfl ?_
  refine g_if_eq hz (tgt := 83) d_X_lost_73 (by decide) (fun c18 => ?_) (fun c18 => ?_)
  · replace h := (if_pos c18).symm.trans h
    refine g_aload_n hz 1 d_X_lost_83 rfl rfl ?_
    refine gf_X_mind hz q_311 d_X_lost_84 ?_
    refine g_iload_n hz 2 d_X_lost_87 rfl rfl ?_
    refine g_iload_n hz 3 d_X_lost_88 rfl rfl ?_
    refine g_iload_n hz 4 d_X_lost_89 rfl rfl ?_
    refine g_iload hz 5 d_X_lost_90 rfl ?_
    refine bn_use h (fun x21 s20 e19 h => ?_)
    refine g_callVl hz (c_M_waysWithLost l e19) (by decide) rc_M rfl rfl m_M_waysWithLost mi_M_waysWithLost ms_M_waysWithLost q_846 ⟨Nat.le_of_ble_eq_true rfl, Nat.le_of_ble_eq_true rfl⟩ rfl (st := []) rfl (Nat.le_of_ble_eq_true rfl) d_X_lost_92 ?_
    refine g_iload hz 5 d_X_lost_95 rfl ?_
    refine g_iload_n hz 4 d_X_lost_97 rfl rfl ?_
    refine bn_use h (fun x24 s23 e22 h => ?_)
    refine g_callSl hz (c_X_power l e22) m_X_power mi_X_power q_859 ⟨Nat.le_of_ble_eq_true rfl, Nat.le_of_ble_eq_true rfl⟩ rfl (st := [.long x21]) rfl (Nat.le_of_ble_eq_true rfl) d_X_lost_98 ?_
    refine g_iload hz 6 d_X_lost_101 rfl ?_
    refine bn_use h (fun x27 s26 e25 h => ?_)
    refine g_callSl hz (c_X_part l e25) m_X_part mi_X_part q_860 ⟨Nat.le_of_ble_eq_true rfl, Nat.le_of_ble_eq_true rfl⟩ rfl (st := []) rfl (Nat.le_of_ble_eq_true rfl) d_X_lost_103 ?_
    exact g_lret hz (rtl h hq) d_X_lost_106
  · replace h := (if_neg c18).symm.trans h
    refine g_aload_n hz 1 d_X_lost_76 rfl rfl ?_
    refine g_iload hz 0 d_X_lost_77 rfl ?_
    refine bn_use h (fun x30 s29 e28 h => ?_)
    refine g_callVl hz (c_X_refuseLong l e28) (by decide) rc_X rfl rfl m_X_refuseLong mi_X_refuseLong ms_X_refuseLong q_841 ⟨Nat.le_of_ble_eq_true rfl, Nat.le_of_ble_eq_true rfl⟩ rfl (st := []) rfl (Nat.le_of_ble_eq_true rfl) d_X_lost_79 ?_
    exact g_lret hz (rtl h hq) d_X_lost_82
def k_X_lost_35 (v1 : Int32) (v2 : Int32) (v3 : Int32) (v4 : Int32) (v5 : Int32) (v6 : Int32) (s : Mm) : Option (Int64 × Mm) :=
  if v6 = 0 then
    if 8 < v3 then
      k_X_lost_57 v1 v2 v3 v4 v5 (-6) s
    else
      if v4 ≤ 20 then
        k_X_lost_57 v1 v2 v3 v4 v5 v6 s
      else
        k_X_lost_57 v1 v2 v3 v4 v5 (-6) s
  else
    k_X_lost_57 v1 v2 v3 v4 v5 v6 s
set_option maxRecDepth 20000 in
theorem w_X_lost_35 {l : Launch} {z : Zt} (hz : ZOk z b_X_lost 7 "PassedOnAndBetter" 5 118) {r' : Int64} {s' : Mm} (hq : ZR z (some .long) s' (some (.long r'))) (v1 : Int32) (v2 : Int32) (v3 : Int32) (v4 : Int32) (v5 : Int32) (v6 : Int32) (s : Mm) (h : k_X_lost_35 v1 v2 v3 v4 v5 v6 s = some (r', s')) : G l z b_X_lost 7 35 [(0, .ref 165), (1, .int v1), (2, .int v2), (3, .int v3), (4, .int v4), (5, .int v5), (6, .int v6)] [] s := by
  unfold k_X_lost_35 at h
  refine g_iload hz 6 d_X_lost_35 rfl ?_
  refine g_if_ne hz (tgt := 57) d_X_lost_37 (by decide) (fun c11 => ?_) (fun c11 => ?_)
  · replace h := (if_neg c11).symm.trans h
    exact w_X_lost_57 hz hq v1 v2 v3 v4 v5 v6 _ h
  · replace h := (if_pos c11).symm.trans h
    refine g_iload_n hz 3 d_X_lost_40 rfl rfl ?_
    refine g_bipush hz (v := 8) d_X_lost_41 (by decide) ?_
    refine g_icmp_gt hz (tgt := 53) d_X_lost_43 (by decide) (fun c31 => ?_) (fun c31 => ?_)
    · replace h := (if_pos c31).symm.trans h
      refine g_bipush hz (v := (-6)) d_X_lost_53 (by decide) ?_
      refine g_istore hz (L' := [(6, .int (-6)), (0, .ref 165), (1, .int v1), (2, .int v2), (3, .int v3), (4, .int v4), (5, .int v5)]) d_X_lost_55 (by decide) rfl ?_
      refine g_sub [1, 2, 3, 4, 5, 6, 0] rfl ?_
      exact w_X_lost_57 hz hq v1 v2 v3 v4 v5 (-6) _ h
    · replace h := (if_neg c31).symm.trans h
      refine g_iload hz 4 d_X_lost_46 rfl ?_
      refine g_bipush hz (v := 20) d_X_lost_48 (by decide) ?_
      refine g_icmp_le hz (tgt := 57) d_X_lost_50 (by decide) (fun c32 => ?_) (fun c32 => ?_)
      · replace h := (if_pos c32).symm.trans h
        exact w_X_lost_57 hz hq v1 v2 v3 v4 v5 v6 _ h
      · replace h := (if_neg c32).symm.trans h
        refine g_bipush hz (v := (-6)) d_X_lost_53 (by decide) ?_
        refine g_istore hz (L' := [(6, .int (-6)), (0, .ref 165), (1, .int v1), (2, .int v2), (3, .int v3), (4, .int v4), (5, .int v5)]) d_X_lost_55 (by decide) rfl ?_
        refine g_sub [1, 2, 3, 4, 5, 6, 0] rfl ?_
        exact w_X_lost_57 hz hq v1 v2 v3 v4 v5 (-6) _ h
def f_X_lost (s : Mm) (a1 : Int32) (a2 : Int32) (a3 : Int32) (a4 : Int32) (a5 : Int32) : Option (Int64 × Mm) :=
  bn (f_X_giftNo s a1) fun x3 s2 =>
  bn (f_X_friendNo s2 a2) fun x6 s5 =>
  bn (f_X_first s5 x3 x6 0) fun x9 s8 =>
  if x9 = 0 then
    if a3 < 0 then
      k_X_lost_35 a1 a2 a3 a4 a5 (-4) s8
    else
      if 2 ≤ a4 then
        k_X_lost_35 a1 a2 a3 a4 a5 x9 s8
      else
        k_X_lost_35 a1 a2 a3 a4 a5 (-4) s8
  else
    k_X_lost_35 a1 a2 a3 a4 a5 x9 s8
set_option maxRecDepth 20000 in
theorem c_X_lost (l : Launch) {s : Mm} {a1 : Int32} {a2 : Int32} {a3 : Int32} {a4 : Int32} {a5 : Int32} {r' : Int64} {s' : Mm}  (h : f_X_lost s a1 a2 a3 a4 a5 = some (r', s')) : Cm l y_X_lost b_X_lost 7 (some .long) 5 118 [.ref 165, .int a1, .int a2, .int a3, .int a4, .int a5] s s' (some (.long r')) := by
  refine Cm.of (own := "PassedOnAndBetter") (by decide) rfl (fun ad => Nat.le_of_ble_eq_true rfl) ?_
  intro z hz hq
  show G l z b_X_lost 7 0 [(0, .ref 165), (1, .int a1), (2, .int a2), (3, .int a3), (4, .int a4), (5, .int a5)] [] s
  unfold f_X_lost at h
  refine g_aload_n hz 0 d_X_lost_0 rfl rfl ?_
  refine g_iload_n hz 1 d_X_lost_1 rfl rfl ?_
  refine bn_use h (fun x3 s2 e1 h => ?_)
  refine g_callVi hz (c_X_giftNo l e1) (by decide) rc_X rfl rfl m_X_giftNo mi_X_giftNo ms_X_giftNo q_555 ⟨Nat.le_of_ble_eq_true rfl, Nat.le_of_ble_eq_true rfl⟩ rfl (st := []) rfl (Nat.le_of_ble_eq_true rfl) d_X_lost_2 ?_
  refine g_aload_n hz 0 d_X_lost_5 rfl rfl ?_
  refine g_iload_n hz 2 d_X_lost_6 rfl rfl ?_
  refine bn_use h (fun x6 s5 e4 h => ?_)
  refine g_callVi hz (c_X_friendNo l e4) (by decide) rc_X rfl rfl m_X_friendNo mi_X_friendNo ms_X_friendNo q_530 ⟨Nat.le_of_ble_eq_true rfl, Nat.le_of_ble_eq_true rfl⟩ rfl (st := [.int x3]) rfl (Nat.le_of_ble_eq_true rfl) d_X_lost_7 ?_
  refine g_iconst hz d_X_lost_10 ki_0 ?_
  refine bn_use h (fun x9 s8 e7 h => ?_)
  refine g_callSi hz (c_X_first l e7) m_X_first mi_X_first q_538 ⟨Nat.le_of_ble_eq_true rfl, Nat.le_of_ble_eq_true rfl⟩ rfl (st := []) rfl (Nat.le_of_ble_eq_true rfl) d_X_lost_11 ?_
  refine g_istore hz (L' := [(6, .int x9), (0, .ref 165), (1, .int a1), (2, .int a2), (3, .int a3), (4, .int a4), (5, .int a5)]) d_X_lost_14 (by decide) rfl ?_
  refine g_iload hz 0 d_X_lost_16 rfl ?_
  refine g_if_ne hz (tgt := 35) d_X_lost_18 (by decide) (fun c10 => ?_) (fun c10 => ?_)
  · replace h := (if_neg c10).symm.trans h
    refine g_sub [1, 2, 3, 4, 5, 6, 0] rfl ?_
    exact w_X_lost_35 hz hq a1 a2 a3 a4 a5 x9 _ h
  · replace h := (if_pos c10).symm.trans h
    refine g_iload_n hz 4 d_X_lost_21 rfl rfl ?_
    refine g_if_lt hz (tgt := 31) d_X_lost_22 (by decide) (fun c33 => ?_) (fun c33 => ?_)
    · replace h := (if_pos c33).symm.trans h
      refine g_bipush hz (v := (-4)) d_X_lost_31 (by decide) ?_
      refine g_istore hz (L' := [(6, .int (-4)), (0, .ref 165), (1, .int a1), (2, .int a2), (3, .int a3), (4, .int a4), (5, .int a5)]) d_X_lost_33 (by decide) rfl ?_
      refine g_sub [1, 2, 3, 4, 5, 6, 0] rfl ?_
      exact w_X_lost_35 hz hq a1 a2 a3 a4 a5 (-4) _ h
    · replace h := (if_neg c33).symm.trans h
      refine g_iload hz 5 d_X_lost_25 rfl ?_
      refine g_iconst hz d_X_lost_27 ki_2 ?_
      refine g_icmp_ge hz (tgt := 35) d_X_lost_28 (by decide) (fun c34 => ?_) (fun c34 => ?_)
      · replace h := (if_pos c34).symm.trans h
        refine g_sub [1, 2, 3, 4, 5, 6, 0] rfl ?_
        exact w_X_lost_35 hz hq a1 a2 a3 a4 a5 x9 _ h
      · replace h := (if_neg c34).symm.trans h
        refine g_bipush hz (v := (-4)) d_X_lost_31 (by decide) ?_
        refine g_istore hz (L' := [(6, .int (-4)), (0, .ref 165), (1, .int a1), (2, .int a2), (3, .int a3), (4, .int a4), (5, .int a5)]) d_X_lost_33 (by decide) rfl ?_
        refine g_sub [1, 2, 3, 4, 5, 6, 0] rfl ?_
        exact w_X_lost_35 hz hq a1 a2 a3 a4 a5 (-4) _ h
def k_M_unevenBrought_37 : Nat → Int32 → Int32 → Int32 → Mm → Option (Int32 × Mm)
  | 0, _, _, _, _ => none
  | n + 1, v2, v3, v4, s => if (s 2 4) ≤ v4 then
      some (v2 - v3, s)
    else
      bn (f_C_friendAt s 2 v4) fun x15 s14 =>
      nm (mx v2 (s14 x15 8)) fun x16 =>
      bn (f_C_friendAt s14 2 v4) fun x20 s19 =>
      nm (mn v3 (s19 x20 8)) fun x21 =>
      k_M_unevenBrought_37 n x16 x21 (v4 + 1) s19
set_option maxRecDepth 20000 in
theorem w_M_unevenBrought_37 {l : Launch} {z : Zt} (hz : ZOk z b_M_unevenBrought 5 "PassedOnAndBetter$Mind" 4 89) {r' : Int32} {s' : Mm} (hq : ZR z (some .int) s' (some (.int r'))) : ∀ (n : Nat) (v2 : Int32) (v3 : Int32) (v4 : Int32) (s : Mm), k_M_unevenBrought_37 n v2 v3 v4 s = some (r', s') → G l z b_M_unevenBrought 5 37 [(0, .ref 173), (2, .int v2), (3, .int v3), (4, .int v4)] [] s := by
  intro n
  induction n with
  | zero => intro v2 v3 v4 s h; unfold k_M_unevenBrought_37 at h; cases h
  | succ n ih =>
    intro v2 v3 v4 s h
    unfold k_M_unevenBrought_37 at h
    refine g_iload hz 3 d_M_unevenBrought_37 rfl ?_
    refine g_aload_n hz 0 d_M_unevenBrought_39 rfl rfl ?_
    refine gf_M_thought hz q_292 d_M_unevenBrought_40 ?_
    refine gf_C_friends hz (by decide) q_208 d_M_unevenBrought_43 ?_
    refine g_icmp_ge hz (tgt := 89) d_M_unevenBrought_46 (by decide) (fun c12 => ?_) (fun c12 => ?_)
    · replace h := (if_pos c12).symm.trans h
      refine g_iload_n hz 1 d_M_unevenBrought_89 rfl rfl ?_
      refine g_iload_n hz 2 d_M_unevenBrought_90 rfl rfl ?_
      refine g_isub hz d_M_unevenBrought_91 ?_
      exact g_iret hz (rti h hq) d_M_unevenBrought_92
    · replace h := (if_neg c12).symm.trans h
      refine g_iload_n hz 1 d_M_unevenBrought_49 rfl rfl ?_
      refine g_aload_n hz 0 d_M_unevenBrought_50 rfl rfl ?_
      refine gf_M_thought hz q_292 d_M_unevenBrought_51 ?_
      refine g_iload hz 3 d_M_unevenBrought_54 rfl ?_
      refine bn_use h (fun x15 s14 e13 h => ?_)
      have hx15 := rr_C_friendAt (by decide) e13
      refine g_callVr hz (c_C_friendAt l (by decide) e13) (iC_lt (by decide)) (rc_C (by decide)) rfl rfl m_C_friendAt mi_C_friendAt ms_C_friendAt q_686 ⟨Nat.le_of_ble_eq_true rfl, Nat.le_of_ble_eq_true rfl⟩ rfl (st := [.int v2]) rfl (Nat.le_of_ble_eq_true rfl) d_M_unevenBrought_56 ?_
      refine gf_F_brought hz hx15 q_145 d_M_unevenBrought_59 ?_
      refine g_mmax hz q_874 (by decide) (by decide) (Nat.le_of_ble_eq_true rfl) d_M_unevenBrought_62 ?_
      refine g_nmi (fun x16 e17 => ?_)
      replace h := nm_use h e17
      refine g_istore_n hz (L' := [(2, .int x16), (0, .ref 173), (3, .int v3), (4, .int v4)]) d_M_unevenBrought_65 rfl (by decide) rfl ?_
      refine g_iload_n hz 2 d_M_unevenBrought_66 rfl rfl ?_
      refine g_aload_n hz 1 d_M_unevenBrought_67 rfl rfl ?_
      refine gf_M_thought hz q_292 d_M_unevenBrought_68 ?_
      refine g_iload hz 3 d_M_unevenBrought_71 rfl ?_
      refine bn_use h (fun x20 s19 e18 h => ?_)
      have hx20 := rr_C_friendAt (by decide) e18
      refine g_callVr hz (c_C_friendAt l (by decide) e18) (iC_lt (by decide)) (rc_C (by decide)) rfl rfl m_C_friendAt mi_C_friendAt ms_C_friendAt q_686 ⟨Nat.le_of_ble_eq_true rfl, Nat.le_of_ble_eq_true rfl⟩ rfl (st := [.int v3]) rfl (Nat.le_of_ble_eq_true rfl) d_M_unevenBrought_73 ?_
      refine gf_F_brought hz hx20 q_145 d_M_unevenBrought_76 ?_
      refine g_mmin hz q_875 (by decide) (by decide) (Nat.le_of_ble_eq_true rfl) d_M_unevenBrought_79 ?_
      refine g_nmi (fun x21 e22 => ?_)
      replace h := nm_use h e22
      refine g_istore_n hz (L' := [(3, .int x21), (2, .int x16), (0, .ref 173), (4, .int v4)]) d_M_unevenBrought_82 rfl (by decide) rfl ?_
      refine g_iinc hz (v := v4 + 1) (L' := [(4, .int (v4 + 1)), (3, .int x21), (2, .int x16), (0, .ref 173)]) 3 d_M_unevenBrought_83 rfl (congrArg (fun q => v4 + q) ki_1) (by decide) rfl ?_
      refine g_goto hz (tgt := 37) d_M_unevenBrought_86 (by decide) ?_
      refine g_sub [3, 2, 1, 0] rfl ?_
      exact ih x16 x21 (v4 + 1) _ h
def f_M_unevenBrought (s : Mm) (a1 : Int32) : Option (Int32 × Mm) :=
  if (s 0 4) = 0 then
    some (0, s)
  else
    bn (f_M_recall s) fun x4 s3 =>
    bv (f_C_pass s3 x4 a1) fun s6 =>
    bn (f_C_friendAt s6 2 0) fun x9 s8 =>
    nm (s8 x9 8) fun x10 =>
    k_M_unevenBrought_37 KF x10 x10 1 s8
set_option maxRecDepth 20000 in
theorem c_M_unevenBrought (l : Launch) {s : Mm} {a1 : Int32} {r' : Int32} {s' : Mm}  (h : f_M_unevenBrought s a1 = some (r', s')) : Cm l y_M_unevenBrought b_M_unevenBrought 5 (some .int) 4 89 [.ref 173, .int a1] s s' (some (.int r')) := by
  refine Cm.of (own := "PassedOnAndBetter$Mind") (by decide) rfl (fun ad => Nat.le_of_ble_eq_true rfl) ?_
  intro z hz hq
  show G l z b_M_unevenBrought 5 0 [(0, .ref 173), (1, .int a1)] [] s
  unfold f_M_unevenBrought at h
  refine g_aload_n hz 0 d_M_unevenBrought_0 rfl rfl ?_
  refine gf_M_now hz q_290 d_M_unevenBrought_1 ?_
  refine gf_C_friends hz (by decide) q_208 d_M_unevenBrought_4 ?_
  refine g_if_ne hz (tgt := 12) d_M_unevenBrought_7 (by decide) (fun c1 => ?_) (fun c1 => ?_)
  · replace h := (if_neg c1).symm.trans h
    refine g_aload_n hz 0 d_M_unevenBrought_12 rfl rfl ?_
    refine bn_use h (fun x4 s3 e2 h => ?_)
    have hx4 := rr_M_recall e2
    refine g_callVr hz (c_M_recall l e2) (by decide) rc_M rfl rfl m_M_recall mi_M_recall ms_M_recall q_632 ⟨Nat.le_of_ble_eq_true rfl, Nat.le_of_ble_eq_true rfl⟩ rfl (st := []) rfl (Nat.le_of_ble_eq_true rfl) d_M_unevenBrought_13 ?_
    refine g_iload_n hz 1 d_M_unevenBrought_16 rfl rfl ?_
    refine bv_use h (fun s6 e5 h => ?_)
    refine g_callVv hz (c_C_pass l hx4 e5) (iC_lt hx4) (rc_C hx4) rfl rfl m_C_pass mi_C_pass ms_C_pass q_651 ⟨Nat.le_of_ble_eq_true rfl, Nat.le_of_ble_eq_true rfl⟩ rfl (st := []) rfl (Nat.le_of_ble_eq_true rfl) d_M_unevenBrought_17 ?_
    refine g_aload_n hz 0 d_M_unevenBrought_20 rfl rfl ?_
    refine gf_M_thought hz q_292 d_M_unevenBrought_21 ?_
    refine g_iconst hz d_M_unevenBrought_24 ki_0 ?_
    refine bn_use h (fun x9 s8 e7 h => ?_)
    have hx9 := rr_C_friendAt (by decide) e7
    refine g_callVr hz (c_C_friendAt l (by decide) e7) (iC_lt (by decide)) (rc_C (by decide)) rfl rfl m_C_friendAt mi_C_friendAt ms_C_friendAt q_686 ⟨Nat.le_of_ble_eq_true rfl, Nat.le_of_ble_eq_true rfl⟩ rfl (st := []) rfl (Nat.le_of_ble_eq_true rfl) d_M_unevenBrought_25 ?_
    refine gf_F_brought hz hx9 q_145 d_M_unevenBrought_28 ?_
    refine g_nmi (fun x10 e11 => ?_)
    replace h := nm_use h e11
    refine g_istore_n hz (L' := [(2, .int x10), (0, .ref 173), (1, .int a1)]) d_M_unevenBrought_31 rfl (by decide) rfl ?_
    refine g_iload_n hz 0 d_M_unevenBrought_32 rfl rfl ?_
    refine g_istore_n hz (L' := [(3, .int x10), (2, .int x10), (0, .ref 173), (1, .int a1)]) d_M_unevenBrought_33 rfl (by decide) rfl ?_
    refine g_iconst hz d_M_unevenBrought_34 ki_1 ?_
    refine g_istore hz (L' := [(4, .int 1), (3, .int x10), (2, .int x10), (0, .ref 173), (1, .int a1)]) d_M_unevenBrought_35 (by decide) rfl ?_
    refine g_sub [3, 2, 1, 0] rfl ?_
    exact w_M_unevenBrought_37 hz hq KF x10 x10 1 _ h
  · replace h := (if_pos c1).symm.trans h
    refine g_iconst hz d_M_unevenBrought_10 ki_0 ?_
    exact g_iret hz (rti h hq) d_M_unevenBrought_11
def f_M_broughtBy (s : Mm) (a1 : Int32) (a2 : Int32) : Option (Int32 × Mm) :=
  bn (f_M_recall s) fun x3 s2 =>
  bv (f_C_pass s2 x3 a2) fun s5 =>
  bn (f_C_friendAt s5 2 a1) fun x8 s7 =>
  some (s7 x8 8, s7)
set_option maxRecDepth 20000 in
theorem c_M_broughtBy (l : Launch) {s : Mm} {a1 : Int32} {a2 : Int32} {r' : Int32} {s' : Mm}  (h : f_M_broughtBy s a1 a2 = some (r', s')) : Cm l y_M_broughtBy b_M_broughtBy 3 (some .int) 4 89 [.ref 173, .int a1, .int a2] s s' (some (.int r')) := by
  refine Cm.of (own := "PassedOnAndBetter$Mind") (by decide) rfl (fun ad => Nat.le_of_ble_eq_true rfl) ?_
  intro z hz hq
  show G l z b_M_broughtBy 3 0 [(0, .ref 173), (1, .int a1), (2, .int a2)] [] s
  unfold f_M_broughtBy at h
  refine g_aload_n hz 0 d_M_broughtBy_0 rfl rfl ?_
  refine bn_use h (fun x3 s2 e1 h => ?_)
  have hx3 := rr_M_recall e1
  refine g_callVr hz (c_M_recall l e1) (by decide) rc_M rfl rfl m_M_recall mi_M_recall ms_M_recall q_632 ⟨Nat.le_of_ble_eq_true rfl, Nat.le_of_ble_eq_true rfl⟩ rfl (st := []) rfl (Nat.le_of_ble_eq_true rfl) d_M_broughtBy_1 ?_
  refine g_iload_n hz 2 d_M_broughtBy_4 rfl rfl ?_
  refine bv_use h (fun s5 e4 h => ?_)
  refine g_callVv hz (c_C_pass l hx3 e4) (iC_lt hx3) (rc_C hx3) rfl rfl m_C_pass mi_C_pass ms_C_pass q_651 ⟨Nat.le_of_ble_eq_true rfl, Nat.le_of_ble_eq_true rfl⟩ rfl (st := []) rfl (Nat.le_of_ble_eq_true rfl) d_M_broughtBy_5 ?_
  refine g_aload_n hz 0 d_M_broughtBy_8 rfl rfl ?_
  refine gf_M_thought hz q_292 d_M_broughtBy_9 ?_
  refine g_iload_n hz 1 d_M_broughtBy_12 rfl rfl ?_
  refine bn_use h (fun x8 s7 e6 h => ?_)
  have hx8 := rr_C_friendAt (by decide) e6
  refine g_callVr hz (c_C_friendAt l (by decide) e6) (iC_lt (by decide)) (rc_C (by decide)) rfl rfl m_C_friendAt mi_C_friendAt ms_C_friendAt q_686 ⟨Nat.le_of_ble_eq_true rfl, Nat.le_of_ble_eq_true rfl⟩ rfl (st := []) rfl (Nat.le_of_ble_eq_true rfl) d_M_broughtBy_13 ?_
  refine gf_F_brought hz hx8 q_145 d_M_broughtBy_16 ?_
  exact g_iret hz (rti h hq) d_M_broughtBy_19
def f_X_added (s : Mm) (a1 : Int32) (a2 : Int32) : Option (Int32 × Mm) :=
  bn (f_X_friendOrAllNo s a1) fun x3 s2 =>
  bn (f_X_spanNo s2 a2) fun x6 s5 =>
  bn (f_X_first s5 x3 x6 0) fun x9 s8 =>
  if x9 = 0 then
    if a1 = (-1) then
      bn (f_M_unevenBrought s8 a2) fun x17 s16 =>
      some (x17, s16)
    else
      bn (f_M_broughtBy s8 a1 a2) fun x14 s13 =>
      some (x14, s13)
  else
    bn (f_X_refuse s8 x9) fun x20 s19 =>
    some (x20, s19)
set_option maxRecDepth 20000 in
theorem c_X_added (l : Launch) {s : Mm} {a1 : Int32} {a2 : Int32} {r' : Int32} {s' : Mm}  (h : f_X_added s a1 a2 = some (r', s')) : Cm l y_X_added b_X_added 4 (some .int) 5 113 [.ref 165, .int a1, .int a2] s s' (some (.int r')) := by
  refine Cm.of (own := "PassedOnAndBetter") (by decide) rfl (fun ad => Nat.le_of_ble_eq_true rfl) ?_
  intro z hz hq
  show G l z b_X_added 4 0 [(0, .ref 165), (1, .int a1), (2, .int a2)] [] s
  unfold f_X_added at h
  refine g_aload_n hz 0 d_X_added_0 rfl rfl ?_
  refine g_iload_n hz 1 d_X_added_1 rfl rfl ?_
  refine bn_use h (fun x3 s2 e1 h => ?_)
  refine g_callVi hz (c_X_friendOrAllNo l e1) (by decide) rc_X rfl rfl m_X_friendOrAllNo mi_X_friendOrAllNo ms_X_friendOrAllNo q_643 ⟨Nat.le_of_ble_eq_true rfl, Nat.le_of_ble_eq_true rfl⟩ rfl (st := []) rfl (Nat.le_of_ble_eq_true rfl) d_X_added_2 ?_
  refine g_iload_n hz 2 d_X_added_5 rfl rfl ?_
  refine bn_use h (fun x6 s5 e4 h => ?_)
  refine g_callSi hz (c_X_spanNo l e4) m_X_spanNo mi_X_spanNo q_625 ⟨Nat.le_of_ble_eq_true rfl, Nat.le_of_ble_eq_true rfl⟩ rfl (st := [.int x3]) rfl (Nat.le_of_ble_eq_true rfl) d_X_added_6 ?_
  refine g_iconst hz d_X_added_9 ki_0 ?_
  refine bn_use h (fun x9 s8 e7 h => ?_)
  refine g_callSi hz (c_X_first l e7) m_X_first mi_X_first q_538 ⟨Nat.le_of_ble_eq_true rfl, Nat.le_of_ble_eq_true rfl⟩ rfl (st := []) rfl (Nat.le_of_ble_eq_true rfl) d_X_added_10 ?_
  refine g_istore_n hz (L' := [(3, .int x9), (0, .ref 165), (1, .int a1), (2, .int a2)]) d_X_added_13 rfl (by decide) rfl ?_
  refine g_iload_n hz 0 d_X_added_14 rfl rfl ?_
  refine g_if_eq hz (tgt := 24) d_X_added_15 (by decide) (fun c10 => ?_) (fun c10 => ?_)
  · replace h := (if_pos c10).symm.trans h
    refine g_iload_n hz 2 d_X_added_24 rfl rfl ?_
    refine g_iconst hz d_X_added_25 ki_m1 ?_
    refine g_icmp_ne hz (tgt := 40) d_X_added_26 (by decide) (fun c11 => ?_) (fun c11 => ?_)
    · replace h := (if_neg c11).symm.trans h
      refine g_aload_n hz 1 d_X_added_40 rfl rfl ?_
      refine gf_X_mind hz q_311 d_X_added_41 ?_
      refine g_iload_n hz 2 d_X_added_44 rfl rfl ?_
      refine g_iload_n hz 3 d_X_added_45 rfl rfl ?_
      refine bn_use h (fun x14 s13 e12 h => ?_)
      refine g_callVi hz (c_M_broughtBy l e12) (by decide) rc_M rfl rfl m_M_broughtBy mi_M_broughtBy ms_M_broughtBy q_876 ⟨Nat.le_of_ble_eq_true rfl, Nat.le_of_ble_eq_true rfl⟩ rfl (st := []) rfl (Nat.le_of_ble_eq_true rfl) d_X_added_46 ?_
      exact g_iret hz (rti h hq) d_X_added_49
    · replace h := (if_pos c11).symm.trans h
      refine g_aload_n hz 1 d_X_added_29 rfl rfl ?_
      refine gf_X_mind hz q_311 d_X_added_30 ?_
      refine g_iload_n hz 3 d_X_added_33 rfl rfl ?_
      refine bn_use h (fun x17 s16 e15 h => ?_)
      refine g_callVi hz (c_M_unevenBrought l e15) (by decide) rc_M rfl rfl m_M_unevenBrought mi_M_unevenBrought ms_M_unevenBrought q_870 ⟨Nat.le_of_ble_eq_true rfl, Nat.le_of_ble_eq_true rfl⟩ rfl (st := []) rfl (Nat.le_of_ble_eq_true rfl) d_X_added_34 ?_
      refine g_goto hz (tgt := 49) d_X_added_37 (by decide) ?_
      exact g_iret hz (rti h hq) d_X_added_49
  · replace h := (if_neg c10).symm.trans h
    refine g_aload_n hz 1 d_X_added_18 rfl rfl ?_
    refine g_iload_n hz 0 d_X_added_19 rfl rfl ?_
    refine bn_use h (fun x20 s19 e18 h => ?_)
    refine g_callVi hz (c_X_refuse l e18) (by decide) rc_X rfl rfl m_X_refuse mi_X_refuse ms_X_refuse q_349 ⟨Nat.le_of_ble_eq_true rfl, Nat.le_of_ble_eq_true rfl⟩ rfl (st := []) rfl (Nat.le_of_ble_eq_true rfl) d_X_added_20 ?_
    exact g_iret hz (rti h hq) d_X_added_23
def k_C_mostOfGifts_8 : Nat → Nat → Int32 → Int32 → Int32 → Int32 → Mm → Option (Int32 × Mm)
  | 0, _, _, _, _, _, _ => none
  | n + 1, o, v1, v2, v3, v4, s => if (s o 5) ≤ v4 then
      some (v2, s)
    else
      bn (f_C_giftAt s o v4) fun x4 s3 =>
      bn (f_G_tell s3 x4 v1) fun x7 s6 =>
      if x7 ≤ v3 then
        k_C_mostOfGifts_8 n o v1 v2 v3 (v4 + 1) s6
      else
        k_C_mostOfGifts_8 n o v1 v4 x7 (v4 + 1) s6
set_option maxRecDepth 20000 in
theorem w_C_mostOfGifts_8 {l : Launch} {z : Zt} (hz : ZOk z b_C_mostOfGifts 6 "PassedOnAndBetter$Company" 1 22) {r' : Int32} {s' : Mm} (hq : ZR z (some .int) s' (some (.int r'))) : ∀ (n : Nat) (o : Nat) (v1 : Int32) (v2 : Int32) (v3 : Int32) (v4 : Int32) (ho : iC o) (s : Mm), k_C_mostOfGifts_8 n o v1 v2 v3 v4 s = some (r', s') → G l z b_C_mostOfGifts 6 8 [(0, .ref o), (1, .int v1), (2, .int v2), (3, .int v3), (4, .int v4)] [] s := by
  intro n
  induction n with
  | zero => intro o v1 v2 v3 v4 ho s h; unfold k_C_mostOfGifts_8 at h; cases h
  | succ n ih =>
    intro o v1 v2 v3 v4 ho s h
    unfold k_C_mostOfGifts_8 at h
    refine g_iload hz 4 d_C_mostOfGifts_8 rfl ?_
    refine g_aload_n hz 0 d_C_mostOfGifts_10 rfl rfl ?_
    refine gf_C_gifts hz ho q_210 d_C_mostOfGifts_11 ?_
    refine g_icmp_ge hz (tgt := 47) d_C_mostOfGifts_14 (by decide) (fun c1 => ?_) (fun c1 => ?_)
    · replace h := (if_pos c1).symm.trans h
      refine g_iload_n hz 2 d_C_mostOfGifts_47 rfl rfl ?_
      exact g_iret hz (rti h hq) d_C_mostOfGifts_48
    · replace h := (if_neg c1).symm.trans h
      refine g_aload_n hz 0 d_C_mostOfGifts_17 rfl rfl ?_
      refine g_iload hz 4 d_C_mostOfGifts_18 rfl ?_
      refine bn_use h (fun x4 s3 e2 h => ?_)
      have hx4 := rr_C_giftAt ho e2
      refine g_callVr hz (c_C_giftAt l ho e2) (iC_lt ho) (rc_C ho) rfl rfl m_C_giftAt mi_C_giftAt ms_C_giftAt q_377 ⟨Nat.le_of_ble_eq_true rfl, Nat.le_of_ble_eq_true rfl⟩ rfl (st := []) rfl (Nat.le_of_ble_eq_true rfl) d_C_mostOfGifts_20 ?_
      refine g_iload_n hz 1 d_C_mostOfGifts_23 rfl rfl ?_
      refine bn_use h (fun x7 s6 e5 h => ?_)
      refine g_callVi hz (c_G_tell l hx4 e5) (iG_lt hx4) (rc_G hx4) rfl rfl m_G_tell mi_G_tell ms_G_tell q_888 ⟨Nat.le_of_ble_eq_true rfl, Nat.le_of_ble_eq_true rfl⟩ rfl (st := []) rfl (Nat.le_of_ble_eq_true rfl) d_C_mostOfGifts_24 ?_
      refine g_istore hz (L' := [(5, .int x7), (0, .ref o), (1, .int v1), (2, .int v2), (3, .int v3), (4, .int v4)]) d_C_mostOfGifts_27 (by decide) rfl ?_
      refine g_iload hz 0 d_C_mostOfGifts_29 rfl ?_
      refine g_iload_n hz 4 d_C_mostOfGifts_31 rfl rfl ?_
      refine g_icmp_le hz (tgt := 41) d_C_mostOfGifts_32 (by decide) (fun c8 => ?_) (fun c8 => ?_)
      · replace h := (if_pos c8).symm.trans h
        refine g_iinc hz (v := v4 + 1) (L' := [(4, .int (v4 + 1)), (5, .int x7), (0, .ref o), (1, .int v1), (2, .int v2), (3, .int v3)]) 5 d_C_mostOfGifts_41 rfl (congrArg (fun q => v4 + q) ki_1) (by decide) rfl ?_
        refine g_goto hz (tgt := 8) d_C_mostOfGifts_44 (by decide) ?_
        refine g_sub [2, 3, 4, 5, 0] rfl ?_
        exact ih o v1 v2 v3 (v4 + 1) ho _ h
      · replace h := (if_neg c8).symm.trans h
        refine g_iload hz 0 d_C_mostOfGifts_35 rfl ?_
        refine g_istore_n hz (L' := [(3, .int x7), (5, .int x7), (0, .ref o), (1, .int v1), (2, .int v2), (4, .int v4)]) d_C_mostOfGifts_37 rfl (by decide) rfl ?_
        refine g_iload hz 5 d_C_mostOfGifts_38 rfl ?_
        refine g_istore_n hz (L' := [(2, .int v4), (3, .int x7), (5, .int x7), (0, .ref o), (1, .int v1), (4, .int v4)]) d_C_mostOfGifts_40 rfl (by decide) rfl ?_
        refine g_iinc hz (v := v4 + 1) (L' := [(4, .int (v4 + 1)), (2, .int v4), (3, .int x7), (5, .int x7), (0, .ref o), (1, .int v1)]) 5 d_C_mostOfGifts_41 rfl (congrArg (fun q => v4 + q) ki_1) (by decide) rfl ?_
        refine g_goto hz (tgt := 8) d_C_mostOfGifts_44 (by decide) ?_
        refine g_sub [4, 5, 1, 2, 0] rfl ?_
        exact ih o v1 v4 x7 (v4 + 1) ho _ h
def f_C_mostOfGifts (s : Mm) (o : Nat) (a1 : Int32) : Option (Int32 × Mm) :=
  k_C_mostOfGifts_8 KF o a1 (-9) (-1) 0 s
set_option maxRecDepth 20000 in
theorem c_C_mostOfGifts (l : Launch) {s : Mm} {o : Nat} {a1 : Int32} {r' : Int32} {s' : Mm} (ho : iC o) (h : f_C_mostOfGifts s o a1 = some (r', s')) : Cm l y_C_mostOfGifts b_C_mostOfGifts 6 (some .int) 1 22 [.ref o, .int a1] s s' (some (.int r')) := by
  refine Cm.of (own := "PassedOnAndBetter$Company") (by decide) rfl (fun ad => Nat.le_of_ble_eq_true rfl) ?_
  intro z hz hq
  show G l z b_C_mostOfGifts 6 0 [(0, .ref o), (1, .int a1)] [] s
  unfold f_C_mostOfGifts at h
  refine g_bipush hz (v := (-9)) d_C_mostOfGifts_0 (by decide) ?_
  refine g_istore_n hz (L' := [(2, .int (-9)), (0, .ref o), (1, .int a1)]) d_C_mostOfGifts_2 rfl (by decide) rfl ?_
  refine g_iconst hz d_C_mostOfGifts_3 ki_m1 ?_
  refine g_istore_n hz (L' := [(3, .int (-1)), (2, .int (-9)), (0, .ref o), (1, .int a1)]) d_C_mostOfGifts_4 rfl (by decide) rfl ?_
  refine g_iconst hz d_C_mostOfGifts_5 ki_0 ?_
  refine g_istore hz (L' := [(4, .int 0), (3, .int (-1)), (2, .int (-9)), (0, .ref o), (1, .int a1)]) d_C_mostOfGifts_6 (by decide) rfl ?_
  refine g_sub [3, 4, 2, 1, 0] rfl ?_
  exact w_C_mostOfGifts_8 hz hq KF o a1 (-9) (-1) 0 ho _ h
def f_X_dearest (s : Mm) (a1 : Int32) : Option (Int32 × Mm) :=
  bn (f_X_whatNo s a1 1) fun x3 s2 =>
  if x3 = 0 then
    bn (f_C_mostOfGifts s2 0 a1) fun x10 s9 =>
    some (x10, s9)
  else
    bn (f_X_refuse s2 x3) fun x7 s6 =>
    some (x7, s6)
set_option maxRecDepth 20000 in
theorem c_X_dearest (l : Launch) {s : Mm} {a1 : Int32} {r' : Int32} {s' : Mm}  (h : f_X_dearest s a1 = some (r', s')) : Cm l y_X_dearest b_X_dearest 3 (some .int) 2 47 [.ref 165, .int a1] s s' (some (.int r')) := by
  refine Cm.of (own := "PassedOnAndBetter") (by decide) rfl (fun ad => Nat.le_of_ble_eq_true rfl) ?_
  intro z hz hq
  show G l z b_X_dearest 3 0 [(0, .ref 165), (1, .int a1)] [] s
  unfold f_X_dearest at h
  refine g_iload_n hz 1 d_X_dearest_0 rfl rfl ?_
  refine g_iconst hz d_X_dearest_1 ki_1 ?_
  refine bn_use h (fun x3 s2 e1 h => ?_)
  refine g_callSi hz (c_X_whatNo l e1) m_X_whatNo mi_X_whatNo q_535 ⟨Nat.le_of_ble_eq_true rfl, Nat.le_of_ble_eq_true rfl⟩ rfl (st := []) rfl (Nat.le_of_ble_eq_true rfl) d_X_dearest_2 ?_
  refine g_istore_n hz (L' := [(2, .int x3), (0, .ref 165), (1, .int a1)]) d_X_dearest_5 rfl (by decide) rfl ?_
  refine g_iload_n hz 0 d_X_dearest_6 rfl rfl ?_
  refine g_if_ne hz (tgt := 21) d_X_dearest_7 (by decide) (fun c4 => ?_) (fun c4 => ?_)
  · replace h := (if_neg c4).symm.trans h
    refine g_aload_n hz 1 d_X_dearest_21 rfl rfl ?_
    refine g_iload_n hz 0 d_X_dearest_22 rfl rfl ?_
    refine bn_use h (fun x7 s6 e5 h => ?_)
    refine g_callVi hz (c_X_refuse l e5) (by decide) rc_X rfl rfl m_X_refuse mi_X_refuse ms_X_refuse q_349 ⟨Nat.le_of_ble_eq_true rfl, Nat.le_of_ble_eq_true rfl⟩ rfl (st := []) rfl (Nat.le_of_ble_eq_true rfl) d_X_dearest_23 ?_
    exact g_iret hz (rti h hq) d_X_dearest_26
  · replace h := (if_pos c4).symm.trans h
    refine g_aload_n hz 1 d_X_dearest_10 rfl rfl ?_
    refine gf_X_now hz q_306 d_X_dearest_11 ?_
    refine g_iload_n hz 2 d_X_dearest_14 rfl rfl ?_
    refine bn_use h (fun x10 s9 e8 h => ?_)
    refine g_callVi hz (c_C_mostOfGifts l (by decide) e8) (iC_lt (by decide)) (rc_C (by decide)) rfl rfl m_C_mostOfGifts mi_C_mostOfGifts ms_C_mostOfGifts q_884 ⟨Nat.le_of_ble_eq_true rfl, Nat.le_of_ble_eq_true rfl⟩ rfl (st := []) rfl (Nat.le_of_ble_eq_true rfl) d_X_dearest_15 ?_
    refine g_goto hz (tgt := 26) d_X_dearest_18 (by decide) ?_
    exact g_iret hz (rti h hq) d_X_dearest_26
def k_C_doorsTooNarrowFor_4 : Nat → Nat → Int32 → Int32 → Int32 → Mm → Option (Int32 × Mm)
  | 0, _, _, _, _, _ => none
  | n + 1, o, v1, v2, v3, s => if (s o 4) ≤ v3 then
      some (v2, s)
    else
      bn (f_C_giftAt s o v1) fun x4 s3 =>
      bn (f_C_friendAt s3 o v3) fun x7 s6 =>
      if (s3 x4 1) ≤ (s6 x7 2) then
        k_C_doorsTooNarrowFor_4 n o v1 v2 (v3 + 1) s6
      else
        k_C_doorsTooNarrowFor_4 n o v1 (v2 + 1) (v3 + 1) s6
set_option maxRecDepth 20000 in
theorem w_C_doorsTooNarrowFor_4 {l : Launch} {z : Zt} (hz : ZOk z b_C_doorsTooNarrowFor 4 "PassedOnAndBetter$Company" 1 22) {r' : Int32} {s' : Mm} (hq : ZR z (some .int) s' (some (.int r'))) : ∀ (n : Nat) (o : Nat) (v1 : Int32) (v2 : Int32) (v3 : Int32) (ho : iC o) (s : Mm), k_C_doorsTooNarrowFor_4 n o v1 v2 v3 s = some (r', s') → G l z b_C_doorsTooNarrowFor 4 4 [(0, .ref o), (1, .int v1), (2, .int v2), (3, .int v3)] [] s := by
  intro n
  induction n with
  | zero => intro o v1 v2 v3 ho s h; unfold k_C_doorsTooNarrowFor_4 at h; cases h
  | succ n ih =>
    intro o v1 v2 v3 ho s h
    unfold k_C_doorsTooNarrowFor_4 at h
    refine g_iload_n hz 3 d_C_doorsTooNarrowFor_4 rfl rfl ?_
    refine g_aload_n hz 0 d_C_doorsTooNarrowFor_5 rfl rfl ?_
    refine gf_C_friends hz ho q_207 d_C_doorsTooNarrowFor_6 ?_
    refine g_icmp_ge hz (tgt := 40) d_C_doorsTooNarrowFor_9 (by decide) (fun c1 => ?_) (fun c1 => ?_)
    · replace h := (if_pos c1).symm.trans h
      refine g_iload_n hz 2 d_C_doorsTooNarrowFor_40 rfl rfl ?_
      exact g_iret hz (rti h hq) d_C_doorsTooNarrowFor_41
    · replace h := (if_neg c1).symm.trans h
      refine g_aload_n hz 0 d_C_doorsTooNarrowFor_12 rfl rfl ?_
      refine g_iload_n hz 1 d_C_doorsTooNarrowFor_13 rfl rfl ?_
      refine bn_use h (fun x4 s3 e2 h => ?_)
      have hx4 := rr_C_giftAt ho e2
      refine g_callVr hz (c_C_giftAt l ho e2) (iC_lt ho) (rc_C ho) rfl rfl m_C_giftAt mi_C_giftAt ms_C_giftAt q_377 ⟨Nat.le_of_ble_eq_true rfl, Nat.le_of_ble_eq_true rfl⟩ rfl (st := []) rfl (Nat.le_of_ble_eq_true rfl) d_C_doorsTooNarrowFor_14 ?_
      refine gf_G_size hz hx4 q_179 d_C_doorsTooNarrowFor_17 ?_
      refine g_aload_n hz 0 d_C_doorsTooNarrowFor_20 rfl rfl ?_
      refine g_iload_n hz 3 d_C_doorsTooNarrowFor_21 rfl rfl ?_
      refine bn_use h (fun x7 s6 e5 h => ?_)
      have hx7 := rr_C_friendAt ho e5
      refine g_callVr hz (c_C_friendAt l ho e5) (iC_lt ho) (rc_C ho) rfl rfl m_C_friendAt mi_C_friendAt ms_C_friendAt q_369 ⟨Nat.le_of_ble_eq_true rfl, Nat.le_of_ble_eq_true rfl⟩ rfl (st := [.int (s3 x4 1)]) rfl (Nat.le_of_ble_eq_true rfl) d_C_doorsTooNarrowFor_22 ?_
      refine gf_F_door hz hx7 q_127 d_C_doorsTooNarrowFor_25 ?_
      refine g_icmp_le hz (tgt := 34) d_C_doorsTooNarrowFor_28 (by decide) (fun c8 => ?_) (fun c8 => ?_)
      · replace h := (if_pos c8).symm.trans h
        refine g_iinc hz (v := v3 + 1) (L' := [(3, .int (v3 + 1)), (0, .ref o), (1, .int v1), (2, .int v2)]) 3 d_C_doorsTooNarrowFor_34 rfl (congrArg (fun q => v3 + q) ki_1) (by decide) rfl ?_
        refine g_goto hz (tgt := 4) d_C_doorsTooNarrowFor_37 (by decide) ?_
        refine g_sub [1, 2, 3, 0] rfl ?_
        exact ih o v1 v2 (v3 + 1) ho _ h
      · replace h := (if_neg c8).symm.trans h
        refine g_iinc hz (v := v2 + 1) (L' := [(2, .int (v2 + 1)), (0, .ref o), (1, .int v1), (3, .int v3)]) 2 d_C_doorsTooNarrowFor_31 rfl (congrArg (fun q => v2 + q) ki_1) (by decide) rfl ?_
        refine g_iinc hz (v := v3 + 1) (L' := [(3, .int (v3 + 1)), (2, .int (v2 + 1)), (0, .ref o), (1, .int v1)]) 3 d_C_doorsTooNarrowFor_34 rfl (congrArg (fun q => v3 + q) ki_1) (by decide) rfl ?_
        refine g_goto hz (tgt := 4) d_C_doorsTooNarrowFor_37 (by decide) ?_
        refine g_sub [2, 3, 1, 0] rfl ?_
        exact ih o v1 (v2 + 1) (v3 + 1) ho _ h
def f_C_doorsTooNarrowFor (s : Mm) (o : Nat) (a1 : Int32) : Option (Int32 × Mm) :=
  k_C_doorsTooNarrowFor_4 KF o a1 0 0 s
set_option maxRecDepth 20000 in
theorem c_C_doorsTooNarrowFor (l : Launch) {s : Mm} {o : Nat} {a1 : Int32} {r' : Int32} {s' : Mm} (ho : iC o) (h : f_C_doorsTooNarrowFor s o a1 = some (r', s')) : Cm l y_C_doorsTooNarrowFor b_C_doorsTooNarrowFor 4 (some .int) 1 22 [.ref o, .int a1] s s' (some (.int r')) := by
  refine Cm.of (own := "PassedOnAndBetter$Company") (by decide) rfl (fun ad => Nat.le_of_ble_eq_true rfl) ?_
  intro z hz hq
  show G l z b_C_doorsTooNarrowFor 4 0 [(0, .ref o), (1, .int a1)] [] s
  unfold f_C_doorsTooNarrowFor at h
  refine g_iconst hz d_C_doorsTooNarrowFor_0 ki_0 ?_
  refine g_istore_n hz (L' := [(2, .int 0), (0, .ref o), (1, .int a1)]) d_C_doorsTooNarrowFor_1 rfl (by decide) rfl ?_
  refine g_iconst hz d_C_doorsTooNarrowFor_2 ki_0 ?_
  refine g_istore_n hz (L' := [(3, .int 0), (2, .int 0), (0, .ref o), (1, .int a1)]) d_C_doorsTooNarrowFor_3 rfl (by decide) rfl ?_
  refine g_sub [2, 3, 1, 0] rfl ?_
  exact w_C_doorsTooNarrowFor_4 hz hq KF o a1 0 0 ho _ h
def f_X_tooLarge (s : Mm) (a1 : Int32) : Option (Int32 × Mm) :=
  bn (f_X_giftNo s a1) fun x3 s2 =>
  if x3 = 0 then
    bn (f_C_doorsTooNarrowFor s2 0 a1) fun x10 s9 =>
    some (x10, s9)
  else
    bn (f_X_refuse s2 x3) fun x7 s6 =>
    some (x7, s6)
set_option maxRecDepth 20000 in
theorem c_X_tooLarge (l : Launch) {s : Mm} {a1 : Int32} {r' : Int32} {s' : Mm}  (h : f_X_tooLarge s a1 = some (r', s')) : Cm l y_X_tooLarge b_X_tooLarge 3 (some .int) 2 45 [.ref 165, .int a1] s s' (some (.int r')) := by
  refine Cm.of (own := "PassedOnAndBetter") (by decide) rfl (fun ad => Nat.le_of_ble_eq_true rfl) ?_
  intro z hz hq
  show G l z b_X_tooLarge 3 0 [(0, .ref 165), (1, .int a1)] [] s
  unfold f_X_tooLarge at h
  refine g_aload_n hz 0 d_X_tooLarge_0 rfl rfl ?_
  refine g_iload_n hz 1 d_X_tooLarge_1 rfl rfl ?_
  refine bn_use h (fun x3 s2 e1 h => ?_)
  refine g_callVi hz (c_X_giftNo l e1) (by decide) rc_X rfl rfl m_X_giftNo mi_X_giftNo ms_X_giftNo q_555 ⟨Nat.le_of_ble_eq_true rfl, Nat.le_of_ble_eq_true rfl⟩ rfl (st := []) rfl (Nat.le_of_ble_eq_true rfl) d_X_tooLarge_2 ?_
  refine g_istore_n hz (L' := [(2, .int x3), (0, .ref 165), (1, .int a1)]) d_X_tooLarge_5 rfl (by decide) rfl ?_
  refine g_iload_n hz 0 d_X_tooLarge_6 rfl rfl ?_
  refine g_if_ne hz (tgt := 21) d_X_tooLarge_7 (by decide) (fun c4 => ?_) (fun c4 => ?_)
  · replace h := (if_neg c4).symm.trans h
    refine g_aload_n hz 1 d_X_tooLarge_21 rfl rfl ?_
    refine g_iload_n hz 0 d_X_tooLarge_22 rfl rfl ?_
    refine bn_use h (fun x7 s6 e5 h => ?_)
    refine g_callVi hz (c_X_refuse l e5) (by decide) rc_X rfl rfl m_X_refuse mi_X_refuse ms_X_refuse q_349 ⟨Nat.le_of_ble_eq_true rfl, Nat.le_of_ble_eq_true rfl⟩ rfl (st := []) rfl (Nat.le_of_ble_eq_true rfl) d_X_tooLarge_23 ?_
    exact g_iret hz (rti h hq) d_X_tooLarge_26
  · replace h := (if_pos c4).symm.trans h
    refine g_aload_n hz 1 d_X_tooLarge_10 rfl rfl ?_
    refine gf_X_now hz q_306 d_X_tooLarge_11 ?_
    refine g_iload_n hz 2 d_X_tooLarge_14 rfl rfl ?_
    refine bn_use h (fun x10 s9 e8 h => ?_)
    refine g_callVi hz (c_C_doorsTooNarrowFor l (by decide) e8) (iC_lt (by decide)) (rc_C (by decide)) rfl rfl m_C_doorsTooNarrowFor mi_C_doorsTooNarrowFor ms_C_doorsTooNarrowFor q_893 ⟨Nat.le_of_ble_eq_true rfl, Nat.le_of_ble_eq_true rfl⟩ rfl (st := []) rfl (Nat.le_of_ble_eq_true rfl) d_X_tooLarge_15 ?_
    refine g_goto hz (tgt := 26) d_X_tooLarge_18 (by decide) ?_
    exact g_iret hz (rti h hq) d_X_tooLarge_26
def k_C_leastOfFriends_43 (kc9 : (Nat → Int32 → Int32 → Int32 → Int32 → Mm → Option (Int32 × Mm))) (o : Nat) (v1 : Int32) (v2 : Int32) (v3 : Int32) (v4 : Int32) (vt0 : Int32) (s : Mm) : Option (Int32 × Mm) :=
  if v3 ≤ vt0 then
    kc9 o v1 v2 v3 (v4 + 1) s
  else
    kc9 o v1 v4 vt0 (v4 + 1) s
set_option maxRecDepth 20000 in
theorem w_C_leastOfFriends_43 {l : Launch} {z : Zt} (hz : ZOk z b_C_leastOfFriends 6 "PassedOnAndBetter$Company" 1 22) {r' : Int32} {s' : Mm} (hq : ZR z (some .int) s' (some (.int r'))) {kc9 : (Nat → Int32 → Int32 → Int32 → Int32 → Mm → Option (Int32 × Mm))} (hk9 : (∀ (o : Nat) (v1 : Int32) (v2 : Int32) (v3 : Int32) (v4 : Int32) (ho : iC o) (s : Mm), kc9 o v1 v2 v3 v4 s = some (r', s') → G l z b_C_leastOfFriends 6 9 [(0, .ref o), (1, .int v1), (2, .int v2), (3, .int v3), (4, .int v4)] [] s)) (o : Nat) (v1 : Int32) (v2 : Int32) (v3 : Int32) (v4 : Int32) (vt0 : Int32) (ho : iC o) (s : Mm) (h : k_C_leastOfFriends_43 kc9 o v1 v2 v3 v4 vt0 s = some (r', s')) : G l z b_C_leastOfFriends 6 43 [(0, .ref o), (1, .int v1), (2, .int v2), (3, .int v3), (4, .int v4)] [.int vt0] s := by
  unfold k_C_leastOfFriends_43 at h
  refine g_istore hz (L' := [(5, .int vt0), (0, .ref o), (1, .int v1), (2, .int v2), (3, .int v3), (4, .int v4)]) d_C_leastOfFriends_43 (by decide) rfl ?_
  refine g_iload hz 0 d_C_leastOfFriends_45 rfl ?_
  refine g_iload_n hz 4 d_C_leastOfFriends_47 rfl rfl ?_
  refine g_icmp_ge hz (tgt := 57) d_C_leastOfFriends_48 (by decide) (fun c6 => ?_) (fun c6 => ?_)
  · replace h := (if_pos c6).symm.trans h
    refine g_iinc hz (v := v4 + 1) (L' := [(4, .int (v4 + 1)), (5, .int vt0), (0, .ref o), (1, .int v1), (2, .int v2), (3, .int v3)]) 5 d_C_leastOfFriends_57 rfl (congrArg (fun q => v4 + q) ki_1) (by decide) rfl ?_
    refine g_goto hz (tgt := 9) d_C_leastOfFriends_60 (by decide) ?_
    refine g_sub [2, 3, 4, 5, 0] rfl ?_
    exact hk9 o v1 v2 v3 (v4 + 1) ho _ h
  · replace h := (if_neg c6).symm.trans h
    refine g_iload hz 0 d_C_leastOfFriends_51 rfl ?_
    refine g_istore_n hz (L' := [(3, .int vt0), (5, .int vt0), (0, .ref o), (1, .int v1), (2, .int v2), (4, .int v4)]) d_C_leastOfFriends_53 rfl (by decide) rfl ?_
    refine g_iload hz 5 d_C_leastOfFriends_54 rfl ?_
    refine g_istore_n hz (L' := [(2, .int v4), (3, .int vt0), (5, .int vt0), (0, .ref o), (1, .int v1), (4, .int v4)]) d_C_leastOfFriends_56 rfl (by decide) rfl ?_
    refine g_iinc hz (v := v4 + 1) (L' := [(4, .int (v4 + 1)), (2, .int v4), (3, .int vt0), (5, .int vt0), (0, .ref o), (1, .int v1)]) 5 d_C_leastOfFriends_57 rfl (congrArg (fun q => v4 + q) ki_1) (by decide) rfl ?_
    refine g_goto hz (tgt := 9) d_C_leastOfFriends_60 (by decide) ?_
    refine g_sub [4, 5, 1, 2, 0] rfl ?_
    exact hk9 o v1 v4 vt0 (v4 + 1) ho _ h
def k_C_leastOfFriends_9 : Nat → Nat → Int32 → Int32 → Int32 → Int32 → Mm → Option (Int32 × Mm)
  | 0, _, _, _, _, _, _ => none
  | n + 1, o, v1, v2, v3, v4, s => if (s o 4) ≤ v4 then
      some (v2, s)
    else
      if v1 = 0 then
        bn (f_C_friendAt s o v4) fun x9 s8 =>
        k_C_leastOfFriends_43 (fun o v1 v2 v3 v4 s => k_C_leastOfFriends_9 n o v1 v2 v3 v4 s) o v1 v2 v3 v4 (s8 x9 4) s8
      else
        bn (f_C_friendAt s o v4) fun x5 s4 =>
        k_C_leastOfFriends_43 (fun o v1 v2 v3 v4 s => k_C_leastOfFriends_9 n o v1 v2 v3 v4 s) o v1 v2 v3 v4 (s4 x5 2) s4
set_option maxRecDepth 20000 in
theorem w_C_leastOfFriends_9 {l : Launch} {z : Zt} (hz : ZOk z b_C_leastOfFriends 6 "PassedOnAndBetter$Company" 1 22) {r' : Int32} {s' : Mm} (hq : ZR z (some .int) s' (some (.int r'))) : ∀ (n : Nat) (o : Nat) (v1 : Int32) (v2 : Int32) (v3 : Int32) (v4 : Int32) (ho : iC o) (s : Mm), k_C_leastOfFriends_9 n o v1 v2 v3 v4 s = some (r', s') → G l z b_C_leastOfFriends 6 9 [(0, .ref o), (1, .int v1), (2, .int v2), (3, .int v3), (4, .int v4)] [] s := by
  intro n
  induction n with
  | zero => intro o v1 v2 v3 v4 ho s h; unfold k_C_leastOfFriends_9 at h; cases h
  | succ n ih =>
    intro o v1 v2 v3 v4 ho s h
    unfold k_C_leastOfFriends_9 at h
    refine g_iload hz 4 d_C_leastOfFriends_9 rfl ?_
    refine g_aload_n hz 0 d_C_leastOfFriends_11 rfl rfl ?_
    refine gf_C_friends hz ho q_207 d_C_leastOfFriends_12 ?_
    refine g_icmp_ge hz (tgt := 63) d_C_leastOfFriends_15 (by decide) (fun c1 => ?_) (fun c1 => ?_)
    · replace h := (if_pos c1).symm.trans h
      refine g_iload_n hz 2 d_C_leastOfFriends_63 rfl rfl ?_
      exact g_iret hz (rti h hq) d_C_leastOfFriends_64
    · replace h := (if_neg c1).symm.trans h
      refine g_iload_n hz 1 d_C_leastOfFriends_18 rfl rfl ?_
      refine g_if_ne hz (tgt := 34) d_C_leastOfFriends_19 (by decide) (fun c2 => ?_) (fun c2 => ?_)
      · replace h := (if_neg c2).symm.trans h
        refine g_aload_n hz 0 d_C_leastOfFriends_34 rfl rfl ?_
        refine g_iload hz 4 d_C_leastOfFriends_35 rfl ?_
        refine bn_use h (fun x5 s4 e3 h => ?_)
        have hx5 := rr_C_friendAt ho e3
        refine g_callVr hz (c_C_friendAt l ho e3) (iC_lt ho) (rc_C ho) rfl rfl m_C_friendAt mi_C_friendAt ms_C_friendAt q_369 ⟨Nat.le_of_ble_eq_true rfl, Nat.le_of_ble_eq_true rfl⟩ rfl (st := []) rfl (Nat.le_of_ble_eq_true rfl) d_C_leastOfFriends_37 ?_
        refine gf_F_door hz hx5 q_127 d_C_leastOfFriends_40 ?_
        exact w_C_leastOfFriends_43 hz hq ih o v1 v2 v3 v4 (s4 x5 2) ho _ h
      · replace h := (if_pos c2).symm.trans h
        refine g_aload_n hz 0 d_C_leastOfFriends_22 rfl rfl ?_
        refine g_iload hz 4 d_C_leastOfFriends_23 rfl ?_
        refine bn_use h (fun x9 s8 e7 h => ?_)
        have hx9 := rr_C_friendAt ho e7
        refine g_callVr hz (c_C_friendAt l ho e7) (iC_lt ho) (rc_C ho) rfl rfl m_C_friendAt mi_C_friendAt ms_C_friendAt q_369 ⟨Nat.le_of_ble_eq_true rfl, Nat.le_of_ble_eq_true rfl⟩ rfl (st := []) rfl (Nat.le_of_ble_eq_true rfl) d_C_leastOfFriends_25 ?_
        refine gf_F_waits hz hx9 q_135 d_C_leastOfFriends_28 ?_
        refine g_goto hz (tgt := 43) d_C_leastOfFriends_31 (by decide) ?_
        exact w_C_leastOfFriends_43 hz hq ih o v1 v2 v3 v4 (s8 x9 4) ho _ h
def f_C_leastOfFriends (s : Mm) (o : Nat) (a1 : Int32) : Option (Int32 × Mm) :=
  k_C_leastOfFriends_9 KF o a1 (-9) 100 0 s
set_option maxRecDepth 20000 in
theorem c_C_leastOfFriends (l : Launch) {s : Mm} {o : Nat} {a1 : Int32} {r' : Int32} {s' : Mm} (ho : iC o) (h : f_C_leastOfFriends s o a1 = some (r', s')) : Cm l y_C_leastOfFriends b_C_leastOfFriends 6 (some .int) 1 22 [.ref o, .int a1] s s' (some (.int r')) := by
  refine Cm.of (own := "PassedOnAndBetter$Company") (by decide) rfl (fun ad => Nat.le_of_ble_eq_true rfl) ?_
  intro z hz hq
  show G l z b_C_leastOfFriends 6 0 [(0, .ref o), (1, .int a1)] [] s
  unfold f_C_leastOfFriends at h
  refine g_bipush hz (v := (-9)) d_C_leastOfFriends_0 (by decide) ?_
  refine g_istore_n hz (L' := [(2, .int (-9)), (0, .ref o), (1, .int a1)]) d_C_leastOfFriends_2 rfl (by decide) rfl ?_
  refine g_bipush hz (v := 100) d_C_leastOfFriends_3 (by decide) ?_
  refine g_istore_n hz (L' := [(3, .int 100), (2, .int (-9)), (0, .ref o), (1, .int a1)]) d_C_leastOfFriends_5 rfl (by decide) rfl ?_
  refine g_iconst hz d_C_leastOfFriends_6 ki_0 ?_
  refine g_istore hz (L' := [(4, .int 0), (3, .int 100), (2, .int (-9)), (0, .ref o), (1, .int a1)]) d_C_leastOfFriends_7 (by decide) rfl ?_
  refine g_sub [3, 4, 2, 1, 0] rfl ?_
  exact w_C_leastOfFriends_9 hz hq KF o a1 (-9) 100 0 ho _ h
