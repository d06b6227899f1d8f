def f_X_hasty (s : Mm) (a1 : Int32) : Option (Int32 × Mm) :=
  bn (f_X_whatNo s a1 1) fun x3 s2 =>
  if x3 = 0 then
    bn (f_C_leastOfFriends s2 0 a1) fun x10 s9 =>
    some (x10, s9)
  else
    bn (f_X_refuse s2 x3) fun x7 s6 =>
    some (x7, s6)
set_option maxRecDepth 20000 in
theorem c_X_hasty (l : Launch) {s : Mm} {a1 : Int32} {r' : Int32} {s' : Mm}  (h : f_X_hasty s a1 = some (r', s')) : Cm l y_X_hasty b_X_hasty 3 (some .int) 2 47 [.ref 165, .int a1] s s' (some (.int r')) := by
  refine Cm.of (own := "PassedOnAndBetter") (by decide) rfl (fun ad => Nat.le_of_ble_eq_true rfl) ?_
  intro z hz hq
  show G l z b_X_hasty 3 0 [(0, .ref 165), (1, .int a1)] [] s
  unfold f_X_hasty at h
  refine g_iload_n hz 1 d_X_hasty_0 rfl rfl ?_
  refine g_iconst hz d_X_hasty_1 ki_1 ?_
  refine bn_use h (fun x3 s2 e1 h => ?_)
  refine g_callSi hz (c_X_whatNo l e1) m_X_whatNo mi_X_whatNo q_535 ⟨Nat.le_of_ble_eq_true rfl, Nat.le_of_ble_eq_true rfl⟩ rfl (st := []) rfl (Nat.le_of_ble_eq_true rfl) d_X_hasty_2 ?_
  refine g_istore_n hz (L' := [(2, .int x3), (0, .ref 165), (1, .int a1)]) d_X_hasty_5 rfl (by decide) rfl ?_
  refine g_iload_n hz 0 d_X_hasty_6 rfl rfl ?_
  refine g_if_ne hz (tgt := 21) d_X_hasty_7 (by decide) (fun c4 => ?_) (fun c4 => ?_)
  · replace h := (if_neg c4).symm.trans h
    refine g_aload_n hz 1 d_X_hasty_21 rfl rfl ?_
    refine g_iload_n hz 0 d_X_hasty_22 rfl rfl ?_
    refine bn_use h (fun x7 s6 e5 h => ?_)
    refine g_callVi hz (c_X_refuse l e5) (by decide) rc_X rfl rfl m_X_refuse mi_X_refuse ms_X_refuse q_349 ⟨Nat.le_of_ble_eq_true rfl, Nat.le_of_ble_eq_true rfl⟩ rfl (st := []) rfl (Nat.le_of_ble_eq_true rfl) d_X_hasty_23 ?_
    exact g_iret hz (rti h hq) d_X_hasty_26
  · replace h := (if_pos c4).symm.trans h
    refine g_aload_n hz 1 d_X_hasty_10 rfl rfl ?_
    refine gf_X_now hz q_306 d_X_hasty_11 ?_
    refine g_iload_n hz 2 d_X_hasty_14 rfl rfl ?_
    refine bn_use h (fun x10 s9 e8 h => ?_)
    refine g_callVi hz (c_C_leastOfFriends l (by decide) e8) (iC_lt (by decide)) (rc_C (by decide)) rfl rfl m_C_leastOfFriends mi_C_leastOfFriends ms_C_leastOfFriends q_901 ⟨Nat.le_of_ble_eq_true rfl, Nat.le_of_ble_eq_true rfl⟩ rfl (st := []) rfl (Nat.le_of_ble_eq_true rfl) d_X_hasty_15 ?_
    refine g_goto hz (tgt := 26) d_X_hasty_18 (by decide) ?_
    exact g_iret hz (rti h hq) d_X_hasty_26
def f_X_mean (s : Mm) (a1 : Int32) : Option (Int64 × Mm) :=
  bn (f_X_whatNo s a1 1) fun x3 s2 =>
  if x3 = 0 then
    bn (f_C_allWorth s2 0) fun x10 s9 =>
    bn (f_X_part s9 (x10.toInt64) ((mx 1 (s9 0 5) : Int32).toInt64) a1) fun x13 s12 =>
    some (x13, s12)
  else
    bn (f_X_refuseLong s2 x3) fun x7 s6 =>
    some (x7, s6)
set_option maxRecDepth 20000 in
theorem c_X_mean (l : Launch) {s : Mm} {a1 : Int32} {r' : Int64} {s' : Mm}  (h : f_X_mean s a1 = some (r', s')) : Cm l y_X_mean b_X_mean 3 (some .long) 3 64 [.ref 165, .int a1] s s' (some (.long r')) := by
  refine Cm.of (own := "PassedOnAndBetter") (by decide) rfl (fun ad => Nat.le_of_ble_eq_true rfl) ?_
  intro z hz hq
  show G l z b_X_mean 3 0 [(0, .ref 165), (1, .int a1)] [] s
  unfold f_X_mean at h
  refine g_iload_n hz 1 d_X_mean_0 rfl rfl ?_
  refine g_iconst hz d_X_mean_1 ki_1 ?_
  refine bn_use h (fun x3 s2 e1 h => ?_)
  refine g_callSi hz (c_X_whatNo l e1) m_X_whatNo mi_X_whatNo q_535 ⟨Nat.le_of_ble_eq_true rfl, Nat.le_of_ble_eq_true rfl⟩ rfl (st := []) rfl (Nat.le_of_ble_eq_true rfl) d_X_mean_2 ?_
  refine g_istore_n hz (L' := [(2, .int x3), (0, .ref 165), (1, .int a1)]) d_X_mean_5 rfl (by decide) rfl ?_
  refine g_iload_n hz 0 d_X_mean_6 rfl rfl ?_
  refine g_if_ne hz (tgt := 37) d_X_mean_7 (by decide) (fun c4 => ?_) (fun c4 => ?_)
  · replace h := (if_neg c4).symm.trans h
    refine g_aload_n hz 1 d_X_mean_37 rfl rfl ?_
    refine g_iload_n hz 0 d_X_mean_38 rfl rfl ?_
    refine bn_use h (fun x7 s6 e5 h => ?_)
    refine g_callVl hz (c_X_refuseLong l e5) (by decide) rc_X rfl rfl m_X_refuseLong mi_X_refuseLong ms_X_refuseLong q_841 ⟨Nat.le_of_ble_eq_true rfl, Nat.le_of_ble_eq_true rfl⟩ rfl (st := []) rfl (Nat.le_of_ble_eq_true rfl) d_X_mean_39 ?_
    exact g_lret hz (rtl h hq) d_X_mean_42
  · replace h := (if_pos c4).symm.trans h
    refine g_aload_n hz 1 d_X_mean_10 rfl rfl ?_
    refine gf_X_now hz q_306 d_X_mean_11 ?_
    refine bn_use h (fun x10 s9 e8 h => ?_)
    refine g_callVi hz (c_C_allWorth l (by decide) e8) (iC_lt (by decide)) (rc_C (by decide)) rfl rfl m_C_allWorth mi_C_allWorth ms_C_allWorth q_609 ⟨Nat.le_of_ble_eq_true rfl, Nat.le_of_ble_eq_true rfl⟩ rfl (st := []) rfl (Nat.le_of_ble_eq_true rfl) d_X_mean_14 ?_
    refine g_i2l hz d_X_mean_17 ?_
    refine g_iconst hz d_X_mean_18 ki_1 ?_
    refine g_aload_n hz 1 d_X_mean_19 rfl rfl ?_
    refine gf_X_now hz q_306 d_X_mean_20 ?_
    refine gf_C_gifts hz (by decide) q_212 d_X_mean_23 ?_
    refine g_mmax hz q_909 (by decide) (by decide) (Nat.le_of_ble_eq_true rfl) d_X_mean_26 ?_
    refine g_i2l hz d_X_mean_29 ?_
    refine g_iload_n hz 2 d_X_mean_30 rfl rfl ?_
    refine bn_use h (fun x13 s12 e11 h => ?_)
    refine g_callSl hz (c_X_part l e11) m_X_part mi_X_part q_860 ⟨Nat.le_of_ble_eq_true rfl, Nat.le_of_ble_eq_true rfl⟩ rfl (st := []) rfl (Nat.le_of_ble_eq_true rfl) d_X_mean_31 ?_
    refine g_goto hz (tgt := 42) d_X_mean_34 (by decide) ?_
    exact g_lret hz (rtl h hq) d_X_mean_42
def k_M_firstTogether_7 : Nat → Int32 → Int32 → Int32 → Mm → Option (Int32 × Mm)
  | 0, _, _, _, _ => none
  | n + 1, v1, v2, v3, s => if 60 < v3 then
      some ((-9), s)
    else
      bn (f_C_giftAt s 2 v1) fun x7 s6 =>
      bn (f_C_giftAt s6 2 v2) fun x10 s9 =>
      if (s6 x7 2) = (s9 x10 2) then
        some (v3, s9)
      else
        bv (f_C_pass s9 2 1) fun s13 =>
        k_M_firstTogether_7 n v1 v2 (v3 + 1) s13
set_option maxRecDepth 20000 in
theorem w_M_firstTogether_7 {l : Launch} {z : Zt} (hz : ZOk z b_M_firstTogether 4 "PassedOnAndBetter$Mind" 4 89) {r' : Int32} {s' : Mm} (hq : ZR z (some .int) s' (some (.int r'))) : ∀ (n : Nat) (v1 : Int32) (v2 : Int32) (v3 : Int32) (s : Mm), k_M_firstTogether_7 n v1 v2 v3 s = some (r', s') → G l z b_M_firstTogether 4 7 [(0, .ref 173), (1, .int v1), (2, .int v2), (3, .int v3)] [] s := by
  intro n
  induction n with
  | zero => intro v1 v2 v3 s h; unfold k_M_firstTogether_7 at h; cases h
  | succ n ih =>
    intro v1 v2 v3 s h
    unfold k_M_firstTogether_7 at h
    refine g_iload_n hz 3 d_M_firstTogether_7 rfl rfl ?_
    refine g_bipush hz (v := 60) d_M_firstTogether_8 (by decide) ?_
    refine g_icmp_gt hz (tgt := 54) d_M_firstTogether_10 (by decide) (fun c4 => ?_) (fun c4 => ?_)
    · replace h := (if_pos c4).symm.trans h
      refine g_bipush hz (v := (-9)) d_M_firstTogether_54 (by decide) ?_
      exact g_iret hz (rti h hq) d_M_firstTogether_56
    · replace h := (if_neg c4).symm.trans h
      refine g_aload_n hz 0 d_M_firstTogether_13 rfl rfl ?_
      refine gf_M_thought hz q_292 d_M_firstTogether_14 ?_
      refine g_iload_n hz 1 d_M_firstTogether_17 rfl rfl ?_
      refine bn_use h (fun x7 s6 e5 h => ?_)
      have hx7 := rr_C_giftAt (by decide) e5
      refine g_callVr hz (c_C_giftAt l (by decide) e5) (iC_lt (by decide)) (rc_C (by decide)) rfl rfl m_C_giftAt mi_C_giftAt ms_C_giftAt q_633 ⟨Nat.le_of_ble_eq_true rfl, Nat.le_of_ble_eq_true rfl⟩ rfl (st := []) rfl (Nat.le_of_ble_eq_true rfl) d_M_firstTogether_18 ?_
      refine gf_G_with hz hx7 q_181 d_M_firstTogether_21 ?_
      refine g_aload_n hz 0 d_M_firstTogether_24 rfl rfl ?_
      refine gf_M_thought hz q_292 d_M_firstTogether_25 ?_
      refine g_iload_n hz 2 d_M_firstTogether_28 rfl rfl ?_
      refine bn_use h (fun x10 s9 e8 h => ?_)
      have hx10 := rr_C_giftAt (by decide) e8
      refine g_callVr hz (c_C_giftAt l (by decide) e8) (iC_lt (by decide)) (rc_C (by decide)) rfl rfl m_C_giftAt mi_C_giftAt ms_C_giftAt q_633 ⟨Nat.le_of_ble_eq_true rfl, Nat.le_of_ble_eq_true rfl⟩ rfl (st := [.int (s6 x7 2)]) rfl (Nat.le_of_ble_eq_true rfl) d_M_firstTogether_29 ?_
      refine gf_G_with hz hx10 q_181 d_M_firstTogether_32 ?_
      refine g_icmp_ne hz (tgt := 40) d_M_firstTogether_35 (by decide) (fun c11 => ?_) (fun c11 => ?_)
      · replace h := (if_neg c11).symm.trans h
        refine g_aload_n hz 0 d_M_firstTogether_40 rfl rfl ?_
        refine gf_M_thought hz q_292 d_M_firstTogether_41 ?_
        refine g_iconst hz d_M_firstTogether_44 ki_1 ?_
        refine bv_use h (fun s13 e12 h => ?_)
        refine g_callVv hz (c_C_pass l (by decide) e12) (iC_lt (by decide)) (rc_C (by decide)) rfl rfl m_C_pass mi_C_pass ms_C_pass q_651 ⟨Nat.le_of_ble_eq_true rfl, Nat.le_of_ble_eq_true rfl⟩ rfl (st := []) rfl (Nat.le_of_ble_eq_true rfl) d_M_firstTogether_45 ?_
        refine g_iinc hz (v := v3 + 1) (L' := [(3, .int (v3 + 1)), (0, .ref 173), (1, .int v1), (2, .int v2)]) 3 d_M_firstTogether_48 rfl (congrArg (fun q => v3 + q) ki_1) (by decide) rfl ?_
        refine g_goto hz (tgt := 7) d_M_firstTogether_51 (by decide) ?_
        refine g_sub [1, 2, 3, 0] rfl ?_
        exact ih v1 v2 (v3 + 1) _ h
      · replace h := (if_pos c11).symm.trans h
        refine g_iload_n hz 3 d_M_firstTogether_38 rfl rfl ?_
        exact g_iret hz (rti h hq) d_M_firstTogether_39
def f_M_firstTogether (s : Mm) (a1 : Int32) (a2 : Int32) : Option (Int32 × Mm) :=
  bn (f_M_recall s) fun x3 s2 =>
  k_M_firstTogether_7 KF a1 a2 0 s2
set_option maxRecDepth 20000 in
theorem c_M_firstTogether (l : Launch) {s : Mm} {a1 : Int32} {a2 : Int32} {r' : Int32} {s' : Mm}  (h : f_M_firstTogether s a1 a2 = some (r', s')) : Cm l y_M_firstTogether b_M_firstTogether 4 (some .int) 4 89 [.ref 173, .int a1, .int a2] s s' (some (.int r')) := by
  refine Cm.of (own := "PassedOnAndBetter$Mind") (by decide) rfl (fun ad => Nat.le_of_ble_eq_true rfl) ?_
  intro z hz hq
  show G l z b_M_firstTogether 4 0 [(0, .ref 173), (1, .int a1), (2, .int a2)] [] s
  unfold f_M_firstTogether at h
  refine g_aload_n hz 0 d_M_firstTogether_0 rfl rfl ?_
  refine bn_use h (fun x3 s2 e1 h => ?_)
  have hx3 := rr_M_recall e1
  refine g_callVr hz (c_M_recall l e1) (by decide) rc_M rfl rfl m_M_recall mi_M_recall ms_M_recall q_632 ⟨Nat.le_of_ble_eq_true rfl, Nat.le_of_ble_eq_true rfl⟩ rfl (st := []) rfl (Nat.le_of_ble_eq_true rfl) d_M_firstTogether_1 ?_
  refine g_pop hz d_M_firstTogether_4 rfl ?_
  refine g_iconst hz d_M_firstTogether_5 ki_0 ?_
  refine g_istore_n hz (L' := [(3, .int 0), (0, .ref 173), (1, .int a1), (2, .int a2)]) d_M_firstTogether_6 rfl (by decide) rfl ?_
  refine g_sub [1, 2, 3, 0] rfl ?_
  exact w_M_firstTogether_7 hz hq KF a1 a2 0 _ h
def k_X_meet_20 (v1 : Int32) (v2 : Int32) (vt0 : Int32) (vt1 : Int32) (vt2 : Int32) (s : Mm) : Option (Int32 × Mm) :=
  bn (f_X_first s vt2 vt1 vt0) fun x10 s9 =>
  if x10 = 0 then
    bn (f_M_firstTogether s9 v1 v2) fun x17 s16 =>
    some (x17, s16)
  else
    bn (f_X_refuse s9 x10) fun x14 s13 =>
    some (x14, s13)
set_option maxRecDepth 20000 in
theorem w_X_meet_20 {l : Launch} {z : Zt} (hz : ZOk z b_X_meet 4 "PassedOnAndBetter" 5 112) {r' : Int32} {s' : Mm} (hq : ZR z (some .int) s' (some (.int r'))) (v1 : Int32) (v2 : Int32) (vt0 : Int32) (vt1 : Int32) (vt2 : Int32) (s : Mm) (h : k_X_meet_20 v1 v2 vt0 vt1 vt2 s = some (r', s')) : G l z b_X_meet 4 20 [(0, .ref 165), (1, .int v1), (2, .int v2)] [.int vt0, .int vt1, .int vt2] s := by
  unfold k_X_meet_20 at h
  refine bn_use h (fun x10 s9 e8 h => ?_)
  refine g_callSi hz (c_X_first l e8) m_X_first mi_X_first q_538 ⟨Nat.le_of_ble_eq_true rfl, Nat.le_of_ble_eq_true rfl⟩ rfl (st := []) rfl (Nat.le_of_ble_eq_true rfl) d_X_meet_20 ?_
  refine g_istore_n hz (L' := [(3, .int x10), (0, .ref 165), (1, .int v1), (2, .int v2)]) d_X_meet_23 rfl (by decide) rfl ?_
  refine g_iload_n hz 0 d_X_meet_24 rfl rfl ?_
  refine g_if_ne hz (tgt := 40) d_X_meet_25 (by decide) (fun c11 => ?_) (fun c11 => ?_)
  · replace h := (if_neg c11).symm.trans h
    refine g_aload_n hz 1 d_X_meet_40 rfl rfl ?_
    refine g_iload_n hz 0 d_X_meet_41 rfl rfl ?_
    refine bn_use h (fun x14 s13 e12 h => ?_)
    refine g_callVi hz (c_X_refuse l e12) (by decide) rc_X rfl rfl m_X_refuse mi_X_refuse ms_X_refuse q_349 ⟨Nat.le_of_ble_eq_true rfl, Nat.le_of_ble_eq_true rfl⟩ rfl (st := []) rfl (Nat.le_of_ble_eq_true rfl) d_X_meet_42 ?_
    exact g_iret hz (rti h hq) d_X_meet_45
  · replace h := (if_pos c11).symm.trans h
    refine g_aload_n hz 1 d_X_meet_28 rfl rfl ?_
    refine gf_X_mind hz q_311 d_X_meet_29 ?_
    refine g_iload_n hz 2 d_X_meet_32 rfl rfl ?_
    refine g_iload_n hz 3 d_X_meet_33 rfl rfl ?_
    refine bn_use h (fun x17 s16 e15 h => ?_)
    refine g_callVi hz (c_M_firstTogether l e15) (by decide) rc_M rfl rfl m_M_firstTogether mi_M_firstTogether ms_M_firstTogether q_914 ⟨Nat.le_of_ble_eq_true rfl, Nat.le_of_ble_eq_true rfl⟩ rfl (st := []) rfl (Nat.le_of_ble_eq_true rfl) d_X_meet_34 ?_
    refine g_goto hz (tgt := 45) d_X_meet_37 (by decide) ?_
    exact g_iret hz (rti h hq) d_X_meet_45
def f_X_meet (s : Mm) (a1 : Int32) (a2 : Int32) : Option (Int32 × Mm) :=
  bn (f_X_giftNo s a1) fun x3 s2 =>
  bn (f_X_giftNo s2 a2) fun x6 s5 =>
  if a1 = a2 then
    k_X_meet_20 a1 a2 (-1) x6 x3 s5
  else
    k_X_meet_20 a1 a2 0 x6 x3 s5
set_option maxRecDepth 20000 in
theorem c_X_meet (l : Launch) {s : Mm} {a1 : Int32} {a2 : Int32} {r' : Int32} {s' : Mm}  (h : f_X_meet s a1 a2 = some (r', s')) : Cm l y_X_meet b_X_meet 4 (some .int) 5 112 [.ref 165, .int a1, .int a2] s s' (some (.int r')) := by
  refine Cm.of (own := "PassedOnAndBetter") (by decide) rfl (fun ad => Nat.le_of_ble_eq_true rfl) ?_
  intro z hz hq
  show G l z b_X_meet 4 0 [(0, .ref 165), (1, .int a1), (2, .int a2)] [] s
  unfold f_X_meet at h
  refine g_aload_n hz 0 d_X_meet_0 rfl rfl ?_
  refine g_iload_n hz 1 d_X_meet_1 rfl rfl ?_
  refine bn_use h (fun x3 s2 e1 h => ?_)
  refine g_callVi hz (c_X_giftNo l e1) (by decide) rc_X rfl rfl m_X_giftNo mi_X_giftNo ms_X_giftNo q_555 ⟨Nat.le_of_ble_eq_true rfl, Nat.le_of_ble_eq_true rfl⟩ rfl (st := []) rfl (Nat.le_of_ble_eq_true rfl) d_X_meet_2 ?_
  refine g_aload_n hz 0 d_X_meet_5 rfl rfl ?_
  refine g_iload_n hz 2 d_X_meet_6 rfl rfl ?_
  refine bn_use h (fun x6 s5 e4 h => ?_)
  refine g_callVi hz (c_X_giftNo l e4) (by decide) rc_X rfl rfl m_X_giftNo mi_X_giftNo ms_X_giftNo q_555 ⟨Nat.le_of_ble_eq_true rfl, Nat.le_of_ble_eq_true rfl⟩ rfl (st := [.int x3]) rfl (Nat.le_of_ble_eq_true rfl) d_X_meet_7 ?_
  refine g_iload_n hz 1 d_X_meet_10 rfl rfl ?_
  refine g_iload_n hz 2 d_X_meet_11 rfl rfl ?_
  refine g_icmp_ne hz (tgt := 19) d_X_meet_12 (by decide) (fun c7 => ?_) (fun c7 => ?_)
  · replace h := (if_neg c7).symm.trans h
    refine g_iconst hz d_X_meet_19 ki_0 ?_
    exact w_X_meet_20 hz hq a1 a2 0 x6 x3 _ h
  · replace h := (if_pos c7).symm.trans h
    refine g_iconst hz d_X_meet_15 ki_m1 ?_
    refine g_goto hz (tgt := 20) d_X_meet_16 (by decide) ?_
    exact w_X_meet_20 hz hq a1 a2 (-1) x6 x3 _ h
def k_M_neverWith_27 (kc19 : (Int32 → Int32 → Int32 → Mm → Option (Int32 × Mm))) : Nat → Int32 → Int32 → Int32 → Int32 → Mm → Option (Int32 × Mm)
  | 0, _, _, _, _, _ => none
  | n + 1, v1, v2, v3, v4, s => if (s 2 5) ≤ v4 then
      bv (f_C_pass s 2 1) fun s9 =>
      kc19 v1 v2 (v3 + 1) s9
    else
      bn (f_C_giftAt s 2 v4) fun x12 s11 =>
      nm (v2 &&& ((1 <<< ((s11 x12 2) &&& 31)) ^^^ (-1))) fun x13 =>
      k_M_neverWith_27 kc19 n v1 x13 v3 (v4 + 1) s11
set_option maxRecDepth 20000 in
theorem w_M_neverWith_27 {l : Launch} {z : Zt} (hz : ZOk z b_M_neverWith 5 "PassedOnAndBetter$Mind" 4 89) {r' : Int32} {s' : Mm} (hq : ZR z (some .int) s' (some (.int r'))) {kc19 : (Int32 → Int32 → Int32 → Mm → Option (Int32 × Mm))} (hk19 : (∀ (v1 : Int32) (v2 : Int32) (v3 : Int32) (s : Mm), kc19 v1 v2 v3 s = some (r', s') → G l z b_M_neverWith 5 19 [(0, .ref 173), (1, .int v1), (2, .int v2), (3, .int v3)] [] s)) : ∀ (n : Nat) (v1 : Int32) (v2 : Int32) (v3 : Int32) (v4 : Int32) (s : Mm), k_M_neverWith_27 kc19 n v1 v2 v3 v4 s = some (r', s') → G l z b_M_neverWith 5 27 [(0, .ref 173), (1, .int v1), (2, .int v2), (3, .int v3), (4, .int v4)] [] s := by
  intro n
  induction n with
  | zero => intro v1 v2 v3 v4 s h; unfold k_M_neverWith_27 at h; cases h
  | succ n ih =>
    intro v1 v2 v3 v4 s h
    unfold k_M_neverWith_27 at h
    refine g_iload hz 4 d_M_neverWith_27 rfl ?_
    refine g_aload_n hz 0 d_M_neverWith_29 rfl rfl ?_
    refine gf_M_thought hz q_292 d_M_neverWith_30 ?_
    refine gf_C_gifts hz (by decide) q_211 d_M_neverWith_33 ?_
    refine g_icmp_ge hz (tgt := 64) d_M_neverWith_36 (by decide) (fun c7 => ?_) (fun c7 => ?_)
    · replace h := (if_pos c7).symm.trans h
      refine g_aload_n hz 0 d_M_neverWith_64 rfl rfl ?_
      refine gf_M_thought hz q_292 d_M_neverWith_65 ?_
      refine g_iconst hz d_M_neverWith_68 ki_1 ?_
      refine bv_use h (fun s9 e8 h => ?_)
      refine g_callVv hz (c_C_pass l (by decide) e8) (iC_lt (by decide)) (rc_C (by decide)) rfl rfl m_C_pass mi_C_pass ms_C_pass q_651 ⟨Nat.le_of_ble_eq_true rfl, Nat.le_of_ble_eq_true rfl⟩ rfl (st := []) rfl (Nat.le_of_ble_eq_true rfl) d_M_neverWith_69 ?_
      refine g_iinc hz (v := v3 + 1) (L' := [(3, .int (v3 + 1)), (0, .ref 173), (1, .int v1), (2, .int v2), (4, .int v4)]) 3 d_M_neverWith_72 rfl (congrArg (fun q => v3 + q) ki_1) (by decide) rfl ?_
      refine g_goto hz (tgt := 19) d_M_neverWith_75 (by decide) ?_
      refine g_sub [1, 2, 3, 0] rfl ?_
      exact hk19 v1 v2 (v3 + 1) _ h
    · replace h := (if_neg c7).symm.trans h
      refine g_iload_n hz 2 d_M_neverWith_39 rfl rfl ?_
      refine g_iconst hz d_M_neverWith_40 ki_1 ?_
      refine g_aload_n hz 0 d_M_neverWith_41 rfl rfl ?_
      refine gf_M_thought hz q_292 d_M_neverWith_42 ?_
      refine g_iload hz 4 d_M_neverWith_45 rfl ?_
      refine bn_use h (fun x12 s11 e10 h => ?_)
      have hx12 := rr_C_giftAt (by decide) e10
      refine g_callVr hz (c_C_giftAt l (by decide) e10) (iC_lt (by decide)) (rc_C (by decide)) rfl rfl m_C_giftAt mi_C_giftAt ms_C_giftAt q_633 ⟨Nat.le_of_ble_eq_true rfl, Nat.le_of_ble_eq_true rfl⟩ rfl (st := [.int 1, .int v2]) rfl (Nat.le_of_ble_eq_true rfl) d_M_neverWith_47 ?_
      refine gf_G_with hz hx12 q_181 d_M_neverWith_50 ?_
      refine g_ishl hz d_M_neverWith_53 ?_
      refine g_iconst hz d_M_neverWith_54 ki_m1 ?_
      refine g_ixor hz d_M_neverWith_55 ?_
      refine g_iand hz d_M_neverWith_56 ?_
      refine g_nmi (fun x13 e14 => ?_)
      replace h := nm_use h e14
      refine g_istore_n hz (L' := [(2, .int x13), (0, .ref 173), (1, .int v1), (3, .int v3), (4, .int v4)]) d_M_neverWith_57 rfl (by decide) rfl ?_
      refine g_iinc hz (v := v4 + 1) (L' := [(4, .int (v4 + 1)), (2, .int x13), (0, .ref 173), (1, .int v1), (3, .int v3)]) 4 d_M_neverWith_58 rfl (congrArg (fun q => v4 + q) ki_1) (by decide) rfl ?_
      refine g_goto hz (tgt := 27) d_M_neverWith_61 (by decide) ?_
      refine g_sub [2, 3, 1, 4, 0] rfl ?_
      exact ih v1 x13 v3 (v4 + 1) _ h
def k_M_neverWith_19 : Nat → Int32 → Int32 → Int32 → Mm → Option (Int32 × Mm)
  | 0, _, _, _, _ => none
  | n + 1, v1, v2, v3, s => if v1 < v3 then
      some (v2, s)
    else
      k_M_neverWith_27 (fun v1 v2 v3 s => k_M_neverWith_19 n v1 v2 v3 s) KF v1 v2 v3 0 s
set_option maxRecDepth 20000 in
theorem w_M_neverWith_19 {l : Launch} {z : Zt} (hz : ZOk z b_M_neverWith 5 "PassedOnAndBetter$Mind" 4 89) {r' : Int32} {s' : Mm} (hq : ZR z (some .int) s' (some (.int r'))) : ∀ (n : Nat) (v1 : Int32) (v2 : Int32) (v3 : Int32) (s : Mm), k_M_neverWith_19 n v1 v2 v3 s = some (r', s') → G l z b_M_neverWith 5 19 [(0, .ref 173), (1, .int v1), (2, .int v2), (3, .int v3)] [] s := by
  intro n
  induction n with
  | zero => intro v1 v2 v3 s h; unfold k_M_neverWith_19 at h; cases h
  | succ n ih =>
    intro v1 v2 v3 s h
    unfold k_M_neverWith_19 at h
    refine g_iload_n hz 3 d_M_neverWith_19 rfl rfl ?_
    refine g_iload_n hz 1 d_M_neverWith_20 rfl rfl ?_
    refine g_icmp_gt hz (tgt := 78) d_M_neverWith_21 (by decide) (fun c6 => ?_) (fun c6 => ?_)
    · replace h := (if_pos c6).symm.trans h
      refine g_iload_n hz 2 d_M_neverWith_78 rfl rfl ?_
      exact g_iret hz (rti h hq) d_M_neverWith_79
    · replace h := (if_neg c6).symm.trans h
      refine g_iconst hz d_M_neverWith_24 ki_0 ?_
      refine g_istore hz (L' := [(4, .int 0), (0, .ref 173), (1, .int v1), (2, .int v2), (3, .int v3)]) d_M_neverWith_25 (by decide) rfl ?_
      refine g_sub [1, 2, 3, 4, 0] rfl ?_
      exact w_M_neverWith_27 hz hq ih KF v1 v2 v3 0 _ h
def f_M_neverWith (s : Mm) (a1 : Int32) : Option (Int32 × Mm) :=
  bn (f_M_recall s) fun x3 s2 =>
  nm ((1 <<< ((s2 2 4) &&& 31)) - 1) fun x4 =>
  k_M_neverWith_19 KF a1 x4 0 s2
set_option maxRecDepth 20000 in
theorem c_M_neverWith (l : Launch) {s : Mm} {a1 : Int32} {r' : Int32} {s' : Mm}  (h : f_M_neverWith s a1 = some (r', s')) : Cm l y_M_neverWith b_M_neverWith 5 (some .int) 4 89 [.ref 173, .int a1] s s' (some (.int r')) := by
  refine Cm.of (own := "PassedOnAndBetter$Mind") (by decide) rfl (fun ad => Nat.le_of_ble_eq_true rfl) ?_
  intro z hz hq
  show G l z b_M_neverWith 5 0 [(0, .ref 173), (1, .int a1)] [] s
  unfold f_M_neverWith at h
  refine g_aload_n hz 0 d_M_neverWith_0 rfl rfl ?_
  refine bn_use h (fun x3 s2 e1 h => ?_)
  have hx3 := rr_M_recall e1
  refine g_callVr hz (c_M_recall l e1) (by decide) rc_M rfl rfl m_M_recall mi_M_recall ms_M_recall q_632 ⟨Nat.le_of_ble_eq_true rfl, Nat.le_of_ble_eq_true rfl⟩ rfl (st := []) rfl (Nat.le_of_ble_eq_true rfl) d_M_neverWith_1 ?_
  refine g_pop hz d_M_neverWith_4 rfl ?_
  refine g_iconst hz d_M_neverWith_5 ki_1 ?_
  refine g_aload_n hz 0 d_M_neverWith_6 rfl rfl ?_
  refine gf_M_thought hz q_292 d_M_neverWith_7 ?_
  refine gf_C_friends hz (by decide) q_208 d_M_neverWith_10 ?_
  refine g_ishl hz d_M_neverWith_13 ?_
  refine g_iconst hz d_M_neverWith_14 ki_1 ?_
  refine g_isub hz d_M_neverWith_15 ?_
  refine g_nmi (fun x4 e5 => ?_)
  replace h := nm_use h e5
  refine g_istore_n hz (L' := [(2, .int x4), (0, .ref 173), (1, .int a1)]) d_M_neverWith_16 rfl (by decide) rfl ?_
  refine g_iconst hz d_M_neverWith_17 ki_0 ?_
  refine g_istore_n hz (L' := [(3, .int 0), (2, .int x4), (0, .ref 173), (1, .int a1)]) d_M_neverWith_18 rfl (by decide) rfl ?_
  refine g_sub [2, 3, 1, 0] rfl ?_
  exact w_M_neverWith_19 hz hq KF a1 x4 0 _ h
def f_X_bare (s : Mm) (a1 : Int32) : Option (Int32 × Mm) :=
  bn (f_X_spanNo s a1) fun x3 s2 =>
  if x3 = 0 then
    bn (f_M_neverWith s2 a1) fun x10 s9 =>
    some (x10, s9)
  else
    bn (f_X_refuse s2 x3) fun x7 s6 =>
    some (x7, s6)
set_option maxRecDepth 20000 in
theorem c_X_bare (l : Launch) {s : Mm} {a1 : Int32} {r' : Int32} {s' : Mm}  (h : f_X_bare s a1 = some (r', s')) : Cm l y_X_bare b_X_bare 3 (some .int) 5 113 [.ref 165, .int a1] s s' (some (.int r')) := by
  refine Cm.of (own := "PassedOnAndBetter") (by decide) rfl (fun ad => Nat.le_of_ble_eq_true rfl) ?_
  intro z hz hq
  show G l z b_X_bare 3 0 [(0, .ref 165), (1, .int a1)] [] s
  unfold f_X_bare at h
  refine g_iload_n hz 1 d_X_bare_0 rfl rfl ?_
  refine bn_use h (fun x3 s2 e1 h => ?_)
  refine g_callSi hz (c_X_spanNo l e1) m_X_spanNo mi_X_spanNo q_625 ⟨Nat.le_of_ble_eq_true rfl, Nat.le_of_ble_eq_true rfl⟩ rfl (st := []) rfl (Nat.le_of_ble_eq_true rfl) d_X_bare_1 ?_
  refine g_istore_n hz (L' := [(2, .int x3), (0, .ref 165), (1, .int a1)]) d_X_bare_4 rfl (by decide) rfl ?_
  refine g_iload_n hz 0 d_X_bare_5 rfl rfl ?_
  refine g_if_ne hz (tgt := 20) d_X_bare_6 (by decide) (fun c4 => ?_) (fun c4 => ?_)
  · replace h := (if_neg c4).symm.trans h
    refine g_aload_n hz 1 d_X_bare_20 rfl rfl ?_
    refine g_iload_n hz 0 d_X_bare_21 rfl rfl ?_
    refine bn_use h (fun x7 s6 e5 h => ?_)
    refine g_callVi hz (c_X_refuse l e5) (by decide) rc_X rfl rfl m_X_refuse mi_X_refuse ms_X_refuse q_349 ⟨Nat.le_of_ble_eq_true rfl, Nat.le_of_ble_eq_true rfl⟩ rfl (st := []) rfl (Nat.le_of_ble_eq_true rfl) d_X_bare_22 ?_
    exact g_iret hz (rti h hq) d_X_bare_25
  · replace h := (if_pos c4).symm.trans h
    refine g_aload_n hz 1 d_X_bare_9 rfl rfl ?_
    refine gf_X_mind hz q_311 d_X_bare_10 ?_
    refine g_iload_n hz 2 d_X_bare_13 rfl rfl ?_
    refine bn_use h (fun x10 s9 e8 h => ?_)
    refine g_callVi hz (c_M_neverWith l e8) (by decide) rc_M rfl rfl m_M_neverWith mi_M_neverWith ms_M_neverWith q_922 ⟨Nat.le_of_ble_eq_true rfl, Nat.le_of_ble_eq_true rfl⟩ rfl (st := []) rfl (Nat.le_of_ble_eq_true rfl) d_X_bare_14 ?_
    refine g_goto hz (tgt := 25) d_X_bare_17 (by decide) ?_
    exact g_iret hz (rti h hq) d_X_bare_25
def f_M_worthOfAYear (s : Mm) : Option (Int32 × Mm) :=
  bn (f_M_recall s) fun x3 s2 =>
  bv (f_C_pass s2 x3 12) fun s5 =>
  bn (f_C_allWorth s5 2) fun x8 s7 =>
  bn (f_C_allWorth s7 0) fun x11 s10 =>
  some (x8 - x11, s10)
set_option maxRecDepth 20000 in
theorem c_M_worthOfAYear (l : Launch) {s : Mm}  {r' : Int32} {s' : Mm}  (h : f_M_worthOfAYear s = some (r', s')) : Cm l y_M_worthOfAYear b_M_worthOfAYear 1 (some .int) 4 89 [.ref 173] s s' (some (.int r')) := by
  refine Cm.of (own := "PassedOnAndBetter$Mind") (by decide) rfl (fun ad => Nat.le_of_ble_eq_true rfl) ?_
  intro z hz hq
  show G l z b_M_worthOfAYear 1 0 [(0, .ref 173)] [] s
  unfold f_M_worthOfAYear at h
  refine g_aload_n hz 0 d_M_worthOfAYear_0 rfl rfl ?_
  refine bn_use h (fun x3 s2 e1 h => ?_)
  have hx3 := rr_M_recall e1
  refine g_callVr hz (c_M_recall l e1) (by decide) rc_M rfl rfl m_M_recall mi_M_recall ms_M_recall q_632 ⟨Nat.le_of_ble_eq_true rfl, Nat.le_of_ble_eq_true rfl⟩ rfl (st := []) rfl (Nat.le_of_ble_eq_true rfl) d_M_worthOfAYear_1 ?_
  refine g_bipush hz (v := 12) d_M_worthOfAYear_4 (by decide) ?_
  refine bv_use h (fun s5 e4 h => ?_)
  refine g_callVv hz (c_C_pass l hx3 e4) (iC_lt hx3) (rc_C hx3) rfl rfl m_C_pass mi_C_pass ms_C_pass q_651 ⟨Nat.le_of_ble_eq_true rfl, Nat.le_of_ble_eq_true rfl⟩ rfl (st := []) rfl (Nat.le_of_ble_eq_true rfl) d_M_worthOfAYear_6 ?_
  refine g_aload_n hz 0 d_M_worthOfAYear_9 rfl rfl ?_
  refine gf_M_thought hz q_292 d_M_worthOfAYear_10 ?_
  refine bn_use h (fun x8 s7 e6 h => ?_)
  refine g_callVi hz (c_C_allWorth l (by decide) e6) (iC_lt (by decide)) (rc_C (by decide)) rfl rfl m_C_allWorth mi_C_allWorth ms_C_allWorth q_652 ⟨Nat.le_of_ble_eq_true rfl, Nat.le_of_ble_eq_true rfl⟩ rfl (st := []) rfl (Nat.le_of_ble_eq_true rfl) d_M_worthOfAYear_13 ?_
  refine g_aload_n hz 0 d_M_worthOfAYear_16 rfl rfl ?_
  refine gf_M_now hz q_290 d_M_worthOfAYear_17 ?_
  refine bn_use h (fun x11 s10 e9 h => ?_)
  refine g_callVi hz (c_C_allWorth l (by decide) e9) (iC_lt (by decide)) (rc_C (by decide)) rfl rfl m_C_allWorth mi_C_allWorth ms_C_allWorth q_652 ⟨Nat.le_of_ble_eq_true rfl, Nat.le_of_ble_eq_true rfl⟩ rfl (st := [.int x8]) rfl (Nat.le_of_ble_eq_true rfl) d_M_worthOfAYear_20 ?_
  refine g_isub hz d_M_worthOfAYear_23 ?_
  exact g_iret hz (rti h hq) d_M_worthOfAYear_24
def f_X_year (s : Mm) : Option (Int32 × Mm) :=
  bn (f_M_worthOfAYear s) fun x3 s2 =>
  some (x3, s2)
set_option maxRecDepth 20000 in
theorem c_X_year (l : Launch) {s : Mm}  {r' : Int32} {s' : Mm}  (h : f_X_year s = some (r', s')) : Cm l y_X_year b_X_year 1 (some .int) 5 109 [.ref 165] s s' (some (.int r')) := by
  refine Cm.of (own := "PassedOnAndBetter") (by decide) rfl (fun ad => Nat.le_of_ble_eq_true rfl) ?_
  intro z hz hq
  show G l z b_X_year 1 0 [(0, .ref 165)] [] s
  unfold f_X_year at h
  refine g_aload_n hz 0 d_X_year_0 rfl rfl ?_
  refine gf_X_mind hz q_311 d_X_year_1 ?_
  refine bn_use h (fun x3 s2 e1 h => ?_)
  refine g_callVi hz (c_M_worthOfAYear l e1) (by decide) rc_M rfl rfl m_M_worthOfAYear mi_M_worthOfAYear ms_M_worthOfAYear q_930 ⟨Nat.le_of_ble_eq_true rfl, Nat.le_of_ble_eq_true rfl⟩ rfl (st := []) rfl (Nat.le_of_ble_eq_true rfl) d_X_year_4 ?_
  exact g_iret hz (rti h hq) d_X_year_7
def f_N_isFull (s : Mm) : Option (Int32 × Mm) :=
  if (s 171 1) < 12 then
    some (0, s)
  else
    some (1, s)
set_option maxRecDepth 20000 in
theorem c_N_isFull (l : Launch) {s : Mm}  {r' : Int32} {s' : Mm}  (h : f_N_isFull s = some (r', s')) : Cm l y_N_isFull b_N_isFull 1 (some .boolean) 0 0 [.ref 171] s s' (some (.int r')) := by
  refine Cm.of (own := "PassedOnAndBetter$Numbers") (by decide) rfl (fun ad => Nat.le_of_ble_eq_true rfl) ?_
  intro z hz hq
  show G l z b_N_isFull 1 0 [(0, .ref 171)] [] s
  unfold f_N_isFull at h
  refine g_aload_n hz 0 d_N_isFull_0 rfl rfl ?_
  refine gf_N_told hz q_273 d_N_isFull_1 ?_
  refine g_bipush hz (v := 12) d_N_isFull_4 (by decide) ?_
  refine g_icmp_lt hz (tgt := 13) d_N_isFull_6 (by decide) (fun c1 => ?_) (fun c1 => ?_)
  · replace h := (if_pos c1).symm.trans h
    refine g_iconst hz d_N_isFull_13 ki_0 ?_
    exact g_zret hz (rti h hq) (Or.inl rfl) d_N_isFull_14
  · replace h := (if_neg c1).symm.trans h
    refine g_iconst hz d_N_isFull_9 ki_1 ?_
    refine g_goto hz (tgt := 14) d_N_isFull_10 (by decide) ?_
    exact g_zret hz (rti h hq) (Or.inr rfl) d_N_isFull_14
def f_N_put (s : Mm) (a1 : Int32) : Option (Int32 × Mm) :=
  bv (f_X_setCell s 172 (s 171 1) a1) fun s2 =>
  nm (mU s2 171 1 ((s2 171 1) + 1)) fun s3 =>
  some (s3 171 1, s3)
set_option maxRecDepth 20000 in
theorem c_N_put (l : Launch) {s : Mm} {a1 : Int32} {r' : Int32} {s' : Mm}  (h : f_N_put s a1 = some (r', s')) : Cm l y_N_put b_N_put 2 (some .int) 1 22 [.ref 171, .int a1] s s' (some (.int r')) := by
  refine Cm.of (own := "PassedOnAndBetter$Numbers") (by decide) rfl (fun ad => Nat.le_of_ble_eq_true rfl) ?_
  intro z hz hq
  show G l z b_N_put 2 0 [(0, .ref 171), (1, .int a1)] [] s
  unfold f_N_put at h
  refine g_aload_n hz 0 d_N_put_0 rfl rfl ?_
  refine gf_N_cells hz q_272 d_N_put_1 ?_
  refine g_aload_n hz 0 d_N_put_4 rfl rfl ?_
  refine gf_N_told hz q_273 d_N_put_5 ?_
  refine g_iload_n hz 1 d_N_put_8 rfl rfl ?_
  refine bv_use h (fun s2 e1 h => ?_)
  refine g_callSNv hz (c_X_setCell l (by decide) e1) m_X_setCell mi_X_setCell (fun D cy s h => h.2.2.2.2.2.2.2.2) ⟨Nat.le_of_ble_eq_true rfl, Nat.le_of_ble_eq_true rfl⟩ rfl (st := []) rfl (Nat.le_of_ble_eq_true rfl) d_N_put_9 ?_
  refine g_aload_n hz 0 d_N_put_12 rfl rfl ?_
  refine g_dup hz d_N_put_13 rfl ?_
  refine gf_N_told hz q_273 d_N_put_14 ?_
  refine g_iconst hz d_N_put_17 ki_1 ?_
  refine g_iadd hz d_N_put_18 ?_
  refine pf_N_told hz q_273 d_N_put_19 (fun s3 e4 => ?_)
  replace h := nm_use h e4
  refine g_aload_n hz 0 d_N_put_22 rfl rfl ?_
  refine gf_N_told hz q_273 d_N_put_23 ?_
  exact g_iret hz (rti h hq) d_N_put_26
def k_X_row_25 (v1 : Int32) (v2 : Int32) (s : Mm) : Option (Int32 × Mm) :=
  if v2 = 0 then
    bn (f_N_put s v1) fun x11 s10 =>
    some (x11, s10)
  else
    bn (f_X_refuse s v2) fun x8 s7 =>
    some (x8, s7)
set_option maxRecDepth 20000 in
theorem w_X_row_25 {l : Launch} {z : Zt} (hz : ZOk z b_X_row 3 "PassedOnAndBetter" 2 43) {r' : Int32} {s' : Mm} (hq : ZR z (some .int) s' (some (.int r'))) (v1 : Int32) (v2 : Int32) (s : Mm) (h : k_X_row_25 v1 v2 s = some (r', s')) : G l z b_X_row 3 25 [(0, .ref 165), (1, .int v1), (2, .int v2)] [] s := by
  unfold k_X_row_25 at h
  refine g_iload_n hz 2 d_X_row_25 rfl rfl ?_
  refine g_if_ne hz (tgt := 40) d_X_row_26 (by decide) (fun c5 => ?_) (fun c5 => ?_)
  · replace h := (if_neg c5).symm.trans h
    refine g_aload_n hz 0 d_X_row_40 rfl rfl ?_
    refine g_iload_n hz 2 d_X_row_41 rfl rfl ?_
    refine bn_use h (fun x8 s7 e6 h => ?_)
    refine g_callVi hz (c_X_refuse l e6) (by decide) rc_X rfl rfl m_X_refuse mi_X_refuse ms_X_refuse q_349 ⟨Nat.le_of_ble_eq_true rfl, Nat.le_of_ble_eq_true rfl⟩ rfl (st := []) rfl (Nat.le_of_ble_eq_true rfl) d_X_row_42 ?_
    exact g_iret hz (rti h hq) d_X_row_45
  · replace h := (if_pos c5).symm.trans h
    refine g_aload_n hz 0 d_X_row_29 rfl rfl ?_
    refine gf_X_numbers hz q_310 d_X_row_30 ?_
    refine g_iload_n hz 1 d_X_row_33 rfl rfl ?_
    refine bn_use h (fun x11 s10 e9 h => ?_)
    refine g_callVi hz (c_N_put l e9) (by decide) rc_N rfl rfl m_N_put mi_N_put ms_N_put q_942 ⟨Nat.le_of_ble_eq_true rfl, Nat.le_of_ble_eq_true rfl⟩ rfl (st := []) rfl (Nat.le_of_ble_eq_true rfl) d_X_row_34 ?_
    refine g_goto hz (tgt := 45) d_X_row_37 (by decide) ?_
    exact g_iret hz (rti h hq) d_X_row_45
def f_X_row (s : Mm) (a1 : Int32) : Option (Int32 × Mm) :=
  bn (f_X_between s a1 0 99) fun x3 s2 =>
  if x3 = 0 then
    bn (f_N_isFull s2) fun x14 s13 =>
    if x14 = 0 then
      k_X_row_25 a1 x3 s13
    else
      k_X_row_25 a1 (-6) s13
  else
    k_X_row_25 a1 x3 s2
set_option maxRecDepth 20000 in
theorem c_X_row (l : Launch) {s : Mm} {a1 : Int32} {r' : Int32} {s' : Mm}  (h : f_X_row s a1 = some (r', s')) : Cm l y_X_row b_X_row 3 (some .int) 2 43 [.ref 165, .int a1] s s' (some (.int r')) := by
  refine Cm.of (own := "PassedOnAndBetter") (by decide) rfl (fun ad => Nat.le_of_ble_eq_true rfl) ?_
  intro z hz hq
  show G l z b_X_row 3 0 [(0, .ref 165), (1, .int a1)] [] s
  unfold f_X_row at h
  refine g_iload_n hz 1 d_X_row_0 rfl rfl ?_
  refine g_iconst hz d_X_row_1 ki_0 ?_
  refine g_bipush hz (v := 99) d_X_row_2 (by decide) ?_
  refine bn_use h (fun x3 s2 e1 h => ?_)
  refine g_callSi hz (c_X_between l e1) m_X_between mi_X_between q_335 ⟨Nat.le_of_ble_eq_true rfl, Nat.le_of_ble_eq_true rfl⟩ rfl (st := []) rfl (Nat.le_of_ble_eq_true rfl) d_X_row_4 ?_
  refine g_istore_n hz (L' := [(2, .int x3), (0, .ref 165), (1, .int a1)]) d_X_row_7 rfl (by decide) rfl ?_
  refine g_iload_n hz 0 d_X_row_8 rfl rfl ?_
  refine g_if_ne hz (tgt := 25) d_X_row_9 (by decide) (fun c4 => ?_) (fun c4 => ?_)
  · replace h := (if_neg c4).symm.trans h
    refine g_sub [1, 2, 0] rfl ?_
    exact w_X_row_25 hz hq a1 x3 _ h
  · replace h := (if_pos c4).symm.trans h
    refine g_aload_n hz 1 d_X_row_12 rfl rfl ?_
    refine gf_X_numbers hz q_310 d_X_row_13 ?_
    refine bn_use h (fun x14 s13 e12 h => ?_)
    refine g_callVi hz (c_N_isFull l e12) (by decide) rc_N rfl rfl m_N_isFull mi_N_isFull ms_N_isFull q_938 ⟨Nat.le_of_ble_eq_true rfl, Nat.le_of_ble_eq_true rfl⟩ rfl (st := []) rfl (Nat.le_of_ble_eq_true rfl) d_X_row_16 ?_
    refine g_if_eq hz (tgt := 25) d_X_row_19 (by decide) (fun c15 => ?_) (fun c15 => ?_)
    · replace h := (if_pos c15).symm.trans h
      refine g_sub [1, 2, 0] rfl ?_
      exact w_X_row_25 hz hq a1 x3 _ h
    · replace h := (if_neg c15).symm.trans h
      refine g_bipush hz (v := (-6)) d_X_row_22 (by decide) ?_
      refine g_istore_n hz (L' := [(2, .int (-6)), (0, .ref 165), (1, .int a1)]) d_X_row_24 rfl (by decide) rfl ?_
      refine g_sub [1, 2, 0] rfl ?_
      exact w_X_row_25 hz hq a1 (-6) _ h
def k_C_firstMisjudged_9 : Nat → Nat → Int32 → Mm → Option (Int32 × Mm)
  | 0, _, _, _ => none
  | n + 1, o, v2, s => if (s 171 1) ≤ v2 then
      some ((-9), s)
    else
      bn (f_C_hasGift s o v2) fun x4 s3 =>
      if x4 = 0 then
        some (v2, s3)
      else
        bn (f_C_giftAt s3 o v2) fun x8 s7 =>
        bn (f_N_numberAt s7 v2) fun x11 s10 =>
        if (s7 x8 2) = x11 then
          k_C_firstMisjudged_9 n o (v2 + 1) s10
        else
          some (v2, s10)
set_option maxRecDepth 20000 in
theorem w_C_firstMisjudged_9 {l : Launch} {z : Zt} (hz : ZOk z b_C_firstMisjudged 3 "PassedOnAndBetter$Company" 2 42) {r' : Int32} {s' : Mm} (hq : ZR z (some .int) s' (some (.int r'))) : ∀ (n : Nat) (o : Nat) (v2 : Int32) (ho : iC o) (s : Mm), k_C_firstMisjudged_9 n o v2 s = some (r', s') → G l z b_C_firstMisjudged 3 9 [(0, .ref o), (1, .ref 171), (2, .int v2)] [] s := by
  intro n
  induction n with
  | zero => intro o v2 ho s h; unfold k_C_firstMisjudged_9 at h; cases h
  | succ n ih =>
    intro o v2 ho s h
    unfold k_C_firstMisjudged_9 at h
    refine g_iload_n hz 2 d_C_firstMisjudged_9 rfl rfl ?_
    refine g_aload_n hz 1 d_C_firstMisjudged_10 rfl rfl ?_
    refine gf_N_told hz q_275 d_C_firstMisjudged_11 ?_
    refine g_icmp_ge hz (tgt := 49) d_C_firstMisjudged_14 (by decide) (fun c1 => ?_) (fun c1 => ?_)
    · replace h := (if_pos c1).symm.trans h
      refine g_bipush hz (v := (-9)) d_C_firstMisjudged_49 (by decide) ?_
      exact g_iret hz (rti h hq) d_C_firstMisjudged_51
    · replace h := (if_neg c1).symm.trans h
      refine g_aload_n hz 0 d_C_firstMisjudged_17 rfl rfl ?_
      refine g_iload_n hz 2 d_C_firstMisjudged_18 rfl rfl ?_
      refine bn_use h (fun x4 s3 e2 h => ?_)
      refine g_callVi hz (c_C_hasGift l ho e2) (iC_lt ho) (rc_C ho) rfl rfl m_C_hasGift mi_C_hasGift ms_C_hasGift q_955 ⟨Nat.le_of_ble_eq_true rfl, Nat.le_of_ble_eq_true rfl⟩ rfl (st := []) rfl (Nat.le_of_ble_eq_true rfl) d_C_firstMisjudged_19 ?_
      refine g_if_eq hz (tgt := 41) d_C_firstMisjudged_22 (by decide) (fun c5 => ?_) (fun c5 => ?_)
      · replace h := (if_pos c5).symm.trans h
        refine g_iload_n hz 2 d_C_firstMisjudged_41 rfl rfl ?_
        exact g_iret hz (rti h hq) d_C_firstMisjudged_42
      · replace h := (if_neg c5).symm.trans h
        refine g_aload_n hz 0 d_C_firstMisjudged_25 rfl rfl ?_
        refine g_iload_n hz 2 d_C_firstMisjudged_26 rfl rfl ?_
        refine bn_use h (fun x8 s7 e6 h => ?_)
        have hx8 := rr_C_giftAt ho e6
        refine g_callVr hz (c_C_giftAt l ho e6) (iC_lt ho) (rc_C ho) rfl rfl m_C_giftAt mi_C_giftAt ms_C_giftAt q_377 ⟨Nat.le_of_ble_eq_true rfl, Nat.le_of_ble_eq_true rfl⟩ rfl (st := []) rfl (Nat.le_of_ble_eq_true rfl) d_C_firstMisjudged_27 ?_
        refine gf_G_with hz hx8 q_183 d_C_firstMisjudged_30 ?_
        refine g_aload_n hz 1 d_C_firstMisjudged_33 rfl rfl ?_
        refine g_iload_n hz 2 d_C_firstMisjudged_34 rfl rfl ?_
        refine bn_use h (fun x11 s10 e9 h => ?_)
        refine g_callVi hz (c_N_numberAt l e9) (by decide) rc_N rfl rfl m_N_numberAt mi_N_numberAt ms_N_numberAt q_956 ⟨Nat.le_of_ble_eq_true rfl, Nat.le_of_ble_eq_true rfl⟩ rfl (st := [.int (s7 x8 2)]) rfl (Nat.le_of_ble_eq_true rfl) d_C_firstMisjudged_35 ?_
        refine g_icmp_eq hz (tgt := 43) d_C_firstMisjudged_38 (by decide) (fun c12 => ?_) (fun c12 => ?_)
        · replace h := (if_pos c12).symm.trans h
          refine g_iinc hz (v := v2 + 1) (L' := [(2, .int (v2 + 1)), (0, .ref o), (1, .ref 171)]) 2 d_C_firstMisjudged_43 rfl (congrArg (fun q => v2 + q) ki_1) (by decide) rfl ?_
          refine g_goto hz (tgt := 9) d_C_firstMisjudged_46 (by decide) ?_
          refine g_sub [1, 2, 0] rfl ?_
          exact ih o (v2 + 1) ho _ h
        · replace h := (if_neg c12).symm.trans h
          refine g_iload_n hz 2 d_C_firstMisjudged_41 rfl rfl ?_
          exact g_iret hz (rti h hq) d_C_firstMisjudged_42
def f_C_firstMisjudged (s : Mm) (o : Nat) : Option (Int32 × Mm) :=
  k_C_firstMisjudged_9 KF o 0 s
set_option maxRecDepth 20000 in
theorem c_C_firstMisjudged (l : Launch) {s : Mm} {o : Nat} {r' : Int32} {s' : Mm} (ho : iC o) (h : f_C_firstMisjudged s o = some (r', s')) : Cm l y_C_firstMisjudged b_C_firstMisjudged 3 (some .int) 2 42 [.ref o, .ref 171] s s' (some (.int r')) := by
  refine Cm.of (own := "PassedOnAndBetter$Company") (by decide) rfl (fun ad => Nat.le_of_ble_eq_true rfl) ?_
  intro z hz hq
  show G l z b_C_firstMisjudged 3 0 [(0, .ref o), (1, .ref 171)] [] s
  unfold f_C_firstMisjudged at h
  refine g_aload_n hz 1 d_C_firstMisjudged_0 rfl rfl ?_
  refine g_ifnonnull hz (tgt := 7) d_C_firstMisjudged_1 (by decide) ?_
  refine g_iconst hz d_C_firstMisjudged_7 ki_0 ?_
  refine g_istore_n hz (L' := [(2, .int 0), (0, .ref o), (1, .ref 171)]) d_C_firstMisjudged_8 rfl (by decide) rfl ?_
  refine g_sub [1, 2, 0] rfl ?_
  exact w_C_firstMisjudged_9 hz hq KF o 0 ho _ h
def f_N_drop (s : Mm) : Option (Int32 × Mm) :=
  nm (s 171 1) fun x1 =>
  nm (mU s 171 1 0) fun s3 =>
  some (x1, s3)
set_option maxRecDepth 20000 in
theorem c_N_drop (l : Launch) {s : Mm}  {r' : Int32} {s' : Mm}  (h : f_N_drop s = some (r', s')) : Cm l y_N_drop b_N_drop 2 (some .int) 0 0 [.ref 171] s s' (some (.int r')) := by
  refine Cm.of (own := "PassedOnAndBetter$Numbers") (by decide) rfl (fun ad => Nat.le_of_ble_eq_true rfl) ?_
  intro z hz hq
  show G l z b_N_drop 2 0 [(0, .ref 171)] [] s
  unfold f_N_drop at h
  refine g_aload_n hz 0 d_N_drop_0 rfl rfl ?_
  refine gf_N_told hz q_273 d_N_drop_1 ?_
  refine g_nmi (fun x1 e2 => ?_)
  replace h := nm_use h e2
  refine g_istore_n hz (L' := [(1, .int x1), (0, .ref 171)]) d_N_drop_4 rfl (by decide) rfl ?_
  refine g_aload_n hz 1 d_N_drop_5 rfl rfl ?_
  refine g_iconst hz d_N_drop_6 ki_0 ?_
  refine pf_N_told hz q_273 d_N_drop_7 (fun s3 e4 => ?_)
  replace h := nm_use h e4
  refine g_iload_n hz 0 d_N_drop_10 rfl rfl ?_
  exact g_iret hz (rti h hq) d_N_drop_11
def f_X_judge (s : Mm) : Option (Int32 × Mm) :=
  bn (f_C_firstMisjudged s 0) fun x3 s2 =>
  bn (f_N_drop s2) fun x6 s5 =>
  some (x3, s5)
set_option maxRecDepth 20000 in
theorem c_X_judge (l : Launch) {s : Mm}  {r' : Int32} {s' : Mm}  (h : f_X_judge s = some (r', s')) : Cm l y_X_judge b_X_judge 2 (some .int) 3 64 [.ref 165] s s' (some (.int r')) := by
  refine Cm.of (own := "PassedOnAndBetter") (by decide) rfl (fun ad => Nat.le_of_ble_eq_true rfl) ?_
  intro z hz hq
  show G l z b_X_judge 2 0 [(0, .ref 165)] [] s
  unfold f_X_judge at h
  refine g_aload_n hz 0 d_X_judge_0 rfl rfl ?_
  refine gf_X_now hz q_306 d_X_judge_1 ?_
  refine g_aload_n hz 0 d_X_judge_4 rfl rfl ?_
  refine gf_X_numbers hz q_310 d_X_judge_5 ?_
  refine bn_use h (fun x3 s2 e1 h => ?_)
  refine g_callVi hz (c_C_firstMisjudged l (by decide) e1) (iC_lt (by decide)) (rc_C (by decide)) rfl rfl m_C_firstMisjudged mi_C_firstMisjudged ms_C_firstMisjudged q_951 ⟨Nat.le_of_ble_eq_true rfl, Nat.le_of_ble_eq_true rfl⟩ rfl (st := []) rfl (Nat.le_of_ble_eq_true rfl) d_X_judge_8 ?_
  refine g_istore_n hz (L' := [(1, .int x3), (0, .ref 165)]) d_X_judge_11 rfl (by decide) rfl ?_
  refine g_aload_n hz 1 d_X_judge_12 rfl rfl ?_
  refine gf_X_numbers hz q_310 d_X_judge_13 ?_
  refine bn_use h (fun x6 s5 e4 h => ?_)
  refine g_callVi hz (c_N_drop l e4) (by decide) rc_N rfl rfl m_N_drop mi_N_drop ms_N_drop q_957 ⟨Nat.le_of_ble_eq_true rfl, Nat.le_of_ble_eq_true rfl⟩ rfl (st := []) rfl (Nat.le_of_ble_eq_true rfl) d_X_judge_16 ?_
  refine g_pop hz d_X_judge_19 rfl ?_
  refine g_iload_n hz 0 d_X_judge_20 rfl rfl ?_
  exact g_iret hz (rti h hq) d_X_judge_21
def f_X_clear (s : Mm) : Option (Int32 × Mm) :=
  bn (f_N_drop s) fun x3 s2 =>
  some (x3, s2)
set_option maxRecDepth 20000 in
theorem c_X_clear (l : Launch) {s : Mm}  {r' : Int32} {s' : Mm}  (h : f_X_clear s = some (r', s')) : Cm l y_X_clear b_X_clear 1 (some .int) 1 21 [.ref 165] s s' (some (.int r')) := by
  refine Cm.of (own := "PassedOnAndBetter") (by decide) rfl (fun ad => Nat.le_of_ble_eq_true rfl) ?_
  intro z hz hq
  show G l z b_X_clear 1 0 [(0, .ref 165)] [] s
  unfold f_X_clear at h
  refine g_aload_n hz 0 d_X_clear_0 rfl rfl ?_
  refine gf_X_numbers hz q_310 d_X_clear_1 ?_
  refine bn_use h (fun x3 s2 e1 h => ?_)
  refine g_callVi hz (c_N_drop l e1) (by decide) rc_N rfl rfl m_N_drop mi_N_drop ms_N_drop q_957 ⟨Nat.le_of_ble_eq_true rfl, Nat.le_of_ble_eq_true rfl⟩ rfl (st := []) rfl (Nat.le_of_ble_eq_true rfl) d_X_clear_4 ?_
  exact g_iret hz (rti h hq) d_X_clear_7
def k_M_drawNexts_13 : Nat → Int32 → Int32 → Int32 → Mm → Option (Int32 × Mm)
  | 0, _, _, _, _ => none
  | n + 1, v2, v3, v4, s => if v3 ≤ v4 then
      some (v2, s)
    else
      nm ((v2 * 1103515245) + 12345) fun x4 =>
      gz v3 <|
      nm (((x4 &&& 2147483647) / 65536) - ((x4 &&& 2147483647) / 65536) / v3 * v3) fun x7 =>
      bn (f_C_friendAt s 2 v4) fun x11 s10 =>
      if x7 = v4 then
        nm (mU s10 x11 3 (-1)) fun s15 =>
        k_M_drawNexts_13 n x4 v3 (v4 + 1) s15
      else
        nm (mU s10 x11 3 x7) fun s13 =>
        k_M_drawNexts_13 n x4 v3 (v4 + 1) s13
set_option maxRecDepth 20000 in
theorem w_M_drawNexts_13 {l : Launch} {z : Zt} (hz : ZOk z b_M_drawNexts 6 "PassedOnAndBetter$Mind" 1 22) {r' : Int32} {s' : Mm} (hq : ZR z (some .int) s' (some (.int r'))) : ∀ (n : Nat) (v2 : Int32) (v3 : Int32) (v4 : Int32) (s : Mm), k_M_drawNexts_13 n v2 v3 v4 s = some (r', s') → G l z b_M_drawNexts 6 13 [(0, .ref 173), (2, .int v2), (3, .int v3), (4, .int v4)] [] s := by
  intro n
  induction n with
  | zero => intro v2 v3 v4 s h; unfold k_M_drawNexts_13 at h; cases h
  | succ n ih =>
    intro v2 v3 v4 s h
    unfold k_M_drawNexts_13 at h
    refine g_iload hz 3 d_M_drawNexts_13 rfl ?_
    refine g_iload_n hz 2 d_M_drawNexts_15 rfl rfl ?_
    refine g_icmp_ge hz (tgt := 70) d_M_drawNexts_16 (by decide) (fun c3 => ?_) (fun c3 => ?_)
    · replace h := (if_pos c3).symm.trans h
      refine g_iload_n hz 1 d_M_drawNexts_70 rfl rfl ?_
      exact g_iret hz (rti h hq) d_M_drawNexts_71
    · replace h := (if_neg c3).symm.trans h
      refine g_iload_n hz 1 d_M_drawNexts_19 rfl rfl ?_
      refine g_ldc hz q_977 d_M_drawNexts_20 ?_
      refine g_imul hz d_M_drawNexts_22 ?_
      refine g_sipush hz (v := 12345) d_M_drawNexts_23 (by decide) ?_
      refine g_iadd hz d_M_drawNexts_26 ?_
      refine g_nmi (fun x4 e5 => ?_)
      replace h := nm_use h e5
      refine g_istore_n hz (L' := [(2, .int x4), (0, .ref 173), (3, .int v3), (4, .int v4)]) d_M_drawNexts_27 rfl (by decide) rfl ?_
      refine g_iload_n hz 0 d_M_drawNexts_28 rfl rfl ?_
      refine g_ldc hz q_978 d_M_drawNexts_29 ?_
      refine g_iand hz d_M_drawNexts_31 ?_
      refine g_ldc hz q_979 d_M_drawNexts_32 ?_
      refine g_idiv hz d_M_drawNexts_34 (by decide) ?_
      refine g_iload_n hz 2 d_M_drawNexts_35 rfl rfl ?_
      obtain ⟨n6, h⟩ := gz_use h
      refine g_irem hz d_M_drawNexts_36 n6 ?_
      refine g_nmi (fun x7 e8 => ?_)
      replace h := nm_use h e8
      refine g_istore hz (L' := [(5, .int x7), (2, .int x4), (0, .ref 173), (3, .int v3), (4, .int v4)]) d_M_drawNexts_37 (by decide) rfl ?_
      refine g_aload_n hz 2 d_M_drawNexts_39 rfl rfl ?_
      refine gf_M_thought hz q_292 d_M_drawNexts_40 ?_
      refine g_iload hz 4 d_M_drawNexts_43 rfl ?_
      refine bn_use h (fun x11 s10 e9 h => ?_)
      have hx11 := rr_C_friendAt (by decide) e9
      refine g_callVr hz (c_C_friendAt l (by decide) e9) (iC_lt (by decide)) (rc_C (by decide)) rfl rfl m_C_friendAt mi_C_friendAt ms_C_friendAt q_686 ⟨Nat.le_of_ble_eq_true rfl, Nat.le_of_ble_eq_true rfl⟩ rfl (st := []) rfl (Nat.le_of_ble_eq_true rfl) d_M_drawNexts_45 ?_
      refine g_iload hz 0 d_M_drawNexts_48 rfl ?_
      refine g_iload hz 4 d_M_drawNexts_50 rfl ?_
      refine g_icmp_ne hz (tgt := 59) d_M_drawNexts_52 (by decide) (fun c12 => ?_) (fun c12 => ?_)
      · replace h := (if_neg c12).symm.trans h
        refine g_iload hz 0 d_M_drawNexts_59 rfl ?_
        refine pf_F_next hz hx11 q_131 d_M_drawNexts_61 (fun s13 e14 => ?_)
        replace h := nm_use h e14
        refine g_iinc hz (v := v4 + 1) (L' := [(4, .int (v4 + 1)), (5, .int x7), (2, .int x4), (0, .ref 173), (3, .int v3)]) 4 d_M_drawNexts_64 rfl (congrArg (fun q => v4 + q) ki_1) (by decide) rfl ?_
        refine g_goto hz (tgt := 13) d_M_drawNexts_67 (by decide) ?_
        refine g_sub [3, 2, 4, 0] rfl ?_
        exact ih x4 v3 (v4 + 1) _ h
      · replace h := (if_pos c12).symm.trans h
        refine g_iconst hz d_M_drawNexts_55 ki_m1 ?_
        refine g_goto hz (tgt := 61) d_M_drawNexts_56 (by decide) ?_
        refine pf_F_next hz hx11 q_131 d_M_drawNexts_61 (fun s15 e16 => ?_)
        replace h := nm_use h e16
        refine g_iinc hz (v := v4 + 1) (L' := [(4, .int (v4 + 1)), (5, .int x7), (2, .int x4), (0, .ref 173), (3, .int v3)]) 4 d_M_drawNexts_64 rfl (congrArg (fun q => v4 + q) ki_1) (by decide) rfl ?_
        refine g_goto hz (tgt := 13) d_M_drawNexts_67 (by decide) ?_
        refine g_sub [3, 2, 4, 0] rfl ?_
        exact ih x4 v3 (v4 + 1) _ h
def f_M_drawNexts (s : Mm) (a1 : Int32) : Option (Int32 × Mm) :=
  nm (s 2 4) fun x1 =>
  k_M_drawNexts_13 KF a1 x1 0 s
set_option maxRecDepth 20000 in
theorem c_M_drawNexts (l : Launch) {s : Mm} {a1 : Int32} {r' : Int32} {s' : Mm}  (h : f_M_drawNexts s a1 = some (r', s')) : Cm l y_M_drawNexts b_M_drawNexts 6 (some .int) 1 22 [.ref 173, .int a1] s s' (some (.int r')) := by
  refine Cm.of (own := "PassedOnAndBetter$Mind") (by decide) rfl (fun ad => Nat.le_of_ble_eq_true rfl) ?_
  intro z hz hq
  show G l z b_M_drawNexts 6 0 [(0, .ref 173), (1, .int a1)] [] s
  unfold f_M_drawNexts at h
  refine g_iload_n hz 1 d_M_drawNexts_0 rfl rfl ?_
  refine g_istore_n hz (L' := [(2, .int a1), (0, .ref 173), (1, .int a1)]) d_M_drawNexts_1 rfl (by decide) rfl ?_
  refine g_aload_n hz 1 d_M_drawNexts_2 rfl rfl ?_
  refine gf_M_thought hz q_292 d_M_drawNexts_3 ?_
  refine gf_C_friends hz (by decide) q_208 d_M_drawNexts_6 ?_
  refine g_nmi (fun x1 e2 => ?_)
  replace h := nm_use h e2
  refine g_istore_n hz (L' := [(3, .int x1), (2, .int a1), (0, .ref 173), (1, .int a1)]) d_M_drawNexts_9 rfl (by decide) rfl ?_
  refine g_iconst hz d_M_drawNexts_10 ki_0 ?_
  refine g_istore hz (L' := [(4, .int 0), (3, .int x1), (2, .int a1), (0, .ref 173), (1, .int a1)]) d_M_drawNexts_11 (by decide) rfl ?_
  refine g_sub [3, 2, 1, 0] rfl ?_
  exact w_M_drawNexts_13 hz hq KF a1 x1 0 _ h
def k_M_moreByLot_12 : Nat → Int32 → Int32 → Int32 → Int32 → Int32 → Int32 → Mm → Option (Int32 × Mm)
  | 0, _, _, _, _, _, _, _ => none
  | n + 1, v1, v3, v4, v5, v6, v7, s => if v1 ≤ v7 then
      if v3 = 0 then
        some (v5, s)
      else
        some (v6, s)
    else
      bn (f_M_recall s) fun x5 s4 =>
      bn (f_M_drawNexts s4 v4) fun x8 s7 =>
      bv (f_C_pass s7 2 24) fun s10 =>
      bn (f_C_allWorth s10 2) fun x13 s12 =>
      bn (f_C_allWorth s12 0) fun x16 s15 =>
      nm (v5 + (x13 - x16)) fun x17 =>
      bn (f_C_allHands s15 2) fun x21 s20 =>
      bn (f_C_allHands s20 0) fun x24 s23 =>
      nm (v6 + (x21 - x24)) fun x25 =>
      k_M_moreByLot_12 n v1 v3 x8 x17 x25 (v7 + 1) s23
set_option maxRecDepth 20000 in
theorem w_M_moreByLot_12 {l : Launch} {z : Zt} (hz : ZOk z b_M_moreByLot 8 "PassedOnAndBetter$Mind" 4 89) {r' : Int32} {s' : Mm} (hq : ZR z (some .int) s' (some (.int r'))) : ∀ (n : Nat) (v1 : Int32) (v3 : Int32) (v4 : Int32) (v5 : Int32) (v6 : Int32) (v7 : Int32) (s : Mm), k_M_moreByLot_12 n v1 v3 v4 v5 v6 v7 s = some (r', s') → G l z b_M_moreByLot 8 12 [(0, .ref 173), (1, .int v1), (3, .int v3), (4, .int v4), (5, .int v5), (6, .int v6), (7, .int v7)] [] s := by
  intro n
  induction n with
  | zero => intro v1 v3 v4 v5 v6 v7 s h; unfold k_M_moreByLot_12 at h; cases h
  | succ n ih =>
    intro v1 v3 v4 v5 v6 v7 s h
    unfold k_M_moreByLot_12 at h
    refine g_iload hz 6 d_M_moreByLot_12 rfl ?_
    refine g_iload_n hz 1 d_M_moreByLot_14 rfl rfl ?_
    refine g_icmp_ge hz (tgt := 86) d_M_moreByLot_15 (by decide) (fun c1 => ?_) (fun c1 => ?_)
    · replace h := (if_pos c1).symm.trans h
      refine g_iload_n hz 2 d_M_moreByLot_86 rfl rfl ?_
      refine g_if_ne hz (tgt := 95) d_M_moreByLot_87 (by decide) (fun c2 => ?_) (fun c2 => ?_)
      · replace h := (if_neg c2).symm.trans h
        refine g_iload hz 5 d_M_moreByLot_95 rfl ?_
        exact g_iret hz (rti h hq) d_M_moreByLot_97
      · replace h := (if_pos c2).symm.trans h
        refine g_iload hz 4 d_M_moreByLot_90 rfl ?_
        refine g_goto hz (tgt := 97) d_M_moreByLot_92 (by decide) ?_
        exact g_iret hz (rti h hq) d_M_moreByLot_97
    · replace h := (if_neg c1).symm.trans h
      refine g_aload_n hz 0 d_M_moreByLot_18 rfl rfl ?_
      refine bn_use h (fun x5 s4 e3 h => ?_)
      have hx5 := rr_M_recall e3
      refine g_callVr hz (c_M_recall l e3) (by decide) rc_M rfl rfl m_M_recall mi_M_recall ms_M_recall q_632 ⟨Nat.le_of_ble_eq_true rfl, Nat.le_of_ble_eq_true rfl⟩ rfl (st := []) rfl (Nat.le_of_ble_eq_true rfl) d_M_moreByLot_19 ?_
      refine g_pop hz d_M_moreByLot_22 rfl ?_
      refine g_aload_n hz 0 d_M_moreByLot_23 rfl rfl ?_
      refine g_iload hz 3 d_M_moreByLot_24 rfl ?_
      refine bn_use h (fun x8 s7 e6 h => ?_)
      refine g_callVi hz (c_M_drawNexts l e6) (by decide) rc_M rfl rfl m_M_drawNexts mi_M_drawNexts ms_M_drawNexts q_973 ⟨Nat.le_of_ble_eq_true rfl, Nat.le_of_ble_eq_true rfl⟩ rfl (st := []) rfl (Nat.le_of_ble_eq_true rfl) d_M_moreByLot_26 ?_
      refine g_istore hz (L' := [(4, .int x8), (0, .ref 173), (1, .int v1), (3, .int v3), (5, .int v5), (6, .int v6), (7, .int v7)]) d_M_moreByLot_29 (by decide) rfl ?_
      refine g_aload_n hz 1 d_M_moreByLot_31 rfl rfl ?_
      refine gf_M_thought hz q_292 d_M_moreByLot_32 ?_
      refine g_bipush hz (v := 24) d_M_moreByLot_35 (by decide) ?_
      refine bv_use h (fun s10 e9 h => ?_)
      refine g_callVv hz (c_C_pass l (by decide) e9) (iC_lt (by decide)) (rc_C (by decide)) rfl rfl m_C_pass mi_C_pass ms_C_pass q_651 ⟨Nat.le_of_ble_eq_true rfl, Nat.le_of_ble_eq_true rfl⟩ rfl (st := []) rfl (Nat.le_of_ble_eq_true rfl) d_M_moreByLot_37 ?_
      refine g_iload hz 4 d_M_moreByLot_40 rfl ?_
      refine g_aload_n hz 1 d_M_moreByLot_42 rfl rfl ?_
      refine gf_M_thought hz q_292 d_M_moreByLot_43 ?_
      refine bn_use h (fun x13 s12 e11 h => ?_)
      refine g_callVi hz (c_C_allWorth l (by decide) e11) (iC_lt (by decide)) (rc_C (by decide)) rfl rfl m_C_allWorth mi_C_allWorth ms_C_allWorth q_652 ⟨Nat.le_of_ble_eq_true rfl, Nat.le_of_ble_eq_true rfl⟩ rfl (st := [.int v5]) rfl (Nat.le_of_ble_eq_true rfl) d_M_moreByLot_46 ?_
      refine g_aload_n hz 1 d_M_moreByLot_49 rfl rfl ?_
      refine gf_M_now hz q_290 d_M_moreByLot_50 ?_
      refine bn_use h (fun x16 s15 e14 h => ?_)
      refine g_callVi hz (c_C_allWorth l (by decide) e14) (iC_lt (by decide)) (rc_C (by decide)) rfl rfl m_C_allWorth mi_C_allWorth ms_C_allWorth q_652 ⟨Nat.le_of_ble_eq_true rfl, Nat.le_of_ble_eq_true rfl⟩ rfl (st := [.int x13, .int v5]) rfl (Nat.le_of_ble_eq_true rfl) d_M_moreByLot_53 ?_
      refine g_isub hz d_M_moreByLot_56 ?_
      refine g_iadd hz d_M_moreByLot_57 ?_
      refine g_nmi (fun x17 e18 => ?_)
      replace h := nm_use h e18
      refine g_istore hz (L' := [(5, .int x17), (4, .int x8), (0, .ref 173), (1, .int v1), (3, .int v3), (6, .int v6), (7, .int v7)]) d_M_moreByLot_58 (by decide) rfl ?_
      refine g_iload hz 5 d_M_moreByLot_60 rfl ?_
      refine g_aload_n hz 2 d_M_moreByLot_62 rfl rfl ?_
      refine gf_M_thought hz q_292 d_M_moreByLot_63 ?_
      refine bn_use h (fun x21 s20 e19 h => ?_)
      refine g_callVi hz (c_C_allHands l (by decide) e19) (iC_lt (by decide)) (rc_C (by decide)) rfl rfl m_C_allHands mi_C_allHands ms_C_allHands q_734 ⟨Nat.le_of_ble_eq_true rfl, Nat.le_of_ble_eq_true rfl⟩ rfl (st := [.int v6]) rfl (Nat.le_of_ble_eq_true rfl) d_M_moreByLot_66 ?_
      refine g_aload_n hz 2 d_M_moreByLot_69 rfl rfl ?_
      refine gf_M_now hz q_290 d_M_moreByLot_70 ?_
      refine bn_use h (fun x24 s23 e22 h => ?_)
      refine g_callVi hz (c_C_allHands l (by decide) e22) (iC_lt (by decide)) (rc_C (by decide)) rfl rfl m_C_allHands mi_C_allHands ms_C_allHands q_734 ⟨Nat.le_of_ble_eq_true rfl, Nat.le_of_ble_eq_true rfl⟩ rfl (st := [.int x21, .int v6]) rfl (Nat.le_of_ble_eq_true rfl) d_M_moreByLot_73 ?_
      refine g_isub hz d_M_moreByLot_76 ?_
      refine g_iadd hz d_M_moreByLot_77 ?_
      refine g_nmi (fun x25 e26 => ?_)
      replace h := nm_use h e26
      refine g_istore hz (L' := [(6, .int x25), (5, .int x17), (4, .int x8), (0, .ref 173), (1, .int v1), (3, .int v3), (7, .int v7)]) d_M_moreByLot_78 (by decide) rfl ?_
      refine g_iinc hz (v := v7 + 1) (L' := [(7, .int (v7 + 1)), (6, .int x25), (5, .int x17), (4, .int x8), (0, .ref 173), (1, .int v1), (3, .int v3)]) 6 d_M_moreByLot_80 rfl (congrArg (fun q => v7 + q) ki_1) (by decide) rfl ?_
      refine g_goto hz (tgt := 12) d_M_moreByLot_83 (by decide) ?_
      refine g_sub [4, 5, 6, 3, 2, 1, 0] rfl ?_
      exact ih v1 v3 x8 x17 x25 (v7 + 1) _ h
def f_M_moreByLot (s : Mm) (a1 : Int32) (a2 : Int32) (a3 : Int32) : Option (Int32 × Mm) :=
  k_M_moreByLot_12 KF a1 a3 a2 0 0 0 s
set_option maxRecDepth 20000 in
theorem c_M_moreByLot (l : Launch) {s : Mm} {a1 : Int32} {a2 : Int32} {a3 : Int32} {r' : Int32} {s' : Mm}  (h : f_M_moreByLot s a1 a2 a3 = some (r', s')) : Cm l y_M_moreByLot b_M_moreByLot 8 (some .int) 4 89 [.ref 173, .int a1, .int a2, .int a3] s s' (some (.int r')) := by
  refine Cm.of (own := "PassedOnAndBetter$Mind") (by decide) rfl (fun ad => Nat.le_of_ble_eq_true rfl) ?_
  intro z hz hq
  show G l z b_M_moreByLot 8 0 [(0, .ref 173), (1, .int a1), (2, .int a2), (3, .int a3)] [] s
  unfold f_M_moreByLot at h
  refine g_iload_n hz 2 d_M_moreByLot_0 rfl rfl ?_
  refine g_istore hz (L' := [(4, .int a2), (0, .ref 173), (1, .int a1), (2, .int a2), (3, .int a3)]) d_M_moreByLot_1 (by decide) rfl ?_
  refine g_iconst hz d_M_moreByLot_3 ki_0 ?_
  refine g_istore hz (L' := [(5, .int 0), (4, .int a2), (0, .ref 173), (1, .int a1), (2, .int a2), (3, .int a3)]) d_M_moreByLot_4 (by decide) rfl ?_
  refine g_iconst hz d_M_moreByLot_6 ki_0 ?_
  refine g_istore hz (L' := [(6, .int 0), (5, .int 0), (4, .int a2), (0, .ref 173), (1, .int a1), (2, .int a2), (3, .int a3)]) d_M_moreByLot_7 (by decide) rfl ?_
  refine g_iconst hz d_M_moreByLot_9 ki_0 ?_
  refine g_istore hz (L' := [(7, .int 0), (6, .int 0), (5, .int 0), (4, .int a2), (0, .ref 173), (1, .int a1), (2, .int a2), (3, .int a3)]) d_M_moreByLot_10 (by decide) rfl ?_
  refine g_sub [4, 5, 7, 3, 2, 1, 0] rfl ?_
  exact w_M_moreByLot_12 hz hq KF a1 a3 a2 0 0 0 _ h
def f_X_lots (s : Mm) (a1 : Int32) (a2 : Int32) (a3 : Int32) : Option (Int32 × Mm) :=
  bn (f_X_between s a1 1 20) fun x3 s2 =>
  bn (f_X_whatNo s2 a3 1) fun x6 s5 =>
  bn (f_X_first s5 x3 x6 0) fun x9 s8 =>
  if x9 = 0 then
    bn (f_M_moreByLot s8 a1 a2 a3) fun x16 s15 =>
    some (x16, s15)
  else
    bn (f_X_refuse s8 x9) fun x13 s12 =>
    some (x13, s12)
set_option maxRecDepth 20000 in
theorem c_X_lots (l : Launch) {s : Mm} {a1 : Int32} {a2 : Int32} {a3 : Int32} {r' : Int32} {s' : Mm}  (h : f_X_lots s a1 a2 a3 = some (r', s')) : Cm l y_X_lots b_X_lots 5 (some .int) 5 116 [.ref 165, .int a1, .int a2, .int a3] s s' (some (.int r')) := by
  refine Cm.of (own := "PassedOnAndBetter") (by decide) rfl (fun ad => Nat.le_of_ble_eq_true rfl) ?_
  intro z hz hq
  show G l z b_X_lots 5 0 [(0, .ref 165), (1, .int a1), (2, .int a2), (3, .int a3)] [] s
  unfold f_X_lots at h
  refine g_iload_n hz 1 d_X_lots_0 rfl rfl ?_
  refine g_iconst hz d_X_lots_1 ki_1 ?_
  refine g_bipush hz (v := 20) d_X_lots_2 (by decide) ?_
  refine bn_use h (fun x3 s2 e1 h => ?_)
  refine g_callSi hz (c_X_between l e1) m_X_between mi_X_between q_335 ⟨Nat.le_of_ble_eq_true rfl, Nat.le_of_ble_eq_true rfl⟩ rfl (st := []) rfl (Nat.le_of_ble_eq_true rfl) d_X_lots_4 ?_
  refine g_iload_n hz 3 d_X_lots_7 rfl rfl ?_
  refine g_iconst hz d_X_lots_8 ki_1 ?_
  refine bn_use h (fun x6 s5 e4 h => ?_)
  refine g_callSi hz (c_X_whatNo l e4) m_X_whatNo mi_X_whatNo q_535 ⟨Nat.le_of_ble_eq_true rfl, Nat.le_of_ble_eq_true rfl⟩ rfl (st := [.int x3]) rfl (Nat.le_of_ble_eq_true rfl) d_X_lots_9 ?_
  refine g_iconst hz d_X_lots_12 ki_0 ?_
  refine bn_use h (fun x9 s8 e7 h => ?_)
  refine g_callSi hz (c_X_first l e7) m_X_first mi_X_first q_538 ⟨Nat.le_of_ble_eq_true rfl, Nat.le_of_ble_eq_true rfl⟩ rfl (st := []) rfl (Nat.le_of_ble_eq_true rfl) d_X_lots_13 ?_
  refine g_istore hz (L' := [(4, .int x9), (0, .ref 165), (1, .int a1), (2, .int a2), (3, .int a3)]) d_X_lots_16 (by decide) rfl ?_
  refine g_iload hz 0 d_X_lots_18 rfl ?_
  refine g_if_ne hz (tgt := 36) d_X_lots_20 (by decide) (fun c10 => ?_) (fun c10 => ?_)
  · replace h := (if_neg c10).symm.trans h
    refine g_aload_n hz 1 d_X_lots_36 rfl rfl ?_
    refine g_iload hz 0 d_X_lots_37 rfl ?_
    refine bn_use h (fun x13 s12 e11 h => ?_)
    refine g_callVi hz (c_X_refuse l e11) (by decide) rc_X rfl rfl m_X_refuse mi_X_refuse ms_X_refuse q_349 ⟨Nat.le_of_ble_eq_true rfl, Nat.le_of_ble_eq_true rfl⟩ rfl (st := []) rfl (Nat.le_of_ble_eq_true rfl) d_X_lots_39 ?_
    exact g_iret hz (rti h hq) d_X_lots_42
  · replace h := (if_pos c10).symm.trans h
    refine g_aload_n hz 1 d_X_lots_23 rfl rfl ?_
    refine gf_X_mind hz q_311 d_X_lots_24 ?_
    refine g_iload_n hz 2 d_X_lots_27 rfl rfl ?_
    refine g_iload_n hz 3 d_X_lots_28 rfl rfl ?_
    refine g_iload_n hz 4 d_X_lots_29 rfl rfl ?_
    refine bn_use h (fun x16 s15 e14 h => ?_)
    refine g_callVi hz (c_M_moreByLot l e14) (by decide) rc_M rfl rfl m_M_moreByLot mi_M_moreByLot ms_M_moreByLot q_969 ⟨Nat.le_of_ble_eq_true rfl, Nat.le_of_ble_eq_true rfl⟩ rfl (st := []) rfl (Nat.le_of_ble_eq_true rfl) d_X_lots_30 ?_
    refine g_goto hz (tgt := 42) d_X_lots_33 (by decide) ?_
    exact g_iret hz (rti h hq) d_X_lots_42
def f_X_image (s : Mm) : Option (Int32 × Mm) :=
  bv (f_C_copyFrom s 1 0) fun s2 =>
  nm (mU s2 165 7 1) fun s3 =>
  some (s3 0 6, s3)
set_option maxRecDepth 20000 in
theorem c_X_image (l : Launch) {s : Mm}  {r' : Int32} {s' : Mm}  (h : f_X_image s = some (r', s')) : Cm l y_X_image b_X_image 1 (some .int) 2 44 [.ref 165] s s' (some (.int r')) := by
  refine Cm.of (own := "PassedOnAndBetter") (by decide) rfl (fun ad => Nat.le_of_ble_eq_true rfl) ?_
  intro z hz hq
  show G l z b_X_image 1 0 [(0, .ref 165)] [] s
  unfold f_X_image at h
  refine g_aload_n hz 0 d_X_image_0 rfl rfl ?_
  refine gf_X_pictured hz q_307 d_X_image_1 ?_
  refine g_aload_n hz 0 d_X_image_4 rfl rfl ?_
  refine gf_X_now hz q_306 d_X_image_5 ?_
  refine bv_use h (fun s2 e1 h => ?_)
  refine g_callVv hz (c_C_copyFrom l (by decide) (by decide) e1) (iC_lt (by decide)) (rc_C (by decide)) rfl rfl m_C_copyFrom mi_C_copyFrom ms_C_copyFrom q_521 ⟨Nat.le_of_ble_eq_true rfl, Nat.le_of_ble_eq_true rfl⟩ rfl (st := []) rfl (Nat.le_of_ble_eq_true rfl) d_X_image_8 ?_
  refine g_aload_n hz 0 d_X_image_11 rfl rfl ?_
  refine g_iconst hz d_X_image_12 ki_1 ?_
  refine pf_X_hasPicture hz (Or.inr rfl) q_313 d_X_image_13 (fun s3 e4 => ?_)
  replace h := nm_use h e4
  refine g_aload_n hz 0 d_X_image_16 rfl rfl ?_
  refine gf_X_now hz q_306 d_X_image_17 ?_
  refine gf_C_month hz (by decide) q_214 d_X_image_20 ?_
  exact g_iret hz (rti h hq) d_X_image_23
def f_X_restore (s : Mm) : Option (Int32 × Mm) :=
  if (s 165 7) = 0 then
    bn (f_X_refuse s (-3)) fun x8 s7 =>
    some (x8, s7)
  else
    bv (f_C_copyFrom s 0 1) fun s3 =>
    bv (f_P_forget s3) fun s5 =>
    some (s5 0 6, s5)
set_option maxRecDepth 20000 in
theorem c_X_restore (l : Launch) {s : Mm}  {r' : Int32} {s' : Mm}  (h : f_X_restore s = some (r', s')) : Cm l y_X_restore b_X_restore 1 (some .int) 2 44 [.ref 165] s s' (some (.int r')) := by
  refine Cm.of (own := "PassedOnAndBetter") (by decide) rfl (fun ad => Nat.le_of_ble_eq_true rfl) ?_
  intro z hz hq
  show G l z b_X_restore 1 0 [(0, .ref 165)] [] s
  unfold f_X_restore at h
  refine g_aload_n hz 0 d_X_restore_0 rfl rfl ?_
  refine gf_X_hasPicture hz q_313 d_X_restore_1 ?_
  refine g_if_ne hz (tgt := 14) d_X_restore_4 (by decide) (fun c1 => ?_) (fun c1 => ?_)
  · replace h := (if_neg c1).symm.trans h
    refine g_aload_n hz 0 d_X_restore_14 rfl rfl ?_
    refine gf_X_now hz q_306 d_X_restore_15 ?_
    refine g_aload_n hz 0 d_X_restore_18 rfl rfl ?_
    refine gf_X_pictured hz q_307 d_X_restore_19 ?_
    refine bv_use h (fun s3 e2 h => ?_)
    refine g_callVv hz (c_C_copyFrom l (by decide) (by decide) e2) (iC_lt (by decide)) (rc_C (by decide)) rfl rfl m_C_copyFrom mi_C_copyFrom ms_C_copyFrom q_521 ⟨Nat.le_of_ble_eq_true rfl, Nat.le_of_ble_eq_true rfl⟩ rfl (st := []) rfl (Nat.le_of_ble_eq_true rfl) d_X_restore_22 ?_
    refine g_aload_n hz 0 d_X_restore_25 rfl rfl ?_
    refine gf_X_past hz q_308 d_X_restore_26 ?_
    refine bv_use h (fun s5 e4 h => ?_)
    refine g_callVv hz (c_P_forget l e4) (by decide) rc_P rfl rfl m_P_forget mi_P_forget ms_P_forget q_522 ⟨Nat.le_of_ble_eq_true rfl, Nat.le_of_ble_eq_true rfl⟩ rfl (st := []) rfl (Nat.le_of_ble_eq_true rfl) d_X_restore_29 ?_
    refine g_aload_n hz 0 d_X_restore_32 rfl rfl ?_
    refine gf_X_now hz q_306 d_X_restore_33 ?_
    refine gf_C_month hz (by decide) q_214 d_X_restore_36 ?_
    exact g_iret hz (rti h hq) d_X_restore_39
  · replace h := (if_pos c1).symm.trans h
    refine g_aload_n hz 0 d_X_restore_7 rfl rfl ?_
    refine g_bipush hz (v := (-3)) d_X_restore_8 (by decide) ?_
    refine bn_use h (fun x8 s7 e6 h => ?_)
    refine g_callVi hz (c_X_refuse l e6) (by decide) rc_X rfl rfl m_X_refuse mi_X_refuse ms_X_refuse q_349 ⟨Nat.le_of_ble_eq_true rfl, Nat.le_of_ble_eq_true rfl⟩ rfl (st := []) rfl (Nat.le_of_ble_eq_true rfl) d_X_restore_10 ?_
    exact g_iret hz (rti h hq) d_X_restore_13
def k_C_allSize_4 : Nat → Nat → Int32 → Int32 → Mm → Option (Int32 × Mm)
  | 0, _, _, _, _ => none
  | n + 1, o, v1, v2, s => if (s o 5) ≤ v2 then
      some (v1, s)
    else
      bn (f_C_giftAt s o v2) fun x4 s3 =>
      nm (v1 + (s3 x4 1)) fun x5 =>
      k_C_allSize_4 n o x5 (v2 + 1) s3
set_option maxRecDepth 20000 in
theorem w_C_allSize_4 {l : Launch} {z : Zt} (hz : ZOk z b_C_allSize 3 "PassedOnAndBetter$Company" 1 22) {r' : Int32} {s' : Mm} (hq : ZR z (some .int) s' (some (.int r'))) : ∀ (n : Nat) (o : Nat) (v1 : Int32) (v2 : Int32) (ho : iC o) (s : Mm), k_C_allSize_4 n o v1 v2 s = some (r', s') → G l z b_C_allSize 3 4 [(0, .ref o), (1, .int v1), (2, .int v2)] [] s := by
  intro n
  induction n with
  | zero => intro o v1 v2 ho s h; unfold k_C_allSize_4 at h; cases h
  | succ n ih =>
    intro o v1 v2 ho s h
    unfold k_C_allSize_4 at h
    refine g_iload_n hz 2 d_C_allSize_4 rfl rfl ?_
    refine g_aload_n hz 0 d_C_allSize_5 rfl rfl ?_
    refine gf_C_gifts hz ho q_210 d_C_allSize_6 ?_
    refine g_icmp_ge hz (tgt := 29) d_C_allSize_9 (by decide) (fun c1 => ?_) (fun c1 => ?_)
    · replace h := (if_pos c1).symm.trans h
      refine g_iload_n hz 1 d_C_allSize_29 rfl rfl ?_
      exact g_iret hz (rti h hq) d_C_allSize_30
    · replace h := (if_neg c1).symm.trans h
      refine g_iload_n hz 1 d_C_allSize_12 rfl rfl ?_
      refine g_aload_n hz 0 d_C_allSize_13 rfl rfl ?_
      refine g_iload_n hz 2 d_C_allSize_14 rfl rfl ?_
      refine bn_use h (fun x4 s3 e2 h => ?_)
      have hx4 := rr_C_giftAt ho e2
      refine g_callVr hz (c_C_giftAt l ho e2) (iC_lt ho) (rc_C ho) rfl rfl m_C_giftAt mi_C_giftAt ms_C_giftAt q_377 ⟨Nat.le_of_ble_eq_true rfl, Nat.le_of_ble_eq_true rfl⟩ rfl (st := [.int v1]) rfl (Nat.le_of_ble_eq_true rfl) d_C_allSize_15 ?_
      refine gf_G_size hz hx4 q_179 d_C_allSize_18 ?_
      refine g_iadd hz d_C_allSize_21 ?_
      refine g_nmi (fun x5 e6 => ?_)
      replace h := nm_use h e6
      refine g_istore_n hz (L' := [(1, .int x5), (0, .ref o), (2, .int v2)]) d_C_allSize_22 rfl (by decide) rfl ?_
      refine g_iinc hz (v := v2 + 1) (L' := [(2, .int (v2 + 1)), (1, .int x5), (0, .ref o)]) 2 d_C_allSize_23 rfl (congrArg (fun q => v2 + q) ki_1) (by decide) rfl ?_
      refine g_goto hz (tgt := 4) d_C_allSize_26 (by decide) ?_
      refine g_sub [2, 1, 0] rfl ?_
      exact ih o x5 (v2 + 1) ho _ h
def f_C_allSize (s : Mm) (o : Nat) : Option (Int32 × Mm) :=
  k_C_allSize_4 KF o 0 0 s
set_option maxRecDepth 20000 in
theorem c_C_allSize (l : Launch) {s : Mm} {o : Nat} {r' : Int32} {s' : Mm} (ho : iC o) (h : f_C_allSize s o = some (r', s')) : Cm l y_C_allSize b_C_allSize 3 (some .int) 1 22 [.ref o] s s' (some (.int r')) := by
  refine Cm.of (own := "PassedOnAndBetter$Company") (by decide) rfl (fun ad => Nat.le_of_ble_eq_true rfl) ?_
  intro z hz hq
  show G l z b_C_allSize 3 0 [(0, .ref o)] [] s
  unfold f_C_allSize at h
  refine g_iconst hz d_C_allSize_0 ki_0 ?_
  refine g_istore_n hz (L' := [(1, .int 0), (0, .ref o)]) d_C_allSize_1 rfl (by decide) rfl ?_
  refine g_iconst hz d_C_allSize_2 ki_0 ?_
  refine g_istore_n hz (L' := [(2, .int 0), (1, .int 0), (0, .ref o)]) d_C_allSize_3 rfl (by decide) rfl ?_
  refine g_sub [2, 1, 0] rfl ?_
  exact w_C_allSize_4 hz hq KF o 0 0 ho _ h
def k_X_count_24 (v1 : Int32) (s : Mm) : Option (Int32 × Mm) :=
  if v1 = 0 then
    some (s 0 4, s)
  else if v1 = 1 then
    some (s 0 5, s)
  else if v1 = 2 then
    some (s 0 6, s)
  else if v1 = 3 then
    bn (f_C_allWorth s 0) fun x8 s7 =>
    some (x8, s7)
  else if v1 = 4 then
    bn (f_C_allSize s 0) fun x12 s11 =>
    some (x12, s11)
  else if v1 = 5 then
    bn (f_C_allHands s 0) fun x16 s15 =>
    some (x16, s15)
  else if v1 = 6 then
    some (s 169 1, s)
  else if v1 = 7 then
    some (s 171 1, s)
  else if v1 = 8 then
    some (s 167 2, s)
  else
    some ((-9), s)
set_option maxRecDepth 20000 in
theorem w_X_count_24 {l : Launch} {z : Zt} (hz : ZOk z b_X_count 2 "PassedOnAndBetter" 2 44) {r' : Int32} {s' : Mm} (hq : ZR z (some .int) s' (some (.int r'))) (v1 : Int32) (s : Mm) (h : k_X_count_24 v1 s = some (r', s')) : G l z b_X_count 2 24 [(0, .ref 165), (1, .int v1)] [] s := by
  unfold k_X_count_24 at h
  refine g_iload_n hz 1 d_X_count_24 rfl rfl ?_
  by_cases c2 : v1 = 0
  · replace h := (if_pos c2).symm.trans h
    refine g_tin hz (off := 51) (tgt := 76) d_X_count_25 c2 (by decide) (by decide) (by decide) (by decide) ?_
    refine g_aload_n hz 0 d_X_count_76 rfl rfl ?_
    refine gf_X_now hz q_306 d_X_count_77 ?_
    refine gf_C_friends hz (by decide) q_209 d_X_count_80 ?_
    exact g_iret hz (rti h hq) d_X_count_83
  · replace h := (if_neg c2).symm.trans h
    by_cases c3 : v1 = 1
    · replace h := (if_pos c3).symm.trans h
      refine g_tin hz (off := 59) (tgt := 84) d_X_count_25 c3 (by decide) (by decide) (by decide) (by decide) ?_
      refine g_aload_n hz 0 d_X_count_84 rfl rfl ?_
      refine gf_X_now hz q_306 d_X_count_85 ?_
      refine gf_C_gifts hz (by decide) q_212 d_X_count_88 ?_
      exact g_iret hz (rti h hq) d_X_count_91
    · replace h := (if_neg c3).symm.trans h
      by_cases c4 : v1 = 2
      · replace h := (if_pos c4).symm.trans h
        refine g_tin hz (off := 67) (tgt := 92) d_X_count_25 c4 (by decide) (by decide) (by decide) (by decide) ?_
        refine g_aload_n hz 0 d_X_count_92 rfl rfl ?_
        refine gf_X_now hz q_306 d_X_count_93 ?_
        refine gf_C_month hz (by decide) q_214 d_X_count_96 ?_
        exact g_iret hz (rti h hq) d_X_count_99
      · replace h := (if_neg c4).symm.trans h
        by_cases c5 : v1 = 3
        · replace h := (if_pos c5).symm.trans h
          refine g_tin hz (off := 75) (tgt := 100) d_X_count_25 c5 (by decide) (by decide) (by decide) (by decide) ?_
          refine g_aload_n hz 0 d_X_count_100 rfl rfl ?_
          refine gf_X_now hz q_306 d_X_count_101 ?_
          refine bn_use h (fun x8 s7 e6 h => ?_)
          refine g_callVi hz (c_C_allWorth l (by decide) e6) (iC_lt (by decide)) (rc_C (by decide)) rfl rfl m_C_allWorth mi_C_allWorth ms_C_allWorth q_609 ⟨Nat.le_of_ble_eq_true rfl, Nat.le_of_ble_eq_true rfl⟩ rfl (st := []) rfl (Nat.le_of_ble_eq_true rfl) d_X_count_104 ?_
          exact g_iret hz (rti h hq) d_X_count_107
        · replace h := (if_neg c5).symm.trans h
          by_cases c9 : v1 = 4
          · replace h := (if_pos c9).symm.trans h
            refine g_tin hz (off := 83) (tgt := 108) d_X_count_25 c9 (by decide) (by decide) (by decide) (by decide) ?_
            refine g_aload_n hz 0 d_X_count_108 rfl rfl ?_
            refine gf_X_now hz q_306 d_X_count_109 ?_
            refine bn_use h (fun x12 s11 e10 h => ?_)
            refine g_callVi hz (c_C_allSize l (by decide) e10) (iC_lt (by decide)) (rc_C (by decide)) rfl rfl m_C_allSize mi_C_allSize ms_C_allSize q_992 ⟨Nat.le_of_ble_eq_true rfl, Nat.le_of_ble_eq_true rfl⟩ rfl (st := []) rfl (Nat.le_of_ble_eq_true rfl) d_X_count_112 ?_
            exact g_iret hz (rti h hq) d_X_count_115
          · replace h := (if_neg c9).symm.trans h
            by_cases c13 : v1 = 5
            · replace h := (if_pos c13).symm.trans h
              refine g_tin hz (off := 91) (tgt := 116) d_X_count_25 c13 (by decide) (by decide) (by decide) (by decide) ?_
              refine g_aload_n hz 0 d_X_count_116 rfl rfl ?_
              refine gf_X_now hz q_306 d_X_count_117 ?_
              refine bn_use h (fun x16 s15 e14 h => ?_)
              refine g_callVi hz (c_C_allHands l (by decide) e14) (iC_lt (by decide)) (rc_C (by decide)) rfl rfl m_C_allHands mi_C_allHands ms_C_allHands q_996 ⟨Nat.le_of_ble_eq_true rfl, Nat.le_of_ble_eq_true rfl⟩ rfl (st := []) rfl (Nat.le_of_ble_eq_true rfl) d_X_count_120 ?_
              exact g_iret hz (rti h hq) d_X_count_123
            · replace h := (if_neg c13).symm.trans h
              by_cases c17 : v1 = 6
              · replace h := (if_pos c17).symm.trans h
                refine g_tin hz (off := 99) (tgt := 124) d_X_count_25 c17 (by decide) (by decide) (by decide) (by decide) ?_
                refine g_aload_n hz 0 d_X_count_124 rfl rfl ?_
                refine gf_X_letters hz q_309 d_X_count_125 ?_
                refine gf_L_told hz q_259 d_X_count_128 ?_
                exact g_iret hz (rti h hq) d_X_count_131
              · replace h := (if_neg c17).symm.trans h
                by_cases c18 : v1 = 7
                · replace h := (if_pos c18).symm.trans h
                  refine g_tin hz (off := 107) (tgt := 132) d_X_count_25 c18 (by decide) (by decide) (by decide) (by decide) ?_
                  refine g_aload_n hz 0 d_X_count_132 rfl rfl ?_
                  refine gf_X_numbers hz q_310 d_X_count_133 ?_
                  refine gf_N_told hz q_276 d_X_count_136 ?_
                  exact g_iret hz (rti h hq) d_X_count_139
                · replace h := (if_neg c18).symm.trans h
                  by_cases c19 : v1 = 8
                  · replace h := (if_pos c19).symm.trans h
                    refine g_tin hz (off := 115) (tgt := 140) d_X_count_25 c19 (by decide) (by decide) (by decide) (by decide) ?_
                    refine g_aload_n hz 0 d_X_count_140 rfl rfl ?_
                    refine gf_X_past hz q_308 d_X_count_141 ?_
                    refine gf_P_held hz q_243 d_X_count_144 ?_
                    exact g_iret hz (rti h hq) d_X_count_147
                  · replace h := (if_neg c19).symm.trans h
                    refine g_tdf hz (tgt := 148) d_X_count_25 (fun i hi hx => ?_) (by decide) ?_
                    · match i, hi, hx with
                      | 0, _, hx => exact absurd hx (lv_neT c2 (by decide))
                      | 1, _, hx => exact absurd hx (lv_neT c3 (by decide))
                      | 2, _, hx => exact absurd hx (lv_neT c4 (by decide))
                      | 3, _, hx => exact absurd hx (lv_neT c5 (by decide))
                      | 4, _, hx => exact absurd hx (lv_neT c9 (by decide))
                      | 5, _, hx => exact absurd hx (lv_neT c13 (by decide))
                      | 6, _, hx => exact absurd hx (lv_neT c17 (by decide))
                      | 7, _, hx => exact absurd hx (lv_neT c18 (by decide))
                      | 8, _, hx => exact absurd hx (lv_neT c19 (by decide))
                      | q + 9, hi, _ => exact absurd hi (by omega)
                    · refine g_bipush hz (v := (-9)) d_X_count_148 (by decide) ?_
                      exact g_iret hz (rti h hq) d_X_count_150
def f_X_count (s : Mm) (a1 : Int32) : Option (Int32 × Mm) :=
  if a1 < 11 then
    k_X_count_24 a1 s
  else
    if 16 < a1 then
      k_X_count_24 a1 s
    else
      bn (f_X_cellOf s 166 (a1 - 10)) fun x23 s22 =>
      some (x23, s22)
set_option maxRecDepth 20000 in
theorem c_X_count (l : Launch) {s : Mm} {a1 : Int32} {r' : Int32} {s' : Mm}  (h : f_X_count s a1 = some (r', s')) : Cm l y_X_count b_X_count 2 (some .int) 2 44 [.ref 165, .int a1] s s' (some (.int r')) := by
  refine Cm.of (own := "PassedOnAndBetter") (by decide) rfl (fun ad => Nat.le_of_ble_eq_true rfl) ?_
  intro z hz hq
  show G l z b_X_count 2 0 [(0, .ref 165), (1, .int a1)] [] s
  unfold f_X_count at h
  refine g_iload_n hz 1 d_X_count_0 rfl rfl ?_
  refine g_bipush hz (v := 11) d_X_count_1 (by decide) ?_
  refine g_icmp_lt hz (tgt := 24) d_X_count_3 (by decide) (fun c1 => ?_) (fun c1 => ?_)
  · replace h := (if_pos c1).symm.trans h
    exact w_X_count_24 hz hq a1 _ h
  · replace h := (if_neg c1).symm.trans h
    refine g_iload_n hz 1 d_X_count_6 rfl rfl ?_
    refine g_bipush hz (v := 16) d_X_count_7 (by decide) ?_
    refine g_icmp_gt hz (tgt := 24) d_X_count_9 (by decide) (fun c20 => ?_) (fun c20 => ?_)
    · replace h := (if_pos c20).symm.trans h
      exact w_X_count_24 hz hq a1 _ h
    · replace h := (if_neg c20).symm.trans h
      refine g_aload_n hz 0 d_X_count_12 rfl rfl ?_
      refine gf_X_refusals hz q_312 d_X_count_13 ?_
      refine g_iload_n hz 1 d_X_count_16 rfl rfl ?_
      refine g_bipush hz (v := 10) d_X_count_17 (by decide) ?_
      refine g_isub hz d_X_count_19 ?_
      refine bn_use h (fun x23 s22 e21 h => ?_)
      refine g_callSi hz (c_X_cellOf l (by decide) e21) m_X_cellOf mi_X_cellOf q_353 ⟨Nat.le_of_ble_eq_true rfl, Nat.le_of_ble_eq_true rfl⟩ rfl (st := []) rfl (Nat.le_of_ble_eq_true rfl) d_X_count_20 ?_
      exact g_iret hz (rti h hq) d_X_count_23
def f_R_bound (s : Mm) (a0 : Int32) (a1 : Int32) (a2 : Int32) : Option (Int32 × Mm) :=
  if a1 ≤ a0 then
    if a0 ≤ a2 then
      some (0, s)
    else
      some ((-6), s)
  else
    some ((-4), s)
set_option maxRecDepth 20000 in
theorem c_R_bound (l : Launch) {s : Mm} {a0 : Int32} {a1 : Int32} {a2 : Int32} {r' : Int32} {s' : Mm}  (h : f_R_bound s a0 a1 a2 = some (r', s')) : Cm l y_R_bound b_R_bound 3 (some .int) 0 0 [.int a0, .int a1, .int a2] s s' (some (.int r')) := by
  refine Cm.of (own := "PassedOnAndBetterModel") (by decide) rfl (fun ad => Nat.le_of_ble_eq_true rfl) ?_
  intro z hz hq
  show G l z b_R_bound 3 0 [(0, .int a0), (1, .int a1), (2, .int a2)] [] s
  unfold f_R_bound at h
  refine g_iload_n hz 0 d_R_bound_0 rfl rfl ?_
  refine g_iload_n hz 1 d_R_bound_1 rfl rfl ?_
  refine g_icmp_ge hz (tgt := 10) d_R_bound_2 (by decide) (fun c1 => ?_) (fun c1 => ?_)
  · replace h := (if_pos c1).symm.trans h
    refine g_iload_n hz 0 d_R_bound_10 rfl rfl ?_
    refine g_iload_n hz 2 d_R_bound_11 rfl rfl ?_
    refine g_icmp_le hz (tgt := 20) d_R_bound_12 (by decide) (fun c2 => ?_) (fun c2 => ?_)
    · replace h := (if_pos c2).symm.trans h
      refine g_iconst hz d_R_bound_20 ki_0 ?_
      exact g_iret hz (rti h hq) d_R_bound_21
    · replace h := (if_neg c2).symm.trans h
      refine g_bipush hz (v := (-6)) d_R_bound_15 (by decide) ?_
      refine g_goto hz (tgt := 21) d_R_bound_17 (by decide) ?_
      exact g_iret hz (rti h hq) d_R_bound_21
  · replace h := (if_neg c1).symm.trans h
    refine g_bipush hz (v := (-4)) d_R_bound_5 (by decide) ?_
    refine g_goto hz (tgt := 21) d_R_bound_7 (by decide) ?_
    exact g_iret hz (rti h hq) d_R_bound_21
def f_R_no (s : Mm) (a1 : Int32) : Option (Int32 × Mm) :=
  gd (-a1) 7 <|
  gd (-a1) 7 <|
  nm (mU s 177 (-a1).toNatClampNeg ((s 177 (-a1).toNatClampNeg) + 1)) fun s3 =>
  some (a1, s3)
set_option maxRecDepth 20000 in
theorem c_R_no (l : Launch) {s : Mm} {a1 : Int32} {r' : Int32} {s' : Mm}  (h : f_R_no s a1 = some (r', s')) : Cm l y_R_no b_R_no 2 (some .int) 0 0 [.ref 176, .int a1] s s' (some (.int r')) := by
  refine Cm.of (own := "PassedOnAndBetterModel") (by decide) rfl (fun ad => Nat.le_of_ble_eq_true rfl) ?_
  intro z hz hq
  show G l z b_R_no 2 0 [(0, .ref 176), (1, .int a1)] [] s
  unfold f_R_no at h
  refine g_aload_n hz 0 d_R_no_0 rfl rfl ?_
  refine gf_R_refused hz q_1003 d_R_no_1 ?_
  refine g_iload_n hz 1 d_R_no_4 rfl rfl ?_
  refine g_ineg hz d_R_no_5 ?_
  refine g_dup2 hz d_R_no_6 rfl rfl ?_
  obtain ⟨n1, h⟩ := gd_use h
  refine g_iald hz (by decide) n1 d_R_no_7 ?_
  refine g_iconst hz d_R_no_8 ki_1 ?_
  refine g_iadd hz d_R_no_9 ?_
  obtain ⟨n2, h⟩ := gd_use h
  refine g_iast hz (by decide) n2 d_R_no_10 (fun s3 e4 => ?_)
  replace h := nm_use h e4
  refine g_iload_n hz 1 d_R_no_11 rfl rfl ?_
  exact g_iret hz (rti h hq) d_R_no_12
def k_R_feed_25 (v1 : Int32) (v2 : Int32) (s : Mm) : Option (Int32 × Mm) :=
  if v2 = 0 then
    gd (s 176 20) 96 <|
    nm (mU s 189 (s 176 20).toNatClampNeg v1) fun s7 =>
    nm (mU s7 176 20 ((s7 176 20) + 1)) fun s9 =>
    some (s9 176 20, s9)
  else
    bn (f_R_no s v2) fun x13 s12 =>
    some (x13, s12)
set_option maxRecDepth 20000 in
theorem w_R_feed_25 {l : Launch} {z : Zt} (hz : ZOk z b_R_feed 3 "PassedOnAndBetterModel" 1 22) {r' : Int32} {s' : Mm} (hq : ZR z (some .int) s' (some (.int r'))) (v1 : Int32) (v2 : Int32) (s : Mm) (h : k_R_feed_25 v1 v2 s = some (r', s')) : G l z b_R_feed 3 25 [(0, .ref 176), (1, .int v1), (2, .int v2)] [] s := by
  unfold k_R_feed_25 at h
  refine g_iload_n hz 2 d_R_feed_25 rfl rfl ?_
  refine g_if_eq hz (tgt := 35) d_R_feed_26 (by decide) (fun c5 => ?_) (fun c5 => ?_)
  · replace h := (if_pos c5).symm.trans h
    refine g_aload_n hz 0 d_R_feed_35 rfl rfl ?_
    refine gf_R_tape hz q_1019 d_R_feed_36 ?_
    refine g_aload_n hz 0 d_R_feed_39 rfl rfl ?_
    refine gf_R_taped hz q_1023 d_R_feed_40 ?_
    refine g_iload_n hz 1 d_R_feed_43 rfl rfl ?_
    obtain ⟨n6, h⟩ := gd_use h
    refine g_iast hz (by decide) n6 d_R_feed_44 (fun s7 e8 => ?_)
    replace h := nm_use h e8
    refine g_aload_n hz 0 d_R_feed_45 rfl rfl ?_
    refine g_dup hz d_R_feed_46 rfl ?_
    refine gf_R_taped hz q_1023 d_R_feed_47 ?_
    refine g_iconst hz d_R_feed_50 ki_1 ?_
    refine g_iadd hz d_R_feed_51 ?_
    refine pf_R_taped hz q_1023 d_R_feed_52 (fun s9 e10 => ?_)
    replace h := nm_use h e10
    refine g_aload_n hz 0 d_R_feed_55 rfl rfl ?_
    refine gf_R_taped hz q_1023 d_R_feed_56 ?_
    exact g_iret hz (rti h hq) d_R_feed_59
  · replace h := (if_neg c5).symm.trans h
    refine g_aload_n hz 0 d_R_feed_29 rfl rfl ?_
    refine g_iload_n hz 2 d_R_feed_30 rfl rfl ?_
    refine bn_use h (fun x13 s12 e11 h => ?_)
    refine g_callVi hz (c_R_no l e11) (by decide) rc_R rfl rfl m_R_no mi_R_no ms_R_no q_1107 ⟨Nat.le_of_ble_eq_true rfl, Nat.le_of_ble_eq_true rfl⟩ rfl (st := []) rfl (Nat.le_of_ble_eq_true rfl) d_R_feed_31 ?_
    exact g_iret hz (rti h hq) d_R_feed_34
def f_R_feed (s : Mm) (a1 : Int32) : Option (Int32 × Mm) :=
  bn (f_R_bound s a1 0 255) fun x3 s2 =>
  if x3 = 0 then
    if (s2 176 20) = 96 then
      k_R_feed_25 a1 (-6) s2
    else
      k_R_feed_25 a1 x3 s2
  else
    k_R_feed_25 a1 x3 s2
set_option maxRecDepth 20000 in
theorem c_R_feed (l : Launch) {s : Mm} {a1 : Int32} {r' : Int32} {s' : Mm}  (h : f_R_feed s a1 = some (r', s')) : Cm l y_R_feed b_R_feed 3 (some .int) 1 22 [.ref 176, .int a1] s s' (some (.int r')) := by
  refine Cm.of (own := "PassedOnAndBetterModel") (by decide) rfl (fun ad => Nat.le_of_ble_eq_true rfl) ?_
  intro z hz hq
  show G l z b_R_feed 3 0 [(0, .ref 176), (1, .int a1)] [] s
  unfold f_R_feed at h
  refine g_iload_n hz 1 d_R_feed_0 rfl rfl ?_
  refine g_iconst hz d_R_feed_1 ki_0 ?_
  refine g_sipush hz (v := 255) d_R_feed_2 (by decide) ?_
  refine bn_use h (fun x3 s2 e1 h => ?_)
  refine g_callSi hz (c_R_bound l e1) m_R_bound mi_R_bound q_1104 ⟨Nat.le_of_ble_eq_true rfl, Nat.le_of_ble_eq_true rfl⟩ rfl (st := []) rfl (Nat.le_of_ble_eq_true rfl) d_R_feed_5 ?_
  refine g_istore_n hz (L' := [(2, .int x3), (0, .ref 176), (1, .int a1)]) d_R_feed_8 rfl (by decide) rfl ?_
  refine g_iload_n hz 0 d_R_feed_9 rfl rfl ?_
  refine g_if_ne hz (tgt := 25) d_R_feed_10 (by decide) (fun c4 => ?_) (fun c4 => ?_)
  · replace h := (if_neg c4).symm.trans h
    refine g_sub [1, 2, 0] rfl ?_
    exact w_R_feed_25 hz hq a1 x3 _ h
  · replace h := (if_pos c4).symm.trans h
    refine g_aload_n hz 1 d_R_feed_13 rfl rfl ?_
    refine gf_R_taped hz q_1023 d_R_feed_14 ?_
    refine g_bipush hz (v := 96) d_R_feed_17 (by decide) ?_
    refine g_icmp_ne hz (tgt := 25) d_R_feed_19 (by decide) (fun c14 => ?_) (fun c14 => ?_)
    · replace h := (if_neg c14).symm.trans h
      refine g_sub [1, 2, 0] rfl ?_
      exact w_R_feed_25 hz hq a1 x3 _ h
    · replace h := (if_pos c14).symm.trans h
      refine g_bipush hz (v := (-6)) d_R_feed_22 (by decide) ?_
      refine g_istore_n hz (L' := [(2, .int (-6)), (0, .ref 176), (1, .int a1)]) d_R_feed_24 rfl (by decide) rfl ?_
      refine g_sub [1, 2, 0] rfl ?_
      exact w_R_feed_25 hz hq a1 (-6) _ h
def f_R_nextLetter (s : Mm) : Option (Int32 × Mm) :=
  if (s 176 20) ≤ (s 176 21) then
    some ((-1), s)
  else
    gd (s 176 21) 96 <|
    some (s 189 (s 176 21).toNatClampNeg, s)
set_option maxRecDepth 20000 in
theorem c_R_nextLetter (l : Launch) {s : Mm}  {r' : Int32} {s' : Mm}  (h : f_R_nextLetter s = some (r', s')) : Cm l y_R_nextLetter b_R_nextLetter 1 (some .int) 0 0 [.ref 176] s s' (some (.int r')) := by
  refine Cm.of (own := "PassedOnAndBetterModel") (by decide) rfl (fun ad => Nat.le_of_ble_eq_true rfl) ?_
  intro z hz hq
  show G l z b_R_nextLetter 1 0 [(0, .ref 176)] [] s
  unfold f_R_nextLetter at h
  refine g_aload_n hz 0 d_R_nextLetter_0 rfl rfl ?_
  refine gf_R_reading hz q_1024 d_R_nextLetter_1 ?_
  refine g_aload_n hz 0 d_R_nextLetter_4 rfl rfl ?_
  refine gf_R_taped hz q_1023 d_R_nextLetter_5 ?_
  refine g_icmp_ge hz (tgt := 23) d_R_nextLetter_8 (by decide) (fun c1 => ?_) (fun c1 => ?_)
  · replace h := (if_pos c1).symm.trans h
    refine g_iconst hz d_R_nextLetter_23 ki_m1 ?_
    exact g_iret hz (rti h hq) d_R_nextLetter_24
  · replace h := (if_neg c1).symm.trans h
    refine g_aload_n hz 0 d_R_nextLetter_11 rfl rfl ?_
    refine gf_R_tape hz q_1019 d_R_nextLetter_12 ?_
    refine g_aload_n hz 0 d_R_nextLetter_15 rfl rfl ?_
    refine gf_R_reading hz q_1024 d_R_nextLetter_16 ?_
    obtain ⟨n2, h⟩ := gd_use h
    refine g_iald hz (by decide) n2 d_R_nextLetter_19 ?_
    refine g_goto hz (tgt := 24) d_R_nextLetter_20 (by decide) ?_
    exact g_iret hz (rti h hq) d_R_nextLetter_24
def f_R_isIn (s : Mm) (a0 : Int32) (a1 : Int32) (a2 : Int32) : Option (Int32 × Mm) :=
  if a0 < a1 then
    some (0, s)
  else
    if a2 < a0 then
      some (0, s)
    else
      some (1, s)
set_option maxRecDepth 20000 in
theorem c_R_isIn (l : Launch) {s : Mm} {a0 : Int32} {a1 : Int32} {a2 : Int32} {r' : Int32} {s' : Mm}  (h : f_R_isIn s a0 a1 a2 = some (r', s')) : Cm l y_R_isIn b_R_isIn 3 (some .boolean) 0 0 [.int a0, .int a1, .int a2] s s' (some (.int r')) := by
  refine Cm.of (own := "PassedOnAndBetterModel") (by decide) rfl (fun ad => Nat.le_of_ble_eq_true rfl) ?_
  intro z hz hq
  show G l z b_R_isIn 3 0 [(0, .int a0), (1, .int a1), (2, .int a2)] [] s
  unfold f_R_isIn at h
  refine g_iload_n hz 0 d_R_isIn_0 rfl rfl ?_
  refine g_iload_n hz 1 d_R_isIn_1 rfl rfl ?_
  refine g_icmp_lt hz (tgt := 14) d_R_isIn_2 (by decide) (fun c1 => ?_) (fun c1 => ?_)
  · replace h := (if_pos c1).symm.trans h
    refine g_iconst hz d_R_isIn_14 ki_0 ?_
    exact g_zret hz (rti h hq) (Or.inl rfl) d_R_isIn_15
  · replace h := (if_neg c1).symm.trans h
    refine g_iload_n hz 0 d_R_isIn_5 rfl rfl ?_
    refine g_iload_n hz 2 d_R_isIn_6 rfl rfl ?_
    refine g_icmp_gt hz (tgt := 14) d_R_isIn_7 (by decide) (fun c2 => ?_) (fun c2 => ?_)
    · replace h := (if_pos c2).symm.trans h
      refine g_iconst hz d_R_isIn_14 ki_0 ?_
      exact g_zret hz (rti h hq) (Or.inl rfl) d_R_isIn_15
    · replace h := (if_neg c2).symm.trans h
      refine g_iconst hz d_R_isIn_10 ki_1 ?_
      refine g_goto hz (tgt := 15) d_R_isIn_11 (by decide) ?_
      exact g_zret hz (rti h hq) (Or.inr rfl) d_R_isIn_15
def k_R_readsDigits_5 : Nat → Int32 → Int32 → Int32 → Int32 → Mm → Option (Int32 × Mm)
  | 0, _, _, _, _, _ => none
  | n + 1, v1, v2, v3, v4, s => if v2 ≤ v4 then
      gd v1 144 <|
      nm (mU s 192 v1.toNatClampNeg v3) fun s3 =>
      some (1, s3)
    else
      bn (f_R_nextLetter s) fun x7 s6 =>
      bn (f_R_isIn s6 x7 48 57) fun x10 s9 =>
      if x10 = 0 then
        some (0, s9)
      else
        bn (f_R_nextLetter s9) fun x14 s13 =>
        nm (((10 * v3) + x14) - 48) fun x15 =>
        nm (mU s13 176 21 ((s13 176 21) + 1)) fun s17 =>
        k_R_readsDigits_5 n v1 v2 x15 (v4 + 1) s17
set_option maxRecDepth 20000 in
theorem w_R_readsDigits_5 {l : Launch} {z : Zt} (hz : ZOk z b_R_readsDigits 5 "PassedOnAndBetterModel" 1 22) {r' : Int32} {s' : Mm} (hq : ZR z (some .boolean) s' (some (.int r'))) : ∀ (n : Nat) (v1 : Int32) (v2 : Int32) (v3 : Int32) (v4 : Int32) (s : Mm), k_R_readsDigits_5 n v1 v2 v3 v4 s = some (r', s') → G l z b_R_readsDigits 5 5 [(0, .ref 176), (1, .int v1), (2, .int v2), (3, .int v3), (4, .int v4)] [] s := by
  intro n
  induction n with
  | zero => intro v1 v2 v3 v4 s h; unfold k_R_readsDigits_5 at h; cases h
  | succ n ih =>
    intro v1 v2 v3 v4 s h
    unfold k_R_readsDigits_5 at h
    refine g_iload hz 4 d_R_readsDigits_5 rfl ?_
    refine g_iload_n hz 2 d_R_readsDigits_7 rfl rfl ?_
    refine g_icmp_ge hz (tgt := 56) d_R_readsDigits_8 (by decide) (fun c1 => ?_) (fun c1 => ?_)
    · replace h := (if_pos c1).symm.trans h
      refine g_aload_n hz 0 d_R_readsDigits_56 rfl rfl ?_
      refine gf_R_told hz q_1022 d_R_readsDigits_57 ?_
      refine g_iload_n hz 1 d_R_readsDigits_60 rfl rfl ?_
      refine g_iload_n hz 3 d_R_readsDigits_61 rfl rfl ?_
      obtain ⟨n2, h⟩ := gd_use h
      refine g_iast hz (by decide) n2 d_R_readsDigits_62 (fun s3 e4 => ?_)
      replace h := nm_use h e4
      refine g_iconst hz d_R_readsDigits_63 ki_1 ?_
      exact g_zret hz (rti h hq) (Or.inr rfl) d_R_readsDigits_64
    · replace h := (if_neg c1).symm.trans h
      refine g_aload_n hz 0 d_R_readsDigits_11 rfl rfl ?_
      refine bn_use h (fun x7 s6 e5 h => ?_)
      refine g_callVi hz (c_R_nextLetter l e5) (by decide) rc_R rfl rfl m_R_nextLetter mi_R_nextLetter ms_R_nextLetter q_1119 ⟨Nat.le_of_ble_eq_true rfl, Nat.le_of_ble_eq_true rfl⟩ rfl (st := []) rfl (Nat.le_of_ble_eq_true rfl) d_R_readsDigits_12 ?_
      refine g_bipush hz (v := 48) d_R_readsDigits_15 (by decide) ?_
      refine g_bipush hz (v := 57) d_R_readsDigits_17 (by decide) ?_
      refine bn_use h (fun x10 s9 e8 h => ?_)
      refine g_callSi hz (c_R_isIn l e8) m_R_isIn mi_R_isIn q_1131 ⟨Nat.le_of_ble_eq_true rfl, Nat.le_of_ble_eq_true rfl⟩ rfl (st := []) rfl (Nat.le_of_ble_eq_true rfl) d_R_readsDigits_19 ?_
      refine g_if_ne hz (tgt := 27) d_R_readsDigits_22 (by decide) (fun c11 => ?_) (fun c11 => ?_)
      · replace h := (if_neg c11).symm.trans h
        refine g_bipush hz (v := 10) d_R_readsDigits_27 (by decide) ?_
        refine g_iload_n hz 3 d_R_readsDigits_29 rfl rfl ?_
        refine g_imul hz d_R_readsDigits_30 ?_
        refine g_aload_n hz 0 d_R_readsDigits_31 rfl rfl ?_
        refine bn_use h (fun x14 s13 e12 h => ?_)
        refine g_callVi hz (c_R_nextLetter l e12) (by decide) rc_R rfl rfl m_R_nextLetter mi_R_nextLetter ms_R_nextLetter q_1119 ⟨Nat.le_of_ble_eq_true rfl, Nat.le_of_ble_eq_true rfl⟩ rfl (st := [.int (10 * v3)]) rfl (Nat.le_of_ble_eq_true rfl) d_R_readsDigits_32 ?_
        refine g_iadd hz d_R_readsDigits_35 ?_
        refine g_bipush hz (v := 48) d_R_readsDigits_36 (by decide) ?_
        refine g_isub hz d_R_readsDigits_38 ?_
        refine g_nmi (fun x15 e16 => ?_)
        replace h := nm_use h e16
        refine g_istore_n hz (L' := [(3, .int x15), (0, .ref 176), (1, .int v1), (2, .int v2), (4, .int v4)]) d_R_readsDigits_39 rfl (by decide) rfl ?_
        refine g_aload_n hz 1 d_R_readsDigits_40 rfl rfl ?_
        refine g_dup hz d_R_readsDigits_41 rfl ?_
        refine gf_R_reading hz q_1024 d_R_readsDigits_42 ?_
        refine g_iconst hz d_R_readsDigits_45 ki_1 ?_
        refine g_iadd hz d_R_readsDigits_46 ?_
        refine pf_R_reading hz q_1024 d_R_readsDigits_47 (fun s17 e18 => ?_)
        replace h := nm_use h e18
        refine g_iinc hz (v := v4 + 1) (L' := [(4, .int (v4 + 1)), (3, .int x15), (0, .ref 176), (1, .int v1), (2, .int v2)]) 4 d_R_readsDigits_50 rfl (congrArg (fun q => v4 + q) ki_1) (by decide) rfl ?_
        refine g_goto hz (tgt := 5) d_R_readsDigits_53 (by decide) ?_
        refine g_sub [2, 3, 4, 1, 0] rfl ?_
        exact ih v1 v2 x15 (v4 + 1) _ h
      · replace h := (if_pos c11).symm.trans h
        refine g_iconst hz d_R_readsDigits_25 ki_0 ?_
        exact g_zret hz (rti h hq) (Or.inl rfl) d_R_readsDigits_26
def f_R_readsDigits (s : Mm) (a1 : Int32) (a2 : Int32) : Option (Int32 × Mm) :=
  k_R_readsDigits_5 KF a1 a2 0 0 s
set_option maxRecDepth 20000 in
theorem c_R_readsDigits (l : Launch) {s : Mm} {a1 : Int32} {a2 : Int32} {r' : Int32} {s' : Mm}  (h : f_R_readsDigits s a1 a2 = some (r', s')) : Cm l y_R_readsDigits b_R_readsDigits 5 (some .boolean) 1 22 [.ref 176, .int a1, .int a2] s s' (some (.int r')) := by
  refine Cm.of (own := "PassedOnAndBetterModel") (by decide) rfl (fun ad => Nat.le_of_ble_eq_true rfl) ?_
  intro z hz hq
  show G l z b_R_readsDigits 5 0 [(0, .ref 176), (1, .int a1), (2, .int a2)] [] s
  unfold f_R_readsDigits at h
  refine g_iconst hz d_R_readsDigits_0 ki_0 ?_
  refine g_istore_n hz (L' := [(3, .int 0), (0, .ref 176), (1, .int a1), (2, .int a2)]) d_R_readsDigits_1 rfl (by decide) rfl ?_
  refine g_iconst hz d_R_readsDigits_2 ki_0 ?_
  refine g_istore hz (L' := [(4, .int 0), (3, .int 0), (0, .ref 176), (1, .int a1), (2, .int a2)]) d_R_readsDigits_3 (by decide) rfl ?_
  refine g_sub [2, 3, 4, 1, 0] rfl ?_
  exact w_R_readsDigits_5 hz hq KF a1 a2 0 0 _ h
def f_R_readsAll (s : Mm) (a1 : Int32) (a2 : Int32) : Option (Int32 × Mm) :=
  if a1 = 100 then
    bn (f_R_readsDigits s a2 1) fun x4 s3 =>
    if x4 = 0 then
      some (0, s3)
    else
      bn (f_R_readsDigits s3 (a2 + 1) 2) fun x8 s7 =>
      if x8 = 0 then
        some (0, s7)
      else
        some (1, s7)
  else if a1 = 102 then
    bn (f_R_readsDigits s a2 1) fun x13 s12 =>
    if x13 = 0 then
      some (0, s12)
    else
      bn (f_R_readsDigits s12 (a2 + 1) 1) fun x17 s16 =>
      if x17 = 0 then
        some (0, s16)
      else
        bn (f_R_readsDigits s16 (a2 + 2) 2) fun x21 s20 =>
        if x21 = 0 then
          some (0, s20)
        else
          some (1, s20)
  else if a1 = 103 then
    bn (f_R_readsDigits s a2 2) fun x26 s25 =>
    if x26 = 0 then
      some (0, s25)
    else
      bn (f_R_readsDigits s25 (a2 + 1) 2) fun x30 s29 =>
      if x30 = 0 then
        some (0, s29)
      else
        bn (f_R_readsDigits s29 (a2 + 2) 1) fun x34 s33 =>
        if x34 = 0 then
          some (0, s33)
        else
          some (1, s33)
  else if a1 = 109 then
    bn (f_R_readsDigits s a2 2) fun x39 s38 =>
    gb x39 <|
    some (x39, s38)
  else
    bn (f_R_readsDigits s a2 1) fun x43 s42 =>
    if x43 = 0 then
      some (0, s42)
    else
      bn (f_R_readsDigits s42 (a2 + 1) 1) fun x47 s46 =>
      if x47 = 0 then
        some (0, s46)
      else
        some (1, s46)
set_option maxRecDepth 20000 in
theorem c_R_readsAll (l : Launch) {s : Mm} {a1 : Int32} {a2 : Int32} {r' : Int32} {s' : Mm}  (h : f_R_readsAll s a1 a2 = some (r', s')) : Cm l y_R_readsAll b_R_readsAll 3 (some .boolean) 2 46 [.ref 176, .int a1, .int a2] s s' (some (.int r')) := by
  refine Cm.of (own := "PassedOnAndBetterModel") (by decide) rfl (fun ad => Nat.le_of_ble_eq_true rfl) ?_
  intro z hz hq
  show G l z b_R_readsAll 3 0 [(0, .ref 176), (1, .int a1), (2, .int a2)] [] s
  unfold f_R_readsAll at h
  refine g_iload_n hz 1 d_R_readsAll_0 rfl rfl ?_
  by_cases c1 : a1 = 100
  · replace h := (if_pos c1).symm.trans h
    refine g_tin hz (off := 129) (tgt := 130) d_R_readsAll_1 c1 (by decide) (by decide) (by decide) (by decide) ?_
    refine g_aload_n hz 0 d_R_readsAll_130 rfl rfl ?_
    refine g_iload_n hz 2 d_R_readsAll_131 rfl rfl ?_
    refine g_iconst hz d_R_readsAll_132 ki_1 ?_
    refine bn_use h (fun x4 s3 e2 h => ?_)
    refine g_callVi hz (c_R_readsDigits l e2) (by decide) rc_R rfl rfl m_R_readsDigits mi_R_readsDigits ms_R_readsDigits q_1127 ⟨Nat.le_of_ble_eq_true rfl, Nat.le_of_ble_eq_true rfl⟩ rfl (st := []) rfl (Nat.le_of_ble_eq_true rfl) d_R_readsAll_133 ?_
    refine g_if_eq hz (tgt := 154) d_R_readsAll_136 (by decide) (fun c5 => ?_) (fun c5 => ?_)
    · replace h := (if_pos c5).symm.trans h
      refine g_iconst hz d_R_readsAll_154 ki_0 ?_
      exact g_zret hz (rti h hq) (Or.inl rfl) d_R_readsAll_155
    · replace h := (if_neg c5).symm.trans h
      refine g_aload_n hz 0 d_R_readsAll_139 rfl rfl ?_
      refine g_iload_n hz 2 d_R_readsAll_140 rfl rfl ?_
      refine g_iconst hz d_R_readsAll_141 ki_1 ?_
      refine g_iadd hz d_R_readsAll_142 ?_
      refine g_iconst hz d_R_readsAll_143 ki_2 ?_
      refine bn_use h (fun x8 s7 e6 h => ?_)
      refine g_callVi hz (c_R_readsDigits l e6) (by decide) rc_R rfl rfl m_R_readsDigits mi_R_readsDigits ms_R_readsDigits q_1127 ⟨Nat.le_of_ble_eq_true rfl, Nat.le_of_ble_eq_true rfl⟩ rfl (st := []) rfl (Nat.le_of_ble_eq_true rfl) d_R_readsAll_144 ?_
      refine g_if_eq hz (tgt := 154) d_R_readsAll_147 (by decide) (fun c9 => ?_) (fun c9 => ?_)
      · replace h := (if_pos c9).symm.trans h
        refine g_iconst hz d_R_readsAll_154 ki_0 ?_
        exact g_zret hz (rti h hq) (Or.inl rfl) d_R_readsAll_155
      · replace h := (if_neg c9).symm.trans h
        refine g_iconst hz d_R_readsAll_150 ki_1 ?_
        refine g_goto hz (tgt := 155) d_R_readsAll_151 (by decide) ?_
        exact g_zret hz (rti h hq) (Or.inr rfl) d_R_readsAll_155
  · replace h := (if_neg c1).symm.trans h
    by_cases c10 : a1 = 102
    · replace h := (if_pos c10).symm.trans h
      refine g_tin hz (off := 55) (tgt := 56) d_R_readsAll_1 c10 (by decide) (by decide) (by decide) (by decide) ?_
      refine g_aload_n hz 0 d_R_readsAll_56 rfl rfl ?_
      refine g_iload_n hz 2 d_R_readsAll_57 rfl rfl ?_
      refine g_iconst hz d_R_readsAll_58 ki_1 ?_
      refine bn_use h (fun x13 s12 e11 h => ?_)
      refine g_callVi hz (c_R_readsDigits l e11) (by decide) rc_R rfl rfl m_R_readsDigits mi_R_readsDigits ms_R_readsDigits q_1127 ⟨Nat.le_of_ble_eq_true rfl, Nat.le_of_ble_eq_true rfl⟩ rfl (st := []) rfl (Nat.le_of_ble_eq_true rfl) d_R_readsAll_59 ?_
      refine g_if_eq hz (tgt := 91) d_R_readsAll_62 (by decide) (fun c14 => ?_) (fun c14 => ?_)
      · replace h := (if_pos c14).symm.trans h
        refine g_iconst hz d_R_readsAll_91 ki_0 ?_
        exact g_zret hz (rti h hq) (Or.inl rfl) d_R_readsAll_92
      · replace h := (if_neg c14).symm.trans h
        refine g_aload_n hz 0 d_R_readsAll_65 rfl rfl ?_
        refine g_iload_n hz 2 d_R_readsAll_66 rfl rfl ?_
        refine g_iconst hz d_R_readsAll_67 ki_1 ?_
        refine g_iadd hz d_R_readsAll_68 ?_
        refine g_iconst hz d_R_readsAll_69 ki_1 ?_
        refine bn_use h (fun x17 s16 e15 h => ?_)
        refine g_callVi hz (c_R_readsDigits l e15) (by decide) rc_R rfl rfl m_R_readsDigits mi_R_readsDigits ms_R_readsDigits q_1127 ⟨Nat.le_of_ble_eq_true rfl, Nat.le_of_ble_eq_true rfl⟩ rfl (st := []) rfl (Nat.le_of_ble_eq_true rfl) d_R_readsAll_70 ?_
        refine g_if_eq hz (tgt := 91) d_R_readsAll_73 (by decide) (fun c18 => ?_) (fun c18 => ?_)
        · replace h := (if_pos c18).symm.trans h
          refine g_iconst hz d_R_readsAll_91 ki_0 ?_
          exact g_zret hz (rti h hq) (Or.inl rfl) d_R_readsAll_92
        · replace h := (if_neg c18).symm.trans h
          refine g_aload_n hz 0 d_R_readsAll_76 rfl rfl ?_
          refine g_iload_n hz 2 d_R_readsAll_77 rfl rfl ?_
          refine g_iconst hz d_R_readsAll_78 ki_2 ?_
          refine g_iadd hz d_R_readsAll_79 ?_
          refine g_iconst hz d_R_readsAll_80 ki_2 ?_
          refine bn_use h (fun x21 s20 e19 h => ?_)
          refine g_callVi hz (c_R_readsDigits l e19) (by decide) rc_R rfl rfl m_R_readsDigits mi_R_readsDigits ms_R_readsDigits q_1127 ⟨Nat.le_of_ble_eq_true rfl, Nat.le_of_ble_eq_true rfl⟩ rfl (st := []) rfl (Nat.le_of_ble_eq_true rfl) d_R_readsAll_81 ?_
          refine g_if_eq hz (tgt := 91) d_R_readsAll_84 (by decide) (fun c22 => ?_) (fun c22 => ?_)
          · replace h := (if_pos c22).symm.trans h
            refine g_iconst hz d_R_readsAll_91 ki_0 ?_
            exact g_zret hz (rti h hq) (Or.inl rfl) d_R_readsAll_92
          · replace h := (if_neg c22).symm.trans h
            refine g_iconst hz d_R_readsAll_87 ki_1 ?_
            refine g_goto hz (tgt := 92) d_R_readsAll_88 (by decide) ?_
            exact g_zret hz (rti h hq) (Or.inr rfl) d_R_readsAll_92
    · replace h := (if_neg c10).symm.trans h
      by_cases c23 : a1 = 103
      · replace h := (if_pos c23).symm.trans h
        refine g_tin hz (off := 92) (tgt := 93) d_R_readsAll_1 c23 (by decide) (by decide) (by decide) (by decide) ?_
        refine g_aload_n hz 0 d_R_readsAll_93 rfl rfl ?_
        refine g_iload_n hz 2 d_R_readsAll_94 rfl rfl ?_
        refine g_iconst hz d_R_readsAll_95 ki_2 ?_
        refine bn_use h (fun x26 s25 e24 h => ?_)
        refine g_callVi hz (c_R_readsDigits l e24) (by decide) rc_R rfl rfl m_R_readsDigits mi_R_readsDigits ms_R_readsDigits q_1127 ⟨Nat.le_of_ble_eq_true rfl, Nat.le_of_ble_eq_true rfl⟩ rfl (st := []) rfl (Nat.le_of_ble_eq_true rfl) d_R_readsAll_96 ?_
        refine g_if_eq hz (tgt := 128) d_R_readsAll_99 (by decide) (fun c27 => ?_) (fun c27 => ?_)
        · replace h := (if_pos c27).symm.trans h
          refine g_iconst hz d_R_readsAll_128 ki_0 ?_
          exact g_zret hz (rti h hq) (Or.inl rfl) d_R_readsAll_129
        · replace h := (if_neg c27).symm.trans h
          refine g_aload_n hz 0 d_R_readsAll_102 rfl rfl ?_
          refine g_iload_n hz 2 d_R_readsAll_103 rfl rfl ?_
          refine g_iconst hz d_R_readsAll_104 ki_1 ?_
          refine g_iadd hz d_R_readsAll_105 ?_
          refine g_iconst hz d_R_readsAll_106 ki_2 ?_
          refine bn_use h (fun x30 s29 e28 h => ?_)
          refine g_callVi hz (c_R_readsDigits l e28) (by decide) rc_R rfl rfl m_R_readsDigits mi_R_readsDigits ms_R_readsDigits q_1127 ⟨Nat.le_of_ble_eq_true rfl, Nat.le_of_ble_eq_true rfl⟩ rfl (st := []) rfl (Nat.le_of_ble_eq_true rfl) d_R_readsAll_107 ?_
          refine g_if_eq hz (tgt := 128) d_R_readsAll_110 (by decide) (fun c31 => ?_) (fun c31 => ?_)
          · replace h := (if_pos c31).symm.trans h
            refine g_iconst hz d_R_readsAll_128 ki_0 ?_
            exact g_zret hz (rti h hq) (Or.inl rfl) d_R_readsAll_129
          · replace h := (if_neg c31).symm.trans h
            refine g_aload_n hz 0 d_R_readsAll_113 rfl rfl ?_
            refine g_iload_n hz 2 d_R_readsAll_114 rfl rfl ?_
            refine g_iconst hz d_R_readsAll_115 ki_2 ?_
            refine g_iadd hz d_R_readsAll_116 ?_
            refine g_iconst hz d_R_readsAll_117 ki_1 ?_
            refine bn_use h (fun x34 s33 e32 h => ?_)
            refine g_callVi hz (c_R_readsDigits l e32) (by decide) rc_R rfl rfl m_R_readsDigits mi_R_readsDigits ms_R_readsDigits q_1127 ⟨Nat.le_of_ble_eq_true rfl, Nat.le_of_ble_eq_true rfl⟩ rfl (st := []) rfl (Nat.le_of_ble_eq_true rfl) d_R_readsAll_118 ?_
            refine g_if_eq hz (tgt := 128) d_R_readsAll_121 (by decide) (fun c35 => ?_) (fun c35 => ?_)
            · replace h := (if_pos c35).symm.trans h
              refine g_iconst hz d_R_readsAll_128 ki_0 ?_
              exact g_zret hz (rti h hq) (Or.inl rfl) d_R_readsAll_129
            · replace h := (if_neg c35).symm.trans h
              refine g_iconst hz d_R_readsAll_124 ki_1 ?_
              refine g_goto hz (tgt := 129) d_R_readsAll_125 (by decide) ?_
              exact g_zret hz (rti h hq) (Or.inr rfl) d_R_readsAll_129
      · replace h := (if_neg c23).symm.trans h
        by_cases c36 : a1 = 109
        · replace h := (if_pos c36).symm.trans h
          refine g_tin hz (off := 155) (tgt := 156) d_R_readsAll_1 c36 (by decide) (by decide) (by decide) (by decide) ?_
          refine g_aload_n hz 0 d_R_readsAll_156 rfl rfl ?_
          refine g_iload_n hz 2 d_R_readsAll_157 rfl rfl ?_
          refine g_iconst hz d_R_readsAll_158 ki_2 ?_
          refine bn_use h (fun x39 s38 e37 h => ?_)
          refine g_callVi hz (c_R_readsDigits l e37) (by decide) rc_R rfl rfl m_R_readsDigits mi_R_readsDigits ms_R_readsDigits q_1127 ⟨Nat.le_of_ble_eq_true rfl, Nat.le_of_ble_eq_true rfl⟩ rfl (st := []) rfl (Nat.le_of_ble_eq_true rfl) d_R_readsAll_159 ?_
          obtain ⟨n40, h⟩ := gb_use h
          exact g_zret hz (rti h hq) n40 d_R_readsAll_162
        · replace h := (if_neg c36).symm.trans h
          refine g_tdf hz (tgt := 163) d_R_readsAll_1 (fun i hi hx => ?_) (by decide) ?_
          · match i, hi, hx with
            | 0, _, hx => exact absurd hx (lv_neT c1 (by decide))
            | 1, _, _ => rfl
            | 2, _, hx => exact absurd hx (lv_neT c10 (by decide))
            | 3, _, hx => exact absurd hx (lv_neT c23 (by decide))
            | 4, _, _ => rfl
            | 5, _, _ => rfl
            | 6, _, _ => rfl
            | 7, _, _ => rfl
            | 8, _, _ => rfl
            | 9, _, hx => exact absurd hx (lv_neT c36 (by decide))
            | q + 10, hi, _ => exact absurd hi (by omega)
          · refine g_aload_n hz 0 d_R_readsAll_163 rfl rfl ?_
            refine g_iload_n hz 2 d_R_readsAll_164 rfl rfl ?_
            refine g_iconst hz d_R_readsAll_165 ki_1 ?_
            refine bn_use h (fun x43 s42 e41 h => ?_)
            refine g_callVi hz (c_R_readsDigits l e41) (by decide) rc_R rfl rfl m_R_readsDigits mi_R_readsDigits ms_R_readsDigits q_1127 ⟨Nat.le_of_ble_eq_true rfl, Nat.le_of_ble_eq_true rfl⟩ rfl (st := []) rfl (Nat.le_of_ble_eq_true rfl) d_R_readsAll_166 ?_
            refine g_if_eq hz (tgt := 187) d_R_readsAll_169 (by decide) (fun c44 => ?_) (fun c44 => ?_)
            · replace h := (if_pos c44).symm.trans h
              refine g_iconst hz d_R_readsAll_187 ki_0 ?_
              exact g_zret hz (rti h hq) (Or.inl rfl) d_R_readsAll_188
            · replace h := (if_neg c44).symm.trans h
              refine g_aload_n hz 0 d_R_readsAll_172 rfl rfl ?_
              refine g_iload_n hz 2 d_R_readsAll_173 rfl rfl ?_
              refine g_iconst hz d_R_readsAll_174 ki_1 ?_
              refine g_iadd hz d_R_readsAll_175 ?_
              refine g_iconst hz d_R_readsAll_176 ki_1 ?_
              refine bn_use h (fun x47 s46 e45 h => ?_)
              refine g_callVi hz (c_R_readsDigits l e45) (by decide) rc_R rfl rfl m_R_readsDigits mi_R_readsDigits ms_R_readsDigits q_1127 ⟨Nat.le_of_ble_eq_true rfl, Nat.le_of_ble_eq_true rfl⟩ rfl (st := []) rfl (Nat.le_of_ble_eq_true rfl) d_R_readsAll_177 ?_
              refine g_if_eq hz (tgt := 187) d_R_readsAll_180 (by decide) (fun c48 => ?_) (fun c48 => ?_)
              · replace h := (if_pos c48).symm.trans h
                refine g_iconst hz d_R_readsAll_187 ki_0 ?_
                exact g_zret hz (rti h hq) (Or.inl rfl) d_R_readsAll_188
              · replace h := (if_neg c48).symm.trans h
                refine g_iconst hz d_R_readsAll_183 ki_1 ?_
                refine g_goto hz (tgt := 188) d_R_readsAll_184 (by decide) ?_
                exact g_zret hz (rti h hq) (Or.inr rfl) d_R_readsAll_188
