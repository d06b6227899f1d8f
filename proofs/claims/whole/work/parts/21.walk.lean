def f_L_tellDoor (s : Mm) (o1 : Nat) (a2 : Int32) : Option (Int32 × Mm) :=
  bn (f_L_digitAt s a2) fun x3 s2 =>
  bn (f_L_twoDigitsAt s2 (a2 + 1)) fun x6 s5 =>
  bn (f_C_hasFriend s5 o1 x3) fun x9 s8 =>
  if x9 = 0 then
    some (0, s8)
  else
    if 1 ≤ x6 then
      bn (f_C_friendAt s8 o1 x3) fun x14 s13 =>
      nm (mU s13 x14 2 x6) fun s15 =>
      some (1, s15)
    else
      some (0, s8)
set_option maxRecDepth 20000 in
theorem c_L_tellDoor (l : Launch) {s : Mm} {o1 : Nat} {a2 : Int32} {r' : Int32} {s' : Mm} (ho1 : iC o1) (h : f_L_tellDoor s o1 a2 = some (r', s')) : Cm l y_L_tellDoor b_L_tellDoor 5 (some .boolean) 4 84 [.ref 169, .ref o1, .int a2] s s' (some (.int r')) := by
  refine Cm.of (own := "PassedOnAndBetter$Letters") (by decide) rfl (fun ad => Nat.le_of_ble_eq_true rfl) ?_
  intro z hz hq
  show G l z b_L_tellDoor 5 0 [(0, .ref 169), (1, .ref o1), (2, .int a2)] [] s
  unfold f_L_tellDoor at h
  refine g_aload_n hz 0 d_L_tellDoor_0 rfl rfl ?_
  refine g_iload_n hz 2 d_L_tellDoor_1 rfl rfl ?_
  refine bn_use h (fun x3 s2 e1 h => ?_)
  refine g_callVi hz (c_L_digitAt l e1) (by decide) rc_L rfl rfl m_L_digitAt mi_L_digitAt ms_L_digitAt q_413 ⟨Nat.le_of_ble_eq_true rfl, Nat.le_of_ble_eq_true rfl⟩ rfl (st := []) rfl (Nat.le_of_ble_eq_true rfl) d_L_tellDoor_2 ?_
  refine g_istore_n hz (L' := [(3, .int x3), (0, .ref 169), (1, .ref o1), (2, .int a2)]) d_L_tellDoor_5 rfl (by decide) rfl ?_
  refine g_aload_n hz 1 d_L_tellDoor_6 rfl rfl ?_
  refine g_iload_n hz 3 d_L_tellDoor_7 rfl rfl ?_
  refine g_iconst hz d_L_tellDoor_8 ki_1 ?_
  refine g_iadd hz d_L_tellDoor_9 ?_
  refine bn_use h (fun x6 s5 e4 h => ?_)
  refine g_callVi hz (c_L_twoDigitsAt l e4) (by decide) rc_L rfl rfl m_L_twoDigitsAt mi_L_twoDigitsAt ms_L_twoDigitsAt q_417 ⟨Nat.le_of_ble_eq_true rfl, Nat.le_of_ble_eq_true rfl⟩ rfl (st := []) rfl (Nat.le_of_ble_eq_true rfl) d_L_tellDoor_10 ?_
  refine g_istore hz (L' := [(4, .int x6), (3, .int x3), (0, .ref 169), (1, .ref o1), (2, .int a2)]) d_L_tellDoor_13 (by decide) rfl ?_
  refine g_aload_n hz 3 d_L_tellDoor_15 rfl rfl ?_
  refine g_iload_n hz 1 d_L_tellDoor_16 rfl rfl ?_
  refine bn_use h (fun x9 s8 e7 h => ?_)
  refine g_callVi hz (c_C_hasFriend l ho1 e7) (iC_lt ho1) (rc_C ho1) rfl rfl m_C_hasFriend mi_C_hasFriend ms_C_hasFriend q_450 ⟨Nat.le_of_ble_eq_true rfl, Nat.le_of_ble_eq_true rfl⟩ rfl (st := []) rfl (Nat.le_of_ble_eq_true rfl) d_L_tellDoor_17 ?_
  refine g_if_eq hz (tgt := 29) d_L_tellDoor_20 (by decide) (fun c10 => ?_) (fun c10 => ?_)
  · replace h := (if_pos c10).symm.trans h
    refine g_iconst hz d_L_tellDoor_29 ki_0 ?_
    exact g_zret hz (rti h hq) (Or.inl rfl) d_L_tellDoor_30
  · replace h := (if_neg c10).symm.trans h
    refine g_iload hz 0 d_L_tellDoor_23 rfl ?_
    refine g_iconst hz d_L_tellDoor_25 ki_1 ?_
    refine g_icmp_ge hz (tgt := 31) d_L_tellDoor_26 (by decide) (fun c11 => ?_) (fun c11 => ?_)
    · replace h := (if_pos c11).symm.trans h
      refine g_aload_n hz 3 d_L_tellDoor_31 rfl rfl ?_
      refine g_iload_n hz 1 d_L_tellDoor_32 rfl rfl ?_
      refine bn_use h (fun x14 s13 e12 h => ?_)
      have hx14 := rr_C_friendAt ho1 e12
      refine g_callVr hz (c_C_friendAt l ho1 e12) (iC_lt ho1) (rc_C ho1) rfl rfl m_C_friendAt mi_C_friendAt ms_C_friendAt q_462 ⟨Nat.le_of_ble_eq_true rfl, Nat.le_of_ble_eq_true rfl⟩ rfl (st := []) rfl (Nat.le_of_ble_eq_true rfl) d_L_tellDoor_33 ?_
      refine g_iload hz 0 d_L_tellDoor_36 rfl ?_
      refine pf_F_door hz hx14 q_125 d_L_tellDoor_38 (fun s15 e16 => ?_)
      replace h := nm_use h e16
      refine g_iconst hz d_L_tellDoor_41 ki_1 ?_
      exact g_zret hz (rti h hq) (Or.inr rfl) d_L_tellDoor_42
    · replace h := (if_neg c11).symm.trans h
      refine g_iconst hz d_L_tellDoor_29 ki_0 ?_
      exact g_zret hz (rti h hq) (Or.inl rfl) d_L_tellDoor_30
def f_C_giftsAreFull (s : Mm) (o : Nat) : Option (Int32 × Mm) :=
  if (s o 5) < 4 then
    some (0, s)
  else
    some (1, s)
set_option maxRecDepth 20000 in
theorem c_C_giftsAreFull (l : Launch) {s : Mm} {o : Nat} {r' : Int32} {s' : Mm} (ho : iC o) (h : f_C_giftsAreFull s o = some (r', s')) : Cm l y_C_giftsAreFull b_C_giftsAreFull 1 (some .boolean) 0 0 [.ref o] s s' (some (.int r')) := by
  refine Cm.of (own := "PassedOnAndBetter$Company") (by decide) rfl (fun ad => Nat.le_of_ble_eq_true rfl) ?_
  intro z hz hq
  show G l z b_C_giftsAreFull 1 0 [(0, .ref o)] [] s
  unfold f_C_giftsAreFull at h
  refine g_aload_n hz 0 d_C_giftsAreFull_0 rfl rfl ?_
  refine gf_C_gifts hz ho q_210 d_C_giftsAreFull_1 ?_
  refine g_iconst hz d_C_giftsAreFull_4 ki_4 ?_
  refine g_icmp_lt hz (tgt := 12) d_C_giftsAreFull_5 (by decide) (fun c1 => ?_) (fun c1 => ?_)
  · replace h := (if_pos c1).symm.trans h
    refine g_iconst hz d_C_giftsAreFull_12 ki_0 ?_
    exact g_zret hz (rti h hq) (Or.inl rfl) d_C_giftsAreFull_13
  · replace h := (if_neg c1).symm.trans h
    refine g_iconst hz d_C_giftsAreFull_8 ki_1 ?_
    refine g_goto hz (tgt := 13) d_C_giftsAreFull_9 (by decide) ?_
    exact g_zret hz (rti h hq) (Or.inr rfl) d_C_giftsAreFull_13
def f_C_addGift (s : Mm) (o : Nat) (a1 : Int32) (a2 : Int32) (a3 : Int32) : Option (Int32 × Mm) :=
  nm (s o 5) fun x1 =>
  bn (f_C_giftAt s o x1) fun x5 s4 =>
  bv (f_G_begin s4 x5 a1 a2 a3) fun s7 =>
  nm (mU s7 o 5 ((s7 o 5) + 1)) fun s8 =>
  some (x1, s8)
set_option maxRecDepth 20000 in
theorem c_C_addGift (l : Launch) {s : Mm} {o : Nat} {a1 : Int32} {a2 : Int32} {a3 : Int32} {r' : Int32} {s' : Mm} (ho : iC o) (h : f_C_addGift s o a1 a2 a3 = some (r', s')) : Cm l y_C_addGift b_C_addGift 5 (some .int) 1 23 [.ref o, .int a1, .int a2, .int a3] s s' (some (.int r')) := by
  refine Cm.of (own := "PassedOnAndBetter$Company") (by decide) rfl (fun ad => Nat.le_of_ble_eq_true rfl) ?_
  intro z hz hq
  show G l z b_C_addGift 5 0 [(0, .ref o), (1, .int a1), (2, .int a2), (3, .int a3)] [] s
  unfold f_C_addGift at h
  refine g_aload_n hz 0 d_C_addGift_0 rfl rfl ?_
  refine gf_C_gifts hz ho q_210 d_C_addGift_1 ?_
  refine g_nmi (fun x1 e2 => ?_)
  replace h := nm_use h e2
  refine g_istore hz (L' := [(4, .int x1), (0, .ref o), (1, .int a1), (2, .int a2), (3, .int a3)]) d_C_addGift_4 (by decide) rfl ?_
  refine g_aload_n hz 1 d_C_addGift_6 rfl rfl ?_
  refine g_iload hz 0 d_C_addGift_7 rfl ?_
  refine bn_use h (fun x5 s4 e3 h => ?_)
  have hx5 := rr_C_giftAt ho e3
  refine g_callVr hz (c_C_giftAt l ho e3) (iC_lt ho) (rc_C ho) rfl rfl m_C_giftAt mi_C_giftAt ms_C_giftAt q_377 ⟨Nat.le_of_ble_eq_true rfl, Nat.le_of_ble_eq_true rfl⟩ rfl (st := []) rfl (Nat.le_of_ble_eq_true rfl) d_C_addGift_9 ?_
  refine g_iload_n hz 2 d_C_addGift_12 rfl rfl ?_
  refine g_iload_n hz 3 d_C_addGift_13 rfl rfl ?_
  refine g_iload_n hz 4 d_C_addGift_14 rfl rfl ?_
  refine bv_use h (fun s7 e6 h => ?_)
  refine g_callVNv hz (c_G_begin l hx5 e6) (iG_lt hx5) (rc_G hx5) rfl rfl m_G_begin mi_G_begin ms_G_begin (fun D cy s h => h.2.2.2.1) ⟨Nat.le_of_ble_eq_true rfl, Nat.le_of_ble_eq_true rfl⟩ rfl (st := []) rfl (Nat.le_of_ble_eq_true rfl) d_C_addGift_15 ?_
  refine g_aload_n hz 1 d_C_addGift_18 rfl rfl ?_
  refine g_dup hz d_C_addGift_19 rfl ?_
  refine gf_C_gifts hz ho q_210 d_C_addGift_20 ?_
  refine g_iconst hz d_C_addGift_23 ki_1 ?_
  refine g_iadd hz d_C_addGift_24 ?_
  refine pf_C_gifts hz ho q_210 d_C_addGift_25 (fun s8 e9 => ?_)
  replace h := nm_use h e9
  refine g_iload hz 0 d_C_addGift_28 rfl ?_
  exact g_iret hz (rti h hq) d_C_addGift_30
def f_L_tellGift (s : Mm) (o1 : Nat) (a2 : Int32) : Option (Int32 × Mm) :=
  bn (f_L_twoDigitsAt s (a2 + 2)) fun x3 s2 =>
  bn (f_L_digitAt s2 (a2 + 4)) fun x6 s5 =>
  if x3 < 1 then
    some (0, s5)
  else
    bn (f_C_hasFriend s5 o1 x6) fun x10 s9 =>
    if x10 = 0 then
      some (0, s9)
    else
      bn (f_C_giftsAreFull s9 o1) fun x14 s13 =>
      if x14 = 0 then
        bn (f_L_twoDigitsAt s13 a2) fun x18 s17 =>
        bn (f_C_addGift s17 o1 x6 x18 x3) fun x21 s20 =>
        some (1, s20)
      else
        some (0, s13)
set_option maxRecDepth 20000 in
theorem c_L_tellGift (l : Launch) {s : Mm} {o1 : Nat} {a2 : Int32} {r' : Int32} {s' : Mm} (ho1 : iC o1) (h : f_L_tellGift s o1 a2 = some (r', s')) : Cm l y_L_tellGift b_L_tellGift 5 (some .boolean) 4 84 [.ref 169, .ref o1, .int a2] s s' (some (.int r')) := by
  refine Cm.of (own := "PassedOnAndBetter$Letters") (by decide) rfl (fun ad => Nat.le_of_ble_eq_true rfl) ?_
  intro z hz hq
  show G l z b_L_tellGift 5 0 [(0, .ref 169), (1, .ref o1), (2, .int a2)] [] s
  unfold f_L_tellGift at h
  refine g_aload_n hz 0 d_L_tellGift_0 rfl rfl ?_
  refine g_iload_n hz 2 d_L_tellGift_1 rfl rfl ?_
  refine g_iconst hz d_L_tellGift_2 ki_2 ?_
  refine g_iadd hz d_L_tellGift_3 ?_
  refine bn_use h (fun x3 s2 e1 h => ?_)
  refine g_callVi hz (c_L_twoDigitsAt l e1) (by decide) rc_L rfl rfl m_L_twoDigitsAt mi_L_twoDigitsAt ms_L_twoDigitsAt q_417 ⟨Nat.le_of_ble_eq_true rfl, Nat.le_of_ble_eq_true rfl⟩ rfl (st := []) rfl (Nat.le_of_ble_eq_true rfl) d_L_tellGift_4 ?_
  refine g_istore_n hz (L' := [(3, .int x3), (0, .ref 169), (1, .ref o1), (2, .int a2)]) d_L_tellGift_7 rfl (by decide) rfl ?_
  refine g_aload_n hz 1 d_L_tellGift_8 rfl rfl ?_
  refine g_iload_n hz 3 d_L_tellGift_9 rfl rfl ?_
  refine g_iconst hz d_L_tellGift_10 ki_4 ?_
  refine g_iadd hz d_L_tellGift_11 ?_
  refine bn_use h (fun x6 s5 e4 h => ?_)
  refine g_callVi hz (c_L_digitAt l e4) (by decide) rc_L rfl rfl m_L_digitAt mi_L_digitAt ms_L_digitAt q_413 ⟨Nat.le_of_ble_eq_true rfl, Nat.le_of_ble_eq_true rfl⟩ rfl (st := []) rfl (Nat.le_of_ble_eq_true rfl) d_L_tellGift_12 ?_
  refine g_istore hz (L' := [(4, .int x6), (3, .int x3), (0, .ref 169), (1, .ref o1), (2, .int a2)]) d_L_tellGift_15 (by decide) rfl ?_
  refine g_iload_n hz 1 d_L_tellGift_17 rfl rfl ?_
  refine g_iconst hz d_L_tellGift_18 ki_1 ?_
  refine g_icmp_lt hz (tgt := 38) d_L_tellGift_19 (by decide) (fun c7 => ?_) (fun c7 => ?_)
  · replace h := (if_pos c7).symm.trans h
    refine g_iconst hz d_L_tellGift_38 ki_0 ?_
    exact g_zret hz (rti h hq) (Or.inl rfl) d_L_tellGift_39
  · replace h := (if_neg c7).symm.trans h
    refine g_aload_n hz 3 d_L_tellGift_22 rfl rfl ?_
    refine g_iload hz 0 d_L_tellGift_23 rfl ?_
    refine bn_use h (fun x10 s9 e8 h => ?_)
    refine g_callVi hz (c_C_hasFriend l ho1 e8) (iC_lt ho1) (rc_C ho1) rfl rfl m_C_hasFriend mi_C_hasFriend ms_C_hasFriend q_450 ⟨Nat.le_of_ble_eq_true rfl, Nat.le_of_ble_eq_true rfl⟩ rfl (st := []) rfl (Nat.le_of_ble_eq_true rfl) d_L_tellGift_25 ?_
    refine g_if_eq hz (tgt := 38) d_L_tellGift_28 (by decide) (fun c11 => ?_) (fun c11 => ?_)
    · replace h := (if_pos c11).symm.trans h
      refine g_iconst hz d_L_tellGift_38 ki_0 ?_
      exact g_zret hz (rti h hq) (Or.inl rfl) d_L_tellGift_39
    · replace h := (if_neg c11).symm.trans h
      refine g_aload_n hz 3 d_L_tellGift_31 rfl rfl ?_
      refine bn_use h (fun x14 s13 e12 h => ?_)
      refine g_callVi hz (c_C_giftsAreFull l ho1 e12) (iC_lt ho1) (rc_C ho1) rfl rfl m_C_giftsAreFull mi_C_giftsAreFull ms_C_giftsAreFull q_467 ⟨Nat.le_of_ble_eq_true rfl, Nat.le_of_ble_eq_true rfl⟩ rfl (st := []) rfl (Nat.le_of_ble_eq_true rfl) d_L_tellGift_32 ?_
      refine g_if_eq hz (tgt := 40) d_L_tellGift_35 (by decide) (fun c15 => ?_) (fun c15 => ?_)
      · replace h := (if_pos c15).symm.trans h
        refine g_aload_n hz 3 d_L_tellGift_40 rfl rfl ?_
        refine g_iload hz 0 d_L_tellGift_41 rfl ?_
        refine g_aload_n hz 2 d_L_tellGift_43 rfl rfl ?_
        refine g_iload_n hz 4 d_L_tellGift_44 rfl rfl ?_
        refine bn_use h (fun x18 s17 e16 h => ?_)
        refine g_callVi hz (c_L_twoDigitsAt l e16) (by decide) rc_L rfl rfl m_L_twoDigitsAt mi_L_twoDigitsAt ms_L_twoDigitsAt q_417 ⟨Nat.le_of_ble_eq_true rfl, Nat.le_of_ble_eq_true rfl⟩ rfl (st := [.int x6, .ref o1]) rfl (Nat.le_of_ble_eq_true rfl) d_L_tellGift_45 ?_
        refine g_iload_n hz 1 d_L_tellGift_48 rfl rfl ?_
        refine bn_use h (fun x21 s20 e19 h => ?_)
        refine g_callVi hz (c_C_addGift l ho1 e19) (iC_lt ho1) (rc_C ho1) rfl rfl m_C_addGift mi_C_addGift ms_C_addGift q_471 ⟨Nat.le_of_ble_eq_true rfl, Nat.le_of_ble_eq_true rfl⟩ rfl (st := []) rfl (Nat.le_of_ble_eq_true rfl) d_L_tellGift_49 ?_
        refine g_pop hz d_L_tellGift_52 rfl ?_
        refine g_iconst hz d_L_tellGift_53 ki_1 ?_
        exact g_zret hz (rti h hq) (Or.inr rfl) d_L_tellGift_54
      · replace h := (if_neg c15).symm.trans h
        refine g_iconst hz d_L_tellGift_38 ki_0 ?_
        exact g_zret hz (rti h hq) (Or.inl rfl) d_L_tellGift_39
def f_C_hasGift (s : Mm) (o : Nat) (a1 : Int32) : Option (Int32 × Mm) :=
  if a1 < 0 then
    some (0, s)
  else
    if (s o 5) ≤ a1 then
      some (0, s)
    else
      some (1, s)
set_option maxRecDepth 20000 in
theorem c_C_hasGift (l : Launch) {s : Mm} {o : Nat} {a1 : Int32} {r' : Int32} {s' : Mm} (ho : iC o) (h : f_C_hasGift s o a1 = some (r', s')) : Cm l y_C_hasGift b_C_hasGift 2 (some .boolean) 0 0 [.ref o, .int a1] s s' (some (.int r')) := by
  refine Cm.of (own := "PassedOnAndBetter$Company") (by decide) rfl (fun ad => Nat.le_of_ble_eq_true rfl) ?_
  intro z hz hq
  show G l z b_C_hasGift 2 0 [(0, .ref o), (1, .int a1)] [] s
  unfold f_C_hasGift at h
  refine g_iload_n hz 1 d_C_hasGift_0 rfl rfl ?_
  refine g_if_lt hz (tgt := 16) d_C_hasGift_1 (by decide) (fun c1 => ?_) (fun c1 => ?_)
  · replace h := (if_pos c1).symm.trans h
    refine g_iconst hz d_C_hasGift_16 ki_0 ?_
    exact g_zret hz (rti h hq) (Or.inl rfl) d_C_hasGift_17
  · replace h := (if_neg c1).symm.trans h
    refine g_iload_n hz 1 d_C_hasGift_4 rfl rfl ?_
    refine g_aload_n hz 0 d_C_hasGift_5 rfl rfl ?_
    refine gf_C_gifts hz ho q_210 d_C_hasGift_6 ?_
    refine g_icmp_ge hz (tgt := 16) d_C_hasGift_9 (by decide) (fun c2 => ?_) (fun c2 => ?_)
    · replace h := (if_pos c2).symm.trans h
      refine g_iconst hz d_C_hasGift_16 ki_0 ?_
      exact g_zret hz (rti h hq) (Or.inl rfl) d_C_hasGift_17
    · replace h := (if_neg c2).symm.trans h
      refine g_iconst hz d_C_hasGift_12 ki_1 ?_
      refine g_goto hz (tgt := 17) d_C_hasGift_13 (by decide) ?_
      exact g_zret hz (rti h hq) (Or.inr rfl) d_C_hasGift_17
def f_G_goTo (s : Mm) (o : Nat) (a1 : Int32) : Option Mm :=
  nm (mU s o 2 a1) fun s1 =>
  nm (mU s1 o 3 0) fun s3 =>
  nm (mU s3 o 4 0) fun s5 =>
  some s5
set_option maxRecDepth 20000 in
theorem c_G_goTo (l : Launch) {s : Mm} {o : Nat} {a1 : Int32} {s' : Mm} (ho : iG o) (h : f_G_goTo s o a1 = some s') : Cm l y_G_goTo b_G_goTo 2 none 0 0 [.ref o, .int a1] s s' none := by
  refine Cm.of (own := "PassedOnAndBetter$Gift") (by decide) rfl (fun ad => Nat.le_of_ble_eq_true rfl) ?_
  intro z hz hq
  show G l z b_G_goTo 2 0 [(0, .ref o), (1, .int a1)] [] s
  unfold f_G_goTo at h
  refine g_aload_n hz 0 d_G_goTo_0 rfl rfl ?_
  refine g_iload_n hz 1 d_G_goTo_1 rfl rfl ?_
  refine pf_G_with hz ho q_180 d_G_goTo_2 (fun s1 e2 => ?_)
  replace h := nm_use h e2
  refine g_aload_n hz 0 d_G_goTo_5 rfl rfl ?_
  refine g_iconst hz d_G_goTo_6 ki_0 ?_
  refine pf_G_kept hz ho q_184 d_G_goTo_7 (fun s3 e4 => ?_)
  replace h := nm_use h e4
  refine g_aload_n hz 0 d_G_goTo_10 rfl rfl ?_
  refine g_iconst hz d_G_goTo_11 ki_0 ?_
  refine pf_G_bettered hz ho (Or.inl rfl) q_186 d_G_goTo_12 (fun s5 e6 => ?_)
  replace h := nm_use h e6
  exact g_vret hz (rtv h hq) d_G_goTo_15
def f_L_tellHands (s : Mm) (o1 : Nat) (a2 : Int32) : Option (Int32 × Mm) :=
  bn (f_L_digitAt s a2) fun x3 s2 =>
  bn (f_L_digitAt s2 (a2 + 1)) fun x6 s5 =>
  bn (f_C_hasGift s5 o1 x3) fun x9 s8 =>
  if x9 = 0 then
    some (0, s8)
  else
    bn (f_C_hasFriend s8 o1 x6) fun x13 s12 =>
    if x13 = 0 then
      some (0, s12)
    else
      bn (f_C_giftAt s12 o1 x3) fun x17 s16 =>
      bv (f_G_goTo s16 x17 x6) fun s19 =>
      some (1, s19)
set_option maxRecDepth 20000 in
theorem c_L_tellHands (l : Launch) {s : Mm} {o1 : Nat} {a2 : Int32} {r' : Int32} {s' : Mm} (ho1 : iC o1) (h : f_L_tellHands s o1 a2 = some (r', s')) : Cm l y_L_tellHands b_L_tellHands 5 (some .boolean) 3 63 [.ref 169, .ref o1, .int a2] s s' (some (.int r')) := by
  refine Cm.of (own := "PassedOnAndBetter$Letters") (by decide) rfl (fun ad => Nat.le_of_ble_eq_true rfl) ?_
  intro z hz hq
  show G l z b_L_tellHands 5 0 [(0, .ref 169), (1, .ref o1), (2, .int a2)] [] s
  unfold f_L_tellHands at h
  refine g_aload_n hz 0 d_L_tellHands_0 rfl rfl ?_
  refine g_iload_n hz 2 d_L_tellHands_1 rfl rfl ?_
  refine bn_use h (fun x3 s2 e1 h => ?_)
  refine g_callVi hz (c_L_digitAt l e1) (by decide) rc_L rfl rfl m_L_digitAt mi_L_digitAt ms_L_digitAt q_413 ⟨Nat.le_of_ble_eq_true rfl, Nat.le_of_ble_eq_true rfl⟩ rfl (st := []) rfl (Nat.le_of_ble_eq_true rfl) d_L_tellHands_2 ?_
  refine g_istore_n hz (L' := [(3, .int x3), (0, .ref 169), (1, .ref o1), (2, .int a2)]) d_L_tellHands_5 rfl (by decide) rfl ?_
  refine g_aload_n hz 1 d_L_tellHands_6 rfl rfl ?_
  refine g_iload_n hz 3 d_L_tellHands_7 rfl rfl ?_
  refine g_iconst hz d_L_tellHands_8 ki_1 ?_
  refine g_iadd hz d_L_tellHands_9 ?_
  refine bn_use h (fun x6 s5 e4 h => ?_)
  refine g_callVi hz (c_L_digitAt l e4) (by decide) rc_L rfl rfl m_L_digitAt mi_L_digitAt ms_L_digitAt q_413 ⟨Nat.le_of_ble_eq_true rfl, Nat.le_of_ble_eq_true rfl⟩ rfl (st := []) rfl (Nat.le_of_ble_eq_true rfl) d_L_tellHands_10 ?_
  refine g_istore hz (L' := [(4, .int x6), (3, .int x3), (0, .ref 169), (1, .ref o1), (2, .int a2)]) d_L_tellHands_13 (by decide) rfl ?_
  refine g_aload_n hz 3 d_L_tellHands_15 rfl rfl ?_
  refine g_iload_n hz 1 d_L_tellHands_16 rfl rfl ?_
  refine bn_use h (fun x9 s8 e7 h => ?_)
  refine g_callVi hz (c_C_hasGift l ho1 e7) (iC_lt ho1) (rc_C ho1) rfl rfl m_C_hasGift mi_C_hasGift ms_C_hasGift q_480 ⟨Nat.le_of_ble_eq_true rfl, Nat.le_of_ble_eq_true rfl⟩ rfl (st := []) rfl (Nat.le_of_ble_eq_true rfl) d_L_tellHands_17 ?_
  refine g_if_eq hz (tgt := 32) d_L_tellHands_20 (by decide) (fun c10 => ?_) (fun c10 => ?_)
  · replace h := (if_pos c10).symm.trans h
    refine g_iconst hz d_L_tellHands_32 ki_0 ?_
    exact g_zret hz (rti h hq) (Or.inl rfl) d_L_tellHands_33
  · replace h := (if_neg c10).symm.trans h
    refine g_aload_n hz 3 d_L_tellHands_23 rfl rfl ?_
    refine g_iload hz 0 d_L_tellHands_24 rfl ?_
    refine bn_use h (fun x13 s12 e11 h => ?_)
    refine g_callVi hz (c_C_hasFriend l ho1 e11) (iC_lt ho1) (rc_C ho1) rfl rfl m_C_hasFriend mi_C_hasFriend ms_C_hasFriend q_450 ⟨Nat.le_of_ble_eq_true rfl, Nat.le_of_ble_eq_true rfl⟩ rfl (st := []) rfl (Nat.le_of_ble_eq_true rfl) d_L_tellHands_26 ?_
    refine g_if_ne hz (tgt := 34) d_L_tellHands_29 (by decide) (fun c14 => ?_) (fun c14 => ?_)
    · replace h := (if_neg c14).symm.trans h
      refine g_aload_n hz 3 d_L_tellHands_34 rfl rfl ?_
      refine g_iload_n hz 1 d_L_tellHands_35 rfl rfl ?_
      refine bn_use h (fun x17 s16 e15 h => ?_)
      have hx17 := rr_C_giftAt ho1 e15
      refine g_callVr hz (c_C_giftAt l ho1 e15) (iC_lt ho1) (rc_C ho1) rfl rfl m_C_giftAt mi_C_giftAt ms_C_giftAt q_484 ⟨Nat.le_of_ble_eq_true rfl, Nat.le_of_ble_eq_true rfl⟩ rfl (st := []) rfl (Nat.le_of_ble_eq_true rfl) d_L_tellHands_36 ?_
      refine g_iload hz 0 d_L_tellHands_39 rfl ?_
      refine bv_use h (fun s19 e18 h => ?_)
      refine g_callVv hz (c_G_goTo l hx17 e18) (iG_lt hx17) (rc_G hx17) rfl rfl m_G_goTo mi_G_goTo ms_G_goTo q_485 ⟨Nat.le_of_ble_eq_true rfl, Nat.le_of_ble_eq_true rfl⟩ rfl (st := []) rfl (Nat.le_of_ble_eq_true rfl) d_L_tellHands_41 ?_
      refine g_iconst hz d_L_tellHands_44 ki_1 ?_
      exact g_zret hz (rti h hq) (Or.inr rfl) d_L_tellHands_45
    · replace h := (if_pos c14).symm.trans h
      refine g_iconst hz d_L_tellHands_32 ki_0 ?_
      exact g_zret hz (rti h hq) (Or.inl rfl) d_L_tellHands_33
def f_G_keep (s : Mm) (o : Nat) : Option Mm :=
  nm (mU s o 3 (mn ((s o 3) + 1) 99)) fun s1 =>
  some s1
set_option maxRecDepth 20000 in
theorem c_G_keep (l : Launch) {s : Mm} {o : Nat} {s' : Mm} (ho : iG o) (h : f_G_keep s o = some s') : Cm l y_G_keep b_G_keep 1 none 1 21 [.ref o] s s' none := by
  refine Cm.of (own := "PassedOnAndBetter$Gift") (by decide) rfl (fun ad => Nat.le_of_ble_eq_true rfl) ?_
  intro z hz hq
  show G l z b_G_keep 1 0 [(0, .ref o)] [] s
  unfold f_G_keep at h
  refine g_aload_n hz 0 d_G_keep_0 rfl rfl ?_
  refine g_aload_n hz 0 d_G_keep_1 rfl rfl ?_
  refine gf_G_kept hz ho q_184 d_G_keep_2 ?_
  refine g_iconst hz d_G_keep_5 ki_1 ?_
  refine g_iadd hz d_G_keep_6 ?_
  refine g_bipush hz (v := 99) d_G_keep_7 (by decide) ?_
  refine g_mmin hz q_505 (by decide) (by decide) (Nat.le_of_ble_eq_true rfl) d_G_keep_9 ?_
  refine pf_G_kept hz ho q_184 d_G_keep_12 (fun s1 e2 => ?_)
  replace h := nm_use h e2
  exact g_vret hz (rtv h hq) d_G_keep_15
def f_G_better (s : Mm) (o : Nat) (o1 : Nat) : Option Mm :=
  nm (mn ((s o1 5) * (s o1 7)) (999 - (s o 0))) fun x1 =>
  nm (mU s o 0 ((s o 0) + x1)) fun s3 =>
  nm (mU s3 o1 8 ((s3 o1 8) + x1)) fun s5 =>
  nm (mU s5 o 1 (mx 1 (mn ((s5 o 1) + (s5 o1 6)) 999))) fun s7 =>
  nm (mU s7 o 4 1) fun s9 =>
  some s9
set_option maxRecDepth 20000 in
theorem c_G_better (l : Launch) {s : Mm} {o : Nat} {o1 : Nat} {s' : Mm} (ho : iG o) (ho1 : iF o1) (h : f_G_better s o o1 = some s') : Cm l y_G_better b_G_better 3 none 1 21 [.ref o, .ref o1] s s' none := by
  refine Cm.of (own := "PassedOnAndBetter$Gift") (by decide) rfl (fun ad => Nat.le_of_ble_eq_true rfl) ?_
  intro z hz hq
  show G l z b_G_better 3 0 [(0, .ref o), (1, .ref o1)] [] s
  unfold f_G_better at h
  refine g_aload_n hz 1 d_G_better_0 rfl rfl ?_
  refine g_ifnonnull hz (tgt := 5) d_G_better_1 (by decide) ?_
  refine g_aload_n hz 1 d_G_better_5 rfl rfl ?_
  refine gf_F_adds hz ho1 q_137 d_G_better_6 ?_
  refine g_aload_n hz 1 d_G_better_9 rfl rfl ?_
  refine gf_F_times hz ho1 q_141 d_G_better_10 ?_
  refine g_imul hz d_G_better_13 ?_
  refine g_sipush hz (v := 999) d_G_better_14 (by decide) ?_
  refine g_aload_n hz 0 d_G_better_17 rfl rfl ?_
  refine gf_G_worth hz ho q_174 d_G_better_18 ?_
  refine g_isub hz d_G_better_21 ?_
  refine g_mmin hz q_505 (by decide) (by decide) (Nat.le_of_ble_eq_true rfl) d_G_better_22 ?_
  refine g_nmi (fun x1 e2 => ?_)
  replace h := nm_use h e2
  refine g_istore_n hz (L' := [(2, .int x1), (0, .ref o), (1, .ref o1)]) d_G_better_25 rfl (by decide) rfl ?_
  refine g_aload_n hz 1 d_G_better_26 rfl rfl ?_
  refine g_dup hz d_G_better_27 rfl ?_
  refine gf_G_worth hz ho q_174 d_G_better_28 ?_
  refine g_iload_n hz 0 d_G_better_31 rfl rfl ?_
  refine g_iadd hz d_G_better_32 ?_
  refine pf_G_worth hz ho q_174 d_G_better_33 (fun s3 e4 => ?_)
  replace h := nm_use h e4
  refine g_aload_n hz 2 d_G_better_36 rfl rfl ?_
  refine g_dup hz d_G_better_37 rfl ?_
  refine gf_F_brought hz ho1 q_144 d_G_better_38 ?_
  refine g_iload_n hz 0 d_G_better_41 rfl rfl ?_
  refine g_iadd hz d_G_better_42 ?_
  refine pf_F_brought hz ho1 q_144 d_G_better_43 (fun s5 e6 => ?_)
  replace h := nm_use h e6
  refine g_aload_n hz 1 d_G_better_46 rfl rfl ?_
  refine g_iconst hz d_G_better_47 ki_1 ?_
  refine g_aload_n hz 1 d_G_better_48 rfl rfl ?_
  refine gf_G_size hz ho q_177 d_G_better_49 ?_
  refine g_aload_n hz 2 d_G_better_52 rfl rfl ?_
  refine gf_F_swells hz ho1 q_139 d_G_better_53 ?_
  refine g_iadd hz d_G_better_56 ?_
  refine g_sipush hz (v := 999) d_G_better_57 (by decide) ?_
  refine g_mmin hz q_505 (by decide) (by decide) (Nat.le_of_ble_eq_true rfl) d_G_better_60 ?_
  refine g_mmax hz q_513 (by decide) (by decide) (Nat.le_of_ble_eq_true rfl) d_G_better_63 ?_
  refine pf_G_size hz ho q_177 d_G_better_66 (fun s7 e8 => ?_)
  replace h := nm_use h e8
  refine g_aload_n hz 1 d_G_better_69 rfl rfl ?_
  refine g_iconst hz d_G_better_70 ki_1 ?_
  refine pf_G_bettered hz ho (Or.inr rfl) q_186 d_G_better_71 (fun s9 e10 => ?_)
  replace h := nm_use h e10
  exact g_vret hz (rtv h hq) d_G_better_74
def k_G_passMonth_42 (o : Nat) (o1 : Nat) (o2 : Nat) (s : Mm) : Option Mm :=
  nm (s o2 3) fun x8 =>
  if x8 = (-1) then
    some s
  else
    bn (f_C_friendAt s o1 x8) fun x13 s12 =>
    if (s12 x13 2) < (s o 1) then
      some s12
    else
      bv (f_G_goTo s12 o x8) fun s16 =>
      nm (mU s16 o 5 (mn ((s16 o 5) + 1) 99)) fun s17 =>
      some s17
set_option maxRecDepth 20000 in
theorem w_G_passMonth_42 {l : Launch} {z : Zt} (hz : ZOk z b_G_passMonth 4 "PassedOnAndBetter$Gift" 2 43) {s' : Mm} (hq : ZR z none s' none) (o : Nat) (o1 : Nat) (o2 : Nat) (ho : iG o) (ho1 : iC o1) (ho2 : iF o2) (s : Mm) (h : k_G_passMonth_42 o o1 o2 s = some s') : G l z b_G_passMonth 4 42 [(0, .ref o), (1, .ref o1), (2, .ref o2)] [] s := by
  unfold k_G_passMonth_42 at h
  refine g_aload_n hz 2 d_G_passMonth_42 rfl rfl ?_
  refine gf_F_next hz ho2 q_129 d_G_passMonth_43 ?_
  refine g_nmi (fun x8 e9 => ?_)
  replace h := nm_use h e9
  refine g_istore_n hz (L' := [(3, .int x8), (0, .ref o), (1, .ref o1), (2, .ref o2)]) d_G_passMonth_46 rfl (by decide) rfl ?_
  refine g_iload_n hz 0 d_G_passMonth_47 rfl rfl ?_
  refine g_iconst hz d_G_passMonth_48 ki_m1 ?_
  refine g_icmp_eq hz (tgt := 87) d_G_passMonth_49 (by decide) (fun c10 => ?_) (fun c10 => ?_)
  · replace h := (if_pos c10).symm.trans h
    exact g_vret hz (rtv h hq) d_G_passMonth_87
  · replace h := (if_neg c10).symm.trans h
    refine g_aload_n hz 1 d_G_passMonth_52 rfl rfl ?_
    refine gf_G_size hz ho q_177 d_G_passMonth_53 ?_
    refine g_aload_n hz 2 d_G_passMonth_56 rfl rfl ?_
    refine g_iload_n hz 0 d_G_passMonth_57 rfl rfl ?_
    refine bn_use h (fun x13 s12 e11 h => ?_)
    have hx13 := rr_C_friendAt ho1 e11
    refine g_callVr hz (c_C_friendAt l ho1 e11) (iC_lt ho1) (rc_C ho1) rfl rfl m_C_friendAt mi_C_friendAt ms_C_friendAt q_508 ⟨Nat.le_of_ble_eq_true rfl, Nat.le_of_ble_eq_true rfl⟩ rfl (st := [.int (s o 1)]) rfl (Nat.le_of_ble_eq_true rfl) d_G_passMonth_58 ?_
    refine gf_F_door hz hx13 q_123 d_G_passMonth_61 ?_
    refine g_icmp_gt hz (tgt := 87) d_G_passMonth_64 (by decide) (fun c14 => ?_) (fun c14 => ?_)
    · replace h := (if_pos c14).symm.trans h
      exact g_vret hz (rtv h hq) d_G_passMonth_87
    · replace h := (if_neg c14).symm.trans h
      refine g_aload_n hz 1 d_G_passMonth_67 rfl rfl ?_
      refine g_iload_n hz 0 d_G_passMonth_68 rfl rfl ?_
      refine bv_use h (fun s16 e15 h => ?_)
      refine g_callVv hz (c_G_goTo l ho e15) (iG_lt ho) (rc_G ho) rfl rfl m_G_goTo mi_G_goTo ms_G_goTo q_516 ⟨Nat.le_of_ble_eq_true rfl, Nat.le_of_ble_eq_true rfl⟩ rfl (st := []) rfl (Nat.le_of_ble_eq_true rfl) d_G_passMonth_69 ?_
      refine g_aload_n hz 1 d_G_passMonth_72 rfl rfl ?_
      refine g_aload_n hz 1 d_G_passMonth_73 rfl rfl ?_
      refine gf_G_passed hz ho q_187 d_G_passMonth_74 ?_
      refine g_iconst hz d_G_passMonth_77 ki_1 ?_
      refine g_iadd hz d_G_passMonth_78 ?_
      refine g_bipush hz (v := 99) d_G_passMonth_79 (by decide) ?_
      refine g_mmin hz q_505 (by decide) (by decide) (Nat.le_of_ble_eq_true rfl) d_G_passMonth_81 ?_
      refine pf_G_passed hz ho q_187 d_G_passMonth_84 (fun s17 e18 => ?_)
      replace h := nm_use h e18
      exact g_vret hz (rtv h hq) d_G_passMonth_87
def f_G_passMonth (s : Mm) (o : Nat) (o1 : Nat) : Option Mm :=
  bv (f_G_keep s o) fun s2 =>
  bn (f_C_friendAt s2 o1 (s2 o 2)) fun x5 s4 =>
  if (s4 x5 4) ≤ (s4 o 3) then
    if (s4 o 4) = 0 then
      bv (f_G_better s4 o x5) fun s20 =>
      k_G_passMonth_42 o o1 x5 s20
    else
      k_G_passMonth_42 o o1 x5 s4
  else
    some s4
set_option maxRecDepth 20000 in
theorem c_G_passMonth (l : Launch) {s : Mm} {o : Nat} {o1 : Nat} {s' : Mm} (ho : iG o) (ho1 : iC o1) (h : f_G_passMonth s o o1 = some s') : Cm l y_G_passMonth b_G_passMonth 4 none 2 43 [.ref o, .ref o1] s s' none := by
  refine Cm.of (own := "PassedOnAndBetter$Gift") (by decide) rfl (fun ad => Nat.le_of_ble_eq_true rfl) ?_
  intro z hz hq
  show G l z b_G_passMonth 4 0 [(0, .ref o), (1, .ref o1)] [] s
  unfold f_G_passMonth at h
  refine g_aload_n hz 1 d_G_passMonth_0 rfl rfl ?_
  refine g_ifnonnull hz (tgt := 5) d_G_passMonth_1 (by decide) ?_
  refine g_aload_n hz 0 d_G_passMonth_5 rfl rfl ?_
  refine bv_use h (fun s2 e1 h => ?_)
  refine g_callVv hz (c_G_keep l ho e1) (iG_lt ho) (rc_G ho) rfl rfl m_G_keep mi_G_keep ms_G_keep q_501 ⟨Nat.le_of_ble_eq_true rfl, Nat.le_of_ble_eq_true rfl⟩ rfl (st := []) rfl (Nat.le_of_ble_eq_true rfl) d_G_passMonth_6 ?_
  refine g_aload_n hz 1 d_G_passMonth_9 rfl rfl ?_
  refine g_aload_n hz 0 d_G_passMonth_10 rfl rfl ?_
  refine gf_G_with hz ho q_180 d_G_passMonth_11 ?_
  refine bn_use h (fun x5 s4 e3 h => ?_)
  have hx5 := rr_C_friendAt ho1 e3
  refine g_callVr hz (c_C_friendAt l ho1 e3) (iC_lt ho1) (rc_C ho1) rfl rfl m_C_friendAt mi_C_friendAt ms_C_friendAt q_508 ⟨Nat.le_of_ble_eq_true rfl, Nat.le_of_ble_eq_true rfl⟩ rfl (st := []) rfl (Nat.le_of_ble_eq_true rfl) d_G_passMonth_14 ?_
  refine g_astore_n hz (L' := [(2, .ref x5), (0, .ref o), (1, .ref o1)]) d_G_passMonth_17 rfl (by decide) rfl ?_
  refine g_aload_n hz 1 d_G_passMonth_18 rfl rfl ?_
  refine gf_G_kept hz ho q_184 d_G_passMonth_19 ?_
  refine g_aload_n hz 0 d_G_passMonth_22 rfl rfl ?_
  refine gf_F_waits hz hx5 q_133 d_G_passMonth_23 ?_
  refine g_icmp_ge hz (tgt := 30) d_G_passMonth_26 (by decide) (fun c6 => ?_) (fun c6 => ?_)
  · replace h := (if_pos c6).symm.trans h
    refine g_aload_n hz 1 d_G_passMonth_30 rfl rfl ?_
    refine gf_G_bettered hz ho q_186 d_G_passMonth_31 ?_
    refine g_if_ne hz (tgt := 42) d_G_passMonth_34 (by decide) (fun c7 => ?_) (fun c7 => ?_)
    · replace h := (if_neg c7).symm.trans h
      refine g_sub [1, 2, 0] rfl ?_
      exact w_G_passMonth_42 hz hq o o1 x5 ho ho1 hx5 _ h
    · replace h := (if_pos c7).symm.trans h
      refine g_aload_n hz 1 d_G_passMonth_37 rfl rfl ?_
      refine g_aload_n hz 0 d_G_passMonth_38 rfl rfl ?_
      refine bv_use h (fun s20 e19 h => ?_)
      refine g_callVv hz (c_G_better l ho hx5 e19) (iG_lt ho) (rc_G ho) rfl rfl m_G_better mi_G_better ms_G_better q_509 ⟨Nat.le_of_ble_eq_true rfl, Nat.le_of_ble_eq_true rfl⟩ rfl (st := []) rfl (Nat.le_of_ble_eq_true rfl) d_G_passMonth_39 ?_
      refine g_sub [1, 2, 0] rfl ?_
      exact w_G_passMonth_42 hz hq o o1 x5 ho ho1 hx5 _ h
  · replace h := (if_neg c6).symm.trans h
    exact g_vret hz (rtv h hq) d_G_passMonth_29
def k_C_pass_19 (kc2 : (Nat → Int32 → Int32 → Mm → Option Mm)) : Nat → Nat → Int32 → Int32 → Int32 → Mm → Option Mm
  | 0, _, _, _, _, _ => none
  | n + 1, o, v1, v2, v3, s => if (s o 5) ≤ v3 then
      kc2 o v1 (v2 + 1) s
    else
      bn (f_C_giftAt s o v3) fun x7 s6 =>
      bv (f_G_passMonth s6 x7 o) fun s9 =>
      k_C_pass_19 kc2 n o v1 v2 (v3 + 1) s9
set_option maxRecDepth 20000 in
theorem w_C_pass_19 {l : Launch} {z : Zt} (hz : ZOk z b_C_pass 4 "PassedOnAndBetter$Company" 3 66) {s' : Mm} (hq : ZR z none s' none) {kc2 : (Nat → Int32 → Int32 → Mm → Option Mm)} (hk2 : (∀ (o : Nat) (v1 : Int32) (v2 : Int32) (ho : iC o) (s : Mm), kc2 o v1 v2 s = some s' → G l z b_C_pass 4 2 [(0, .ref o), (1, .int v1), (2, .int v2)] [] s)) : ∀ (n : Nat) (o : Nat) (v1 : Int32) (v2 : Int32) (v3 : Int32) (ho : iC o) (s : Mm), k_C_pass_19 kc2 n o v1 v2 v3 s = some s' → G l z b_C_pass 4 19 [(0, .ref o), (1, .int v1), (2, .int v2), (3, .int v3)] [] s := by
  intro n
  induction n with
  | zero => intro o v1 v2 v3 ho s h; unfold k_C_pass_19 at h; cases h
  | succ n ih =>
    intro o v1 v2 v3 ho s h
    unfold k_C_pass_19 at h
    refine g_iload_n hz 3 d_C_pass_19 rfl rfl ?_
    refine g_aload_n hz 0 d_C_pass_20 rfl rfl ?_
    refine gf_C_gifts hz ho q_210 d_C_pass_21 ?_
    refine g_icmp_ge hz (tgt := 42) d_C_pass_24 (by decide) (fun c4 => ?_) (fun c4 => ?_)
    · replace h := (if_pos c4).symm.trans h
      refine g_iinc hz (v := v2 + 1) (L' := [(2, .int (v2 + 1)), (0, .ref o), (1, .int v1), (3, .int v3)]) 2 d_C_pass_42 rfl (congrArg (fun q => v2 + q) ki_1) (by decide) rfl ?_
      refine g_goto hz (tgt := 2) d_C_pass_45 (by decide) ?_
      refine g_sub [1, 2, 0] rfl ?_
      exact hk2 o v1 (v2 + 1) ho _ h
    · replace h := (if_neg c4).symm.trans h
      refine g_aload_n hz 0 d_C_pass_27 rfl rfl ?_
      refine g_iload_n hz 3 d_C_pass_28 rfl rfl ?_
      refine bn_use h (fun x7 s6 e5 h => ?_)
      have hx7 := rr_C_giftAt ho e5
      refine g_callVr hz (c_C_giftAt l ho e5) (iC_lt ho) (rc_C ho) rfl rfl m_C_giftAt mi_C_giftAt ms_C_giftAt q_377 ⟨Nat.le_of_ble_eq_true rfl, Nat.le_of_ble_eq_true rfl⟩ rfl (st := []) rfl (Nat.le_of_ble_eq_true rfl) d_C_pass_29 ?_
      refine g_aload_n hz 0 d_C_pass_32 rfl rfl ?_
      refine bv_use h (fun s9 e8 h => ?_)
      refine g_callVv hz (c_G_passMonth l hx7 ho e8) (iG_lt hx7) (rc_G hx7) rfl rfl m_G_passMonth mi_G_passMonth ms_G_passMonth q_497 ⟨Nat.le_of_ble_eq_true rfl, Nat.le_of_ble_eq_true rfl⟩ rfl (st := []) rfl (Nat.le_of_ble_eq_true rfl) d_C_pass_33 ?_
      refine g_iinc hz (v := v3 + 1) (L' := [(3, .int (v3 + 1)), (0, .ref o), (1, .int v1), (2, .int v2)]) 3 d_C_pass_36 rfl (congrArg (fun q => v3 + q) ki_1) (by decide) rfl ?_
      refine g_goto hz (tgt := 19) d_C_pass_39 (by decide) ?_
      refine g_sub [1, 2, 3, 0] rfl ?_
      exact ih o v1 v2 (v3 + 1) ho _ h
def k_C_pass_2 : Nat → Nat → Int32 → Int32 → Mm → Option Mm
  | 0, _, _, _, _ => none
  | n + 1, o, v1, v2, s => if v1 ≤ v2 then
      some s
    else
      nm (mU s o 6 ((s o 6) + 1)) fun s2 =>
      k_C_pass_19 (fun o v1 v2 s => k_C_pass_2 n o v1 v2 s) KF o v1 v2 0 s2
set_option maxRecDepth 20000 in
theorem w_C_pass_2 {l : Launch} {z : Zt} (hz : ZOk z b_C_pass 4 "PassedOnAndBetter$Company" 3 66) {s' : Mm} (hq : ZR z none s' none) : ∀ (n : Nat) (o : Nat) (v1 : Int32) (v2 : Int32) (ho : iC o) (s : Mm), k_C_pass_2 n o v1 v2 s = some s' → G l z b_C_pass 4 2 [(0, .ref o), (1, .int v1), (2, .int v2)] [] s := by
  intro n
  induction n with
  | zero => intro o v1 v2 ho s h; unfold k_C_pass_2 at h; cases h
  | succ n ih =>
    intro o v1 v2 ho s h
    unfold k_C_pass_2 at h
    refine g_iload_n hz 2 d_C_pass_2 rfl rfl ?_
    refine g_iload_n hz 1 d_C_pass_3 rfl rfl ?_
    refine g_icmp_ge hz (tgt := 48) d_C_pass_4 (by decide) (fun c1 => ?_) (fun c1 => ?_)
    · replace h := (if_pos c1).symm.trans h
      exact g_vret hz (rtv h hq) d_C_pass_48
    · replace h := (if_neg c1).symm.trans h
      refine g_aload_n hz 0 d_C_pass_7 rfl rfl ?_
      refine g_dup hz d_C_pass_8 rfl ?_
      refine gf_C_month hz ho q_213 d_C_pass_9 ?_
      refine g_iconst hz d_C_pass_12 ki_1 ?_
      refine g_iadd hz d_C_pass_13 ?_
      refine pf_C_month hz ho q_213 d_C_pass_14 (fun s2 e3 => ?_)
      replace h := nm_use h e3
      refine g_iconst hz d_C_pass_17 ki_0 ?_
      refine g_istore_n hz (L' := [(3, .int 0), (0, .ref o), (1, .int v1), (2, .int v2)]) d_C_pass_18 rfl (by decide) rfl ?_
      refine g_sub [1, 2, 3, 0] rfl ?_
      exact w_C_pass_19 hz hq ih KF o v1 v2 0 ho _ h
def f_C_pass (s : Mm) (o : Nat) (a1 : Int32) : Option Mm :=
  k_C_pass_2 KF o a1 0 s
set_option maxRecDepth 20000 in
theorem c_C_pass (l : Launch) {s : Mm} {o : Nat} {a1 : Int32} {s' : Mm} (ho : iC o) (h : f_C_pass s o a1 = some s') : Cm l y_C_pass b_C_pass 4 none 3 66 [.ref o, .int a1] s s' none := by
  refine Cm.of (own := "PassedOnAndBetter$Company") (by decide) rfl (fun ad => Nat.le_of_ble_eq_true rfl) ?_
  intro z hz hq
  show G l z b_C_pass 4 0 [(0, .ref o), (1, .int a1)] [] s
  unfold f_C_pass at h
  refine g_iconst hz d_C_pass_0 ki_0 ?_
  refine g_istore_n hz (L' := [(2, .int 0), (0, .ref o), (1, .int a1)]) d_C_pass_1 rfl (by decide) rfl ?_
  refine g_sub [1, 2, 0] rfl ?_
  exact w_C_pass_2 hz hq KF o a1 0 ho _ h
def f_L_tellMonths (s : Mm) (o1 : Nat) (a2 : Int32) : Option (Int32 × Mm) :=
  bn (f_L_twoDigitsAt s a2) fun x3 s2 =>
  if x3 < 1 then
    some (0, s2)
  else
    if 60 < x3 then
      some (0, s2)
    else
      if ((s2 o1 6) + x3) ≤ 999 then
        bv (f_C_pass s2 o1 x3) fun s8 =>
        some (1, s8)
      else
        some (0, s2)
set_option maxRecDepth 20000 in
theorem c_L_tellMonths (l : Launch) {s : Mm} {o1 : Nat} {a2 : Int32} {r' : Int32} {s' : Mm} (ho1 : iC o1) (h : f_L_tellMonths s o1 a2 = some (r', s')) : Cm l y_L_tellMonths b_L_tellMonths 4 (some .boolean) 4 89 [.ref 169, .ref o1, .int a2] s s' (some (.int r')) := by
  refine Cm.of (own := "PassedOnAndBetter$Letters") (by decide) rfl (fun ad => Nat.le_of_ble_eq_true rfl) ?_
  intro z hz hq
  show G l z b_L_tellMonths 4 0 [(0, .ref 169), (1, .ref o1), (2, .int a2)] [] s
  unfold f_L_tellMonths at h
  refine g_aload_n hz 0 d_L_tellMonths_0 rfl rfl ?_
  refine g_iload_n hz 2 d_L_tellMonths_1 rfl rfl ?_
  refine bn_use h (fun x3 s2 e1 h => ?_)
  refine g_callVi hz (c_L_twoDigitsAt l e1) (by decide) rc_L rfl rfl m_L_twoDigitsAt mi_L_twoDigitsAt ms_L_twoDigitsAt q_417 ⟨Nat.le_of_ble_eq_true rfl, Nat.le_of_ble_eq_true rfl⟩ rfl (st := []) rfl (Nat.le_of_ble_eq_true rfl) d_L_tellMonths_2 ?_
  refine g_istore_n hz (L' := [(3, .int x3), (0, .ref 169), (1, .ref o1), (2, .int a2)]) d_L_tellMonths_5 rfl (by decide) rfl ?_
  refine g_iload_n hz 0 d_L_tellMonths_6 rfl rfl ?_
  refine g_iconst hz d_L_tellMonths_7 ki_1 ?_
  refine g_icmp_lt hz (tgt := 29) d_L_tellMonths_8 (by decide) (fun c4 => ?_) (fun c4 => ?_)
  · replace h := (if_pos c4).symm.trans h
    refine g_iconst hz d_L_tellMonths_29 ki_0 ?_
    exact g_zret hz (rti h hq) (Or.inl rfl) d_L_tellMonths_30
  · replace h := (if_neg c4).symm.trans h
    refine g_iload_n hz 0 d_L_tellMonths_11 rfl rfl ?_
    refine g_bipush hz (v := 60) d_L_tellMonths_12 (by decide) ?_
    refine g_icmp_gt hz (tgt := 29) d_L_tellMonths_14 (by decide) (fun c5 => ?_) (fun c5 => ?_)
    · replace h := (if_pos c5).symm.trans h
      refine g_iconst hz d_L_tellMonths_29 ki_0 ?_
      exact g_zret hz (rti h hq) (Or.inl rfl) d_L_tellMonths_30
    · replace h := (if_neg c5).symm.trans h
      refine g_aload_n hz 2 d_L_tellMonths_17 rfl rfl ?_
      refine gf_C_month hz ho1 q_215 d_L_tellMonths_18 ?_
      refine g_iload_n hz 0 d_L_tellMonths_21 rfl rfl ?_
      refine g_iadd hz d_L_tellMonths_22 ?_
      refine g_sipush hz (v := 999) d_L_tellMonths_23 (by decide) ?_
      refine g_icmp_le hz (tgt := 31) d_L_tellMonths_26 (by decide) (fun c6 => ?_) (fun c6 => ?_)
      · replace h := (if_pos c6).symm.trans h
        refine g_aload_n hz 2 d_L_tellMonths_31 rfl rfl ?_
        refine g_iload_n hz 0 d_L_tellMonths_32 rfl rfl ?_
        refine bv_use h (fun s8 e7 h => ?_)
        refine g_callVv hz (c_C_pass l ho1 e7) (iC_lt ho1) (rc_C ho1) rfl rfl m_C_pass mi_C_pass ms_C_pass q_493 ⟨Nat.le_of_ble_eq_true rfl, Nat.le_of_ble_eq_true rfl⟩ rfl (st := []) rfl (Nat.le_of_ble_eq_true rfl) d_L_tellMonths_33 ?_
        refine g_iconst hz d_L_tellMonths_36 ki_1 ?_
        exact g_zret hz (rti h hq) (Or.inr rfl) d_L_tellMonths_37
      · replace h := (if_neg c6).symm.trans h
        refine g_iconst hz d_L_tellMonths_29 ki_0 ?_
        exact g_zret hz (rti h hq) (Or.inl rfl) d_L_tellMonths_30
def f_L_tellStatement (s : Mm) (o1 : Nat) (a2 : Int32) : Option (Int32 × Mm) :=
  bn (f_L_letterAt s a2) fun x3 s2 =>
  if x3 = 100 then
    bn (f_L_tellDoor s2 o1 (a2 + 1)) fun x7 s6 =>
    gb x7 <|
    some (x7, s6)
  else if x3 = 102 then
    bn (f_L_tellFriend s2 o1 (a2 + 1)) fun x12 s11 =>
    gb x12 <|
    some (x12, s11)
  else if x3 = 103 then
    bn (f_L_tellGift s2 o1 (a2 + 1)) fun x17 s16 =>
    gb x17 <|
    some (x17, s16)
  else if x3 = 104 then
    bn (f_L_tellHands s2 o1 (a2 + 1)) fun x22 s21 =>
    gb x22 <|
    some (x22, s21)
  else if x3 = 109 then
    bn (f_L_tellMonths s2 o1 (a2 + 1)) fun x27 s26 =>
    gb x27 <|
    some (x27, s26)
  else if x3 = 110 then
    bn (f_L_tellNext s2 o1 (a2 + 1)) fun x32 s31 =>
    gb x32 <|
    some (x32, s31)
  else
    some (0, s2)
set_option maxRecDepth 20000 in
theorem c_L_tellStatement (l : Launch) {s : Mm} {o1 : Nat} {a2 : Int32} {r' : Int32} {s' : Mm} (ho1 : iC o1) (h : f_L_tellStatement s o1 a2 = some (r', s')) : Cm l y_L_tellStatement b_L_tellStatement 3 (some .boolean) 5 115 [.ref 169, .ref o1, .int a2] s s' (some (.int r')) := by
  refine Cm.of (own := "PassedOnAndBetter$Letters") (by decide) rfl (fun ad => Nat.le_of_ble_eq_true rfl) ?_
  intro z hz hq
  show G l z b_L_tellStatement 3 0 [(0, .ref 169), (1, .ref o1), (2, .int a2)] [] s
  unfold f_L_tellStatement at h
  refine g_aload_n hz 1 d_L_tellStatement_0 rfl rfl ?_
  refine g_ifnonnull hz (tgt := 6) d_L_tellStatement_1 (by decide) ?_
  refine g_aload_n hz 0 d_L_tellStatement_6 rfl rfl ?_
  refine g_iload_n hz 2 d_L_tellStatement_7 rfl rfl ?_
  refine bn_use h (fun x3 s2 e1 h => ?_)
  refine g_callVi hz (c_L_letterAt l e1) (by decide) rc_L rfl rfl m_L_letterAt mi_L_letterAt ms_L_letterAt q_393 ⟨Nat.le_of_ble_eq_true rfl, Nat.le_of_ble_eq_true rfl⟩ rfl (st := []) rfl (Nat.le_of_ble_eq_true rfl) d_L_tellStatement_8 ?_
  by_cases c4 : x3 = 100
  · replace h := (if_pos c4).symm.trans h
    refine g_tin hz (off := 75) (tgt := 86) d_L_tellStatement_11 c4 (by decide) (by decide) (by decide) (by decide) ?_
    refine g_aload_n hz 0 d_L_tellStatement_86 rfl rfl ?_
    refine g_aload_n hz 1 d_L_tellStatement_87 rfl rfl ?_
    refine g_iload_n hz 2 d_L_tellStatement_88 rfl rfl ?_
    refine g_iconst hz d_L_tellStatement_89 ki_1 ?_
    refine g_iadd hz d_L_tellStatement_90 ?_
    refine bn_use h (fun x7 s6 e5 h => ?_)
    refine g_callVi hz (c_L_tellDoor l ho1 e5) (by decide) rc_L rfl rfl m_L_tellDoor mi_L_tellDoor ms_L_tellDoor q_458 ⟨Nat.le_of_ble_eq_true rfl, Nat.le_of_ble_eq_true rfl⟩ rfl (st := []) rfl (Nat.le_of_ble_eq_true rfl) d_L_tellStatement_91 ?_
    obtain ⟨n8, h⟩ := gb_use h
    exact g_zret hz (rti h hq) n8 d_L_tellStatement_94
  · replace h := (if_neg c4).symm.trans h
    by_cases c9 : x3 = 102
    · replace h := (if_pos c9).symm.trans h
      refine g_tin hz (off := 57) (tgt := 68) d_L_tellStatement_11 c9 (by decide) (by decide) (by decide) (by decide) ?_
      refine g_aload_n hz 0 d_L_tellStatement_68 rfl rfl ?_
      refine g_aload_n hz 1 d_L_tellStatement_69 rfl rfl ?_
      refine g_iload_n hz 2 d_L_tellStatement_70 rfl rfl ?_
      refine g_iconst hz d_L_tellStatement_71 ki_1 ?_
      refine g_iadd hz d_L_tellStatement_72 ?_
      refine bn_use h (fun x12 s11 e10 h => ?_)
      refine g_callVi hz (c_L_tellFriend l ho1 e10) (by decide) rc_L rfl rfl m_L_tellFriend mi_L_tellFriend ms_L_tellFriend q_409 ⟨Nat.le_of_ble_eq_true rfl, Nat.le_of_ble_eq_true rfl⟩ rfl (st := []) rfl (Nat.le_of_ble_eq_true rfl) d_L_tellStatement_73 ?_
      obtain ⟨n13, h⟩ := gb_use h
      exact g_zret hz (rti h hq) n13 d_L_tellStatement_76
    · replace h := (if_neg c9).symm.trans h
      by_cases c14 : x3 = 103
      · replace h := (if_pos c14).symm.trans h
        refine g_tin hz (off := 84) (tgt := 95) d_L_tellStatement_11 c14 (by decide) (by decide) (by decide) (by decide) ?_
        refine g_aload_n hz 0 d_L_tellStatement_95 rfl rfl ?_
        refine g_aload_n hz 1 d_L_tellStatement_96 rfl rfl ?_
        refine g_iload_n hz 2 d_L_tellStatement_97 rfl rfl ?_
        refine g_iconst hz d_L_tellStatement_98 ki_1 ?_
        refine g_iadd hz d_L_tellStatement_99 ?_
        refine bn_use h (fun x17 s16 e15 h => ?_)
        refine g_callVi hz (c_L_tellGift l ho1 e15) (by decide) rc_L rfl rfl m_L_tellGift mi_L_tellGift ms_L_tellGift q_463 ⟨Nat.le_of_ble_eq_true rfl, Nat.le_of_ble_eq_true rfl⟩ rfl (st := []) rfl (Nat.le_of_ble_eq_true rfl) d_L_tellStatement_100 ?_
        obtain ⟨n18, h⟩ := gb_use h
        exact g_zret hz (rti h hq) n18 d_L_tellStatement_103
      · replace h := (if_neg c14).symm.trans h
        by_cases c19 : x3 = 104
        · replace h := (if_pos c19).symm.trans h
          refine g_tin hz (off := 93) (tgt := 104) d_L_tellStatement_11 c19 (by decide) (by decide) (by decide) (by decide) ?_
          refine g_aload_n hz 0 d_L_tellStatement_104 rfl rfl ?_
          refine g_aload_n hz 1 d_L_tellStatement_105 rfl rfl ?_
          refine g_iload_n hz 2 d_L_tellStatement_106 rfl rfl ?_
          refine g_iconst hz d_L_tellStatement_107 ki_1 ?_
          refine g_iadd hz d_L_tellStatement_108 ?_
          refine bn_use h (fun x22 s21 e20 h => ?_)
          refine g_callVi hz (c_L_tellHands l ho1 e20) (by decide) rc_L rfl rfl m_L_tellHands mi_L_tellHands ms_L_tellHands q_476 ⟨Nat.le_of_ble_eq_true rfl, Nat.le_of_ble_eq_true rfl⟩ rfl (st := []) rfl (Nat.le_of_ble_eq_true rfl) d_L_tellStatement_109 ?_
          obtain ⟨n23, h⟩ := gb_use h
          exact g_zret hz (rti h hq) n23 d_L_tellStatement_112
        · replace h := (if_neg c19).symm.trans h
          by_cases c24 : x3 = 109
          · replace h := (if_pos c24).symm.trans h
            refine g_tin hz (off := 102) (tgt := 113) d_L_tellStatement_11 c24 (by decide) (by decide) (by decide) (by decide) ?_
            refine g_aload_n hz 0 d_L_tellStatement_113 rfl rfl ?_
            refine g_aload_n hz 1 d_L_tellStatement_114 rfl rfl ?_
            refine g_iload_n hz 2 d_L_tellStatement_115 rfl rfl ?_
            refine g_iconst hz d_L_tellStatement_116 ki_1 ?_
            refine g_iadd hz d_L_tellStatement_117 ?_
            refine bn_use h (fun x27 s26 e25 h => ?_)
            refine g_callVi hz (c_L_tellMonths l ho1 e25) (by decide) rc_L rfl rfl m_L_tellMonths mi_L_tellMonths ms_L_tellMonths q_489 ⟨Nat.le_of_ble_eq_true rfl, Nat.le_of_ble_eq_true rfl⟩ rfl (st := []) rfl (Nat.le_of_ble_eq_true rfl) d_L_tellStatement_118 ?_
            obtain ⟨n28, h⟩ := gb_use h
            exact g_zret hz (rti h hq) n28 d_L_tellStatement_121
          · replace h := (if_neg c24).symm.trans h
            by_cases c29 : x3 = 110
            · replace h := (if_pos c29).symm.trans h
              refine g_tin hz (off := 66) (tgt := 77) d_L_tellStatement_11 c29 (by decide) (by decide) (by decide) (by decide) ?_
              refine g_aload_n hz 0 d_L_tellStatement_77 rfl rfl ?_
              refine g_aload_n hz 1 d_L_tellStatement_78 rfl rfl ?_
              refine g_iload_n hz 2 d_L_tellStatement_79 rfl rfl ?_
              refine g_iconst hz d_L_tellStatement_80 ki_1 ?_
              refine g_iadd hz d_L_tellStatement_81 ?_
              refine bn_use h (fun x32 s31 e30 h => ?_)
              refine g_callVi hz (c_L_tellNext l ho1 e30) (by decide) rc_L rfl rfl m_L_tellNext mi_L_tellNext ms_L_tellNext q_446 ⟨Nat.le_of_ble_eq_true rfl, Nat.le_of_ble_eq_true rfl⟩ rfl (st := []) rfl (Nat.le_of_ble_eq_true rfl) d_L_tellStatement_82 ?_
              obtain ⟨n33, h⟩ := gb_use h
              exact g_zret hz (rti h hq) n33 d_L_tellStatement_85
            · replace h := (if_neg c29).symm.trans h
              refine g_tdf hz (tgt := 122) d_L_tellStatement_11 (fun i hi hx => ?_) (by decide) ?_
              · match i, hi, hx with
                | 0, _, hx => exact absurd hx (lv_neT c4 (by decide))
                | 1, _, _ => rfl
                | 2, _, hx => exact absurd hx (lv_neT c9 (by decide))
                | 3, _, hx => exact absurd hx (lv_neT c14 (by decide))
                | 4, _, hx => exact absurd hx (lv_neT c19 (by decide))
                | 5, _, _ => rfl
                | 6, _, _ => rfl
                | 7, _, _ => rfl
                | 8, _, _ => rfl
                | 9, _, hx => exact absurd hx (lv_neT c24 (by decide))
                | 10, _, hx => exact absurd hx (lv_neT c29 (by decide))
                | q + 11, hi, _ => exact absurd hi (by omega)
              · refine g_iconst hz d_L_tellStatement_122 ki_0 ?_
                exact g_zret hz (rti h hq) (Or.inl rfl) d_L_tellStatement_123
def k_L_tellTo_21 : Nat → Nat → Int32 → Int32 → Mm → Option (Int32 × Mm)
  | 0, _, _, _, _ => none
  | n + 1, o1, v3, v4, s => if (s 169 1) ≤ v4 then
      some (v3, s)
    else
      bn (f_L_tellStatement s o1 v4) fun x8 s7 =>
      if x8 = 0 then
        some ((-2000) - v4, s7)
      else
        bn (f_L_letterAt s7 v4) fun x12 s11 =>
        bn (f_L_digitsBehind s11 x12) fun x15 s14 =>
        nm (v4 + (x15 + 2)) fun x16 =>
        k_L_tellTo_21 n o1 (v3 + 1) x16 s14
set_option maxRecDepth 20000 in
theorem w_L_tellTo_21 {l : Launch} {z : Zt} (hz : ZOk z b_L_tellTo 5 "PassedOnAndBetter$Letters" 6 137) {r' : Int32} {s' : Mm} (hq : ZR z (some .int) s' (some (.int r'))) : ∀ (n : Nat) (o1 : Nat) (v3 : Int32) (v4 : Int32) (ho1 : iC o1) (s : Mm), k_L_tellTo_21 n o1 v3 v4 s = some (r', s') → G l z b_L_tellTo 5 21 [(0, .ref 169), (1, .ref o1), (3, .int v3), (4, .int v4)] [] s := by
  intro n
  induction n with
  | zero => intro o1 v3 v4 ho1 s h; unfold k_L_tellTo_21 at h; cases h
  | succ n ih =>
    intro o1 v3 v4 ho1 s h
    unfold k_L_tellTo_21 at h
    refine g_iload hz 3 d_L_tellTo_21 rfl ?_
    refine g_aload_n hz 0 d_L_tellTo_23 rfl rfl ?_
    refine gf_L_told hz q_258 d_L_tellTo_24 ?_
    refine g_icmp_ge hz (tgt := 69) d_L_tellTo_27 (by decide) (fun c5 => ?_) (fun c5 => ?_)
    · replace h := (if_pos c5).symm.trans h
      refine g_iload_n hz 2 d_L_tellTo_69 rfl rfl ?_
      exact g_iret hz (rti h hq) d_L_tellTo_70
    · replace h := (if_neg c5).symm.trans h
      refine g_aload_n hz 0 d_L_tellTo_30 rfl rfl ?_
      refine g_aload_n hz 1 d_L_tellTo_31 rfl rfl ?_
      refine g_iload hz 3 d_L_tellTo_32 rfl ?_
      refine bn_use h (fun x8 s7 e6 h => ?_)
      refine g_callVi hz (c_L_tellStatement l ho1 e6) (by decide) rc_L rfl rfl m_L_tellStatement mi_L_tellStatement ms_L_tellStatement q_405 ⟨Nat.le_of_ble_eq_true rfl, Nat.le_of_ble_eq_true rfl⟩ rfl (st := []) rfl (Nat.le_of_ble_eq_true rfl) d_L_tellTo_34 ?_
      refine g_if_ne hz (tgt := 47) d_L_tellTo_37 (by decide) (fun c9 => ?_) (fun c9 => ?_)
      · replace h := (if_neg c9).symm.trans h
        refine g_iinc hz (v := v3 + 1) (L' := [(3, .int (v3 + 1)), (0, .ref 169), (1, .ref o1), (4, .int v4)]) 2 d_L_tellTo_47 rfl (congrArg (fun q => v3 + q) ki_1) (by decide) rfl ?_
        refine g_iload hz 3 d_L_tellTo_50 rfl ?_
        refine g_aload_n hz 1 d_L_tellTo_52 rfl rfl ?_
        refine g_iload hz 3 d_L_tellTo_53 rfl ?_
        refine bn_use h (fun x12 s11 e10 h => ?_)
        refine g_callVi hz (c_L_letterAt l e10) (by decide) rc_L rfl rfl m_L_letterAt mi_L_letterAt ms_L_letterAt q_393 ⟨Nat.le_of_ble_eq_true rfl, Nat.le_of_ble_eq_true rfl⟩ rfl (st := [.int v4]) rfl (Nat.le_of_ble_eq_true rfl) d_L_tellTo_55 ?_
        refine bn_use h (fun x15 s14 e13 h => ?_)
        refine g_callSi hz (c_L_digitsBehind l e13) m_L_digitsBehind mi_L_digitsBehind q_398 ⟨Nat.le_of_ble_eq_true rfl, Nat.le_of_ble_eq_true rfl⟩ rfl (st := [.int v4]) rfl (Nat.le_of_ble_eq_true rfl) d_L_tellTo_58 ?_
        refine g_iconst hz d_L_tellTo_61 ki_2 ?_
        refine g_iadd hz d_L_tellTo_62 ?_
        refine g_iadd hz d_L_tellTo_63 ?_
        refine g_nmi (fun x16 e17 => ?_)
        replace h := nm_use h e17
        refine g_istore hz (L' := [(4, .int x16), (3, .int (v3 + 1)), (0, .ref 169), (1, .ref o1)]) d_L_tellTo_64 (by decide) rfl ?_
        refine g_goto hz (tgt := 21) d_L_tellTo_66 (by decide) ?_
        refine g_sub [2, 3, 1, 0] rfl ?_
        exact ih o1 (v3 + 1) x16 ho1 _ h
      · replace h := (if_pos c9).symm.trans h
        refine g_sipush hz (v := (-2000)) d_L_tellTo_40 (by decide) ?_
        refine g_iload hz 3 d_L_tellTo_43 rfl ?_
        refine g_isub hz d_L_tellTo_45 ?_
        exact g_iret hz (rti h hq) d_L_tellTo_46
def f_L_tellTo (s : Mm) (o1 : Nat) : Option (Int32 × Mm) :=
  bn (f_L_placeOfFormFault s) fun x3 s2 =>
  if x3 = (-1) then
    k_L_tellTo_21 KF o1 0 0 s2
  else
    some ((-1000) - x3, s2)
set_option maxRecDepth 20000 in
theorem c_L_tellTo (l : Launch) {s : Mm} {o1 : Nat} {r' : Int32} {s' : Mm} (ho1 : iC o1) (h : f_L_tellTo s o1 = some (r', s')) : Cm l y_L_tellTo b_L_tellTo 5 (some .int) 6 137 [.ref 169, .ref o1] s s' (some (.int r')) := by
  refine Cm.of (own := "PassedOnAndBetter$Letters") (by decide) rfl (fun ad => Nat.le_of_ble_eq_true rfl) ?_
  intro z hz hq
  show G l z b_L_tellTo 5 0 [(0, .ref 169), (1, .ref o1)] [] s
  unfold f_L_tellTo at h
  refine g_aload_n hz 0 d_L_tellTo_0 rfl rfl ?_
  refine bn_use h (fun x3 s2 e1 h => ?_)
  refine g_callVi hz (c_L_placeOfFormFault l e1) (by decide) rc_L rfl rfl m_L_placeOfFormFault mi_L_placeOfFormFault ms_L_placeOfFormFault q_389 ⟨Nat.le_of_ble_eq_true rfl, Nat.le_of_ble_eq_true rfl⟩ rfl (st := []) rfl (Nat.le_of_ble_eq_true rfl) d_L_tellTo_1 ?_
  refine g_istore_n hz (L' := [(2, .int x3), (0, .ref 169), (1, .ref o1)]) d_L_tellTo_4 rfl (by decide) rfl ?_
  refine g_iload_n hz 0 d_L_tellTo_5 rfl rfl ?_
  refine g_iconst hz d_L_tellTo_6 ki_m1 ?_
  refine g_icmp_eq hz (tgt := 16) d_L_tellTo_7 (by decide) (fun c4 => ?_) (fun c4 => ?_)
  · replace h := (if_pos c4).symm.trans h
    refine g_iconst hz d_L_tellTo_16 ki_0 ?_
    refine g_istore_n hz (L' := [(3, .int 0), (2, .int x3), (0, .ref 169), (1, .ref o1)]) d_L_tellTo_17 rfl (by decide) rfl ?_
    refine g_iconst hz d_L_tellTo_18 ki_0 ?_
    refine g_istore hz (L' := [(4, .int 0), (3, .int 0), (2, .int x3), (0, .ref 169), (1, .ref o1)]) d_L_tellTo_19 (by decide) rfl ?_
    refine g_sub [3, 4, 1, 0] rfl ?_
    exact w_L_tellTo_21 hz hq KF o1 0 0 ho1 _ h
  · replace h := (if_neg c4).symm.trans h
    refine g_sipush hz (v := (-1000)) d_L_tellTo_10 (by decide) ?_
    refine g_iload_n hz 0 d_L_tellTo_13 rfl rfl ?_
    refine g_isub hz d_L_tellTo_14 ?_
    exact g_iret hz (rti h hq) d_L_tellTo_15
def f_L_drop (s : Mm) : Option Mm :=
  nm (mU s 169 1 0) fun s1 =>
  some s1
set_option maxRecDepth 20000 in
theorem c_L_drop (l : Launch) {s : Mm}  {s' : Mm}  (h : f_L_drop s = some s') : Cm l y_L_drop b_L_drop 1 none 0 0 [.ref 169] s s' none := by
  refine Cm.of (own := "PassedOnAndBetter$Letters") (by decide) rfl (fun ad => Nat.le_of_ble_eq_true rfl) ?_
  intro z hz hq
  show G l z b_L_drop 1 0 [(0, .ref 169)] [] s
  unfold f_L_drop at h
  refine g_aload_n hz 0 d_L_drop_0 rfl rfl ?_
  refine g_iconst hz d_L_drop_1 ki_0 ?_
  refine pf_L_told hz q_258 d_L_drop_2 (fun s1 e2 => ?_)
  replace h := nm_use h e2
  exact g_vret hz (rtv h hq) d_L_drop_5
def f_P_forget (s : Mm) : Option Mm :=
  nm (mU s 167 2 0) fun s1 =>
  some s1
set_option maxRecDepth 20000 in
theorem c_P_forget (l : Launch) {s : Mm}  {s' : Mm}  (h : f_P_forget s = some s') : Cm l y_P_forget b_P_forget 1 none 0 0 [.ref 167] s s' none := by
  refine Cm.of (own := "PassedOnAndBetter$Past") (by decide) rfl (fun ad => Nat.le_of_ble_eq_true rfl) ?_
  intro z hz hq
  show G l z b_P_forget 1 0 [(0, .ref 167)] [] s
  unfold f_P_forget at h
  refine g_aload_n hz 0 d_P_forget_0 rfl rfl ?_
  refine g_iconst hz d_P_forget_1 ki_0 ?_
  refine pf_P_held hz q_242 d_P_forget_2 (fun s1 e2 => ?_)
  replace h := nm_use h e2
  exact g_vret hz (rtv h hq) d_P_forget_5
def f_X_circle (s : Mm) : Option (Int32 × Mm) :=
  bn (f_M_recall s) fun x3 s2 =>
  bn (f_L_tellTo s2 x3) fun x6 s5 =>
  bv (f_L_drop s5) fun s8 =>
  if x6 ≤ 0 then
    some (x6, s8)
  else
    bv (f_C_copyFrom s8 0 x3) fun s11 =>
    bv (f_P_forget s11) fun s13 =>
    some (x6, s13)
set_option maxRecDepth 20000 in
theorem c_X_circle (l : Launch) {s : Mm}  {r' : Int32} {s' : Mm}  (h : f_X_circle s = some (r', s')) : Cm l y_X_circle b_X_circle 3 (some .int) 7 161 [.ref 165] s s' (some (.int r')) := by
  refine Cm.of (own := "PassedOnAndBetter") (by decide) rfl (fun ad => Nat.le_of_ble_eq_true rfl) ?_
  intro z hz hq
  show G l z b_X_circle 3 0 [(0, .ref 165)] [] s
  unfold f_X_circle at h
  refine g_aload_n hz 0 d_X_circle_0 rfl rfl ?_
  refine gf_X_mind hz q_311 d_X_circle_1 ?_
  refine bn_use h (fun x3 s2 e1 h => ?_)
  have hx3 := rr_M_recall e1
  refine g_callVr hz (c_M_recall l e1) (by decide) rc_M rfl rfl m_M_recall mi_M_recall ms_M_recall q_361 ⟨Nat.le_of_ble_eq_true rfl, Nat.le_of_ble_eq_true rfl⟩ rfl (st := []) rfl (Nat.le_of_ble_eq_true rfl) d_X_circle_4 ?_
  refine g_astore_n hz (L' := [(1, .ref x3), (0, .ref 165)]) d_X_circle_7 rfl (by decide) rfl ?_
  refine g_aload_n hz 1 d_X_circle_8 rfl rfl ?_
  refine gf_X_letters hz q_309 d_X_circle_9 ?_
  refine g_aload_n hz 0 d_X_circle_12 rfl rfl ?_
  refine bn_use h (fun x6 s5 e4 h => ?_)
  refine g_callVi hz (c_L_tellTo l hx3 e4) (by decide) rc_L rfl rfl m_L_tellTo mi_L_tellTo ms_L_tellTo q_385 ⟨Nat.le_of_ble_eq_true rfl, Nat.le_of_ble_eq_true rfl⟩ rfl (st := []) rfl (Nat.le_of_ble_eq_true rfl) d_X_circle_13 ?_
  refine g_istore_n hz (L' := [(2, .int x6), (1, .ref x3), (0, .ref 165)]) d_X_circle_16 rfl (by decide) rfl ?_
  refine g_aload_n hz 2 d_X_circle_17 rfl rfl ?_
  refine gf_X_letters hz q_309 d_X_circle_18 ?_
  refine bv_use h (fun s8 e7 h => ?_)
  refine g_callVv hz (c_L_drop l e7) (by decide) rc_L rfl rfl m_L_drop mi_L_drop ms_L_drop q_517 ⟨Nat.le_of_ble_eq_true rfl, Nat.le_of_ble_eq_true rfl⟩ rfl (st := []) rfl (Nat.le_of_ble_eq_true rfl) d_X_circle_21 ?_
  refine g_iload_n hz 0 d_X_circle_24 rfl rfl ?_
  refine g_if_le hz (tgt := 43) d_X_circle_25 (by decide) (fun c9 => ?_) (fun c9 => ?_)
  · replace h := (if_pos c9).symm.trans h
    refine g_iload_n hz 0 d_X_circle_43 rfl rfl ?_
    exact g_iret hz (rti h hq) d_X_circle_44
  · replace h := (if_neg c9).symm.trans h
    refine g_aload_n hz 2 d_X_circle_28 rfl rfl ?_
    refine gf_X_now hz q_306 d_X_circle_29 ?_
    refine g_aload_n hz 1 d_X_circle_32 rfl rfl ?_
    refine bv_use h (fun s11 e10 h => ?_)
    refine g_callVv hz (c_C_copyFrom l (by decide) hx3 e10) (iC_lt (by decide)) (rc_C (by decide)) rfl rfl m_C_copyFrom mi_C_copyFrom ms_C_copyFrom q_521 ⟨Nat.le_of_ble_eq_true rfl, Nat.le_of_ble_eq_true rfl⟩ rfl (st := []) rfl (Nat.le_of_ble_eq_true rfl) d_X_circle_33 ?_
    refine g_aload_n hz 2 d_X_circle_36 rfl rfl ?_
    refine gf_X_past hz q_308 d_X_circle_37 ?_
    refine bv_use h (fun s13 e12 h => ?_)
    refine g_callVv hz (c_P_forget l e12) (by decide) rc_P rfl rfl m_P_forget mi_P_forget ms_P_forget q_522 ⟨Nat.le_of_ble_eq_true rfl, Nat.le_of_ble_eq_true rfl⟩ rfl (st := []) rfl (Nat.le_of_ble_eq_true rfl) d_X_circle_40 ?_
    refine g_iload_n hz 0 d_X_circle_43 rfl rfl ?_
    exact g_iret hz (rti h hq) d_X_circle_44
def f_X_friendNo (s : Mm) (a1 : Int32) : Option (Int32 × Mm) :=
  bn (f_C_hasFriend s 0 a1) fun x3 s2 =>
  if x3 = 0 then
    some ((-1), s2)
  else
    some (0, s2)
set_option maxRecDepth 20000 in
theorem c_X_friendNo (l : Launch) {s : Mm} {a1 : Int32} {r' : Int32} {s' : Mm}  (h : f_X_friendNo s a1 = some (r', s')) : Cm l y_X_friendNo b_X_friendNo 2 (some .int) 1 21 [.ref 165, .int a1] s s' (some (.int r')) := by
  refine Cm.of (own := "PassedOnAndBetter") (by decide) rfl (fun ad => Nat.le_of_ble_eq_true rfl) ?_
  intro z hz hq
  show G l z b_X_friendNo 2 0 [(0, .ref 165), (1, .int a1)] [] s
  unfold f_X_friendNo at h
  refine g_aload_n hz 0 d_X_friendNo_0 rfl rfl ?_
  refine gf_X_now hz q_306 d_X_friendNo_1 ?_
  refine g_iload_n hz 1 d_X_friendNo_4 rfl rfl ?_
  refine bn_use h (fun x3 s2 e1 h => ?_)
  refine g_callVi hz (c_C_hasFriend l (by decide) e1) (iC_lt (by decide)) (rc_C (by decide)) rfl rfl m_C_hasFriend mi_C_hasFriend ms_C_hasFriend q_534 ⟨Nat.le_of_ble_eq_true rfl, Nat.le_of_ble_eq_true rfl⟩ rfl (st := []) rfl (Nat.le_of_ble_eq_true rfl) d_X_friendNo_5 ?_
  refine g_if_eq hz (tgt := 15) d_X_friendNo_8 (by decide) (fun c4 => ?_) (fun c4 => ?_)
  · replace h := (if_pos c4).symm.trans h
    refine g_iconst hz d_X_friendNo_15 ki_m1 ?_
    exact g_iret hz (rti h hq) d_X_friendNo_16
  · replace h := (if_neg c4).symm.trans h
    refine g_iconst hz d_X_friendNo_11 ki_0 ?_
    refine g_goto hz (tgt := 16) d_X_friendNo_12 (by decide) ?_
    exact g_iret hz (rti h hq) d_X_friendNo_16
def f_X_whatNo (s : Mm) (a0 : Int32) (a1 : Int32) : Option (Int32 × Mm) :=
  if a0 < 0 then
    some ((-2), s)
  else
    if a1 < a0 then
      some ((-2), s)
    else
      some (0, s)
set_option maxRecDepth 20000 in
theorem c_X_whatNo (l : Launch) {s : Mm} {a0 : Int32} {a1 : Int32} {r' : Int32} {s' : Mm}  (h : f_X_whatNo s a0 a1 = some (r', s')) : Cm l y_X_whatNo b_X_whatNo 2 (some .int) 0 0 [.int a0, .int a1] s s' (some (.int r')) := by
  refine Cm.of (own := "PassedOnAndBetter") (by decide) rfl (fun ad => Nat.le_of_ble_eq_true rfl) ?_
  intro z hz hq
  show G l z b_X_whatNo 2 0 [(0, .int a0), (1, .int a1)] [] s
  unfold f_X_whatNo at h
  refine g_iload_n hz 0 d_X_whatNo_0 rfl rfl ?_
  refine g_if_lt hz (tgt := 13) d_X_whatNo_1 (by decide) (fun c1 => ?_) (fun c1 => ?_)
  · replace h := (if_pos c1).symm.trans h
    refine g_bipush hz (v := (-2)) d_X_whatNo_13 (by decide) ?_
    exact g_iret hz (rti h hq) d_X_whatNo_15
  · replace h := (if_neg c1).symm.trans h
    refine g_iload_n hz 0 d_X_whatNo_4 rfl rfl ?_
    refine g_iload_n hz 1 d_X_whatNo_5 rfl rfl ?_
    refine g_icmp_gt hz (tgt := 13) d_X_whatNo_6 (by decide) (fun c2 => ?_) (fun c2 => ?_)
    · replace h := (if_pos c2).symm.trans h
      refine g_bipush hz (v := (-2)) d_X_whatNo_13 (by decide) ?_
      exact g_iret hz (rti h hq) d_X_whatNo_15
    · replace h := (if_neg c2).symm.trans h
      refine g_iconst hz d_X_whatNo_9 ki_0 ?_
      refine g_goto hz (tgt := 15) d_X_whatNo_10 (by decide) ?_
      exact g_iret hz (rti h hq) d_X_whatNo_15
def f_X_first (s : Mm) (a0 : Int32) (a1 : Int32) (a2 : Int32) : Option (Int32 × Mm) :=
  if a0 = 0 then
    if a1 = 0 then
      some (a2, s)
    else
      some (a1, s)
  else
    some (a0, s)
set_option maxRecDepth 20000 in
theorem c_X_first (l : Launch) {s : Mm} {a0 : Int32} {a1 : Int32} {a2 : Int32} {r' : Int32} {s' : Mm}  (h : f_X_first s a0 a1 a2 = some (r', s')) : Cm l y_X_first b_X_first 3 (some .int) 0 0 [.int a0, .int a1, .int a2] s s' (some (.int r')) := by
  refine Cm.of (own := "PassedOnAndBetter") (by decide) rfl (fun ad => Nat.le_of_ble_eq_true rfl) ?_
  intro z hz hq
  show G l z b_X_first 3 0 [(0, .int a0), (1, .int a1), (2, .int a2)] [] s
  unfold f_X_first at h
  refine g_iload_n hz 0 d_X_first_0 rfl rfl ?_
  refine g_if_eq hz (tgt := 6) d_X_first_1 (by decide) (fun c1 => ?_) (fun c1 => ?_)
  · replace h := (if_pos c1).symm.trans h
    refine g_iload_n hz 1 d_X_first_6 rfl rfl ?_
    refine g_if_eq hz (tgt := 14) d_X_first_7 (by decide) (fun c2 => ?_) (fun c2 => ?_)
    · replace h := (if_pos c2).symm.trans h
      refine g_iload_n hz 2 d_X_first_14 rfl rfl ?_
      exact g_iret hz (rti h hq) d_X_first_15
    · replace h := (if_neg c2).symm.trans h
      refine g_iload_n hz 1 d_X_first_10 rfl rfl ?_
      refine g_goto hz (tgt := 15) d_X_first_11 (by decide) ?_
      exact g_iret hz (rti h hq) d_X_first_15
  · replace h := (if_neg c1).symm.trans h
    refine g_iload_n hz 0 d_X_first_4 rfl rfl ?_
    exact g_iret hz (rti h hq) d_X_first_5
def k_C_holdsOf_4 : Nat → Nat → Int32 → Int32 → Int32 → Mm → Option (Int32 × Mm)
  | 0, _, _, _, _, _ => none
  | n + 1, o, v1, v2, v3, s => if (s o 5) ≤ v3 then
      some (v2, s)
    else
      bn (f_C_giftAt s o v3) fun x4 s3 =>
      if (s3 x4 2) = v1 then
        k_C_holdsOf_4 n o v1 (v2 + 1) (v3 + 1) s3
      else
        k_C_holdsOf_4 n o v1 v2 (v3 + 1) s3
set_option maxRecDepth 20000 in
theorem w_C_holdsOf_4 {l : Launch} {z : Zt} (hz : ZOk z b_C_holdsOf 4 "PassedOnAndBetter$Company" 1 22) {r' : Int32} {s' : Mm} (hq : ZR z (some .int) s' (some (.int r'))) : ∀ (n : Nat) (o : Nat) (v1 : Int32) (v2 : Int32) (v3 : Int32) (ho : iC o) (s : Mm), k_C_holdsOf_4 n o v1 v2 v3 s = some (r', s') → G l z b_C_holdsOf 4 4 [(0, .ref o), (1, .int v1), (2, .int v2), (3, .int v3)] [] s := by
  intro n
  induction n with
  | zero => intro o v1 v2 v3 ho s h; unfold k_C_holdsOf_4 at h; cases h
  | succ n ih =>
    intro o v1 v2 v3 ho s h
    unfold k_C_holdsOf_4 at h
    refine g_iload_n hz 3 d_C_holdsOf_4 rfl rfl ?_
    refine g_aload_n hz 0 d_C_holdsOf_5 rfl rfl ?_
    refine gf_C_gifts hz ho q_210 d_C_holdsOf_6 ?_
    refine g_icmp_ge hz (tgt := 33) d_C_holdsOf_9 (by decide) (fun c1 => ?_) (fun c1 => ?_)
    · replace h := (if_pos c1).symm.trans h
      refine g_iload_n hz 2 d_C_holdsOf_33 rfl rfl ?_
      exact g_iret hz (rti h hq) d_C_holdsOf_34
    · replace h := (if_neg c1).symm.trans h
      refine g_aload_n hz 0 d_C_holdsOf_12 rfl rfl ?_
      refine g_iload_n hz 3 d_C_holdsOf_13 rfl rfl ?_
      refine bn_use h (fun x4 s3 e2 h => ?_)
      have hx4 := rr_C_giftAt ho e2
      refine g_callVr hz (c_C_giftAt l ho e2) (iC_lt ho) (rc_C ho) rfl rfl m_C_giftAt mi_C_giftAt ms_C_giftAt q_377 ⟨Nat.le_of_ble_eq_true rfl, Nat.le_of_ble_eq_true rfl⟩ rfl (st := []) rfl (Nat.le_of_ble_eq_true rfl) d_C_holdsOf_14 ?_
      refine gf_G_with hz hx4 q_183 d_C_holdsOf_17 ?_
      refine g_iload_n hz 1 d_C_holdsOf_20 rfl rfl ?_
      refine g_icmp_ne hz (tgt := 27) d_C_holdsOf_21 (by decide) (fun c5 => ?_) (fun c5 => ?_)
      · replace h := (if_neg c5).symm.trans h
        refine g_iinc hz (v := v3 + 1) (L' := [(3, .int (v3 + 1)), (0, .ref o), (1, .int v1), (2, .int v2)]) 3 d_C_holdsOf_27 rfl (congrArg (fun q => v3 + q) ki_1) (by decide) rfl ?_
        refine g_goto hz (tgt := 4) d_C_holdsOf_30 (by decide) ?_
        refine g_sub [1, 2, 3, 0] rfl ?_
        exact ih o v1 v2 (v3 + 1) ho _ h
      · replace h := (if_pos c5).symm.trans h
        refine g_iinc hz (v := v2 + 1) (L' := [(2, .int (v2 + 1)), (0, .ref o), (1, .int v1), (3, .int v3)]) 2 d_C_holdsOf_24 rfl (congrArg (fun q => v2 + q) ki_1) (by decide) rfl ?_
        refine g_iinc hz (v := v3 + 1) (L' := [(3, .int (v3 + 1)), (2, .int (v2 + 1)), (0, .ref o), (1, .int v1)]) 3 d_C_holdsOf_27 rfl (congrArg (fun q => v3 + q) ki_1) (by decide) rfl ?_
        refine g_goto hz (tgt := 4) d_C_holdsOf_30 (by decide) ?_
        refine g_sub [2, 3, 1, 0] rfl ?_
        exact ih o v1 (v2 + 1) (v3 + 1) ho _ h
def f_C_holdsOf (s : Mm) (o : Nat) (a1 : Int32) : Option (Int32 × Mm) :=
  k_C_holdsOf_4 KF o a1 0 0 s
set_option maxRecDepth 20000 in
theorem c_C_holdsOf (l : Launch) {s : Mm} {o : Nat} {a1 : Int32} {r' : Int32} {s' : Mm} (ho : iC o) (h : f_C_holdsOf s o a1 = some (r', s')) : Cm l y_C_holdsOf b_C_holdsOf 4 (some .int) 1 22 [.ref o, .int a1] s s' (some (.int r')) := by
  refine Cm.of (own := "PassedOnAndBetter$Company") (by decide) rfl (fun ad => Nat.le_of_ble_eq_true rfl) ?_
  intro z hz hq
  show G l z b_C_holdsOf 4 0 [(0, .ref o), (1, .int a1)] [] s
  unfold f_C_holdsOf at h
  refine g_iconst hz d_C_holdsOf_0 ki_0 ?_
  refine g_istore_n hz (L' := [(2, .int 0), (0, .ref o), (1, .int a1)]) d_C_holdsOf_1 rfl (by decide) rfl ?_
  refine g_iconst hz d_C_holdsOf_2 ki_0 ?_
  refine g_istore_n hz (L' := [(3, .int 0), (2, .int 0), (0, .ref o), (1, .int a1)]) d_C_holdsOf_3 rfl (by decide) rfl ?_
  refine g_sub [2, 3, 1, 0] rfl ?_
  exact w_C_holdsOf_4 hz hq KF o a1 0 0 ho _ h
def f_F_tell (s : Mm) (o : Nat) (a1 : Int32) : Option (Int32 × Mm) :=
  if a1 = 0 then
    some (s o 0, s)
  else if a1 = 1 then
    some (s o 1, s)
  else if a1 = 2 then
    some (s o 2, s)
  else if a1 = 3 then
    if (s o 3) = (-1) then
      some ((-9), s)
    else
      some (s o 3, s)
  else if a1 = 4 then
    some (s o 4, s)
  else if a1 = 5 then
    some (s o 5, s)
  else
    some (mx 0 (s o 6), s)
set_option maxRecDepth 20000 in
theorem c_F_tell (l : Launch) {s : Mm} {o : Nat} {a1 : Int32} {r' : Int32} {s' : Mm} (ho : iF o) (h : f_F_tell s o a1 = some (r', s')) : Cm l y_F_tell b_F_tell 2 (some .int) 1 21 [.ref o, .int a1] s s' (some (.int r')) := by
  refine Cm.of (own := "PassedOnAndBetter$Friend") (by decide) rfl (fun ad => Nat.le_of_ble_eq_true rfl) ?_
  intro z hz hq
  show G l z b_F_tell 2 0 [(0, .ref o), (1, .int a1)] [] s
  unfold f_F_tell at h
  refine g_iload_n hz 1 d_F_tell_0 rfl rfl ?_
  by_cases c1 : a1 = 0
  · replace h := (if_pos c1).symm.trans h
    refine g_tin hz (off := 39) (tgt := 40) d_F_tell_1 c1 (by decide) (by decide) (by decide) (by decide) ?_
    refine g_aload_n hz 0 d_F_tell_40 rfl rfl ?_
    refine gf_F_kind hz ho q_118 d_F_tell_41 ?_
    exact g_iret hz (rti h hq) d_F_tell_44
  · replace h := (if_neg c1).symm.trans h
    by_cases c2 : a1 = 1
    · replace h := (if_pos c2).symm.trans h
      refine g_tin hz (off := 44) (tgt := 45) d_F_tell_1 c2 (by decide) (by decide) (by decide) (by decide) ?_
      refine g_aload_n hz 0 d_F_tell_45 rfl rfl ?_
      refine gf_F_figure hz ho q_120 d_F_tell_46 ?_
      exact g_iret hz (rti h hq) d_F_tell_49
    · replace h := (if_neg c2).symm.trans h
      by_cases c3 : a1 = 2
      · replace h := (if_pos c3).symm.trans h
        refine g_tin hz (off := 49) (tgt := 50) d_F_tell_1 c3 (by decide) (by decide) (by decide) (by decide) ?_
        refine g_aload_n hz 0 d_F_tell_50 rfl rfl ?_
        refine gf_F_door hz ho q_122 d_F_tell_51 ?_
        exact g_iret hz (rti h hq) d_F_tell_54
      · replace h := (if_neg c3).symm.trans h
        by_cases c4 : a1 = 3
        · replace h := (if_pos c4).symm.trans h
          refine g_tin hz (off := 54) (tgt := 55) d_F_tell_1 c4 (by decide) (by decide) (by decide) (by decide) ?_
          refine g_aload_n hz 0 d_F_tell_55 rfl rfl ?_
          refine gf_F_next hz ho q_128 d_F_tell_56 ?_
          refine g_iconst hz d_F_tell_59 ki_m1 ?_
          refine g_icmp_ne hz (tgt := 68) d_F_tell_60 (by decide) (fun c5 => ?_) (fun c5 => ?_)
          · replace h := (if_neg c5).symm.trans h
            refine g_aload_n hz 0 d_F_tell_68 rfl rfl ?_
            refine gf_F_next hz ho q_128 d_F_tell_69 ?_
            exact g_iret hz (rti h hq) d_F_tell_72
          · replace h := (if_pos c5).symm.trans h
            refine g_bipush hz (v := (-9)) d_F_tell_63 (by decide) ?_
            refine g_goto hz (tgt := 72) d_F_tell_65 (by decide) ?_
            exact g_iret hz (rti h hq) d_F_tell_72
        · replace h := (if_neg c4).symm.trans h
          by_cases c6 : a1 = 4
          · replace h := (if_pos c6).symm.trans h
            refine g_tin hz (off := 72) (tgt := 73) d_F_tell_1 c6 (by decide) (by decide) (by decide) (by decide) ?_
            refine g_aload_n hz 0 d_F_tell_73 rfl rfl ?_
            refine gf_F_waits hz ho q_132 d_F_tell_74 ?_
            exact g_iret hz (rti h hq) d_F_tell_77
          · replace h := (if_neg c6).symm.trans h
            by_cases c7 : a1 = 5
            · replace h := (if_pos c7).symm.trans h
              refine g_tin hz (off := 77) (tgt := 78) d_F_tell_1 c7 (by decide) (by decide) (by decide) (by decide) ?_
              refine g_aload_n hz 0 d_F_tell_78 rfl rfl ?_
              refine gf_F_adds hz ho q_136 d_F_tell_79 ?_
              exact g_iret hz (rti h hq) d_F_tell_82
            · replace h := (if_neg c7).symm.trans h
              refine g_tdf hz (tgt := 83) d_F_tell_1 (fun i hi hx => ?_) (by decide) ?_
              · match i, hi, hx with
                | 0, _, hx => exact absurd hx (lv_neT c1 (by decide))
                | 1, _, hx => exact absurd hx (lv_neT c2 (by decide))
                | 2, _, hx => exact absurd hx (lv_neT c3 (by decide))
                | 3, _, hx => exact absurd hx (lv_neT c4 (by decide))
                | 4, _, hx => exact absurd hx (lv_neT c6 (by decide))
                | 5, _, hx => exact absurd hx (lv_neT c7 (by decide))
                | q + 6, hi, _ => exact absurd hi (by omega)
              · refine g_iconst hz d_F_tell_83 ki_0 ?_
                refine g_aload_n hz 0 d_F_tell_84 rfl rfl ?_
                refine gf_F_swells hz ho q_138 d_F_tell_85 ?_
                refine g_mmax hz q_550 (by decide) (by decide) (Nat.le_of_ble_eq_true rfl) d_F_tell_88 ?_
                exact g_iret hz (rti h hq) d_F_tell_91
def f_X_friendOf (s : Mm) (a1 : Int32) (a2 : Int32) : Option (Int32 × Mm) :=
  bn (f_X_friendNo s a1) fun x3 s2 =>
  bn (f_X_whatNo s2 a2 7) fun x6 s5 =>
  bn (f_X_first s5 x3 x6 0) fun x9 s8 =>
  if x9 = 0 then
    if a2 = 7 then
      bn (f_C_holdsOf s8 0 a1) fun x20 s19 =>
      some (x20, s19)
    else
      bn (f_C_friendAt s8 0 a1) fun x14 s13 =>
      bn (f_F_tell s13 x14 a2) fun x17 s16 =>
      some (x17, s16)
  else
    bn (f_X_refuse s8 x9) fun x23 s22 =>
    some (x23, s22)
set_option maxRecDepth 20000 in
theorem c_X_friendOf (l : Launch) {s : Mm} {a1 : Int32} {a2 : Int32} {r' : Int32} {s' : Mm}  (h : f_X_friendOf s a1 a2 = some (r', s')) : Cm l y_X_friendOf b_X_friendOf 4 (some .int) 2 45 [.ref 165, .int a1, .int a2] s s' (some (.int r')) := by
  refine Cm.of (own := "PassedOnAndBetter") (by decide) rfl (fun ad => Nat.le_of_ble_eq_true rfl) ?_
  intro z hz hq
  show G l z b_X_friendOf 4 0 [(0, .ref 165), (1, .int a1), (2, .int a2)] [] s
  unfold f_X_friendOf at h
  refine g_aload_n hz 0 d_X_friendOf_0 rfl rfl ?_
  refine g_iload_n hz 1 d_X_friendOf_1 rfl rfl ?_
  refine bn_use h (fun x3 s2 e1 h => ?_)
  refine g_callVi hz (c_X_friendNo l e1) (by decide) rc_X rfl rfl m_X_friendNo mi_X_friendNo ms_X_friendNo q_530 ⟨Nat.le_of_ble_eq_true rfl, Nat.le_of_ble_eq_true rfl⟩ rfl (st := []) rfl (Nat.le_of_ble_eq_true rfl) d_X_friendOf_2 ?_
  refine g_iload_n hz 2 d_X_friendOf_5 rfl rfl ?_
  refine g_bipush hz (v := 7) d_X_friendOf_6 (by decide) ?_
  refine bn_use h (fun x6 s5 e4 h => ?_)
  refine g_callSi hz (c_X_whatNo l e4) m_X_whatNo mi_X_whatNo q_535 ⟨Nat.le_of_ble_eq_true rfl, Nat.le_of_ble_eq_true rfl⟩ rfl (st := [.int x3]) rfl (Nat.le_of_ble_eq_true rfl) d_X_friendOf_8 ?_
  refine g_iconst hz d_X_friendOf_11 ki_0 ?_
  refine bn_use h (fun x9 s8 e7 h => ?_)
  refine g_callSi hz (c_X_first l e7) m_X_first mi_X_first q_538 ⟨Nat.le_of_ble_eq_true rfl, Nat.le_of_ble_eq_true rfl⟩ rfl (st := []) rfl (Nat.le_of_ble_eq_true rfl) d_X_friendOf_12 ?_
  refine g_istore_n hz (L' := [(3, .int x9), (0, .ref 165), (1, .int a1), (2, .int a2)]) d_X_friendOf_15 rfl (by decide) rfl ?_
  refine g_iload_n hz 0 d_X_friendOf_16 rfl rfl ?_
  refine g_if_eq hz (tgt := 26) d_X_friendOf_17 (by decide) (fun c10 => ?_) (fun c10 => ?_)
  · replace h := (if_pos c10).symm.trans h
    refine g_iload_n hz 3 d_X_friendOf_26 rfl rfl ?_
    refine g_bipush hz (v := 7) d_X_friendOf_27 (by decide) ?_
    refine g_icmp_ne hz (tgt := 43) d_X_friendOf_29 (by decide) (fun c11 => ?_) (fun c11 => ?_)
    · replace h := (if_neg c11).symm.trans h
      refine g_aload_n hz 1 d_X_friendOf_43 rfl rfl ?_
      refine gf_X_now hz q_306 d_X_friendOf_44 ?_
      refine g_iload_n hz 2 d_X_friendOf_47 rfl rfl ?_
      refine bn_use h (fun x14 s13 e12 h => ?_)
      have hx14 := rr_C_friendAt (by decide) e12
      refine g_callVr hz (c_C_friendAt l (by decide) e12) (iC_lt (by decide)) (rc_C (by decide)) rfl rfl m_C_friendAt mi_C_friendAt ms_C_friendAt q_545 ⟨Nat.le_of_ble_eq_true rfl, Nat.le_of_ble_eq_true rfl⟩ rfl (st := []) rfl (Nat.le_of_ble_eq_true rfl) d_X_friendOf_48 ?_
      refine g_iload_n hz 3 d_X_friendOf_51 rfl rfl ?_
      refine bn_use h (fun x17 s16 e15 h => ?_)
      refine g_callVi hz (c_F_tell l hx14 e15) (iF_lt hx14) (rc_F hx14) rfl rfl m_F_tell mi_F_tell ms_F_tell q_546 ⟨Nat.le_of_ble_eq_true rfl, Nat.le_of_ble_eq_true rfl⟩ rfl (st := []) rfl (Nat.le_of_ble_eq_true rfl) d_X_friendOf_52 ?_
      exact g_iret hz (rti h hq) d_X_friendOf_55
    · replace h := (if_pos c11).symm.trans h
      refine g_aload_n hz 1 d_X_friendOf_32 rfl rfl ?_
      refine gf_X_now hz q_306 d_X_friendOf_33 ?_
      refine g_iload_n hz 2 d_X_friendOf_36 rfl rfl ?_
      refine bn_use h (fun x20 s19 e18 h => ?_)
      refine g_callVi hz (c_C_holdsOf l (by decide) e18) (iC_lt (by decide)) (rc_C (by decide)) rfl rfl m_C_holdsOf mi_C_holdsOf ms_C_holdsOf q_541 ⟨Nat.le_of_ble_eq_true rfl, Nat.le_of_ble_eq_true rfl⟩ rfl (st := []) rfl (Nat.le_of_ble_eq_true rfl) d_X_friendOf_37 ?_
      refine g_goto hz (tgt := 55) d_X_friendOf_40 (by decide) ?_
      exact g_iret hz (rti h hq) d_X_friendOf_55
  · replace h := (if_neg c10).symm.trans h
    refine g_aload_n hz 1 d_X_friendOf_20 rfl rfl ?_
    refine g_iload_n hz 0 d_X_friendOf_21 rfl rfl ?_
    refine bn_use h (fun x23 s22 e21 h => ?_)
    refine g_callVi hz (c_X_refuse l e21) (by decide) rc_X rfl rfl m_X_refuse mi_X_refuse ms_X_refuse q_349 ⟨Nat.le_of_ble_eq_true rfl, Nat.le_of_ble_eq_true rfl⟩ rfl (st := []) rfl (Nat.le_of_ble_eq_true rfl) d_X_friendOf_22 ?_
    exact g_iret hz (rti h hq) d_X_friendOf_25
def f_X_giftNo (s : Mm) (a1 : Int32) : Option (Int32 × Mm) :=
  bn (f_C_hasGift s 0 a1) fun x3 s2 =>
  if x3 = 0 then
    some ((-1), s2)
  else
    some (0, s2)
set_option maxRecDepth 20000 in
theorem c_X_giftNo (l : Launch) {s : Mm} {a1 : Int32} {r' : Int32} {s' : Mm}  (h : f_X_giftNo s a1 = some (r', s')) : Cm l y_X_giftNo b_X_giftNo 2 (some .int) 1 21 [.ref 165, .int a1] s s' (some (.int r')) := by
  refine Cm.of (own := "PassedOnAndBetter") (by decide) rfl (fun ad => Nat.le_of_ble_eq_true rfl) ?_
  intro z hz hq
  show G l z b_X_giftNo 2 0 [(0, .ref 165), (1, .int a1)] [] s
  unfold f_X_giftNo at h
  refine g_aload_n hz 0 d_X_giftNo_0 rfl rfl ?_
  refine gf_X_now hz q_306 d_X_giftNo_1 ?_
  refine g_iload_n hz 1 d_X_giftNo_4 rfl rfl ?_
  refine bn_use h (fun x3 s2 e1 h => ?_)
  refine g_callVi hz (c_C_hasGift l (by decide) e1) (iC_lt (by decide)) (rc_C (by decide)) rfl rfl m_C_hasGift mi_C_hasGift ms_C_hasGift q_559 ⟨Nat.le_of_ble_eq_true rfl, Nat.le_of_ble_eq_true rfl⟩ rfl (st := []) rfl (Nat.le_of_ble_eq_true rfl) d_X_giftNo_5 ?_
  refine g_if_eq hz (tgt := 15) d_X_giftNo_8 (by decide) (fun c4 => ?_) (fun c4 => ?_)
  · replace h := (if_pos c4).symm.trans h
    refine g_iconst hz d_X_giftNo_15 ki_m1 ?_
    exact g_iret hz (rti h hq) d_X_giftNo_16
  · replace h := (if_neg c4).symm.trans h
    refine g_iconst hz d_X_giftNo_11 ki_0 ?_
    refine g_goto hz (tgt := 16) d_X_giftNo_12 (by decide) ?_
    exact g_iret hz (rti h hq) d_X_giftNo_16
def f_G_tell (s : Mm) (o : Nat) (a1 : Int32) : Option (Int32 × Mm) :=
  if a1 = 0 then
    some (s o 0, s)
  else if a1 = 1 then
    some (s o 1, s)
  else if a1 = 2 then
    some (s o 2, s)
  else if a1 = 3 then
    some (s o 3, s)
  else if a1 = 4 then
    if (s o 4) = 0 then
      some (0, s)
    else
      some (1, s)
  else
    some (s o 5, s)
set_option maxRecDepth 20000 in
theorem c_G_tell (l : Launch) {s : Mm} {o : Nat} {a1 : Int32} {r' : Int32} {s' : Mm} (ho : iG o) (h : f_G_tell s o a1 = some (r', s')) : Cm l y_G_tell b_G_tell 2 (some .int) 0 0 [.ref o, .int a1] s s' (some (.int r')) := by
  refine Cm.of (own := "PassedOnAndBetter$Gift") (by decide) rfl (fun ad => Nat.le_of_ble_eq_true rfl) ?_
  intro z hz hq
  show G l z b_G_tell 2 0 [(0, .ref o), (1, .int a1)] [] s
  unfold f_G_tell at h
  refine g_iload_n hz 1 d_G_tell_0 rfl rfl ?_
  by_cases c1 : a1 = 0
  · replace h := (if_pos c1).symm.trans h
    refine g_tin hz (off := 35) (tgt := 36) d_G_tell_1 c1 (by decide) (by decide) (by decide) (by decide) ?_
    refine g_aload_n hz 0 d_G_tell_36 rfl rfl ?_
    refine gf_G_worth hz ho q_174 d_G_tell_37 ?_
    exact g_iret hz (rti h hq) d_G_tell_40
  · replace h := (if_neg c1).symm.trans h
    by_cases c2 : a1 = 1
    · replace h := (if_pos c2).symm.trans h
      refine g_tin hz (off := 40) (tgt := 41) d_G_tell_1 c2 (by decide) (by decide) (by decide) (by decide) ?_
      refine g_aload_n hz 0 d_G_tell_41 rfl rfl ?_
      refine gf_G_size hz ho q_177 d_G_tell_42 ?_
      exact g_iret hz (rti h hq) d_G_tell_45
    · replace h := (if_neg c2).symm.trans h
      by_cases c3 : a1 = 2
      · replace h := (if_pos c3).symm.trans h
        refine g_tin hz (off := 45) (tgt := 46) d_G_tell_1 c3 (by decide) (by decide) (by decide) (by decide) ?_
        refine g_aload_n hz 0 d_G_tell_46 rfl rfl ?_
        refine gf_G_with hz ho q_180 d_G_tell_47 ?_
        exact g_iret hz (rti h hq) d_G_tell_50
      · replace h := (if_neg c3).symm.trans h
        by_cases c4 : a1 = 3
        · replace h := (if_pos c4).symm.trans h
          refine g_tin hz (off := 50) (tgt := 51) d_G_tell_1 c4 (by decide) (by decide) (by decide) (by decide) ?_
          refine g_aload_n hz 0 d_G_tell_51 rfl rfl ?_
          refine gf_G_kept hz ho q_184 d_G_tell_52 ?_
          exact g_iret hz (rti h hq) d_G_tell_55
        · replace h := (if_neg c4).symm.trans h
          by_cases c5 : a1 = 4
          · replace h := (if_pos c5).symm.trans h
            refine g_tin hz (off := 55) (tgt := 56) d_G_tell_1 c5 (by decide) (by decide) (by decide) (by decide) ?_
            refine g_aload_n hz 0 d_G_tell_56 rfl rfl ?_
            refine gf_G_bettered hz ho q_186 d_G_tell_57 ?_
            refine g_if_eq hz (tgt := 67) d_G_tell_60 (by decide) (fun c6 => ?_) (fun c6 => ?_)
            · replace h := (if_pos c6).symm.trans h
              refine g_iconst hz d_G_tell_67 ki_0 ?_
              exact g_iret hz (rti h hq) d_G_tell_68
            · replace h := (if_neg c6).symm.trans h
              refine g_iconst hz d_G_tell_63 ki_1 ?_
              refine g_goto hz (tgt := 68) d_G_tell_64 (by decide) ?_
              exact g_iret hz (rti h hq) d_G_tell_68
          · replace h := (if_neg c5).symm.trans h
            refine g_tdf hz (tgt := 69) d_G_tell_1 (fun i hi hx => ?_) (by decide) ?_
            · match i, hi, hx with
              | 0, _, hx => exact absurd hx (lv_neT c1 (by decide))
              | 1, _, hx => exact absurd hx (lv_neT c2 (by decide))
              | 2, _, hx => exact absurd hx (lv_neT c3 (by decide))
              | 3, _, hx => exact absurd hx (lv_neT c4 (by decide))
              | 4, _, hx => exact absurd hx (lv_neT c5 (by decide))
              | q + 5, hi, _ => exact absurd hi (by omega)
            · refine g_aload_n hz 0 d_G_tell_69 rfl rfl ?_
              refine gf_G_passed hz ho q_187 d_G_tell_70 ?_
              exact g_iret hz (rti h hq) d_G_tell_73
def f_X_giftOf (s : Mm) (a1 : Int32) (a2 : Int32) : Option (Int32 × Mm) :=
  bn (f_X_giftNo s a1) fun x3 s2 =>
  bn (f_X_whatNo s2 a2 5) fun x6 s5 =>
  bn (f_X_first s5 x3 x6 0) fun x9 s8 =>
  if x9 = 0 then
    bn (f_C_giftAt s8 0 a1) fun x16 s15 =>
    bn (f_G_tell s15 x16 a2) fun x19 s18 =>
    some (x19, s18)
  else
    bn (f_X_refuse s8 x9) fun x13 s12 =>
    some (x13, s12)
set_option maxRecDepth 20000 in
theorem c_X_giftOf (l : Launch) {s : Mm} {a1 : Int32} {a2 : Int32} {r' : Int32} {s' : Mm}  (h : f_X_giftOf s a1 a2 = some (r', s')) : Cm l y_X_giftOf b_X_giftOf 4 (some .int) 2 43 [.ref 165, .int a1, .int a2] s s' (some (.int r')) := by
  refine Cm.of (own := "PassedOnAndBetter") (by decide) rfl (fun ad => Nat.le_of_ble_eq_true rfl) ?_
  intro z hz hq
  show G l z b_X_giftOf 4 0 [(0, .ref 165), (1, .int a1), (2, .int a2)] [] s
  unfold f_X_giftOf at h
  refine g_aload_n hz 0 d_X_giftOf_0 rfl rfl ?_
  refine g_iload_n hz 1 d_X_giftOf_1 rfl rfl ?_
  refine bn_use h (fun x3 s2 e1 h => ?_)
  refine g_callVi hz (c_X_giftNo l e1) (by decide) rc_X rfl rfl m_X_giftNo mi_X_giftNo ms_X_giftNo q_555 ⟨Nat.le_of_ble_eq_true rfl, Nat.le_of_ble_eq_true rfl⟩ rfl (st := []) rfl (Nat.le_of_ble_eq_true rfl) d_X_giftOf_2 ?_
  refine g_iload_n hz 2 d_X_giftOf_5 rfl rfl ?_
  refine g_iconst hz d_X_giftOf_6 ki_5 ?_
  refine bn_use h (fun x6 s5 e4 h => ?_)
  refine g_callSi hz (c_X_whatNo l e4) m_X_whatNo mi_X_whatNo q_535 ⟨Nat.le_of_ble_eq_true rfl, Nat.le_of_ble_eq_true rfl⟩ rfl (st := [.int x3]) rfl (Nat.le_of_ble_eq_true rfl) d_X_giftOf_7 ?_
  refine g_iconst hz d_X_giftOf_10 ki_0 ?_
  refine bn_use h (fun x9 s8 e7 h => ?_)
  refine g_callSi hz (c_X_first l e7) m_X_first mi_X_first q_538 ⟨Nat.le_of_ble_eq_true rfl, Nat.le_of_ble_eq_true rfl⟩ rfl (st := []) rfl (Nat.le_of_ble_eq_true rfl) d_X_giftOf_11 ?_
  refine g_istore_n hz (L' := [(3, .int x9), (0, .ref 165), (1, .int a1), (2, .int a2)]) d_X_giftOf_14 rfl (by decide) rfl ?_
  refine g_iload_n hz 0 d_X_giftOf_15 rfl rfl ?_
  refine g_if_ne hz (tgt := 34) d_X_giftOf_16 (by decide) (fun c10 => ?_) (fun c10 => ?_)
  · replace h := (if_neg c10).symm.trans h
    refine g_aload_n hz 1 d_X_giftOf_34 rfl rfl ?_
    refine g_iload_n hz 0 d_X_giftOf_35 rfl rfl ?_
    refine bn_use h (fun x13 s12 e11 h => ?_)
    refine g_callVi hz (c_X_refuse l e11) (by decide) rc_X rfl rfl m_X_refuse mi_X_refuse ms_X_refuse q_349 ⟨Nat.le_of_ble_eq_true rfl, Nat.le_of_ble_eq_true rfl⟩ rfl (st := []) rfl (Nat.le_of_ble_eq_true rfl) d_X_giftOf_36 ?_
    exact g_iret hz (rti h hq) d_X_giftOf_39
  · replace h := (if_pos c10).symm.trans h
    refine g_aload_n hz 1 d_X_giftOf_19 rfl rfl ?_
    refine gf_X_now hz q_306 d_X_giftOf_20 ?_
    refine g_iload_n hz 2 d_X_giftOf_23 rfl rfl ?_
    refine bn_use h (fun x16 s15 e14 h => ?_)
    have hx16 := rr_C_giftAt (by decide) e14
    refine g_callVr hz (c_C_giftAt l (by decide) e14) (iC_lt (by decide)) (rc_C (by decide)) rfl rfl m_C_giftAt mi_C_giftAt ms_C_giftAt q_560 ⟨Nat.le_of_ble_eq_true rfl, Nat.le_of_ble_eq_true rfl⟩ rfl (st := []) rfl (Nat.le_of_ble_eq_true rfl) d_X_giftOf_24 ?_
    refine g_iload_n hz 3 d_X_giftOf_27 rfl rfl ?_
    refine bn_use h (fun x19 s18 e17 h => ?_)
    refine g_callVi hz (c_G_tell l hx16 e17) (iG_lt hx16) (rc_G hx16) rfl rfl m_G_tell mi_G_tell ms_G_tell q_561 ⟨Nat.le_of_ble_eq_true rfl, Nat.le_of_ble_eq_true rfl⟩ rfl (st := []) rfl (Nat.le_of_ble_eq_true rfl) d_X_giftOf_28 ?_
    refine g_goto hz (tgt := 39) d_X_giftOf_31 (by decide) ?_
    exact g_iret hz (rti h hq) d_X_giftOf_39
def k_X_friend_56 (v1 : Int32) (v2 : Int32) (v3 : Int32) (v4 : Int32) (s : Mm) : Option (Int32 × Mm) :=
  if v4 = 0 then
    bv (f_P_forget s) fun s8 =>
    bn (f_C_addFriend s8 0 v1 v2 v3) fun x11 s10 =>
    some (x11, s10)
  else
    bn (f_X_refuse s v4) fun x14 s13 =>
    some (x14, s13)
set_option maxRecDepth 20000 in
theorem w_X_friend_56 {l : Launch} {z : Zt} (hz : ZOk z b_X_friend 5 "PassedOnAndBetter" 4 91) {r' : Int32} {s' : Mm} (hq : ZR z (some .int) s' (some (.int r'))) (v1 : Int32) (v2 : Int32) (v3 : Int32) (v4 : Int32) (s : Mm) (h : k_X_friend_56 v1 v2 v3 v4 s = some (r', s')) : G l z b_X_friend 5 56 [(0, .ref 165), (1, .int v1), (2, .int v2), (3, .int v3), (4, .int v4)] [] s := by
  unfold k_X_friend_56 at h
  refine g_iload hz 4 d_X_friend_56 rfl ?_
  refine g_if_eq hz (tgt := 68) d_X_friend_58 (by decide) (fun c6 => ?_) (fun c6 => ?_)
  · replace h := (if_pos c6).symm.trans h
    refine g_aload_n hz 0 d_X_friend_68 rfl rfl ?_
    refine gf_X_past hz q_308 d_X_friend_69 ?_
    refine bv_use h (fun s8 e7 h => ?_)
    refine g_callVv hz (c_P_forget l e7) (by decide) rc_P rfl rfl m_P_forget mi_P_forget ms_P_forget q_522 ⟨Nat.le_of_ble_eq_true rfl, Nat.le_of_ble_eq_true rfl⟩ rfl (st := []) rfl (Nat.le_of_ble_eq_true rfl) d_X_friend_72 ?_
    refine g_aload_n hz 0 d_X_friend_75 rfl rfl ?_
    refine gf_X_now hz q_306 d_X_friend_76 ?_
    refine g_iload_n hz 1 d_X_friend_79 rfl rfl ?_
    refine g_iload_n hz 2 d_X_friend_80 rfl rfl ?_
    refine g_iload_n hz 3 d_X_friend_81 rfl rfl ?_
    refine bn_use h (fun x11 s10 e9 h => ?_)
    refine g_callVi hz (c_C_addFriend l (by decide) e9) (iC_lt (by decide)) (rc_C (by decide)) rfl rfl m_C_addFriend mi_C_addFriend ms_C_addFriend q_570 ⟨Nat.le_of_ble_eq_true rfl, Nat.le_of_ble_eq_true rfl⟩ rfl (st := []) rfl (Nat.le_of_ble_eq_true rfl) d_X_friend_82 ?_
    exact g_iret hz (rti h hq) d_X_friend_85
  · replace h := (if_neg c6).symm.trans h
    refine g_aload_n hz 0 d_X_friend_61 rfl rfl ?_
    refine g_iload hz 4 d_X_friend_62 rfl ?_
    refine bn_use h (fun x14 s13 e12 h => ?_)
    refine g_callVi hz (c_X_refuse l e12) (by decide) rc_X rfl rfl m_X_refuse mi_X_refuse ms_X_refuse q_349 ⟨Nat.le_of_ble_eq_true rfl, Nat.le_of_ble_eq_true rfl⟩ rfl (st := []) rfl (Nat.le_of_ble_eq_true rfl) d_X_friend_64 ?_
    exact g_iret hz (rti h hq) d_X_friend_67
def k_X_friend_25 (v1 : Int32) (v2 : Int32) (v3 : Int32) (v4 : Int32) (s : Mm) : Option (Int32 × Mm) :=
  if v4 = 0 then
    if 9 < v2 then
      k_X_friend_56 v1 v2 v3 (-6) s
    else
      if 99 < v3 then
        k_X_friend_56 v1 v2 v3 (-6) s
      else
        bn (f_C_friendsAreFull s 0) fun x19 s18 =>
        if x19 = 0 then
          k_X_friend_56 v1 v2 v3 v4 s18
        else
          k_X_friend_56 v1 v2 v3 (-6) s18
  else
    k_X_friend_56 v1 v2 v3 v4 s
set_option maxRecDepth 20000 in
theorem w_X_friend_25 {l : Launch} {z : Zt} (hz : ZOk z b_X_friend 5 "PassedOnAndBetter" 4 91) {r' : Int32} {s' : Mm} (hq : ZR z (some .int) s' (some (.int r'))) (v1 : Int32) (v2 : Int32) (v3 : Int32) (v4 : Int32) (s : Mm) (h : k_X_friend_25 v1 v2 v3 v4 s = some (r', s')) : G l z b_X_friend 5 25 [(0, .ref 165), (1, .int v1), (2, .int v2), (3, .int v3), (4, .int v4)] [] s := by
  unfold k_X_friend_25 at h
  refine g_iload hz 4 d_X_friend_25 rfl ?_
  refine g_if_ne hz (tgt := 56) d_X_friend_27 (by decide) (fun c5 => ?_) (fun c5 => ?_)
  · replace h := (if_neg c5).symm.trans h
    exact w_X_friend_56 hz hq v1 v2 v3 v4 _ h
  · replace h := (if_pos c5).symm.trans h
    refine g_iload_n hz 2 d_X_friend_30 rfl rfl ?_
    refine g_bipush hz (v := 9) d_X_friend_31 (by decide) ?_
    refine g_icmp_gt hz (tgt := 52) d_X_friend_33 (by decide) (fun c15 => ?_) (fun c15 => ?_)
    · replace h := (if_pos c15).symm.trans h
      refine g_bipush hz (v := (-6)) d_X_friend_52 (by decide) ?_
      refine g_istore hz (L' := [(4, .int (-6)), (0, .ref 165), (1, .int v1), (2, .int v2), (3, .int v3)]) d_X_friend_54 (by decide) rfl ?_
      refine g_sub [1, 2, 3, 4, 0] rfl ?_
      exact w_X_friend_56 hz hq v1 v2 v3 (-6) _ h
    · replace h := (if_neg c15).symm.trans h
      refine g_iload_n hz 3 d_X_friend_36 rfl rfl ?_
      refine g_bipush hz (v := 99) d_X_friend_37 (by decide) ?_
      refine g_icmp_gt hz (tgt := 52) d_X_friend_39 (by decide) (fun c16 => ?_) (fun c16 => ?_)
      · replace h := (if_pos c16).symm.trans h
        refine g_bipush hz (v := (-6)) d_X_friend_52 (by decide) ?_
        refine g_istore hz (L' := [(4, .int (-6)), (0, .ref 165), (1, .int v1), (2, .int v2), (3, .int v3)]) d_X_friend_54 (by decide) rfl ?_
        refine g_sub [1, 2, 3, 4, 0] rfl ?_
        exact w_X_friend_56 hz hq v1 v2 v3 (-6) _ h
      · replace h := (if_neg c16).symm.trans h
        refine g_aload_n hz 0 d_X_friend_42 rfl rfl ?_
        refine gf_X_now hz q_306 d_X_friend_43 ?_
        refine bn_use h (fun x19 s18 e17 h => ?_)
        refine g_callVi hz (c_C_friendsAreFull l (by decide) e17) (iC_lt (by decide)) (rc_C (by decide)) rfl rfl m_C_friendsAreFull mi_C_friendsAreFull ms_C_friendsAreFull q_569 ⟨Nat.le_of_ble_eq_true rfl, Nat.le_of_ble_eq_true rfl⟩ rfl (st := []) rfl (Nat.le_of_ble_eq_true rfl) d_X_friend_46 ?_
        refine g_if_eq hz (tgt := 56) d_X_friend_49 (by decide) (fun c20 => ?_) (fun c20 => ?_)
        · replace h := (if_pos c20).symm.trans h
          exact w_X_friend_56 hz hq v1 v2 v3 v4 _ h
        · replace h := (if_neg c20).symm.trans h
          refine g_bipush hz (v := (-6)) d_X_friend_52 (by decide) ?_
          refine g_istore hz (L' := [(4, .int (-6)), (0, .ref 165), (1, .int v1), (2, .int v2), (3, .int v3)]) d_X_friend_54 (by decide) rfl ?_
          refine g_sub [1, 2, 3, 4, 0] rfl ?_
          exact w_X_friend_56 hz hq v1 v2 v3 (-6) _ h
def f_X_friend (s : Mm) (a1 : Int32) (a2 : Int32) (a3 : Int32) : Option (Int32 × Mm) :=
  bn (f_X_whatNo s a1 5) fun x3 s2 =>
  if x3 = 0 then
    if a2 < 0 then
      k_X_friend_25 a1 a2 a3 (-4) s2
    else
      if 1 ≤ a3 then
        k_X_friend_25 a1 a2 a3 x3 s2
      else
        k_X_friend_25 a1 a2 a3 (-4) s2
  else
    k_X_friend_25 a1 a2 a3 x3 s2
set_option maxRecDepth 20000 in
theorem c_X_friend (l : Launch) {s : Mm} {a1 : Int32} {a2 : Int32} {a3 : Int32} {r' : Int32} {s' : Mm}  (h : f_X_friend s a1 a2 a3 = some (r', s')) : Cm l y_X_friend b_X_friend 5 (some .int) 4 91 [.ref 165, .int a1, .int a2, .int a3] s s' (some (.int r')) := by
  refine Cm.of (own := "PassedOnAndBetter") (by decide) rfl (fun ad => Nat.le_of_ble_eq_true rfl) ?_
  intro z hz hq
  show G l z b_X_friend 5 0 [(0, .ref 165), (1, .int a1), (2, .int a2), (3, .int a3)] [] s
  unfold f_X_friend at h
  refine g_iload_n hz 1 d_X_friend_0 rfl rfl ?_
  refine g_iconst hz d_X_friend_1 ki_5 ?_
  refine bn_use h (fun x3 s2 e1 h => ?_)
  refine g_callSi hz (c_X_whatNo l e1) m_X_whatNo mi_X_whatNo q_535 ⟨Nat.le_of_ble_eq_true rfl, Nat.le_of_ble_eq_true rfl⟩ rfl (st := []) rfl (Nat.le_of_ble_eq_true rfl) d_X_friend_2 ?_
  refine g_istore hz (L' := [(4, .int x3), (0, .ref 165), (1, .int a1), (2, .int a2), (3, .int a3)]) d_X_friend_5 (by decide) rfl ?_
  refine g_iload hz 0 d_X_friend_7 rfl ?_
  refine g_if_ne hz (tgt := 25) d_X_friend_9 (by decide) (fun c4 => ?_) (fun c4 => ?_)
  · replace h := (if_neg c4).symm.trans h
    refine g_sub [1, 2, 3, 4, 0] rfl ?_
    exact w_X_friend_25 hz hq a1 a2 a3 x3 _ h
  · replace h := (if_pos c4).symm.trans h
    refine g_iload_n hz 3 d_X_friend_12 rfl rfl ?_
    refine g_if_lt hz (tgt := 21) d_X_friend_13 (by decide) (fun c21 => ?_) (fun c21 => ?_)
    · replace h := (if_pos c21).symm.trans h
      refine g_bipush hz (v := (-4)) d_X_friend_21 (by decide) ?_
      refine g_istore hz (L' := [(4, .int (-4)), (0, .ref 165), (1, .int a1), (2, .int a2), (3, .int a3)]) d_X_friend_23 (by decide) rfl ?_
      refine g_sub [1, 2, 3, 4, 0] rfl ?_
      exact w_X_friend_25 hz hq a1 a2 a3 (-4) _ h
    · replace h := (if_neg c21).symm.trans h
      refine g_iload_n hz 4 d_X_friend_16 rfl rfl ?_
      refine g_iconst hz d_X_friend_17 ki_1 ?_
      refine g_icmp_ge hz (tgt := 25) d_X_friend_18 (by decide) (fun c22 => ?_) (fun c22 => ?_)
      · replace h := (if_pos c22).symm.trans h
        refine g_sub [1, 2, 3, 4, 0] rfl ?_
        exact w_X_friend_25 hz hq a1 a2 a3 x3 _ h
      · replace h := (if_neg c22).symm.trans h
        refine g_bipush hz (v := (-4)) d_X_friend_21 (by decide) ?_
        refine g_istore hz (L' := [(4, .int (-4)), (0, .ref 165), (1, .int a1), (2, .int a2), (3, .int a3)]) d_X_friend_23 (by decide) rfl ?_
        refine g_sub [1, 2, 3, 4, 0] rfl ?_
        exact w_X_friend_25 hz hq a1 a2 a3 (-4) _ h
def k_X_gift_56 (v1 : Int32) (v2 : Int32) (v3 : Int32) (v4 : Int32) (s : Mm) : Option (Int32 × Mm) :=
  if v4 = 0 then
    bv (f_P_forget s) fun s8 =>
    bn (f_C_addGift s8 0 v1 v2 v3) fun x11 s10 =>
    some (x11, s10)
  else
    bn (f_X_refuse s v4) fun x14 s13 =>
    some (x14, s13)
set_option maxRecDepth 20000 in
theorem w_X_gift_56 {l : Launch} {z : Zt} (hz : ZOk z b_X_gift 5 "PassedOnAndBetter" 2 47) {r' : Int32} {s' : Mm} (hq : ZR z (some .int) s' (some (.int r'))) (v1 : Int32) (v2 : Int32) (v3 : Int32) (v4 : Int32) (s : Mm) (h : k_X_gift_56 v1 v2 v3 v4 s = some (r', s')) : G l z b_X_gift 5 56 [(0, .ref 165), (1, .int v1), (2, .int v2), (3, .int v3), (4, .int v4)] [] s := by
  unfold k_X_gift_56 at h
  refine g_iload hz 4 d_X_gift_56 rfl ?_
  refine g_if_eq hz (tgt := 68) d_X_gift_58 (by decide) (fun c6 => ?_) (fun c6 => ?_)
  · replace h := (if_pos c6).symm.trans h
    refine g_aload_n hz 0 d_X_gift_68 rfl rfl ?_
    refine gf_X_past hz q_308 d_X_gift_69 ?_
    refine bv_use h (fun s8 e7 h => ?_)
    refine g_callVv hz (c_P_forget l e7) (by decide) rc_P rfl rfl m_P_forget mi_P_forget ms_P_forget q_522 ⟨Nat.le_of_ble_eq_true rfl, Nat.le_of_ble_eq_true rfl⟩ rfl (st := []) rfl (Nat.le_of_ble_eq_true rfl) d_X_gift_72 ?_
    refine g_aload_n hz 0 d_X_gift_75 rfl rfl ?_
    refine gf_X_now hz q_306 d_X_gift_76 ?_
    refine g_iload_n hz 1 d_X_gift_79 rfl rfl ?_
    refine g_iload_n hz 2 d_X_gift_80 rfl rfl ?_
    refine g_iload_n hz 3 d_X_gift_81 rfl rfl ?_
    refine bn_use h (fun x11 s10 e9 h => ?_)
    refine g_callVi hz (c_C_addGift l (by decide) e9) (iC_lt (by decide)) (rc_C (by decide)) rfl rfl m_C_addGift mi_C_addGift ms_C_addGift q_576 ⟨Nat.le_of_ble_eq_true rfl, Nat.le_of_ble_eq_true rfl⟩ rfl (st := []) rfl (Nat.le_of_ble_eq_true rfl) d_X_gift_82 ?_
    exact g_iret hz (rti h hq) d_X_gift_85
  · replace h := (if_neg c6).symm.trans h
    refine g_aload_n hz 0 d_X_gift_61 rfl rfl ?_
    refine g_iload hz 4 d_X_gift_62 rfl ?_
    refine bn_use h (fun x14 s13 e12 h => ?_)
    refine g_callVi hz (c_X_refuse l e12) (by decide) rc_X rfl rfl m_X_refuse mi_X_refuse ms_X_refuse q_349 ⟨Nat.le_of_ble_eq_true rfl, Nat.le_of_ble_eq_true rfl⟩ rfl (st := []) rfl (Nat.le_of_ble_eq_true rfl) d_X_gift_64 ?_
    exact g_iret hz (rti h hq) d_X_gift_67
def k_X_gift_25 (v1 : Int32) (v2 : Int32) (v3 : Int32) (v4 : Int32) (s : Mm) : Option (Int32 × Mm) :=
  if v4 = 0 then
    if 99 < v2 then
      k_X_gift_56 v1 v2 v3 (-6) s
    else
      if 99 < v3 then
        k_X_gift_56 v1 v2 v3 (-6) s
      else
        bn (f_C_giftsAreFull s 0) fun x19 s18 =>
        if x19 = 0 then
          k_X_gift_56 v1 v2 v3 v4 s18
        else
          k_X_gift_56 v1 v2 v3 (-6) s18
  else
    k_X_gift_56 v1 v2 v3 v4 s
set_option maxRecDepth 20000 in
theorem w_X_gift_25 {l : Launch} {z : Zt} (hz : ZOk z b_X_gift 5 "PassedOnAndBetter" 2 47) {r' : Int32} {s' : Mm} (hq : ZR z (some .int) s' (some (.int r'))) (v1 : Int32) (v2 : Int32) (v3 : Int32) (v4 : Int32) (s : Mm) (h : k_X_gift_25 v1 v2 v3 v4 s = some (r', s')) : G l z b_X_gift 5 25 [(0, .ref 165), (1, .int v1), (2, .int v2), (3, .int v3), (4, .int v4)] [] s := by
  unfold k_X_gift_25 at h
  refine g_iload hz 4 d_X_gift_25 rfl ?_
  refine g_if_ne hz (tgt := 56) d_X_gift_27 (by decide) (fun c5 => ?_) (fun c5 => ?_)
  · replace h := (if_neg c5).symm.trans h
    exact w_X_gift_56 hz hq v1 v2 v3 v4 _ h
  · replace h := (if_pos c5).symm.trans h
    refine g_iload_n hz 2 d_X_gift_30 rfl rfl ?_
    refine g_bipush hz (v := 99) d_X_gift_31 (by decide) ?_
    refine g_icmp_gt hz (tgt := 52) d_X_gift_33 (by decide) (fun c15 => ?_) (fun c15 => ?_)
    · replace h := (if_pos c15).symm.trans h
      refine g_bipush hz (v := (-6)) d_X_gift_52 (by decide) ?_
      refine g_istore hz (L' := [(4, .int (-6)), (0, .ref 165), (1, .int v1), (2, .int v2), (3, .int v3)]) d_X_gift_54 (by decide) rfl ?_
      refine g_sub [1, 2, 3, 4, 0] rfl ?_
      exact w_X_gift_56 hz hq v1 v2 v3 (-6) _ h
    · replace h := (if_neg c15).symm.trans h
      refine g_iload_n hz 3 d_X_gift_36 rfl rfl ?_
      refine g_bipush hz (v := 99) d_X_gift_37 (by decide) ?_
      refine g_icmp_gt hz (tgt := 52) d_X_gift_39 (by decide) (fun c16 => ?_) (fun c16 => ?_)
      · replace h := (if_pos c16).symm.trans h
        refine g_bipush hz (v := (-6)) d_X_gift_52 (by decide) ?_
        refine g_istore hz (L' := [(4, .int (-6)), (0, .ref 165), (1, .int v1), (2, .int v2), (3, .int v3)]) d_X_gift_54 (by decide) rfl ?_
        refine g_sub [1, 2, 3, 4, 0] rfl ?_
        exact w_X_gift_56 hz hq v1 v2 v3 (-6) _ h
      · replace h := (if_neg c16).symm.trans h
        refine g_aload_n hz 0 d_X_gift_42 rfl rfl ?_
        refine gf_X_now hz q_306 d_X_gift_43 ?_
        refine bn_use h (fun x19 s18 e17 h => ?_)
        refine g_callVi hz (c_C_giftsAreFull l (by decide) e17) (iC_lt (by decide)) (rc_C (by decide)) rfl rfl m_C_giftsAreFull mi_C_giftsAreFull ms_C_giftsAreFull q_575 ⟨Nat.le_of_ble_eq_true rfl, Nat.le_of_ble_eq_true rfl⟩ rfl (st := []) rfl (Nat.le_of_ble_eq_true rfl) d_X_gift_46 ?_
        refine g_if_eq hz (tgt := 56) d_X_gift_49 (by decide) (fun c20 => ?_) (fun c20 => ?_)
        · replace h := (if_pos c20).symm.trans h
          exact w_X_gift_56 hz hq v1 v2 v3 v4 _ h
        · replace h := (if_neg c20).symm.trans h
          refine g_bipush hz (v := (-6)) d_X_gift_52 (by decide) ?_
          refine g_istore hz (L' := [(4, .int (-6)), (0, .ref 165), (1, .int v1), (2, .int v2), (3, .int v3)]) d_X_gift_54 (by decide) rfl ?_
          refine g_sub [1, 2, 3, 4, 0] rfl ?_
          exact w_X_gift_56 hz hq v1 v2 v3 (-6) _ h
def f_X_gift (s : Mm) (a1 : Int32) (a2 : Int32) (a3 : Int32) : Option (Int32 × Mm) :=
  bn (f_X_friendNo s a1) fun x3 s2 =>
  if x3 = 0 then
    if a2 < 0 then
      k_X_gift_25 a1 a2 a3 (-4) s2
    else
      if 1 ≤ a3 then
        k_X_gift_25 a1 a2 a3 x3 s2
      else
        k_X_gift_25 a1 a2 a3 (-4) s2
  else
    k_X_gift_25 a1 a2 a3 x3 s2
set_option maxRecDepth 20000 in
theorem c_X_gift (l : Launch) {s : Mm} {a1 : Int32} {a2 : Int32} {a3 : Int32} {r' : Int32} {s' : Mm}  (h : f_X_gift s a1 a2 a3 = some (r', s')) : Cm l y_X_gift b_X_gift 5 (some .int) 2 47 [.ref 165, .int a1, .int a2, .int a3] s s' (some (.int r')) := by
  refine Cm.of (own := "PassedOnAndBetter") (by decide) rfl (fun ad => Nat.le_of_ble_eq_true rfl) ?_
  intro z hz hq
  show G l z b_X_gift 5 0 [(0, .ref 165), (1, .int a1), (2, .int a2), (3, .int a3)] [] s
  unfold f_X_gift at h
  refine g_aload_n hz 0 d_X_gift_0 rfl rfl ?_
  refine g_iload_n hz 1 d_X_gift_1 rfl rfl ?_
  refine bn_use h (fun x3 s2 e1 h => ?_)
  refine g_callVi hz (c_X_friendNo l e1) (by decide) rc_X rfl rfl m_X_friendNo mi_X_friendNo ms_X_friendNo q_530 ⟨Nat.le_of_ble_eq_true rfl, Nat.le_of_ble_eq_true rfl⟩ rfl (st := []) rfl (Nat.le_of_ble_eq_true rfl) d_X_gift_2 ?_
  refine g_istore hz (L' := [(4, .int x3), (0, .ref 165), (1, .int a1), (2, .int a2), (3, .int a3)]) d_X_gift_5 (by decide) rfl ?_
  refine g_iload hz 0 d_X_gift_7 rfl ?_
  refine g_if_ne hz (tgt := 25) d_X_gift_9 (by decide) (fun c4 => ?_) (fun c4 => ?_)
  · replace h := (if_neg c4).symm.trans h
    refine g_sub [1, 2, 3, 4, 0] rfl ?_
    exact w_X_gift_25 hz hq a1 a2 a3 x3 _ h
  · replace h := (if_pos c4).symm.trans h
    refine g_iload_n hz 3 d_X_gift_12 rfl rfl ?_
    refine g_if_lt hz (tgt := 21) d_X_gift_13 (by decide) (fun c21 => ?_) (fun c21 => ?_)
    · replace h := (if_pos c21).symm.trans h
      refine g_bipush hz (v := (-4)) d_X_gift_21 (by decide) ?_
      refine g_istore hz (L' := [(4, .int (-4)), (0, .ref 165), (1, .int a1), (2, .int a2), (3, .int a3)]) d_X_gift_23 (by decide) rfl ?_
      refine g_sub [1, 2, 3, 4, 0] rfl ?_
      exact w_X_gift_25 hz hq a1 a2 a3 (-4) _ h
    · replace h := (if_neg c21).symm.trans h
      refine g_iload_n hz 4 d_X_gift_16 rfl rfl ?_
      refine g_iconst hz d_X_gift_17 ki_1 ?_
      refine g_icmp_ge hz (tgt := 25) d_X_gift_18 (by decide) (fun c22 => ?_) (fun c22 => ?_)
      · replace h := (if_pos c22).symm.trans h
        refine g_sub [1, 2, 3, 4, 0] rfl ?_
        exact w_X_gift_25 hz hq a1 a2 a3 x3 _ h
      · replace h := (if_neg c22).symm.trans h
        refine g_bipush hz (v := (-4)) d_X_gift_21 (by decide) ?_
        refine g_istore hz (L' := [(4, .int (-4)), (0, .ref 165), (1, .int a1), (2, .int a2), (3, .int a3)]) d_X_gift_23 (by decide) rfl ?_
        refine g_sub [1, 2, 3, 4, 0] rfl ?_
        exact w_X_gift_25 hz hq a1 a2 a3 (-4) _ h
