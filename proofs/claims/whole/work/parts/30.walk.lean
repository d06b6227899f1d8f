def k_R_whoHad_27 (v1 : Int32) (v2 : Int32) (vt0 : Int32) (s : Mm) : Option (Int32 × Mm) :=
  if vt0 = 0 then
    if v2 = 0 then
      bn (f_R_firstOther s v1 184) fun x16 s15 =>
      some (x16, s15)
    else
      bn (f_R_startsOf s v1) fun x13 s12 =>
      some (x13, s12)
  else
    bn (f_R_no s vt0) fun x19 s18 =>
    some (x19, s18)
set_option maxRecDepth 20000 in
theorem w_R_whoHad_27 {l : Launch} {z : Zt} (hz : ZOk z b_R_whoHad 4 "PassedOnAndBetterModel" 7 158) {r' : Int32} {s' : Mm} (hq : ZR z (some .int) s' (some (.int r'))) (v1 : Int32) (v2 : Int32) (vt0 : Int32) (s : Mm) (h : k_R_whoHad_27 v1 v2 vt0 s = some (r', s')) : G l z b_R_whoHad 4 27 [(0, .ref 176), (1, .int v1), (2, .int v2)] [.int vt0] s := by
  unfold k_R_whoHad_27 at h
  refine g_istore_n hz (L' := [(3, .int vt0), (0, .ref 176), (1, .int v1), (2, .int v2)]) d_R_whoHad_27 rfl (by decide) rfl ?_
  refine g_iload_n hz 0 d_R_whoHad_28 rfl rfl ?_
  refine g_if_eq hz (tgt := 38) d_R_whoHad_29 (by decide) (fun c9 => ?_) (fun c9 => ?_)
  · replace h := (if_pos c9).symm.trans h
    refine g_iload_n hz 3 d_R_whoHad_38 rfl rfl ?_
    refine g_if_ne hz (tgt := 54) d_R_whoHad_39 (by decide) (fun c10 => ?_) (fun c10 => ?_)
    · replace h := (if_neg c10).symm.trans h
      refine g_aload_n hz 1 d_R_whoHad_54 rfl rfl ?_
      refine g_iload_n hz 2 d_R_whoHad_55 rfl rfl ?_
      refine bn_use h (fun x13 s12 e11 h => ?_)
      refine g_callVi hz (c_R_startsOf l e11) (by decide) rc_R rfl rfl m_R_startsOf mi_R_startsOf ms_R_startsOf q_1421 ⟨Nat.le_of_ble_eq_true rfl, Nat.le_of_ble_eq_true rfl⟩ rfl (st := []) rfl (Nat.le_of_ble_eq_true rfl) d_R_whoHad_56 ?_
      exact g_iret hz (rti h hq) d_R_whoHad_59
    · replace h := (if_pos c10).symm.trans h
      refine g_aload_n hz 1 d_R_whoHad_42 rfl rfl ?_
      refine g_iload_n hz 2 d_R_whoHad_43 rfl rfl ?_
      refine g_aload_n hz 1 d_R_whoHad_44 rfl rfl ?_
      refine gf_R_holder hz q_1010 d_R_whoHad_45 ?_
      refine bn_use h (fun x16 s15 e14 h => ?_)
      refine g_callVi hz (c_R_firstOther l (by decide) e14) (by decide) rc_R rfl rfl m_R_firstOther mi_R_firstOther ms_R_firstOther q_1413 ⟨Nat.le_of_ble_eq_true rfl, Nat.le_of_ble_eq_true rfl⟩ rfl (st := []) rfl (Nat.le_of_ble_eq_true rfl) d_R_whoHad_48 ?_
      refine g_goto hz (tgt := 59) d_R_whoHad_51 (by decide) ?_
      exact g_iret hz (rti h hq) d_R_whoHad_59
  · replace h := (if_neg c9).symm.trans h
    refine g_aload_n hz 1 d_R_whoHad_32 rfl rfl ?_
    refine g_iload_n hz 0 d_R_whoHad_33 rfl rfl ?_
    refine bn_use h (fun x19 s18 e17 h => ?_)
    refine g_callVi hz (c_R_no l e17) (by decide) rc_R rfl rfl m_R_no mi_R_no ms_R_no q_1107 ⟨Nat.le_of_ble_eq_true rfl, Nat.le_of_ble_eq_true rfl⟩ rfl (st := []) rfl (Nat.le_of_ble_eq_true rfl) d_R_whoHad_34 ?_
    exact g_iret hz (rti h hq) d_R_whoHad_37
def f_R_whoHad (s : Mm) (a1 : Int32) (a2 : Int32) : Option (Int32 × Mm) :=
  bn (f_R_isGift s a1) fun x3 s2 =>
  if x3 = 0 then
    k_R_whoHad_27 a1 a2 (-1) s2
  else
    bn (f_R_isIn s2 a2 0 1) fun x7 s6 =>
    if x7 = 0 then
      k_R_whoHad_27 a1 a2 (-2) s6
    else
      k_R_whoHad_27 a1 a2 0 s6
set_option maxRecDepth 20000 in
theorem c_R_whoHad (l : Launch) {s : Mm} {a1 : Int32} {a2 : Int32} {r' : Int32} {s' : Mm}  (h : f_R_whoHad s a1 a2 = some (r', s')) : Cm l y_R_whoHad b_R_whoHad 4 (some .int) 7 158 [.ref 176, .int a1, .int a2] s s' (some (.int r')) := by
  refine Cm.of (own := "PassedOnAndBetterModel") (by decide) rfl (fun ad => Nat.le_of_ble_eq_true rfl) ?_
  intro z hz hq
  show G l z b_R_whoHad 4 0 [(0, .ref 176), (1, .int a1), (2, .int a2)] [] s
  unfold f_R_whoHad at h
  refine g_aload_n hz 0 d_R_whoHad_0 rfl rfl ?_
  refine g_iload_n hz 1 d_R_whoHad_1 rfl rfl ?_
  refine bn_use h (fun x3 s2 e1 h => ?_)
  refine g_callVi hz (c_R_isGift l e1) (by decide) rc_R rfl rfl m_R_isGift mi_R_isGift ms_R_isGift q_1186 ⟨Nat.le_of_ble_eq_true rfl, Nat.le_of_ble_eq_true rfl⟩ rfl (st := []) rfl (Nat.le_of_ble_eq_true rfl) d_R_whoHad_2 ?_
  refine g_if_ne hz (tgt := 12) d_R_whoHad_5 (by decide) (fun c4 => ?_) (fun c4 => ?_)
  · replace h := (if_neg c4).symm.trans h
    refine g_iload_n hz 2 d_R_whoHad_12 rfl rfl ?_
    refine g_iconst hz d_R_whoHad_13 ki_0 ?_
    refine g_iconst hz d_R_whoHad_14 ki_1 ?_
    refine bn_use h (fun x7 s6 e5 h => ?_)
    refine g_callSi hz (c_R_isIn l e5) m_R_isIn mi_R_isIn q_1131 ⟨Nat.le_of_ble_eq_true rfl, Nat.le_of_ble_eq_true rfl⟩ rfl (st := []) rfl (Nat.le_of_ble_eq_true rfl) d_R_whoHad_15 ?_
    refine g_if_ne hz (tgt := 26) d_R_whoHad_18 (by decide) (fun c8 => ?_) (fun c8 => ?_)
    · replace h := (if_neg c8).symm.trans h
      refine g_iconst hz d_R_whoHad_26 ki_0 ?_
      exact w_R_whoHad_27 hz hq a1 a2 0 _ h
    · replace h := (if_pos c8).symm.trans h
      refine g_bipush hz (v := (-2)) d_R_whoHad_21 (by decide) ?_
      refine g_goto hz (tgt := 27) d_R_whoHad_23 (by decide) ?_
      exact w_R_whoHad_27 hz hq a1 a2 (-2) _ h
  · replace h := (if_pos c4).symm.trans h
    refine g_iconst hz d_R_whoHad_8 ki_m1 ?_
    refine g_goto hz (tgt := 27) d_R_whoHad_9 (by decide) ?_
    exact w_R_whoHad_27 hz hq a1 a2 (-1) _ h
def k_R_worthWith_4 : Nat → Int32 → Int32 → Int32 → Mm → Option (Int32 × Mm)
  | 0, _, _, _, _ => none
  | n + 1, v1, v2, v3, s => if (s 176 12) ≤ v3 then
      some (v2, s)
    else
      gd v3 4 <|
      if (s 184 v3.toNatClampNeg) = v1 then
        gd v3 4 <|
        nm (v2 + (s 182 v3.toNatClampNeg)) fun x7 =>
        k_R_worthWith_4 n v1 x7 (v3 + 1) s
      else
        nm (v2 + 0) fun x4 =>
        k_R_worthWith_4 n v1 x4 (v3 + 1) s
set_option maxRecDepth 20000 in
theorem w_R_worthWith_4 {l : Launch} {z : Zt} (hz : ZOk z b_R_worthWith 4 "PassedOnAndBetterModel" 0 0) {r' : Int32} {s' : Mm} (hq : ZR z (some .int) s' (some (.int r'))) : ∀ (n : Nat) (v1 : Int32) (v2 : Int32) (v3 : Int32) (s : Mm), k_R_worthWith_4 n v1 v2 v3 s = some (r', s') → G l z b_R_worthWith 4 4 [(0, .ref 176), (1, .int v1), (2, .int v2), (3, .int v3)] [] s := by
  intro n
  induction n with
  | zero => intro v1 v2 v3 s h; unfold k_R_worthWith_4 at h; cases h
  | succ n ih =>
    intro v1 v2 v3 s h
    unfold k_R_worthWith_4 at h
    refine g_iload_n hz 3 d_R_worthWith_4 rfl rfl ?_
    refine g_aload_n hz 0 d_R_worthWith_5 rfl rfl ?_
    refine gf_R_gifts hz q_1015 d_R_worthWith_6 ?_
    refine g_icmp_ge hz (tgt := 41) d_R_worthWith_9 (by decide) (fun c1 => ?_) (fun c1 => ?_)
    · replace h := (if_pos c1).symm.trans h
      refine g_iload_n hz 2 d_R_worthWith_41 rfl rfl ?_
      exact g_iret hz (rti h hq) d_R_worthWith_42
    · replace h := (if_neg c1).symm.trans h
      refine g_iload_n hz 2 d_R_worthWith_12 rfl rfl ?_
      refine g_aload_n hz 0 d_R_worthWith_13 rfl rfl ?_
      refine gf_R_holder hz q_1010 d_R_worthWith_14 ?_
      refine g_iload_n hz 3 d_R_worthWith_17 rfl rfl ?_
      obtain ⟨n2, h⟩ := gd_use h
      refine g_iald hz (by decide) n2 d_R_worthWith_18 ?_
      refine g_iload_n hz 1 d_R_worthWith_19 rfl rfl ?_
      refine g_icmp_ne hz (tgt := 32) d_R_worthWith_20 (by decide) (fun c3 => ?_) (fun c3 => ?_)
      · replace h := (if_neg c3).symm.trans h
        refine g_iconst hz d_R_worthWith_32 ki_0 ?_
        refine g_iadd hz d_R_worthWith_33 ?_
        refine g_nmi (fun x4 e5 => ?_)
        replace h := nm_use h e5
        refine g_istore_n hz (L' := [(2, .int x4), (0, .ref 176), (1, .int v1), (3, .int v3)]) d_R_worthWith_34 rfl (by decide) rfl ?_
        refine g_iinc hz (v := v3 + 1) (L' := [(3, .int (v3 + 1)), (2, .int x4), (0, .ref 176), (1, .int v1)]) 3 d_R_worthWith_35 rfl (congrArg (fun q => v3 + q) ki_1) (by decide) rfl ?_
        refine g_goto hz (tgt := 4) d_R_worthWith_38 (by decide) ?_
        refine g_sub [2, 3, 1, 0] rfl ?_
        exact ih v1 x4 (v3 + 1) _ h
      · replace h := (if_pos c3).symm.trans h
        refine g_aload_n hz 0 d_R_worthWith_23 rfl rfl ?_
        refine gf_R_worth hz q_1008 d_R_worthWith_24 ?_
        refine g_iload_n hz 3 d_R_worthWith_27 rfl rfl ?_
        obtain ⟨n6, h⟩ := gd_use h
        refine g_iald hz (by decide) n6 d_R_worthWith_28 ?_
        refine g_goto hz (tgt := 33) d_R_worthWith_29 (by decide) ?_
        refine g_iadd hz d_R_worthWith_33 ?_
        refine g_nmi (fun x7 e8 => ?_)
        replace h := nm_use h e8
        refine g_istore_n hz (L' := [(2, .int x7), (0, .ref 176), (1, .int v1), (3, .int v3)]) d_R_worthWith_34 rfl (by decide) rfl ?_
        refine g_iinc hz (v := v3 + 1) (L' := [(3, .int (v3 + 1)), (2, .int x7), (0, .ref 176), (1, .int v1)]) 3 d_R_worthWith_35 rfl (congrArg (fun q => v3 + q) ki_1) (by decide) rfl ?_
        refine g_goto hz (tgt := 4) d_R_worthWith_38 (by decide) ?_
        refine g_sub [2, 3, 1, 0] rfl ?_
        exact ih v1 x7 (v3 + 1) _ h
def f_R_worthWith (s : Mm) (a1 : Int32) : Option (Int32 × Mm) :=
  k_R_worthWith_4 KF a1 0 0 s
set_option maxRecDepth 20000 in
theorem c_R_worthWith (l : Launch) {s : Mm} {a1 : Int32} {r' : Int32} {s' : Mm}  (h : f_R_worthWith s a1 = some (r', s')) : Cm l y_R_worthWith b_R_worthWith 4 (some .int) 0 0 [.ref 176, .int a1] s s' (some (.int r')) := by
  refine Cm.of (own := "PassedOnAndBetterModel") (by decide) rfl (fun ad => Nat.le_of_ble_eq_true rfl) ?_
  intro z hz hq
  show G l z b_R_worthWith 4 0 [(0, .ref 176), (1, .int a1)] [] s
  unfold f_R_worthWith at h
  refine g_iconst hz d_R_worthWith_0 ki_0 ?_
  refine g_istore_n hz (L' := [(2, .int 0), (0, .ref 176), (1, .int a1)]) d_R_worthWith_1 rfl (by decide) rfl ?_
  refine g_iconst hz d_R_worthWith_2 ki_0 ?_
  refine g_istore_n hz (L' := [(3, .int 0), (2, .int 0), (0, .ref 176), (1, .int a1)]) d_R_worthWith_3 rfl (by decide) rfl ?_
  refine g_sub [2, 3, 1, 0] rfl ?_
  exact w_R_worthWith_4 hz hq KF a1 0 0 _ h
def k_R_findGets_3 : Nat → Int32 → Int32 → Int32 → Int32 → Mm → Option Mm
  | 0, _, _, _, _, _ => none
  | n + 1, v1, v2, v3, v4, s => if 4 ≤ v4 then
      some s
    else
      bv (f_R_thinks s) fun s3 =>
      nm (mU s3 176 14 (((v4 / 2) <<< (v1 &&& 31)) ||| ((v4 - v4 / 2 * 2) <<< (v2 &&& 31)))) fun s4 =>
      bv (f_R_goes s4 v3) fun s7 =>
      nm (mU s7 176 14 0) fun s8 =>
      bn (f_R_worthWith s8 v1) fun x12 s11 =>
      gd (2 * v4) 8 <|
      nm (mU s11 195 (2 * v4).toNatClampNeg x12) fun s14 =>
      bn (f_R_worthWith s14 v2) fun x18 s17 =>
      gd ((2 * v4) + 1) 8 <|
      nm (mU s17 195 ((2 * v4) + 1).toNatClampNeg x18) fun s20 =>
      bv (f_R_forgets s20) fun s23 =>
      k_R_findGets_3 n v1 v2 v3 (v4 + 1) s23
set_option maxRecDepth 20000 in
theorem w_R_findGets_3 {l : Launch} {z : Zt} (hz : ZOk z b_R_findGets 5 "PassedOnAndBetterModel" 6 133) {s' : Mm} (hq : ZR z none s' none) : ∀ (n : Nat) (v1 : Int32) (v2 : Int32) (v3 : Int32) (v4 : Int32) (s : Mm), k_R_findGets_3 n v1 v2 v3 v4 s = some s' → G l z b_R_findGets 5 3 [(0, .ref 176), (1, .int v1), (2, .int v2), (3, .int v3), (4, .int v4)] [] s := by
  intro n
  induction n with
  | zero => intro v1 v2 v3 v4 s h; unfold k_R_findGets_3 at h; cases h
  | succ n ih =>
    intro v1 v2 v3 v4 s h
    unfold k_R_findGets_3 at h
    refine g_iload hz 4 d_R_findGets_3 rfl ?_
    refine g_iconst hz d_R_findGets_5 ki_4 ?_
    refine g_icmp_ge hz (tgt := 80) d_R_findGets_6 (by decide) (fun c1 => ?_) (fun c1 => ?_)
    · replace h := (if_pos c1).symm.trans h
      exact g_vret hz (rtv h hq) d_R_findGets_80
    · replace h := (if_neg c1).symm.trans h
      refine g_aload_n hz 0 d_R_findGets_9 rfl rfl ?_
      refine bv_use h (fun s3 e2 h => ?_)
      refine g_callVv hz (c_R_thinks l e2) (by decide) rc_R rfl rfl m_R_thinks mi_R_thinks ms_R_thinks q_1294 ⟨Nat.le_of_ble_eq_true rfl, Nat.le_of_ble_eq_true rfl⟩ rfl (st := []) rfl (Nat.le_of_ble_eq_true rfl) d_R_findGets_10 ?_
      refine g_aload_n hz 0 d_R_findGets_13 rfl rfl ?_
      refine g_iload hz 4 d_R_findGets_14 rfl ?_
      refine g_iconst hz d_R_findGets_16 ki_2 ?_
      refine g_idiv hz d_R_findGets_17 (by decide) ?_
      refine g_iload_n hz 1 d_R_findGets_18 rfl rfl ?_
      refine g_ishl hz d_R_findGets_19 ?_
      refine g_iload hz 4 d_R_findGets_20 rfl ?_
      refine g_iconst hz d_R_findGets_22 ki_2 ?_
      refine g_irem hz d_R_findGets_23 (by decide) ?_
      refine g_iload_n hz 2 d_R_findGets_24 rfl rfl ?_
      refine g_ishl hz d_R_findGets_25 ?_
      refine g_ior hz d_R_findGets_26 ?_
      refine pf_R_twice hz q_1017 d_R_findGets_27 (fun s4 e5 => ?_)
      replace h := nm_use h e5
      refine g_aload_n hz 0 d_R_findGets_30 rfl rfl ?_
      refine g_iload_n hz 3 d_R_findGets_31 rfl rfl ?_
      refine bv_use h (fun s7 e6 h => ?_)
      refine g_callVv hz (c_R_goes l e6) (by decide) rc_R rfl rfl m_R_goes mi_R_goes ms_R_goes q_1194 ⟨Nat.le_of_ble_eq_true rfl, Nat.le_of_ble_eq_true rfl⟩ rfl (st := []) rfl (Nat.le_of_ble_eq_true rfl) d_R_findGets_32 ?_
      refine g_aload_n hz 0 d_R_findGets_35 rfl rfl ?_
      refine g_iconst hz d_R_findGets_36 ki_0 ?_
      refine pf_R_twice hz q_1017 d_R_findGets_37 (fun s8 e9 => ?_)
      replace h := nm_use h e9
      refine g_aload_n hz 0 d_R_findGets_40 rfl rfl ?_
      refine gf_R_gets hz q_1033 d_R_findGets_41 ?_
      refine g_iconst hz d_R_findGets_44 ki_2 ?_
      refine g_iload hz 4 d_R_findGets_45 rfl ?_
      refine g_imul hz d_R_findGets_47 ?_
      refine g_aload_n hz 0 d_R_findGets_48 rfl rfl ?_
      refine g_iload_n hz 1 d_R_findGets_49 rfl rfl ?_
      refine bn_use h (fun x12 s11 e10 h => ?_)
      refine g_callVi hz (c_R_worthWith l e10) (by decide) rc_R rfl rfl m_R_worthWith mi_R_worthWith ms_R_worthWith q_1433 ⟨Nat.le_of_ble_eq_true rfl, Nat.le_of_ble_eq_true rfl⟩ rfl (st := [.int (2 * v4), .ref 195]) rfl (Nat.le_of_ble_eq_true rfl) d_R_findGets_50 ?_
      obtain ⟨n13, h⟩ := gd_use h
      refine g_iast hz (by decide) n13 d_R_findGets_53 (fun s14 e15 => ?_)
      replace h := nm_use h e15
      refine g_aload_n hz 0 d_R_findGets_54 rfl rfl ?_
      refine gf_R_gets hz q_1033 d_R_findGets_55 ?_
      refine g_iconst hz d_R_findGets_58 ki_2 ?_
      refine g_iload hz 4 d_R_findGets_59 rfl ?_
      refine g_imul hz d_R_findGets_61 ?_
      refine g_iconst hz d_R_findGets_62 ki_1 ?_
      refine g_iadd hz d_R_findGets_63 ?_
      refine g_aload_n hz 0 d_R_findGets_64 rfl rfl ?_
      refine g_iload_n hz 2 d_R_findGets_65 rfl rfl ?_
      refine bn_use h (fun x18 s17 e16 h => ?_)
      refine g_callVi hz (c_R_worthWith l e16) (by decide) rc_R rfl rfl m_R_worthWith mi_R_worthWith ms_R_worthWith q_1433 ⟨Nat.le_of_ble_eq_true rfl, Nat.le_of_ble_eq_true rfl⟩ rfl (st := [.int ((2 * v4) + 1), .ref 195]) rfl (Nat.le_of_ble_eq_true rfl) d_R_findGets_66 ?_
      obtain ⟨n19, h⟩ := gd_use h
      refine g_iast hz (by decide) n19 d_R_findGets_69 (fun s20 e21 => ?_)
      replace h := nm_use h e21
      refine g_aload_n hz 0 d_R_findGets_70 rfl rfl ?_
      refine bv_use h (fun s23 e22 h => ?_)
      refine g_callVv hz (c_R_forgets l e22) (by decide) rc_R rfl rfl m_R_forgets mi_R_forgets ms_R_forgets q_1298 ⟨Nat.le_of_ble_eq_true rfl, Nat.le_of_ble_eq_true rfl⟩ rfl (st := []) rfl (Nat.le_of_ble_eq_true rfl) d_R_findGets_71 ?_
      refine g_iinc hz (v := v4 + 1) (L' := [(4, .int (v4 + 1)), (0, .ref 176), (1, .int v1), (2, .int v2), (3, .int v3)]) 4 d_R_findGets_74 rfl (congrArg (fun q => v4 + q) ki_1) (by decide) rfl ?_
      refine g_goto hz (tgt := 3) d_R_findGets_77 (by decide) ?_
      refine g_sub [1, 2, 3, 4, 0] rfl ?_
      exact ih v1 v2 v3 (v4 + 1) _ h
def f_R_findGets (s : Mm) (a1 : Int32) (a2 : Int32) (a3 : Int32) : Option Mm :=
  k_R_findGets_3 KF a1 a2 a3 0 s
set_option maxRecDepth 20000 in
theorem c_R_findGets (l : Launch) {s : Mm} {a1 : Int32} {a2 : Int32} {a3 : Int32} {s' : Mm}  (h : f_R_findGets s a1 a2 a3 = some s') : Cm l y_R_findGets b_R_findGets 5 none 6 133 [.ref 176, .int a1, .int a2, .int a3] s s' none := by
  refine Cm.of (own := "PassedOnAndBetterModel") (by decide) rfl (fun ad => Nat.le_of_ble_eq_true rfl) ?_
  intro z hz hq
  show G l z b_R_findGets 5 0 [(0, .ref 176), (1, .int a1), (2, .int a2), (3, .int a3)] [] s
  unfold f_R_findGets at h
  refine g_iconst hz d_R_findGets_0 ki_0 ?_
  refine g_istore hz (L' := [(4, .int 0), (0, .ref 176), (1, .int a1), (2, .int a2), (3, .int a3)]) d_R_findGets_1 (by decide) rfl ?_
  refine g_sub [1, 2, 3, 4, 0] rfl ?_
  exact w_R_findGets_3 hz hq KF a1 a2 a3 0 _ h
def k_R_two_41 : Nat → Int32 → Mm → Option (Int32 × Mm)
  | 0, _, _ => none
  | n + 1, v5, s => if 4 ≤ v5 then
      some ((-9), s)
    else
      gd (2 * (v5 ^^^ 2)) 8 <|
      gd (2 * v5) 8 <|
      if (s 195 (2 * v5).toNatClampNeg) < (s 195 (2 * (v5 ^^^ 2)).toNatClampNeg) then
        k_R_two_41 n (v5 + 1) s
      else
        gd ((2 * (v5 ^^^ 1)) + 1) 8 <|
        gd ((2 * v5) + 1) 8 <|
        if (s 195 ((2 * v5) + 1).toNatClampNeg) < (s 195 ((2 * (v5 ^^^ 1)) + 1).toNatClampNeg) then
          k_R_two_41 n (v5 + 1) s
        else
          some ((10 * (v5 / 2)) + (v5 - v5 / 2 * 2), s)
set_option maxRecDepth 20000 in
theorem w_R_two_41 {l : Launch} {z : Zt} (hz : ZOk z b_R_two 6 "PassedOnAndBetterModel" 7 157) {r' : Int32} {s' : Mm} (hq : ZR z (some .int) s' (some (.int r'))) : ∀ (n : Nat) (v5 : Int32) (s : Mm), k_R_two_41 n v5 s = some (r', s') → G l z b_R_two 6 41 [(0, .ref 176), (5, .int v5)] [] s := by
  intro n
  induction n with
  | zero => intro v5 s h; unfold k_R_two_41 at h; cases h
  | succ n ih =>
    intro v5 s h
    unfold k_R_two_41 at h
    refine g_iload hz 1 d_R_two_41 rfl ?_
    refine g_iconst hz d_R_two_43 ki_4 ?_
    refine g_icmp_ge hz (tgt := 116) d_R_two_44 (by decide) (fun c11 => ?_) (fun c11 => ?_)
    · replace h := (if_pos c11).symm.trans h
      refine g_bipush hz (v := (-9)) d_R_two_116 (by decide) ?_
      exact g_iret hz (rti h hq) d_R_two_118
    · replace h := (if_neg c11).symm.trans h
      refine g_aload_n hz 0 d_R_two_47 rfl rfl ?_
      refine gf_R_gets hz q_1033 d_R_two_48 ?_
      refine g_iconst hz d_R_two_51 ki_2 ?_
      refine g_iload hz 1 d_R_two_52 rfl ?_
      refine g_iconst hz d_R_two_54 ki_2 ?_
      refine g_ixor hz d_R_two_55 ?_
      refine g_imul hz d_R_two_56 ?_
      obtain ⟨n12, h⟩ := gd_use h
      refine g_iald hz (by decide) n12 d_R_two_57 ?_
      refine g_aload_n hz 0 d_R_two_58 rfl rfl ?_
      refine gf_R_gets hz q_1033 d_R_two_59 ?_
      refine g_iconst hz d_R_two_62 ki_2 ?_
      refine g_iload hz 1 d_R_two_63 rfl ?_
      refine g_imul hz d_R_two_65 ?_
      obtain ⟨n13, h⟩ := gd_use h
      refine g_iald hz (by decide) n13 d_R_two_66 ?_
      refine g_icmp_gt hz (tgt := 110) d_R_two_67 (by decide) (fun c14 => ?_) (fun c14 => ?_)
      · replace h := (if_pos c14).symm.trans h
        refine g_iinc hz (v := v5 + 1) (L' := [(5, .int (v5 + 1)), (0, .ref 176)]) 1 d_R_two_110 rfl (congrArg (fun q => v5 + q) ki_1) (by decide) rfl ?_
        refine g_goto hz (tgt := 41) d_R_two_113 (by decide) ?_
        refine g_sub [1, 0] rfl ?_
        exact ih (v5 + 1) _ h
      · replace h := (if_neg c14).symm.trans h
        refine g_aload_n hz 0 d_R_two_70 rfl rfl ?_
        refine gf_R_gets hz q_1033 d_R_two_71 ?_
        refine g_iconst hz d_R_two_74 ki_2 ?_
        refine g_iload hz 1 d_R_two_75 rfl ?_
        refine g_iconst hz d_R_two_77 ki_1 ?_
        refine g_ixor hz d_R_two_78 ?_
        refine g_imul hz d_R_two_79 ?_
        refine g_iconst hz d_R_two_80 ki_1 ?_
        refine g_iadd hz d_R_two_81 ?_
        obtain ⟨n15, h⟩ := gd_use h
        refine g_iald hz (by decide) n15 d_R_two_82 ?_
        refine g_aload_n hz 0 d_R_two_83 rfl rfl ?_
        refine gf_R_gets hz q_1033 d_R_two_84 ?_
        refine g_iconst hz d_R_two_87 ki_2 ?_
        refine g_iload hz 1 d_R_two_88 rfl ?_
        refine g_imul hz d_R_two_90 ?_
        refine g_iconst hz d_R_two_91 ki_1 ?_
        refine g_iadd hz d_R_two_92 ?_
        obtain ⟨n16, h⟩ := gd_use h
        refine g_iald hz (by decide) n16 d_R_two_93 ?_
        refine g_icmp_gt hz (tgt := 110) d_R_two_94 (by decide) (fun c17 => ?_) (fun c17 => ?_)
        · replace h := (if_pos c17).symm.trans h
          refine g_iinc hz (v := v5 + 1) (L' := [(5, .int (v5 + 1)), (0, .ref 176)]) 1 d_R_two_110 rfl (congrArg (fun q => v5 + q) ki_1) (by decide) rfl ?_
          refine g_goto hz (tgt := 41) d_R_two_113 (by decide) ?_
          refine g_sub [1, 0] rfl ?_
          exact ih (v5 + 1) _ h
        · replace h := (if_neg c17).symm.trans h
          refine g_bipush hz (v := 10) d_R_two_97 (by decide) ?_
          refine g_iload hz 1 d_R_two_99 rfl ?_
          refine g_iconst hz d_R_two_101 ki_2 ?_
          refine g_idiv hz d_R_two_102 (by decide) ?_
          refine g_imul hz d_R_two_103 ?_
          refine g_iload hz 1 d_R_two_104 rfl ?_
          refine g_iconst hz d_R_two_106 ki_2 ?_
          refine g_irem hz d_R_two_107 (by decide) ?_
          refine g_iadd hz d_R_two_108 ?_
          exact g_iret hz (rti h hq) d_R_two_109
def k_R_two_17 (v1 : Int32) (v2 : Int32) (v3 : Int32) (vt0 : Int32) (s : Mm) : Option (Int32 × Mm) :=
  if vt0 = 0 then
    bv (f_R_findGets s v1 v2 v3) fun s10 =>
    k_R_two_41 KF 0 s10
  else
    bn (f_R_no s vt0) fun x20 s19 =>
    some (x20, s19)
set_option maxRecDepth 20000 in
theorem w_R_two_17 {l : Launch} {z : Zt} (hz : ZOk z b_R_two 6 "PassedOnAndBetterModel" 7 157) {r' : Int32} {s' : Mm} (hq : ZR z (some .int) s' (some (.int r'))) (v1 : Int32) (v2 : Int32) (v3 : Int32) (vt0 : Int32) (s : Mm) (h : k_R_two_17 v1 v2 v3 vt0 s = some (r', s')) : G l z b_R_two 6 17 [(0, .ref 176), (1, .int v1), (2, .int v2), (3, .int v3)] [.int vt0] s := by
  unfold k_R_two_17 at h
  refine g_istore hz (L' := [(4, .int vt0), (0, .ref 176), (1, .int v1), (2, .int v2), (3, .int v3)]) d_R_two_17 (by decide) rfl ?_
  refine g_iload hz 0 d_R_two_19 rfl ?_
  refine g_if_eq hz (tgt := 31) d_R_two_21 (by decide) (fun c8 => ?_) (fun c8 => ?_)
  · replace h := (if_pos c8).symm.trans h
    refine g_aload_n hz 1 d_R_two_31 rfl rfl ?_
    refine g_iload_n hz 2 d_R_two_32 rfl rfl ?_
    refine g_iload_n hz 3 d_R_two_33 rfl rfl ?_
    refine g_iload_n hz 4 d_R_two_34 rfl rfl ?_
    refine bv_use h (fun s10 e9 h => ?_)
    refine g_callVv hz (c_R_findGets l e9) (by decide) rc_R rfl rfl m_R_findGets mi_R_findGets ms_R_findGets q_1429 ⟨Nat.le_of_ble_eq_true rfl, Nat.le_of_ble_eq_true rfl⟩ rfl (st := []) rfl (Nat.le_of_ble_eq_true rfl) d_R_two_35 ?_
    refine g_iconst hz d_R_two_38 ki_0 ?_
    refine g_istore hz (L' := [(5, .int 0), (4, .int vt0), (0, .ref 176), (1, .int v1), (2, .int v2), (3, .int v3)]) d_R_two_39 (by decide) rfl ?_
    refine g_sub [2, 0] rfl ?_
    exact w_R_two_41 hz hq KF 0 _ h
  · replace h := (if_neg c8).symm.trans h
    refine g_aload_n hz 1 d_R_two_24 rfl rfl ?_
    refine g_iload hz 0 d_R_two_25 rfl ?_
    refine bn_use h (fun x20 s19 e18 h => ?_)
    refine g_callVi hz (c_R_no l e18) (by decide) rc_R rfl rfl m_R_no mi_R_no ms_R_no q_1107 ⟨Nat.le_of_ble_eq_true rfl, Nat.le_of_ble_eq_true rfl⟩ rfl (st := []) rfl (Nat.le_of_ble_eq_true rfl) d_R_two_27 ?_
    exact g_iret hz (rti h hq) d_R_two_30
def f_R_two (s : Mm) (a1 : Int32) (a2 : Int32) (a3 : Int32) : Option (Int32 × Mm) :=
  bn (f_R_areTwo s a1 a2) fun x3 s2 =>
  if x3 = 0 then
    k_R_two_17 a1 a2 a3 (-1) s2
  else
    bn (f_R_notMonths s2 a3) fun x7 s6 =>
    k_R_two_17 a1 a2 a3 x7 s6
set_option maxRecDepth 20000 in
theorem c_R_two (l : Launch) {s : Mm} {a1 : Int32} {a2 : Int32} {a3 : Int32} {r' : Int32} {s' : Mm}  (h : f_R_two s a1 a2 a3 = some (r', s')) : Cm l y_R_two b_R_two 6 (some .int) 7 157 [.ref 176, .int a1, .int a2, .int a3] s s' (some (.int r')) := by
  refine Cm.of (own := "PassedOnAndBetterModel") (by decide) rfl (fun ad => Nat.le_of_ble_eq_true rfl) ?_
  intro z hz hq
  show G l z b_R_two 6 0 [(0, .ref 176), (1, .int a1), (2, .int a2), (3, .int a3)] [] s
  unfold f_R_two at h
  refine g_aload_n hz 0 d_R_two_0 rfl rfl ?_
  refine g_iload_n hz 1 d_R_two_1 rfl rfl ?_
  refine g_iload_n hz 2 d_R_two_2 rfl rfl ?_
  refine bn_use h (fun x3 s2 e1 h => ?_)
  refine g_callVi hz (c_R_areTwo l e1) (by decide) rc_R rfl rfl m_R_areTwo mi_R_areTwo ms_R_areTwo q_1178 ⟨Nat.le_of_ble_eq_true rfl, Nat.le_of_ble_eq_true rfl⟩ rfl (st := []) rfl (Nat.le_of_ble_eq_true rfl) d_R_two_3 ?_
  refine g_if_ne hz (tgt := 13) d_R_two_6 (by decide) (fun c4 => ?_) (fun c4 => ?_)
  · replace h := (if_neg c4).symm.trans h
    refine g_iload_n hz 3 d_R_two_13 rfl rfl ?_
    refine bn_use h (fun x7 s6 e5 h => ?_)
    refine g_callSi hz (c_R_notMonths l e5) m_R_notMonths mi_R_notMonths q_1291 ⟨Nat.le_of_ble_eq_true rfl, Nat.le_of_ble_eq_true rfl⟩ rfl (st := []) rfl (Nat.le_of_ble_eq_true rfl) d_R_two_14 ?_
    exact w_R_two_17 hz hq a1 a2 a3 x7 _ h
  · replace h := (if_pos c4).symm.trans h
    refine g_iconst hz d_R_two_9 ki_m1 ?_
    refine g_goto hz (tgt := 17) d_R_two_10 (by decide) ?_
    exact w_R_two_17 hz hq a1 a2 a3 (-1) _ h
def f_R_lowestOf (s : Mm) (a1 : Int32) : Option (Int64 × Mm) :=
  gd (-a1) 7 <|
  gd (-a1) 7 <|
  nm (mU s 177 (-a1).toNatClampNeg ((s 177 (-a1).toNatClampNeg) + 1)) fun s3 =>
  some (4000000000000000000 - (a1.toInt64), s3)
set_option maxRecDepth 20000 in
theorem c_R_lowestOf (l : Launch) {s : Mm} {a1 : Int32} {r' : Int64} {s' : Mm}  (h : f_R_lowestOf s a1 = some (r', s')) : Cm l y_R_lowestOf b_R_lowestOf 2 (some .long) 0 0 [.ref 176, .int a1] s s' (some (.long r')) := by
  refine Cm.of (own := "PassedOnAndBetterModel") (by decide) rfl (fun ad => Nat.le_of_ble_eq_true rfl) ?_
  intro z hz hq
  show G l z b_R_lowestOf 2 0 [(0, .ref 176), (1, .int a1)] [] s
  unfold f_R_lowestOf at h
  refine g_aload_n hz 0 d_R_lowestOf_0 rfl rfl ?_
  refine gf_R_refused hz q_1003 d_R_lowestOf_1 ?_
  refine g_iload_n hz 1 d_R_lowestOf_4 rfl rfl ?_
  refine g_ineg hz d_R_lowestOf_5 ?_
  refine g_dup2 hz d_R_lowestOf_6 rfl rfl ?_
  obtain ⟨n1, h⟩ := gd_use h
  refine g_iald hz (by decide) n1 d_R_lowestOf_7 ?_
  refine g_iconst hz d_R_lowestOf_8 ki_1 ?_
  refine g_iadd hz d_R_lowestOf_9 ?_
  obtain ⟨n2, h⟩ := gd_use h
  refine g_iast hz (by decide) n2 d_R_lowestOf_10 (fun s3 e4 => ?_)
  replace h := nm_use h e4
  refine g_ldc2 hz q_1445 d_R_lowestOf_11 ?_
  refine g_iload_n hz 1 d_R_lowestOf_14 rfl rfl ?_
  refine g_i2l hz d_R_lowestOf_15 ?_
  refine g_lsub hz d_R_lowestOf_16 ?_
  exact g_lret hz (rtl h hq) d_R_lowestOf_17
def k_R_divisor_6 : Nat → Int64 → Int64 → Mm → Option (Int64 × Mm)
  | 0, _, _, _ => none
  | n + 1, w4, w6, s => if (lg_cmp w6 0) = 0 then
      some (w4, s)
    else
      gZ w6 <|
      nm (w4 - w4 / w6 * w6) fun x3 =>
      k_R_divisor_6 n w6 x3 s
set_option maxRecDepth 20000 in
theorem w_R_divisor_6 {l : Launch} {z : Zt} (hz : ZOk z b_R_divisor 10 "PassedOnAndBetterModel" 0 0) {r' : Int64} {s' : Mm} (hq : ZR z (some .long) s' (some (.long r'))) : ∀ (n : Nat) (w4 : Int64) (w6 : Int64) (s : Mm), k_R_divisor_6 n w4 w6 s = some (r', s') → G l z b_R_divisor 10 6 [(4, .long w4), (6, .long w6)] [] s := by
  intro n
  induction n with
  | zero => intro w4 w6 s h; unfold k_R_divisor_6 at h; cases h
  | succ n ih =>
    intro w4 w6 s h
    unfold k_R_divisor_6 at h
    refine g_lload hz 1 d_R_divisor_6 rfl ?_
    refine g_lconst hz (v := 0) d_R_divisor_8 (by decide) ?_
    refine g_lcmp hz d_R_divisor_9 ?_
    refine g_if_eq hz (tgt := 31) d_R_divisor_10 (by decide) (fun c1 => ?_) (fun c1 => ?_)
    · replace h := (if_pos c1).symm.trans h
      refine g_lload hz 0 d_R_divisor_31 rfl ?_
      exact g_lret hz (rtl h hq) d_R_divisor_33
    · replace h := (if_neg c1).symm.trans h
      refine g_lload hz 0 d_R_divisor_13 rfl ?_
      refine g_lload hz 1 d_R_divisor_15 rfl ?_
      obtain ⟨n2, h⟩ := gZ_use h
      refine g_lrem hz d_R_divisor_17 n2 ?_
      refine g_nml (fun x3 e4 => ?_)
      replace h := nm_use h e4
      refine g_lstore hz (L' := [(8, .long x3), (4, .long w4), (6, .long w6)]) d_R_divisor_18 (by decide) rfl ?_
      refine g_lload hz 2 d_R_divisor_20 rfl ?_
      refine g_lstore hz (L' := [(4, .long w6), (8, .long x3), (6, .long w6)]) d_R_divisor_22 (by decide) rfl ?_
      refine g_lload hz 1 d_R_divisor_24 rfl ?_
      refine g_lstore hz (L' := [(6, .long x3), (4, .long w6), (8, .long x3)]) d_R_divisor_26 (by decide) rfl ?_
      refine g_goto hz (tgt := 6) d_R_divisor_28 (by decide) ?_
      refine g_sub [1, 0] rfl ?_
      exact ih w6 x3 _ h
def f_R_divisor (s : Mm) (a0 : Int64) (a2 : Int64) : Option (Int64 × Mm) :=
  k_R_divisor_6 KF a0 a2 s
set_option maxRecDepth 20000 in
theorem c_R_divisor (l : Launch) {s : Mm} {a0 : Int64} {a2 : Int64} {r' : Int64} {s' : Mm}  (h : f_R_divisor s a0 a2 = some (r', s')) : Cm l y_R_divisor b_R_divisor 10 (some .long) 0 0 [.long a0, .long a2] s s' (some (.long r')) := by
  refine Cm.of (own := "PassedOnAndBetterModel") (by decide) rfl (fun ad => Nat.le_of_ble_eq_true rfl) ?_
  intro z hz hq
  show G l z b_R_divisor 10 0 [(0, .long a0), (2, .long a2)] [] s
  unfold f_R_divisor at h
  refine g_lload_n hz 0 d_R_divisor_0 rfl rfl ?_
  refine g_lstore hz (L' := [(4, .long a0), (0, .long a0), (2, .long a2)]) d_R_divisor_1 (by decide) rfl ?_
  refine g_lload_n hz 2 d_R_divisor_3 rfl rfl ?_
  refine g_lstore hz (L' := [(6, .long a2), (4, .long a0), (0, .long a0), (2, .long a2)]) d_R_divisor_4 (by decide) rfl ?_
  refine g_sub [1, 0] rfl ?_
  exact w_R_divisor_6 hz hq KF a0 a2 _ h
def f_R_partOf (s : Mm) (a0 : Int64) (a2 : Int64) (a4 : Int32) : Option (Int64 × Mm) :=
  if a4 = 0 then
    bn (f_R_divisor s a0 a2) fun x8 s7 =>
    gZ x8 <|
    some (a0 / x8, s7)
  else
    bn (f_R_divisor s a0 a2) fun x4 s3 =>
    gZ x4 <|
    some (a2 / x4, s3)
set_option maxRecDepth 20000 in
theorem c_R_partOf (l : Launch) {s : Mm} {a0 : Int64} {a2 : Int64} {a4 : Int32} {r' : Int64} {s' : Mm}  (h : f_R_partOf s a0 a2 a4 = some (r', s')) : Cm l y_R_partOf b_R_partOf 5 (some .long) 1 29 [.long a0, .long a2, .int a4] s s' (some (.long r')) := by
  refine Cm.of (own := "PassedOnAndBetterModel") (by decide) rfl (fun ad => Nat.le_of_ble_eq_true rfl) ?_
  intro z hz hq
  show G l z b_R_partOf 5 0 [(0, .long a0), (2, .long a2), (4, .int a4)] [] s
  unfold f_R_partOf at h
  refine g_iload hz 2 d_R_partOf_0 rfl ?_
  refine g_if_ne hz (tgt := 9) d_R_partOf_2 (by decide) (fun c1 => ?_) (fun c1 => ?_)
  · replace h := (if_neg c1).symm.trans h
    refine g_lload_n hz 1 d_R_partOf_9 rfl rfl ?_
    refine g_lload_n hz 0 d_R_partOf_10 rfl rfl ?_
    refine g_lload_n hz 1 d_R_partOf_11 rfl rfl ?_
    refine bn_use h (fun x4 s3 e2 h => ?_)
    refine g_callSl hz (c_R_divisor l e2) m_R_divisor mi_R_divisor q_1449 ⟨Nat.le_of_ble_eq_true rfl, Nat.le_of_ble_eq_true rfl⟩ rfl (st := [.long a2]) rfl (Nat.le_of_ble_eq_true rfl) d_R_partOf_12 ?_
    obtain ⟨n5, h⟩ := gZ_use h
    refine g_ldiv hz d_R_partOf_15 n5 ?_
    exact g_lret hz (rtl h hq) d_R_partOf_16
  · replace h := (if_pos c1).symm.trans h
    refine g_lload_n hz 0 d_R_partOf_5 rfl rfl ?_
    refine g_goto hz (tgt := 10) d_R_partOf_6 (by decide) ?_
    refine g_lload_n hz 0 d_R_partOf_10 rfl rfl ?_
    refine g_lload_n hz 1 d_R_partOf_11 rfl rfl ?_
    refine bn_use h (fun x8 s7 e6 h => ?_)
    refine g_callSl hz (c_R_divisor l e6) m_R_divisor mi_R_divisor q_1449 ⟨Nat.le_of_ble_eq_true rfl, Nat.le_of_ble_eq_true rfl⟩ rfl (st := [.long a0]) rfl (Nat.le_of_ble_eq_true rfl) d_R_partOf_12 ?_
    obtain ⟨n9, h⟩ := gZ_use h
    refine g_ldiv hz d_R_partOf_15 n9 ?_
    exact g_lret hz (rtl h hq) d_R_partOf_16
def k_R_lost_198 (kc115 : (Int32 → Int32 → Int32 → Int32 → Int32 → Int64 → Int64 → Int32 → Mm → Option (Int64 × Mm))) (v1 : Int32) (v2 : Int32) (v3 : Int32) (v4 : Int32) (v5 : Int32) (w9 : Int64) (v11 : Int32) (wt0 : Int64) (wt1 : Int64) (s : Mm) : Option (Int64 × Mm) :=
  nm (wt1 + wt0) fun x16 =>
  bv (f_R_forgets s) fun s19 =>
  kc115 v1 v2 v3 v4 v5 x16 w9 (v11 + 1) s19
set_option maxRecDepth 20000 in
theorem w_R_lost_198 {l : Launch} {z : Zt} (hz : ZOk z b_R_lost 15 "PassedOnAndBetterModel" 5 111) {r' : Int64} {s' : Mm} (hq : ZR z (some .long) s' (some (.long r'))) {kc115 : (Int32 → Int32 → Int32 → Int32 → Int32 → Int64 → Int64 → Int32 → Mm → Option (Int64 × Mm))} (hk115 : (∀ (v1 : Int32) (v2 : Int32) (v3 : Int32) (v4 : Int32) (v5 : Int32) (w7 : Int64) (w9 : Int64) (v11 : Int32) (s : Mm), kc115 v1 v2 v3 v4 v5 w7 w9 v11 s = some (r', s') → G l z b_R_lost 15 115 [(0, .ref 176), (1, .int v1), (2, .int v2), (3, .int v3), (4, .int v4), (5, .int v5), (7, .long w7), (9, .long w9), (11, .int v11)] [] s)) (v1 : Int32) (v2 : Int32) (v3 : Int32) (v4 : Int32) (v5 : Int32) (w9 : Int64) (v11 : Int32) (wt0 : Int64) (wt1 : Int64) (s : Mm) (h : k_R_lost_198 kc115 v1 v2 v3 v4 v5 w9 v11 wt0 wt1 s = some (r', s')) : G l z b_R_lost 15 198 [(0, .ref 176), (1, .int v1), (2, .int v2), (3, .int v3), (4, .int v4), (5, .int v5), (9, .long w9), (11, .int v11)] [.long wt0, .long wt1] s := by
  unfold k_R_lost_198 at h
  refine g_ladd hz d_R_lost_198 ?_
  refine g_nml (fun x16 e17 => ?_)
  replace h := nm_use h e17
  refine g_lstore hz (L' := [(7, .long x16), (0, .ref 176), (1, .int v1), (2, .int v2), (3, .int v3), (4, .int v4), (5, .int v5), (9, .long w9), (11, .int v11)]) d_R_lost_199 (by decide) rfl ?_
  refine g_aload_n hz 1 d_R_lost_201 rfl rfl ?_
  refine bv_use h (fun s19 e18 h => ?_)
  refine g_callVv hz (c_R_forgets l e18) (by decide) rc_R rfl rfl m_R_forgets mi_R_forgets ms_R_forgets q_1298 ⟨Nat.le_of_ble_eq_true rfl, Nat.le_of_ble_eq_true rfl⟩ rfl (st := []) rfl (Nat.le_of_ble_eq_true rfl) d_R_lost_202 ?_
  refine g_iinc hz (v := v11 + 1) (L' := [(11, .int (v11 + 1)), (7, .long x16), (0, .ref 176), (1, .int v1), (2, .int v2), (3, .int v3), (4, .int v4), (5, .int v5), (9, .long w9)]) 8 d_R_lost_205 rfl (congrArg (fun q => v11 + q) ki_1) (by decide) rfl ?_
  refine g_goto hz (tgt := 115) d_R_lost_208 (by decide) ?_
  refine g_sub [2, 3, 4, 5, 6, 7, 1, 8, 0] rfl ?_
  exact hk115 v1 v2 v3 v4 v5 x16 w9 (v11 + 1) _ h
def k_R_lost_160 (kc115 : (Int32 → Int32 → Int32 → Int32 → Int32 → Int64 → Int64 → Int32 → Mm → Option (Int64 × Mm))) (kc133 : (Int32 → Int32 → Int32 → Int32 → Int32 → Int64 → Int64 → Int32 → Int64 → Int32 → Mm → Option (Int64 × Mm))) (v1 : Int32) (v2 : Int32) (v3 : Int32) (v4 : Int32) (v5 : Int32) (w7 : Int64) (w9 : Int64) (v11 : Int32) (v14 : Int32) (wt0 : Int64) (wt1 : Int64) (s : Mm) : Option (Int64 × Mm) :=
  nm (wt1 * wt0) fun x24 =>
  bn (f_R_has s v11 v14) fun x28 s27 =>
  bv (f_R_goesMonth s27 x28) fun s30 =>
  kc133 v1 v2 v3 v4 v5 w7 w9 v11 x24 (v14 + 1) s30
set_option maxRecDepth 20000 in
theorem w_R_lost_160 {l : Launch} {z : Zt} (hz : ZOk z b_R_lost 15 "PassedOnAndBetterModel" 5 111) {r' : Int64} {s' : Mm} (hq : ZR z (some .long) s' (some (.long r'))) {kc115 : (Int32 → Int32 → Int32 → Int32 → Int32 → Int64 → Int64 → Int32 → Mm → Option (Int64 × Mm))} {kc133 : (Int32 → Int32 → Int32 → Int32 → Int32 → Int64 → Int64 → Int32 → Int64 → Int32 → Mm → Option (Int64 × Mm))} (hk115 : (∀ (v1 : Int32) (v2 : Int32) (v3 : Int32) (v4 : Int32) (v5 : Int32) (w7 : Int64) (w9 : Int64) (v11 : Int32) (s : Mm), kc115 v1 v2 v3 v4 v5 w7 w9 v11 s = some (r', s') → G l z b_R_lost 15 115 [(0, .ref 176), (1, .int v1), (2, .int v2), (3, .int v3), (4, .int v4), (5, .int v5), (7, .long w7), (9, .long w9), (11, .int v11)] [] s)) (hk133 : (∀ (v1 : Int32) (v2 : Int32) (v3 : Int32) (v4 : Int32) (v5 : Int32) (w7 : Int64) (w9 : Int64) (v11 : Int32) (w12 : Int64) (v14 : Int32) (s : Mm), kc133 v1 v2 v3 v4 v5 w7 w9 v11 w12 v14 s = some (r', s') → G l z b_R_lost 15 133 [(0, .ref 176), (1, .int v1), (2, .int v2), (3, .int v3), (4, .int v4), (5, .int v5), (7, .long w7), (9, .long w9), (11, .int v11), (12, .long w12), (14, .int v14)] [] s)) (v1 : Int32) (v2 : Int32) (v3 : Int32) (v4 : Int32) (v5 : Int32) (w7 : Int64) (w9 : Int64) (v11 : Int32) (v14 : Int32) (wt0 : Int64) (wt1 : Int64) (s : Mm) (h : k_R_lost_160 kc115 kc133 v1 v2 v3 v4 v5 w7 w9 v11 v14 wt0 wt1 s = some (r', s')) : G l z b_R_lost 15 160 [(0, .ref 176), (1, .int v1), (2, .int v2), (3, .int v3), (4, .int v4), (5, .int v5), (7, .long w7), (9, .long w9), (11, .int v11), (14, .int v14)] [.long wt0, .long wt1] s := by
  unfold k_R_lost_160 at h
  refine g_lmul hz d_R_lost_160 ?_
  refine g_nml (fun x24 e25 => ?_)
  replace h := nm_use h e25
  refine g_lstore hz (L' := [(12, .long x24), (0, .ref 176), (1, .int v1), (2, .int v2), (3, .int v3), (4, .int v4), (5, .int v5), (7, .long w7), (9, .long w9), (11, .int v11), (14, .int v14)]) d_R_lost_161 (by decide) rfl ?_
  refine g_aload_n hz 1 d_R_lost_163 rfl rfl ?_
  refine g_iload hz 9 d_R_lost_164 rfl ?_
  refine g_iload hz 10 d_R_lost_166 rfl ?_
  refine bn_use h (fun x28 s27 e26 h => ?_)
  refine g_callSi hz (c_R_has l e26) m_R_has mi_R_has q_1221 ⟨Nat.le_of_ble_eq_true rfl, Nat.le_of_ble_eq_true rfl⟩ rfl (st := [.ref 176]) rfl (Nat.le_of_ble_eq_true rfl) d_R_lost_168 ?_
  refine bv_use h (fun s30 e29 h => ?_)
  refine g_callVv hz (c_R_goesMonth l e29) (by decide) rc_R rfl rfl m_R_goesMonth mi_R_goesMonth ms_R_goesMonth q_1198 ⟨Nat.le_of_ble_eq_true rfl, Nat.le_of_ble_eq_true rfl⟩ rfl (st := []) rfl (Nat.le_of_ble_eq_true rfl) d_R_lost_171 ?_
  refine g_iinc hz (v := v14 + 1) (L' := [(14, .int (v14 + 1)), (12, .long x24), (0, .ref 176), (1, .int v1), (2, .int v2), (3, .int v3), (4, .int v4), (5, .int v5), (7, .long w7), (9, .long w9), (11, .int v11)]) 10 d_R_lost_174 rfl (congrArg (fun q => v14 + q) ki_1) (by decide) rfl ?_
  refine g_goto hz (tgt := 133) d_R_lost_177 (by decide) ?_
  refine g_sub [2, 3, 4, 5, 6, 7, 8, 9, 10, 1, 0] rfl ?_
  exact hk133 v1 v2 v3 v4 v5 w7 w9 v11 x24 (v14 + 1) _ h
def k_R_lost_133 (kc115 : (Int32 → Int32 → Int32 → Int32 → Int32 → Int64 → Int64 → Int32 → Mm → Option (Int64 × Mm))) : Nat → Int32 → Int32 → Int32 → Int32 → Int32 → Int64 → Int64 → Int32 → Int64 → Int32 → Mm → Option (Int64 × Mm)
  | 0, _, _, _, _, _, _, _, _, _, _, _ => none
  | n + 1, v1, v2, v3, v4, v5, w7, w9, v11, w12, v14, s => if v3 ≤ v14 then
      gd v1 4 <|
      if (s 184 v1.toNatClampNeg) = v2 then
        k_R_lost_198 kc115 v1 v2 v3 v4 v5 w9 v11 w12 w7 s
      else
        k_R_lost_198 kc115 v1 v2 v3 v4 v5 w9 v11 0 w7 s
    else
      bn (f_R_has s v11 v14) fun x22 s21 =>
      if x22 = 0 then
        k_R_lost_160 kc115 (fun v1 v2 v3 v4 v5 w7 w9 v11 w12 v14 s => k_R_lost_133 kc115 n v1 v2 v3 v4 v5 w7 w9 v11 w12 v14 s) v1 v2 v3 v4 v5 w7 w9 v11 v14 ((v4 - 1 : Int32).toInt64) w12 s21
      else
        k_R_lost_160 kc115 (fun v1 v2 v3 v4 v5 w7 w9 v11 w12 v14 s => k_R_lost_133 kc115 n v1 v2 v3 v4 v5 w7 w9 v11 w12 v14 s) v1 v2 v3 v4 v5 w7 w9 v11 v14 1 w12 s21
set_option maxRecDepth 20000 in
theorem w_R_lost_133 {l : Launch} {z : Zt} (hz : ZOk z b_R_lost 15 "PassedOnAndBetterModel" 5 111) {r' : Int64} {s' : Mm} (hq : ZR z (some .long) s' (some (.long r'))) {kc115 : (Int32 → Int32 → Int32 → Int32 → Int32 → Int64 → Int64 → Int32 → Mm → Option (Int64 × Mm))} (hk115 : (∀ (v1 : Int32) (v2 : Int32) (v3 : Int32) (v4 : Int32) (v5 : Int32) (w7 : Int64) (w9 : Int64) (v11 : Int32) (s : Mm), kc115 v1 v2 v3 v4 v5 w7 w9 v11 s = some (r', s') → G l z b_R_lost 15 115 [(0, .ref 176), (1, .int v1), (2, .int v2), (3, .int v3), (4, .int v4), (5, .int v5), (7, .long w7), (9, .long w9), (11, .int v11)] [] s)) : ∀ (n : Nat) (v1 : Int32) (v2 : Int32) (v3 : Int32) (v4 : Int32) (v5 : Int32) (w7 : Int64) (w9 : Int64) (v11 : Int32) (w12 : Int64) (v14 : Int32) (s : Mm), k_R_lost_133 kc115 n v1 v2 v3 v4 v5 w7 w9 v11 w12 v14 s = some (r', s') → G l z b_R_lost 15 133 [(0, .ref 176), (1, .int v1), (2, .int v2), (3, .int v3), (4, .int v4), (5, .int v5), (7, .long w7), (9, .long w9), (11, .int v11), (12, .long w12), (14, .int v14)] [] s := by
  intro n
  induction n with
  | zero => intro v1 v2 v3 v4 v5 w7 w9 v11 w12 v14 s h; unfold k_R_lost_133 at h; cases h
  | succ n ih =>
    intro v1 v2 v3 v4 v5 w7 w9 v11 w12 v14 s h
    unfold k_R_lost_133 at h
    refine g_iload hz 10 d_R_lost_133 rfl ?_
    refine g_iload_n hz 3 d_R_lost_135 rfl rfl ?_
    refine g_icmp_ge hz (tgt := 180) d_R_lost_136 (by decide) (fun c13 => ?_) (fun c13 => ?_)
    · replace h := (if_pos c13).symm.trans h
      refine g_lload hz 6 d_R_lost_180 rfl ?_
      refine g_aload_n hz 0 d_R_lost_182 rfl rfl ?_
      refine gf_R_holder hz q_1010 d_R_lost_183 ?_
      refine g_iload_n hz 1 d_R_lost_186 rfl rfl ?_
      obtain ⟨n14, h⟩ := gd_use h
      refine g_iald hz (by decide) n14 d_R_lost_187 ?_
      refine g_iload_n hz 2 d_R_lost_188 rfl rfl ?_
      refine g_icmp_ne hz (tgt := 197) d_R_lost_189 (by decide) (fun c15 => ?_) (fun c15 => ?_)
      · replace h := (if_neg c15).symm.trans h
        refine g_lconst hz (v := 0) d_R_lost_197 (by decide) ?_
        refine g_sub [0, 1, 2, 3, 4, 5, 7, 8] rfl ?_
        exact w_R_lost_198 hz hq hk115 v1 v2 v3 v4 v5 w9 v11 0 w7 _ h
      · replace h := (if_pos c15).symm.trans h
        refine g_lload hz 9 d_R_lost_192 rfl ?_
        refine g_goto hz (tgt := 198) d_R_lost_194 (by decide) ?_
        refine g_sub [0, 1, 2, 3, 4, 5, 7, 8] rfl ?_
        exact w_R_lost_198 hz hq hk115 v1 v2 v3 v4 v5 w9 v11 w12 w7 _ h
    · replace h := (if_neg c13).symm.trans h
      refine g_lload hz 9 d_R_lost_139 rfl ?_
      refine g_iload hz 8 d_R_lost_141 rfl ?_
      refine g_iload hz 10 d_R_lost_143 rfl ?_
      refine bn_use h (fun x22 s21 e20 h => ?_)
      refine g_callSi hz (c_R_has l e20) m_R_has mi_R_has q_1221 ⟨Nat.le_of_ble_eq_true rfl, Nat.le_of_ble_eq_true rfl⟩ rfl (st := [.long w12]) rfl (Nat.le_of_ble_eq_true rfl) d_R_lost_145 ?_
      refine g_if_eq hz (tgt := 155) d_R_lost_148 (by decide) (fun c23 => ?_) (fun c23 => ?_)
      · replace h := (if_pos c23).symm.trans h
        refine g_iload hz 4 d_R_lost_155 rfl ?_
        refine g_iconst hz d_R_lost_157 ki_1 ?_
        refine g_isub hz d_R_lost_158 ?_
        refine g_i2l hz d_R_lost_159 ?_
        refine g_sub [0, 1, 2, 3, 4, 5, 6, 7, 8, 10] rfl ?_
        exact w_R_lost_160 hz hq hk115 ih v1 v2 v3 v4 v5 w7 w9 v11 v14 ((v4 - 1 : Int32).toInt64) w12 _ h
      · replace h := (if_neg c23).symm.trans h
        refine g_lconst hz (v := 1) d_R_lost_151 (by decide) ?_
        refine g_goto hz (tgt := 160) d_R_lost_152 (by decide) ?_
        refine g_sub [0, 1, 2, 3, 4, 5, 6, 7, 8, 10] rfl ?_
        exact w_R_lost_160 hz hq hk115 ih v1 v2 v3 v4 v5 w7 w9 v11 v14 1 w12 _ h
def k_R_lost_115 : Nat → Int32 → Int32 → Int32 → Int32 → Int32 → Int64 → Int64 → Int32 → Mm → Option (Int64 × Mm)
  | 0, _, _, _, _, _, _, _, _, _ => none
  | n + 1, v1, v2, v3, v4, v5, w7, w9, v11, s => if (1 <<< (v3 &&& 31)) ≤ v11 then
      bn (f_R_partOf s w7 w9 v5) fun x10 s9 =>
      some (x10, s9)
    else
      bv (f_R_thinks s) fun s12 =>
      k_R_lost_133 (fun v1 v2 v3 v4 v5 w7 w9 v11 s => k_R_lost_115 n v1 v2 v3 v4 v5 w7 w9 v11 s) KF v1 v2 v3 v4 v5 w7 w9 v11 1 0 s12
set_option maxRecDepth 20000 in
theorem w_R_lost_115 {l : Launch} {z : Zt} (hz : ZOk z b_R_lost 15 "PassedOnAndBetterModel" 5 111) {r' : Int64} {s' : Mm} (hq : ZR z (some .long) s' (some (.long r'))) : ∀ (n : Nat) (v1 : Int32) (v2 : Int32) (v3 : Int32) (v4 : Int32) (v5 : Int32) (w7 : Int64) (w9 : Int64) (v11 : Int32) (s : Mm), k_R_lost_115 n v1 v2 v3 v4 v5 w7 w9 v11 s = some (r', s') → G l z b_R_lost 15 115 [(0, .ref 176), (1, .int v1), (2, .int v2), (3, .int v3), (4, .int v4), (5, .int v5), (7, .long w7), (9, .long w9), (11, .int v11)] [] s := by
  intro n
  induction n with
  | zero => intro v1 v2 v3 v4 v5 w7 w9 v11 s h; unfold k_R_lost_115 at h; cases h
  | succ n ih =>
    intro v1 v2 v3 v4 v5 w7 w9 v11 s h
    unfold k_R_lost_115 at h
    refine g_iload hz 8 d_R_lost_115 rfl ?_
    refine g_iconst hz d_R_lost_117 ki_1 ?_
    refine g_iload_n hz 3 d_R_lost_118 rfl rfl ?_
    refine g_ishl hz d_R_lost_119 ?_
    refine g_icmp_ge hz (tgt := 211) d_R_lost_120 (by decide) (fun c7 => ?_) (fun c7 => ?_)
    · replace h := (if_pos c7).symm.trans h
      refine g_lload hz 6 d_R_lost_211 rfl ?_
      refine g_lload hz 7 d_R_lost_213 rfl ?_
      refine g_iload hz 5 d_R_lost_215 rfl ?_
      refine bn_use h (fun x10 s9 e8 h => ?_)
      refine g_callSl hz (c_R_partOf l e8) m_R_partOf mi_R_partOf q_1446 ⟨Nat.le_of_ble_eq_true rfl, Nat.le_of_ble_eq_true rfl⟩ rfl (st := []) rfl (Nat.le_of_ble_eq_true rfl) d_R_lost_217 ?_
      exact g_lret hz (rtl h hq) d_R_lost_220
    · replace h := (if_neg c7).symm.trans h
      refine g_aload_n hz 0 d_R_lost_123 rfl rfl ?_
      refine bv_use h (fun s12 e11 h => ?_)
      refine g_callVv hz (c_R_thinks l e11) (by decide) rc_R rfl rfl m_R_thinks mi_R_thinks ms_R_thinks q_1294 ⟨Nat.le_of_ble_eq_true rfl, Nat.le_of_ble_eq_true rfl⟩ rfl (st := []) rfl (Nat.le_of_ble_eq_true rfl) d_R_lost_124 ?_
      refine g_lconst hz (v := 1) d_R_lost_127 (by decide) ?_
      refine g_lstore hz (L' := [(12, .long 1), (0, .ref 176), (1, .int v1), (2, .int v2), (3, .int v3), (4, .int v4), (5, .int v5), (7, .long w7), (9, .long w9), (11, .int v11)]) d_R_lost_128 (by decide) rfl ?_
      refine g_iconst hz d_R_lost_130 ki_0 ?_
      refine g_istore hz (L' := [(14, .int 0), (12, .long 1), (0, .ref 176), (1, .int v1), (2, .int v2), (3, .int v3), (4, .int v4), (5, .int v5), (7, .long w7), (9, .long w9), (11, .int v11)]) d_R_lost_131 (by decide) rfl ?_
      refine g_sub [2, 3, 4, 5, 6, 7, 8, 9, 10, 1, 0] rfl ?_
      exact w_R_lost_133 hz hq ih KF v1 v2 v3 v4 v5 w7 w9 v11 1 0 _ h
def k_R_lost_92 : Nat → Int32 → Int32 → Int32 → Int32 → Int32 → Int64 → Int64 → Int32 → Mm → Option (Int64 × Mm)
  | 0, _, _, _, _, _, _, _, _, _ => none
  | n + 1, v1, v2, v3, v4, v5, w7, w9, v11, s => if v3 ≤ v11 then
      k_R_lost_115 KF v1 v2 v3 v4 v5 w7 w9 0 s
    else
      nm (w9 * (v4.toInt64)) fun x31 =>
      k_R_lost_92 n v1 v2 v3 v4 v5 w7 x31 (v11 + 1) s
set_option maxRecDepth 20000 in
theorem w_R_lost_92 {l : Launch} {z : Zt} (hz : ZOk z b_R_lost 15 "PassedOnAndBetterModel" 5 111) {r' : Int64} {s' : Mm} (hq : ZR z (some .long) s' (some (.long r'))) : ∀ (n : Nat) (v1 : Int32) (v2 : Int32) (v3 : Int32) (v4 : Int32) (v5 : Int32) (w7 : Int64) (w9 : Int64) (v11 : Int32) (s : Mm), k_R_lost_92 n v1 v2 v3 v4 v5 w7 w9 v11 s = some (r', s') → G l z b_R_lost 15 92 [(0, .ref 176), (1, .int v1), (2, .int v2), (3, .int v3), (4, .int v4), (5, .int v5), (7, .long w7), (9, .long w9), (11, .int v11)] [] s := by
  intro n
  induction n with
  | zero => intro v1 v2 v3 v4 v5 w7 w9 v11 s h; unfold k_R_lost_92 at h; cases h
  | succ n ih =>
    intro v1 v2 v3 v4 v5 w7 w9 v11 s h
    unfold k_R_lost_92 at h
    refine g_iload hz 8 d_R_lost_92 rfl ?_
    refine g_iload_n hz 3 d_R_lost_94 rfl rfl ?_
    refine g_icmp_ge hz (tgt := 112) d_R_lost_95 (by decide) (fun c6 => ?_) (fun c6 => ?_)
    · replace h := (if_pos c6).symm.trans h
      refine g_iconst hz d_R_lost_112 ki_0 ?_
      refine g_istore hz (L' := [(11, .int 0), (0, .ref 176), (1, .int v1), (2, .int v2), (3, .int v3), (4, .int v4), (5, .int v5), (7, .long w7), (9, .long w9)]) d_R_lost_113 (by decide) rfl ?_
      refine g_sub [1, 2, 3, 4, 5, 6, 7, 8, 0] rfl ?_
      exact w_R_lost_115 hz hq KF v1 v2 v3 v4 v5 w7 w9 0 _ h
    · replace h := (if_neg c6).symm.trans h
      refine g_lload hz 7 d_R_lost_98 rfl ?_
      refine g_iload hz 4 d_R_lost_100 rfl ?_
      refine g_i2l hz d_R_lost_102 ?_
      refine g_lmul hz d_R_lost_103 ?_
      refine g_nml (fun x31 e32 => ?_)
      replace h := nm_use h e32
      refine g_lstore hz (L' := [(9, .long x31), (0, .ref 176), (1, .int v1), (2, .int v2), (3, .int v3), (4, .int v4), (5, .int v5), (7, .long w7), (11, .int v11)]) d_R_lost_104 (by decide) rfl ?_
      refine g_iinc hz (v := v11 + 1) (L' := [(11, .int (v11 + 1)), (9, .long x31), (0, .ref 176), (1, .int v1), (2, .int v2), (3, .int v3), (4, .int v4), (5, .int v5), (7, .long w7)]) 8 d_R_lost_106 rfl (congrArg (fun q => v11 + q) ki_1) (by decide) rfl ?_
      refine g_goto hz (tgt := 92) d_R_lost_109 (by decide) ?_
      refine g_sub [2, 3, 4, 5, 6, 7, 8, 1, 0] rfl ?_
      exact ih v1 v2 v3 v4 v5 w7 x31 (v11 + 1) _ h
def k_R_lost_69 (v1 : Int32) (v2 : Int32) (v3 : Int32) (v4 : Int32) (v5 : Int32) (vt0 : Int32) (s : Mm) : Option (Int64 × Mm) :=
  if vt0 = 0 then
    k_R_lost_92 KF v1 v2 v3 v4 v5 0 1 0 s
  else
    bn (f_R_lowestOf s vt0) fun x35 s34 =>
    some (x35, s34)
set_option maxRecDepth 20000 in
theorem w_R_lost_69 {l : Launch} {z : Zt} (hz : ZOk z b_R_lost 15 "PassedOnAndBetterModel" 5 111) {r' : Int64} {s' : Mm} (hq : ZR z (some .long) s' (some (.long r'))) (v1 : Int32) (v2 : Int32) (v3 : Int32) (v4 : Int32) (v5 : Int32) (vt0 : Int32) (s : Mm) (h : k_R_lost_69 v1 v2 v3 v4 v5 vt0 s = some (r', s')) : G l z b_R_lost 15 69 [(0, .ref 176), (1, .int v1), (2, .int v2), (3, .int v3), (4, .int v4), (5, .int v5)] [.int vt0] s := by
  unfold k_R_lost_69 at h
  refine g_istore hz (L' := [(6, .int vt0), (0, .ref 176), (1, .int v1), (2, .int v2), (3, .int v3), (4, .int v4), (5, .int v5)]) d_R_lost_69 (by decide) rfl ?_
  refine g_iload hz 0 d_R_lost_71 rfl ?_
  refine g_if_eq hz (tgt := 83) d_R_lost_73 (by decide) (fun c5 => ?_) (fun c5 => ?_)
  · replace h := (if_pos c5).symm.trans h
    refine g_lconst hz (v := 0) d_R_lost_83 (by decide) ?_
    refine g_lstore hz (L' := [(7, .long 0), (6, .int vt0), (0, .ref 176), (1, .int v1), (2, .int v2), (3, .int v3), (4, .int v4), (5, .int v5)]) d_R_lost_84 (by decide) rfl ?_
    refine g_lconst hz (v := 1) d_R_lost_86 (by decide) ?_
    refine g_lstore hz (L' := [(9, .long 1), (7, .long 0), (6, .int vt0), (0, .ref 176), (1, .int v1), (2, .int v2), (3, .int v3), (4, .int v4), (5, .int v5)]) d_R_lost_87 (by decide) rfl ?_
    refine g_iconst hz d_R_lost_89 ki_0 ?_
    refine g_istore hz (L' := [(11, .int 0), (9, .long 1), (7, .long 0), (6, .int vt0), (0, .ref 176), (1, .int v1), (2, .int v2), (3, .int v3), (4, .int v4), (5, .int v5)]) d_R_lost_90 (by decide) rfl ?_
    refine g_sub [4, 5, 6, 7, 8, 9, 2, 1, 0] rfl ?_
    exact w_R_lost_92 hz hq KF v1 v2 v3 v4 v5 0 1 0 _ h
  · replace h := (if_neg c5).symm.trans h
    refine g_aload_n hz 1 d_R_lost_76 rfl rfl ?_
    refine g_iload hz 0 d_R_lost_77 rfl ?_
    refine bn_use h (fun x35 s34 e33 h => ?_)
    refine g_callVl hz (c_R_lowestOf l e33) (by decide) rc_R rfl rfl m_R_lowestOf mi_R_lowestOf ms_R_lowestOf q_1441 ⟨Nat.le_of_ble_eq_true rfl, Nat.le_of_ble_eq_true rfl⟩ rfl (st := []) rfl (Nat.le_of_ble_eq_true rfl) d_R_lost_79 ?_
    exact g_lret hz (rtl h hq) d_R_lost_82
def f_R_lost (s : Mm) (a1 : Int32) (a2 : Int32) (a3 : Int32) (a4 : Int32) (a5 : Int32) : Option (Int64 × Mm) :=
  bn (f_R_isGift s a1) fun x3 s2 =>
  if x3 = 0 then
    k_R_lost_69 a1 a2 a3 a4 a5 (-1) s2
  else
    bn (f_R_isFriend s2 a2) fun x38 s37 =>
    if x38 = 0 then
      k_R_lost_69 a1 a2 a3 a4 a5 (-1) s37
    else
      if a3 < 0 then
        k_R_lost_69 a1 a2 a3 a4 a5 (-4) s37
      else
        if 2 ≤ a4 then
          if 8 < a3 then
            k_R_lost_69 a1 a2 a3 a4 a5 (-6) s37
          else
            if a4 ≤ 20 then
              bn (f_R_isIn s37 a5 0 1) fun x46 s45 =>
              if x46 = 0 then
                k_R_lost_69 a1 a2 a3 a4 a5 (-2) s45
              else
                k_R_lost_69 a1 a2 a3 a4 a5 0 s45
            else
              k_R_lost_69 a1 a2 a3 a4 a5 (-6) s37
        else
          k_R_lost_69 a1 a2 a3 a4 a5 (-4) s37
set_option maxRecDepth 20000 in
theorem c_R_lost (l : Launch) {s : Mm} {a1 : Int32} {a2 : Int32} {a3 : Int32} {a4 : Int32} {a5 : Int32} {r' : Int64} {s' : Mm}  (h : f_R_lost s a1 a2 a3 a4 a5 = some (r', s')) : Cm l y_R_lost b_R_lost 15 (some .long) 5 111 [.ref 176, .int a1, .int a2, .int a3, .int a4, .int a5] s s' (some (.long r')) := by
  refine Cm.of (own := "PassedOnAndBetterModel") (by decide) rfl (fun ad => Nat.le_of_ble_eq_true rfl) ?_
  intro z hz hq
  show G l z b_R_lost 15 0 [(0, .ref 176), (1, .int a1), (2, .int a2), (3, .int a3), (4, .int a4), (5, .int a5)] [] s
  unfold f_R_lost at h
  refine g_aload_n hz 0 d_R_lost_0 rfl rfl ?_
  refine g_iload_n hz 1 d_R_lost_1 rfl rfl ?_
  refine bn_use h (fun x3 s2 e1 h => ?_)
  refine g_callVi hz (c_R_isGift l e1) (by decide) rc_R rfl rfl m_R_isGift mi_R_isGift ms_R_isGift q_1186 ⟨Nat.le_of_ble_eq_true rfl, Nat.le_of_ble_eq_true rfl⟩ rfl (st := []) rfl (Nat.le_of_ble_eq_true rfl) d_R_lost_2 ?_
  refine g_if_eq hz (tgt := 16) d_R_lost_5 (by decide) (fun c4 => ?_) (fun c4 => ?_)
  · replace h := (if_pos c4).symm.trans h
    refine g_iconst hz d_R_lost_16 ki_m1 ?_
    refine g_goto hz (tgt := 69) d_R_lost_17 (by decide) ?_
    exact w_R_lost_69 hz hq a1 a2 a3 a4 a5 (-1) _ h
  · replace h := (if_neg c4).symm.trans h
    refine g_aload_n hz 0 d_R_lost_8 rfl rfl ?_
    refine g_iload_n hz 2 d_R_lost_9 rfl rfl ?_
    refine bn_use h (fun x38 s37 e36 h => ?_)
    refine g_callVi hz (c_R_isFriend l e36) (by decide) rc_R rfl rfl m_R_isFriend mi_R_isFriend ms_R_isFriend q_1162 ⟨Nat.le_of_ble_eq_true rfl, Nat.le_of_ble_eq_true rfl⟩ rfl (st := []) rfl (Nat.le_of_ble_eq_true rfl) d_R_lost_10 ?_
    refine g_if_ne hz (tgt := 20) d_R_lost_13 (by decide) (fun c39 => ?_) (fun c39 => ?_)
    · replace h := (if_neg c39).symm.trans h
      refine g_iload_n hz 3 d_R_lost_20 rfl rfl ?_
      refine g_if_lt hz (tgt := 30) d_R_lost_21 (by decide) (fun c40 => ?_) (fun c40 => ?_)
      · replace h := (if_pos c40).symm.trans h
        refine g_bipush hz (v := (-4)) d_R_lost_30 (by decide) ?_
        refine g_goto hz (tgt := 69) d_R_lost_32 (by decide) ?_
        exact w_R_lost_69 hz hq a1 a2 a3 a4 a5 (-4) _ h
      · replace h := (if_neg c40).symm.trans h
        refine g_iload hz 4 d_R_lost_24 rfl ?_
        refine g_iconst hz d_R_lost_26 ki_2 ?_
        refine g_icmp_ge hz (tgt := 35) d_R_lost_27 (by decide) (fun c41 => ?_) (fun c41 => ?_)
        · replace h := (if_pos c41).symm.trans h
          refine g_iload_n hz 3 d_R_lost_35 rfl rfl ?_
          refine g_bipush hz (v := 8) d_R_lost_36 (by decide) ?_
          refine g_icmp_gt hz (tgt := 48) d_R_lost_38 (by decide) (fun c42 => ?_) (fun c42 => ?_)
          · replace h := (if_pos c42).symm.trans h
            refine g_bipush hz (v := (-6)) d_R_lost_48 (by decide) ?_
            refine g_goto hz (tgt := 69) d_R_lost_50 (by decide) ?_
            exact w_R_lost_69 hz hq a1 a2 a3 a4 a5 (-6) _ h
          · replace h := (if_neg c42).symm.trans h
            refine g_iload hz 4 d_R_lost_41 rfl ?_
            refine g_bipush hz (v := 20) d_R_lost_43 (by decide) ?_
            refine g_icmp_le hz (tgt := 53) d_R_lost_45 (by decide) (fun c43 => ?_) (fun c43 => ?_)
            · replace h := (if_pos c43).symm.trans h
              refine g_iload hz 5 d_R_lost_53 rfl ?_
              refine g_iconst hz d_R_lost_55 ki_0 ?_
              refine g_iconst hz d_R_lost_56 ki_1 ?_
              refine bn_use h (fun x46 s45 e44 h => ?_)
              refine g_callSi hz (c_R_isIn l e44) m_R_isIn mi_R_isIn q_1131 ⟨Nat.le_of_ble_eq_true rfl, Nat.le_of_ble_eq_true rfl⟩ rfl (st := []) rfl (Nat.le_of_ble_eq_true rfl) d_R_lost_57 ?_
              refine g_if_ne hz (tgt := 68) d_R_lost_60 (by decide) (fun c47 => ?_) (fun c47 => ?_)
              · replace h := (if_neg c47).symm.trans h
                refine g_iconst hz d_R_lost_68 ki_0 ?_
                exact w_R_lost_69 hz hq a1 a2 a3 a4 a5 0 _ h
              · replace h := (if_pos c47).symm.trans h
                refine g_bipush hz (v := (-2)) d_R_lost_63 (by decide) ?_
                refine g_goto hz (tgt := 69) d_R_lost_65 (by decide) ?_
                exact w_R_lost_69 hz hq a1 a2 a3 a4 a5 (-2) _ h
            · replace h := (if_neg c43).symm.trans h
              refine g_bipush hz (v := (-6)) d_R_lost_48 (by decide) ?_
              refine g_goto hz (tgt := 69) d_R_lost_50 (by decide) ?_
              exact w_R_lost_69 hz hq a1 a2 a3 a4 a5 (-6) _ h
        · replace h := (if_neg c41).symm.trans h
          refine g_bipush hz (v := (-4)) d_R_lost_30 (by decide) ?_
          refine g_goto hz (tgt := 69) d_R_lost_32 (by decide) ?_
          exact w_R_lost_69 hz hq a1 a2 a3 a4 a5 (-4) _ h
    · replace h := (if_pos c39).symm.trans h
      refine g_iconst hz d_R_lost_16 ki_m1 ?_
      refine g_goto hz (tgt := 69) d_R_lost_17 (by decide) ?_
      exact w_R_lost_69 hz hq a1 a2 a3 a4 a5 (-1) _ h
def k_R_added_108 (kc75 : (Int32 → Int32 → Int32 → Mm → Option (Int32 × Mm))) (v5 : Int32) (v6 : Int32) (vt0 : Int32) (s : Mm) : Option (Int32 × Mm) :=
  gd v6 6 <|
  if (s 188 v6.toNatClampNeg) ≤ v5 then
    kc75 vt0 v5 (v6 + 1) s
  else
    gd v6 6 <|
    nm (s 188 v6.toNatClampNeg) fun x25 =>
    kc75 vt0 x25 (v6 + 1) s
set_option maxRecDepth 20000 in
theorem w_R_added_108 {l : Launch} {z : Zt} (hz : ZOk z b_R_added 7 "PassedOnAndBetterModel" 6 133) {r' : Int32} {s' : Mm} (hq : ZR z (some .int) s' (some (.int r'))) {kc75 : (Int32 → Int32 → Int32 → Mm → Option (Int32 × Mm))} (hk75 : (∀ (v4 : Int32) (v5 : Int32) (v6 : Int32) (s : Mm), kc75 v4 v5 v6 s = some (r', s') → G l z b_R_added 7 75 [(0, .ref 176), (4, .int v4), (5, .int v5), (6, .int v6)] [] s)) (v5 : Int32) (v6 : Int32) (vt0 : Int32) (s : Mm) (h : k_R_added_108 kc75 v5 v6 vt0 s = some (r', s')) : G l z b_R_added 7 108 [(0, .ref 176), (5, .int v5), (6, .int v6)] [.int vt0] s := by
  unfold k_R_added_108 at h
  refine g_istore hz (L' := [(4, .int vt0), (0, .ref 176), (5, .int v5), (6, .int v6)]) d_R_added_108 (by decide) rfl ?_
  refine g_aload_n hz 1 d_R_added_110 rfl rfl ?_
  refine gf_R_added hz q_1018 d_R_added_111 ?_
  refine g_iload hz 3 d_R_added_114 rfl ?_
  obtain ⟨n22, h⟩ := gd_use h
  refine g_iald hz (by decide) n22 d_R_added_116 ?_
  refine g_iload hz 2 d_R_added_117 rfl ?_
  refine g_icmp_le hz (tgt := 132) d_R_added_119 (by decide) (fun c23 => ?_) (fun c23 => ?_)
  · replace h := (if_pos c23).symm.trans h
    refine g_iload hz 2 d_R_added_132 rfl ?_
    refine g_istore hz (L' := [(5, .int v5), (4, .int vt0), (0, .ref 176), (6, .int v6)]) d_R_added_134 (by decide) rfl ?_
    refine g_iinc hz (v := v6 + 1) (L' := [(6, .int (v6 + 1)), (5, .int v5), (4, .int vt0), (0, .ref 176)]) 3 d_R_added_136 rfl (congrArg (fun q => v6 + q) ki_1) (by decide) rfl ?_
    refine g_goto hz (tgt := 75) d_R_added_139 (by decide) ?_
    refine g_sub [3, 2, 1, 0] rfl ?_
    exact hk75 vt0 v5 (v6 + 1) _ h
  · replace h := (if_neg c23).symm.trans h
    refine g_aload_n hz 1 d_R_added_122 rfl rfl ?_
    refine gf_R_added hz q_1018 d_R_added_123 ?_
    refine g_iload hz 3 d_R_added_126 rfl ?_
    obtain ⟨n24, h⟩ := gd_use h
    refine g_iald hz (by decide) n24 d_R_added_128 ?_
    refine g_goto hz (tgt := 134) d_R_added_129 (by decide) ?_
    refine g_nmi (fun x25 e26 => ?_)
    replace h := nm_use h e26
    refine g_istore hz (L' := [(5, .int x25), (4, .int vt0), (0, .ref 176), (6, .int v6)]) d_R_added_134 (by decide) rfl ?_
    refine g_iinc hz (v := v6 + 1) (L' := [(6, .int (v6 + 1)), (5, .int x25), (4, .int vt0), (0, .ref 176)]) 3 d_R_added_136 rfl (congrArg (fun q => v6 + q) ki_1) (by decide) rfl ?_
    refine g_goto hz (tgt := 75) d_R_added_139 (by decide) ?_
    refine g_sub [3, 2, 1, 0] rfl ?_
    exact hk75 vt0 x25 (v6 + 1) _ h
def k_R_added_75 : Nat → Int32 → Int32 → Int32 → Mm → Option (Int32 × Mm)
  | 0, _, _, _, _ => none
  | n + 1, v4, v5, v6, s => if (s 176 11) ≤ v6 then
      some (v5 - v4, s)
    else
      gd v6 6 <|
      if v4 ≤ (s 188 v6.toNatClampNeg) then
        k_R_added_108 (fun v4 v5 v6 s => k_R_added_75 n v4 v5 v6 s) v5 v6 v4 s
      else
        gd v6 6 <|
        k_R_added_108 (fun v4 v5 v6 s => k_R_added_75 n v4 v5 v6 s) v5 v6 (s 188 v6.toNatClampNeg) s
set_option maxRecDepth 20000 in
theorem w_R_added_75 {l : Launch} {z : Zt} (hz : ZOk z b_R_added 7 "PassedOnAndBetterModel" 6 133) {r' : Int32} {s' : Mm} (hq : ZR z (some .int) s' (some (.int r'))) : ∀ (n : Nat) (v4 : Int32) (v5 : Int32) (v6 : Int32) (s : Mm), k_R_added_75 n v4 v5 v6 s = some (r', s') → G l z b_R_added 7 75 [(0, .ref 176), (4, .int v4), (5, .int v5), (6, .int v6)] [] s := by
  intro n
  induction n with
  | zero => intro v4 v5 v6 s h; unfold k_R_added_75 at h; cases h
  | succ n ih =>
    intro v4 v5 v6 s h
    unfold k_R_added_75 at h
    refine g_iload hz 3 d_R_added_75 rfl ?_
    refine g_aload_n hz 0 d_R_added_77 rfl rfl ?_
    refine gf_R_friends hz q_1014 d_R_added_78 ?_
    refine g_icmp_ge hz (tgt := 142) d_R_added_81 (by decide) (fun c19 => ?_) (fun c19 => ?_)
    · replace h := (if_pos c19).symm.trans h
      refine g_iload hz 2 d_R_added_142 rfl ?_
      refine g_iload hz 1 d_R_added_144 rfl ?_
      refine g_isub hz d_R_added_146 ?_
      exact g_iret hz (rti h hq) d_R_added_147
    · replace h := (if_neg c19).symm.trans h
      refine g_aload_n hz 0 d_R_added_84 rfl rfl ?_
      refine gf_R_added hz q_1018 d_R_added_85 ?_
      refine g_iload hz 3 d_R_added_88 rfl ?_
      obtain ⟨n20, h⟩ := gd_use h
      refine g_iald hz (by decide) n20 d_R_added_90 ?_
      refine g_iload hz 1 d_R_added_91 rfl ?_
      refine g_icmp_ge hz (tgt := 106) d_R_added_93 (by decide) (fun c21 => ?_) (fun c21 => ?_)
      · replace h := (if_pos c21).symm.trans h
        refine g_iload hz 1 d_R_added_106 rfl ?_
        refine g_sub [0, 2, 3] rfl ?_
        exact w_R_added_108 hz hq ih v5 v6 v4 _ h
      · replace h := (if_neg c21).symm.trans h
        refine g_aload_n hz 0 d_R_added_96 rfl rfl ?_
        refine gf_R_added hz q_1018 d_R_added_97 ?_
        refine g_iload hz 3 d_R_added_100 rfl ?_
        obtain ⟨n27, h⟩ := gd_use h
        refine g_iald hz (by decide) n27 d_R_added_102 ?_
        refine g_goto hz (tgt := 108) d_R_added_103 (by decide) ?_
        refine g_sub [0, 2, 3] rfl ?_
        exact w_R_added_108 hz hq ih v5 v6 (s 188 v6.toNatClampNeg) _ h
def k_R_added_21 (v1 : Int32) (v2 : Int32) (vt0 : Int32) (s : Mm) : Option (Int32 × Mm) :=
  if vt0 = 0 then
    bv (f_R_thinks s) fun s7 =>
    bv (f_R_goes s7 v2) fun s9 =>
    bv (f_R_forgets s9) fun s11 =>
    if v1 < 0 then
      gd 0 6 <|
      nm (s11 188 (0 : Int32).toNatClampNeg) fun x14 =>
      gd 0 6 <|
      nm (s11 188 (0 : Int32).toNatClampNeg) fun x17 =>
      k_R_added_75 KF x14 x17 1 s11
    else
      gd v1 6 <|
      some (s11 188 v1.toNatClampNeg, s11)
  else
    bn (f_R_no s vt0) fun x31 s30 =>
    some (x31, s30)
set_option maxRecDepth 20000 in
theorem w_R_added_21 {l : Launch} {z : Zt} (hz : ZOk z b_R_added 7 "PassedOnAndBetterModel" 6 133) {r' : Int32} {s' : Mm} (hq : ZR z (some .int) s' (some (.int r'))) (v1 : Int32) (v2 : Int32) (vt0 : Int32) (s : Mm) (h : k_R_added_21 v1 v2 vt0 s = some (r', s')) : G l z b_R_added 7 21 [(0, .ref 176), (1, .int v1), (2, .int v2)] [.int vt0] s := by
  unfold k_R_added_21 at h
  refine g_istore_n hz (L' := [(3, .int vt0), (0, .ref 176), (1, .int v1), (2, .int v2)]) d_R_added_21 rfl (by decide) rfl ?_
  refine g_iload_n hz 0 d_R_added_22 rfl rfl ?_
  refine g_if_eq hz (tgt := 32) d_R_added_23 (by decide) (fun c5 => ?_) (fun c5 => ?_)
  · replace h := (if_pos c5).symm.trans h
    refine g_aload_n hz 1 d_R_added_32 rfl rfl ?_
    refine bv_use h (fun s7 e6 h => ?_)
    refine g_callVv hz (c_R_thinks l e6) (by decide) rc_R rfl rfl m_R_thinks mi_R_thinks ms_R_thinks q_1294 ⟨Nat.le_of_ble_eq_true rfl, Nat.le_of_ble_eq_true rfl⟩ rfl (st := []) rfl (Nat.le_of_ble_eq_true rfl) d_R_added_33 ?_
    refine g_aload_n hz 1 d_R_added_36 rfl rfl ?_
    refine g_iload_n hz 3 d_R_added_37 rfl rfl ?_
    refine bv_use h (fun s9 e8 h => ?_)
    refine g_callVv hz (c_R_goes l e8) (by decide) rc_R rfl rfl m_R_goes mi_R_goes ms_R_goes q_1194 ⟨Nat.le_of_ble_eq_true rfl, Nat.le_of_ble_eq_true rfl⟩ rfl (st := []) rfl (Nat.le_of_ble_eq_true rfl) d_R_added_38 ?_
    refine g_aload_n hz 1 d_R_added_41 rfl rfl ?_
    refine bv_use h (fun s11 e10 h => ?_)
    refine g_callVv hz (c_R_forgets l e10) (by decide) rc_R rfl rfl m_R_forgets mi_R_forgets ms_R_forgets q_1298 ⟨Nat.le_of_ble_eq_true rfl, Nat.le_of_ble_eq_true rfl⟩ rfl (st := []) rfl (Nat.le_of_ble_eq_true rfl) d_R_added_42 ?_
    refine g_iload_n hz 2 d_R_added_45 rfl rfl ?_
    refine g_if_lt hz (tgt := 56) d_R_added_46 (by decide) (fun c12 => ?_) (fun c12 => ?_)
    · replace h := (if_pos c12).symm.trans h
      refine g_aload_n hz 1 d_R_added_56 rfl rfl ?_
      refine gf_R_added hz q_1018 d_R_added_57 ?_
      refine g_iconst hz d_R_added_60 ki_0 ?_
      obtain ⟨n13, h⟩ := gd_use h
      refine g_iald hz (by decide) n13 d_R_added_61 ?_
      refine g_nmi (fun x14 e15 => ?_)
      replace h := nm_use h e15
      refine g_istore hz (L' := [(4, .int x14), (3, .int vt0), (0, .ref 176), (1, .int v1), (2, .int v2)]) d_R_added_62 (by decide) rfl ?_
      refine g_aload_n hz 2 d_R_added_64 rfl rfl ?_
      refine gf_R_added hz q_1018 d_R_added_65 ?_
      refine g_iconst hz d_R_added_68 ki_0 ?_
      obtain ⟨n16, h⟩ := gd_use h
      refine g_iald hz (by decide) n16 d_R_added_69 ?_
      refine g_nmi (fun x17 e18 => ?_)
      replace h := nm_use h e18
      refine g_istore hz (L' := [(5, .int x17), (4, .int x14), (3, .int vt0), (0, .ref 176), (1, .int v1), (2, .int v2)]) d_R_added_70 (by decide) rfl ?_
      refine g_iconst hz d_R_added_72 ki_1 ?_
      refine g_istore hz (L' := [(6, .int 1), (5, .int x17), (4, .int x14), (3, .int vt0), (0, .ref 176), (1, .int v1), (2, .int v2)]) d_R_added_73 (by decide) rfl ?_
      refine g_sub [4, 2, 1, 0] rfl ?_
      exact w_R_added_75 hz hq KF x14 x17 1 _ h
    · replace h := (if_neg c12).symm.trans h
      refine g_aload_n hz 1 d_R_added_49 rfl rfl ?_
      refine gf_R_added hz q_1018 d_R_added_50 ?_
      refine g_iload_n hz 2 d_R_added_53 rfl rfl ?_
      obtain ⟨n28, h⟩ := gd_use h
      refine g_iald hz (by decide) n28 d_R_added_54 ?_
      exact g_iret hz (rti h hq) d_R_added_55
  · replace h := (if_neg c5).symm.trans h
    refine g_aload_n hz 1 d_R_added_26 rfl rfl ?_
    refine g_iload_n hz 0 d_R_added_27 rfl rfl ?_
    refine bn_use h (fun x31 s30 e29 h => ?_)
    refine g_callVi hz (c_R_no l e29) (by decide) rc_R rfl rfl m_R_no mi_R_no ms_R_no q_1107 ⟨Nat.le_of_ble_eq_true rfl, Nat.le_of_ble_eq_true rfl⟩ rfl (st := []) rfl (Nat.le_of_ble_eq_true rfl) d_R_added_28 ?_
    exact g_iret hz (rti h hq) d_R_added_31
def f_R_added (s : Mm) (a1 : Int32) (a2 : Int32) : Option (Int32 × Mm) :=
  if a1 = (-1) then
    bn (f_R_notMonths s a2) fun x4 s3 =>
    k_R_added_21 a1 a2 x4 s3
  else
    bn (f_R_isFriend s a1) fun x34 s33 =>
    if x34 = 0 then
      k_R_added_21 a1 a2 (-1) s33
    else
      bn (f_R_notMonths s33 a2) fun x38 s37 =>
      k_R_added_21 a1 a2 x38 s37
set_option maxRecDepth 20000 in
theorem c_R_added (l : Launch) {s : Mm} {a1 : Int32} {a2 : Int32} {r' : Int32} {s' : Mm}  (h : f_R_added s a1 a2 = some (r', s')) : Cm l y_R_added b_R_added 7 (some .int) 6 133 [.ref 176, .int a1, .int a2] s s' (some (.int r')) := by
  refine Cm.of (own := "PassedOnAndBetterModel") (by decide) rfl (fun ad => Nat.le_of_ble_eq_true rfl) ?_
  intro z hz hq
  show G l z b_R_added 7 0 [(0, .ref 176), (1, .int a1), (2, .int a2)] [] s
  unfold f_R_added at h
  refine g_iload_n hz 1 d_R_added_0 rfl rfl ?_
  refine g_iconst hz d_R_added_1 ki_m1 ?_
  refine g_icmp_eq hz (tgt := 17) d_R_added_2 (by decide) (fun c1 => ?_) (fun c1 => ?_)
  · replace h := (if_pos c1).symm.trans h
    refine g_iload_n hz 2 d_R_added_17 rfl rfl ?_
    refine bn_use h (fun x4 s3 e2 h => ?_)
    refine g_callSi hz (c_R_notMonths l e2) m_R_notMonths mi_R_notMonths q_1291 ⟨Nat.le_of_ble_eq_true rfl, Nat.le_of_ble_eq_true rfl⟩ rfl (st := []) rfl (Nat.le_of_ble_eq_true rfl) d_R_added_18 ?_
    exact w_R_added_21 hz hq a1 a2 x4 _ h
  · replace h := (if_neg c1).symm.trans h
    refine g_aload_n hz 0 d_R_added_5 rfl rfl ?_
    refine g_iload_n hz 1 d_R_added_6 rfl rfl ?_
    refine bn_use h (fun x34 s33 e32 h => ?_)
    refine g_callVi hz (c_R_isFriend l e32) (by decide) rc_R rfl rfl m_R_isFriend mi_R_isFriend ms_R_isFriend q_1162 ⟨Nat.le_of_ble_eq_true rfl, Nat.le_of_ble_eq_true rfl⟩ rfl (st := []) rfl (Nat.le_of_ble_eq_true rfl) d_R_added_7 ?_
    refine g_if_ne hz (tgt := 17) d_R_added_10 (by decide) (fun c35 => ?_) (fun c35 => ?_)
    · replace h := (if_neg c35).symm.trans h
      refine g_iload_n hz 2 d_R_added_17 rfl rfl ?_
      refine bn_use h (fun x38 s37 e36 h => ?_)
      refine g_callSi hz (c_R_notMonths l e36) m_R_notMonths mi_R_notMonths q_1291 ⟨Nat.le_of_ble_eq_true rfl, Nat.le_of_ble_eq_true rfl⟩ rfl (st := []) rfl (Nat.le_of_ble_eq_true rfl) d_R_added_18 ?_
      exact w_R_added_21 hz hq a1 a2 x38 _ h
    · replace h := (if_pos c35).symm.trans h
      refine g_iconst hz d_R_added_13 ki_m1 ?_
      refine g_goto hz (tgt := 21) d_R_added_14 (by decide) ?_
      exact w_R_added_21 hz hq a1 a2 (-1) _ h
def k_R_dearest_21 : Nat → Int32 → Int32 → Int32 → Mm → Option (Int32 × Mm)
  | 0, _, _, _, _ => none
  | n + 1, v1, v2, v3, s => if (s 176 12) ≤ v3 then
      some (v2, s)
    else
      if v2 < 0 then
        k_R_dearest_21 n v1 v3 (v3 + 1) s
      else
        if v1 = 0 then
          gd v3 4 <|
          gd v2 4 <|
          if (s 182 v3.toNatClampNeg) ≤ (s 182 v2.toNatClampNeg) then
            k_R_dearest_21 n v1 v2 (v3 + 1) s
          else
            k_R_dearest_21 n v1 v3 (v3 + 1) s
        else
          gd v3 4 <|
          gd v2 4 <|
          if (s 183 v3.toNatClampNeg) ≤ (s 183 v2.toNatClampNeg) then
            k_R_dearest_21 n v1 v2 (v3 + 1) s
          else
            k_R_dearest_21 n v1 v3 (v3 + 1) s
set_option maxRecDepth 20000 in
theorem w_R_dearest_21 {l : Launch} {z : Zt} (hz : ZOk z b_R_dearest 4 "PassedOnAndBetterModel" 1 22) {r' : Int32} {s' : Mm} (hq : ZR z (some .int) s' (some (.int r'))) : ∀ (n : Nat) (v1 : Int32) (v2 : Int32) (v3 : Int32) (s : Mm), k_R_dearest_21 n v1 v2 v3 s = some (r', s') → G l z b_R_dearest 4 21 [(0, .ref 176), (1, .int v1), (2, .int v2), (3, .int v3)] [] s := by
  intro n
  induction n with
  | zero => intro v1 v2 v3 s h; unfold k_R_dearest_21 at h; cases h
  | succ n ih =>
    intro v1 v2 v3 s h
    unfold k_R_dearest_21 at h
    refine g_iload_n hz 3 d_R_dearest_21 rfl rfl ?_
    refine g_aload_n hz 0 d_R_dearest_22 rfl rfl ?_
    refine gf_R_gifts hz q_1015 d_R_dearest_23 ?_
    refine g_icmp_ge hz (tgt := 78) d_R_dearest_26 (by decide) (fun c5 => ?_) (fun c5 => ?_)
    · replace h := (if_pos c5).symm.trans h
      refine g_iload_n hz 2 d_R_dearest_78 rfl rfl ?_
      exact g_iret hz (rti h hq) d_R_dearest_79
    · replace h := (if_neg c5).symm.trans h
      refine g_iload_n hz 2 d_R_dearest_29 rfl rfl ?_
      refine g_if_lt hz (tgt := 70) d_R_dearest_30 (by decide) (fun c6 => ?_) (fun c6 => ?_)
      · replace h := (if_pos c6).symm.trans h
        refine g_iload_n hz 3 d_R_dearest_70 rfl rfl ?_
        refine g_istore_n hz (L' := [(2, .int v3), (0, .ref 176), (1, .int v1), (3, .int v3)]) d_R_dearest_71 rfl (by decide) rfl ?_
        refine g_iinc hz (v := v3 + 1) (L' := [(3, .int (v3 + 1)), (2, .int v3), (0, .ref 176), (1, .int v1)]) 3 d_R_dearest_72 rfl (congrArg (fun q => v3 + q) ki_1) (by decide) rfl ?_
        refine g_goto hz (tgt := 21) d_R_dearest_75 (by decide) ?_
        refine g_sub [2, 3, 1, 0] rfl ?_
        exact ih v1 v3 (v3 + 1) _ h
      · replace h := (if_neg c6).symm.trans h
        refine g_iload_n hz 1 d_R_dearest_33 rfl rfl ?_
        refine g_if_ne hz (tgt := 55) d_R_dearest_34 (by decide) (fun c7 => ?_) (fun c7 => ?_)
        · replace h := (if_neg c7).symm.trans h
          refine g_aload_n hz 0 d_R_dearest_55 rfl rfl ?_
          refine gf_R_size hz q_1009 d_R_dearest_56 ?_
          refine g_iload_n hz 3 d_R_dearest_59 rfl rfl ?_
          obtain ⟨n8, h⟩ := gd_use h
          refine g_iald hz (by decide) n8 d_R_dearest_60 ?_
          refine g_aload_n hz 0 d_R_dearest_61 rfl rfl ?_
          refine gf_R_size hz q_1009 d_R_dearest_62 ?_
          refine g_iload_n hz 2 d_R_dearest_65 rfl rfl ?_
          obtain ⟨n9, h⟩ := gd_use h
          refine g_iald hz (by decide) n9 d_R_dearest_66 ?_
          refine g_icmp_le hz (tgt := 72) d_R_dearest_67 (by decide) (fun c10 => ?_) (fun c10 => ?_)
          · replace h := (if_pos c10).symm.trans h
            refine g_iinc hz (v := v3 + 1) (L' := [(3, .int (v3 + 1)), (0, .ref 176), (1, .int v1), (2, .int v2)]) 3 d_R_dearest_72 rfl (congrArg (fun q => v3 + q) ki_1) (by decide) rfl ?_
            refine g_goto hz (tgt := 21) d_R_dearest_75 (by decide) ?_
            refine g_sub [1, 2, 3, 0] rfl ?_
            exact ih v1 v2 (v3 + 1) _ h
          · replace h := (if_neg c10).symm.trans h
            refine g_iload_n hz 3 d_R_dearest_70 rfl rfl ?_
            refine g_istore_n hz (L' := [(2, .int v3), (0, .ref 176), (1, .int v1), (3, .int v3)]) d_R_dearest_71 rfl (by decide) rfl ?_
            refine g_iinc hz (v := v3 + 1) (L' := [(3, .int (v3 + 1)), (2, .int v3), (0, .ref 176), (1, .int v1)]) 3 d_R_dearest_72 rfl (congrArg (fun q => v3 + q) ki_1) (by decide) rfl ?_
            refine g_goto hz (tgt := 21) d_R_dearest_75 (by decide) ?_
            refine g_sub [2, 3, 1, 0] rfl ?_
            exact ih v1 v3 (v3 + 1) _ h
        · replace h := (if_pos c7).symm.trans h
          refine g_aload_n hz 0 d_R_dearest_37 rfl rfl ?_
          refine gf_R_worth hz q_1008 d_R_dearest_38 ?_
          refine g_iload_n hz 3 d_R_dearest_41 rfl rfl ?_
          obtain ⟨n11, h⟩ := gd_use h
          refine g_iald hz (by decide) n11 d_R_dearest_42 ?_
          refine g_aload_n hz 0 d_R_dearest_43 rfl rfl ?_
          refine gf_R_worth hz q_1008 d_R_dearest_44 ?_
          refine g_iload_n hz 2 d_R_dearest_47 rfl rfl ?_
          obtain ⟨n12, h⟩ := gd_use h
          refine g_iald hz (by decide) n12 d_R_dearest_48 ?_
          refine g_icmp_le hz (tgt := 72) d_R_dearest_49 (by decide) (fun c13 => ?_) (fun c13 => ?_)
          · replace h := (if_pos c13).symm.trans h
            refine g_iinc hz (v := v3 + 1) (L' := [(3, .int (v3 + 1)), (0, .ref 176), (1, .int v1), (2, .int v2)]) 3 d_R_dearest_72 rfl (congrArg (fun q => v3 + q) ki_1) (by decide) rfl ?_
            refine g_goto hz (tgt := 21) d_R_dearest_75 (by decide) ?_
            refine g_sub [1, 2, 3, 0] rfl ?_
            exact ih v1 v2 (v3 + 1) _ h
          · replace h := (if_neg c13).symm.trans h
            refine g_goto hz (tgt := 70) d_R_dearest_52 (by decide) ?_
            refine g_iload_n hz 3 d_R_dearest_70 rfl rfl ?_
            refine g_istore_n hz (L' := [(2, .int v3), (0, .ref 176), (1, .int v1), (3, .int v3)]) d_R_dearest_71 rfl (by decide) rfl ?_
            refine g_iinc hz (v := v3 + 1) (L' := [(3, .int (v3 + 1)), (2, .int v3), (0, .ref 176), (1, .int v1)]) 3 d_R_dearest_72 rfl (congrArg (fun q => v3 + q) ki_1) (by decide) rfl ?_
            refine g_goto hz (tgt := 21) d_R_dearest_75 (by decide) ?_
            refine g_sub [2, 3, 1, 0] rfl ?_
            exact ih v1 v3 (v3 + 1) _ h
def f_R_dearest (s : Mm) (a1 : Int32) : Option (Int32 × Mm) :=
  bn (f_R_isIn s a1 0 1) fun x3 s2 =>
  if x3 = 0 then
    bn (f_R_no s2 (-2)) fun x16 s15 =>
    some (x16, s15)
  else
    k_R_dearest_21 KF a1 (-9) 0 s2
set_option maxRecDepth 20000 in
theorem c_R_dearest (l : Launch) {s : Mm} {a1 : Int32} {r' : Int32} {s' : Mm}  (h : f_R_dearest s a1 = some (r', s')) : Cm l y_R_dearest b_R_dearest 4 (some .int) 1 22 [.ref 176, .int a1] s s' (some (.int r')) := by
  refine Cm.of (own := "PassedOnAndBetterModel") (by decide) rfl (fun ad => Nat.le_of_ble_eq_true rfl) ?_
  intro z hz hq
  show G l z b_R_dearest 4 0 [(0, .ref 176), (1, .int a1)] [] s
  unfold f_R_dearest at h
  refine g_iload_n hz 1 d_R_dearest_0 rfl rfl ?_
  refine g_iconst hz d_R_dearest_1 ki_0 ?_
  refine g_iconst hz d_R_dearest_2 ki_1 ?_
  refine bn_use h (fun x3 s2 e1 h => ?_)
  refine g_callSi hz (c_R_isIn l e1) m_R_isIn mi_R_isIn q_1131 ⟨Nat.le_of_ble_eq_true rfl, Nat.le_of_ble_eq_true rfl⟩ rfl (st := []) rfl (Nat.le_of_ble_eq_true rfl) d_R_dearest_3 ?_
  refine g_if_ne hz (tgt := 16) d_R_dearest_6 (by decide) (fun c4 => ?_) (fun c4 => ?_)
  · replace h := (if_neg c4).symm.trans h
    refine g_bipush hz (v := (-9)) d_R_dearest_16 (by decide) ?_
    refine g_istore_n hz (L' := [(2, .int (-9)), (0, .ref 176), (1, .int a1)]) d_R_dearest_18 rfl (by decide) rfl ?_
    refine g_iconst hz d_R_dearest_19 ki_0 ?_
    refine g_istore_n hz (L' := [(3, .int 0), (2, .int (-9)), (0, .ref 176), (1, .int a1)]) d_R_dearest_20 rfl (by decide) rfl ?_
    refine g_sub [2, 3, 1, 0] rfl ?_
    exact w_R_dearest_21 hz hq KF a1 (-9) 0 _ h
  · replace h := (if_pos c4).symm.trans h
    refine g_aload_n hz 0 d_R_dearest_9 rfl rfl ?_
    refine g_bipush hz (v := (-2)) d_R_dearest_10 (by decide) ?_
    refine bn_use h (fun x16 s15 e14 h => ?_)
    refine g_callVi hz (c_R_no l e14) (by decide) rc_R rfl rfl m_R_no mi_R_no ms_R_no q_1107 ⟨Nat.le_of_ble_eq_true rfl, Nat.le_of_ble_eq_true rfl⟩ rfl (st := []) rfl (Nat.le_of_ble_eq_true rfl) d_R_dearest_12 ?_
    exact g_iret hz (rti h hq) d_R_dearest_15
def k_R_tooLarge_18 : Nat → Int32 → Int32 → Int32 → Mm → Option (Int32 × Mm)
  | 0, _, _, _, _ => none
  | n + 1, v1, v2, v3, s => if (s 176 11) ≤ v3 then
      some (v2, s)
    else
      gd v1 4 <|
      gd v3 6 <|
      if (s 183 v1.toNatClampNeg) ≤ (s 180 v3.toNatClampNeg) then
        nm (v2 + 0) fun x9 =>
        k_R_tooLarge_18 n v1 x9 (v3 + 1) s
      else
        nm (v2 + 1) fun x11 =>
        k_R_tooLarge_18 n v1 x11 (v3 + 1) s
set_option maxRecDepth 20000 in
theorem w_R_tooLarge_18 {l : Launch} {z : Zt} (hz : ZOk z b_R_tooLarge 4 "PassedOnAndBetterModel" 1 21) {r' : Int32} {s' : Mm} (hq : ZR z (some .int) s' (some (.int r'))) : ∀ (n : Nat) (v1 : Int32) (v2 : Int32) (v3 : Int32) (s : Mm), k_R_tooLarge_18 n v1 v2 v3 s = some (r', s') → G l z b_R_tooLarge 4 18 [(0, .ref 176), (1, .int v1), (2, .int v2), (3, .int v3)] [] s := by
  intro n
  induction n with
  | zero => intro v1 v2 v3 s h; unfold k_R_tooLarge_18 at h; cases h
  | succ n ih =>
    intro v1 v2 v3 s h
    unfold k_R_tooLarge_18 at h
    refine g_iload_n hz 3 d_R_tooLarge_18 rfl rfl ?_
    refine g_aload_n hz 0 d_R_tooLarge_19 rfl rfl ?_
    refine gf_R_friends hz q_1014 d_R_tooLarge_20 ?_
    refine g_icmp_ge hz (tgt := 55) d_R_tooLarge_23 (by decide) (fun c5 => ?_) (fun c5 => ?_)
    · replace h := (if_pos c5).symm.trans h
      refine g_iload_n hz 2 d_R_tooLarge_55 rfl rfl ?_
      exact g_iret hz (rti h hq) d_R_tooLarge_56
    · replace h := (if_neg c5).symm.trans h
      refine g_iload_n hz 2 d_R_tooLarge_26 rfl rfl ?_
      refine g_aload_n hz 0 d_R_tooLarge_27 rfl rfl ?_
      refine gf_R_size hz q_1009 d_R_tooLarge_28 ?_
      refine g_iload_n hz 1 d_R_tooLarge_31 rfl rfl ?_
      obtain ⟨n6, h⟩ := gd_use h
      refine g_iald hz (by decide) n6 d_R_tooLarge_32 ?_
      refine g_aload_n hz 0 d_R_tooLarge_33 rfl rfl ?_
      refine gf_R_door hz q_1006 d_R_tooLarge_34 ?_
      refine g_iload_n hz 3 d_R_tooLarge_37 rfl rfl ?_
      obtain ⟨n7, h⟩ := gd_use h
      refine g_iald hz (by decide) n7 d_R_tooLarge_38 ?_
      refine g_icmp_le hz (tgt := 46) d_R_tooLarge_39 (by decide) (fun c8 => ?_) (fun c8 => ?_)
      · replace h := (if_pos c8).symm.trans h
        refine g_iconst hz d_R_tooLarge_46 ki_0 ?_
        refine g_iadd hz d_R_tooLarge_47 ?_
        refine g_nmi (fun x9 e10 => ?_)
        replace h := nm_use h e10
        refine g_istore_n hz (L' := [(2, .int x9), (0, .ref 176), (1, .int v1), (3, .int v3)]) d_R_tooLarge_48 rfl (by decide) rfl ?_
        refine g_iinc hz (v := v3 + 1) (L' := [(3, .int (v3 + 1)), (2, .int x9), (0, .ref 176), (1, .int v1)]) 3 d_R_tooLarge_49 rfl (congrArg (fun q => v3 + q) ki_1) (by decide) rfl ?_
        refine g_goto hz (tgt := 18) d_R_tooLarge_52 (by decide) ?_
        refine g_sub [2, 3, 1, 0] rfl ?_
        exact ih v1 x9 (v3 + 1) _ h
      · replace h := (if_neg c8).symm.trans h
        refine g_iconst hz d_R_tooLarge_42 ki_1 ?_
        refine g_goto hz (tgt := 47) d_R_tooLarge_43 (by decide) ?_
        refine g_iadd hz d_R_tooLarge_47 ?_
        refine g_nmi (fun x11 e12 => ?_)
        replace h := nm_use h e12
        refine g_istore_n hz (L' := [(2, .int x11), (0, .ref 176), (1, .int v1), (3, .int v3)]) d_R_tooLarge_48 rfl (by decide) rfl ?_
        refine g_iinc hz (v := v3 + 1) (L' := [(3, .int (v3 + 1)), (2, .int x11), (0, .ref 176), (1, .int v1)]) 3 d_R_tooLarge_49 rfl (congrArg (fun q => v3 + q) ki_1) (by decide) rfl ?_
        refine g_goto hz (tgt := 18) d_R_tooLarge_52 (by decide) ?_
        refine g_sub [2, 3, 1, 0] rfl ?_
        exact ih v1 x11 (v3 + 1) _ h
def f_R_tooLarge (s : Mm) (a1 : Int32) : Option (Int32 × Mm) :=
  bn (f_R_isGift s a1) fun x3 s2 =>
  if x3 = 0 then
    bn (f_R_no s2 (-1)) fun x15 s14 =>
    some (x15, s14)
  else
    k_R_tooLarge_18 KF a1 0 0 s2
set_option maxRecDepth 20000 in
theorem c_R_tooLarge (l : Launch) {s : Mm} {a1 : Int32} {r' : Int32} {s' : Mm}  (h : f_R_tooLarge s a1 = some (r', s')) : Cm l y_R_tooLarge b_R_tooLarge 4 (some .int) 1 21 [.ref 176, .int a1] s s' (some (.int r')) := by
  refine Cm.of (own := "PassedOnAndBetterModel") (by decide) rfl (fun ad => Nat.le_of_ble_eq_true rfl) ?_
  intro z hz hq
  show G l z b_R_tooLarge 4 0 [(0, .ref 176), (1, .int a1)] [] s
  unfold f_R_tooLarge at h
  refine g_aload_n hz 0 d_R_tooLarge_0 rfl rfl ?_
  refine g_iload_n hz 1 d_R_tooLarge_1 rfl rfl ?_
  refine bn_use h (fun x3 s2 e1 h => ?_)
  refine g_callVi hz (c_R_isGift l e1) (by decide) rc_R rfl rfl m_R_isGift mi_R_isGift ms_R_isGift q_1186 ⟨Nat.le_of_ble_eq_true rfl, Nat.le_of_ble_eq_true rfl⟩ rfl (st := []) rfl (Nat.le_of_ble_eq_true rfl) d_R_tooLarge_2 ?_
  refine g_if_ne hz (tgt := 14) d_R_tooLarge_5 (by decide) (fun c4 => ?_) (fun c4 => ?_)
  · replace h := (if_neg c4).symm.trans h
    refine g_iconst hz d_R_tooLarge_14 ki_0 ?_
    refine g_istore_n hz (L' := [(2, .int 0), (0, .ref 176), (1, .int a1)]) d_R_tooLarge_15 rfl (by decide) rfl ?_
    refine g_iconst hz d_R_tooLarge_16 ki_0 ?_
    refine g_istore_n hz (L' := [(3, .int 0), (2, .int 0), (0, .ref 176), (1, .int a1)]) d_R_tooLarge_17 rfl (by decide) rfl ?_
    refine g_sub [2, 3, 1, 0] rfl ?_
    exact w_R_tooLarge_18 hz hq KF a1 0 0 _ h
  · replace h := (if_pos c4).symm.trans h
    refine g_aload_n hz 0 d_R_tooLarge_8 rfl rfl ?_
    refine g_iconst hz d_R_tooLarge_9 ki_m1 ?_
    refine bn_use h (fun x15 s14 e13 h => ?_)
    refine g_callVi hz (c_R_no l e13) (by decide) rc_R rfl rfl m_R_no mi_R_no ms_R_no q_1107 ⟨Nat.le_of_ble_eq_true rfl, Nat.le_of_ble_eq_true rfl⟩ rfl (st := []) rfl (Nat.le_of_ble_eq_true rfl) d_R_tooLarge_10 ?_
    exact g_iret hz (rti h hq) d_R_tooLarge_13
def k_R_hasty_21 : Nat → Int32 → Int32 → Int32 → Mm → Option (Int32 × Mm)
  | 0, _, _, _, _ => none
  | n + 1, v1, v2, v3, s => if (s 176 11) ≤ v3 then
      some (v2, s)
    else
      if v2 < 0 then
        k_R_hasty_21 n v1 v3 (v3 + 1) s
      else
        if v1 = 0 then
          bn (f_R_waitsOf s v3) fun x13 s12 =>
          bn (f_R_waitsOf s12 v2) fun x16 s15 =>
          if x16 ≤ x13 then
            k_R_hasty_21 n v1 v2 (v3 + 1) s15
          else
            k_R_hasty_21 n v1 v3 (v3 + 1) s15
        else
          gd v3 6 <|
          gd v2 6 <|
          if (s 180 v2.toNatClampNeg) ≤ (s 180 v3.toNatClampNeg) then
            k_R_hasty_21 n v1 v2 (v3 + 1) s
          else
            k_R_hasty_21 n v1 v3 (v3 + 1) s
set_option maxRecDepth 20000 in
theorem w_R_hasty_21 {l : Launch} {z : Zt} (hz : ZOk z b_R_hasty 4 "PassedOnAndBetterModel" 1 22) {r' : Int32} {s' : Mm} (hq : ZR z (some .int) s' (some (.int r'))) : ∀ (n : Nat) (v1 : Int32) (v2 : Int32) (v3 : Int32) (s : Mm), k_R_hasty_21 n v1 v2 v3 s = some (r', s') → G l z b_R_hasty 4 21 [(0, .ref 176), (1, .int v1), (2, .int v2), (3, .int v3)] [] s := by
  intro n
  induction n with
  | zero => intro v1 v2 v3 s h; unfold k_R_hasty_21 at h; cases h
  | succ n ih =>
    intro v1 v2 v3 s h
    unfold k_R_hasty_21 at h
    refine g_iload_n hz 3 d_R_hasty_21 rfl rfl ?_
    refine g_aload_n hz 0 d_R_hasty_22 rfl rfl ?_
    refine gf_R_friends hz q_1014 d_R_hasty_23 ?_
    refine g_icmp_ge hz (tgt := 76) d_R_hasty_26 (by decide) (fun c5 => ?_) (fun c5 => ?_)
    · replace h := (if_pos c5).symm.trans h
      refine g_iload_n hz 2 d_R_hasty_76 rfl rfl ?_
      exact g_iret hz (rti h hq) d_R_hasty_77
    · replace h := (if_neg c5).symm.trans h
      refine g_iload_n hz 2 d_R_hasty_29 rfl rfl ?_
      refine g_if_lt hz (tgt := 68) d_R_hasty_30 (by decide) (fun c6 => ?_) (fun c6 => ?_)
      · replace h := (if_pos c6).symm.trans h
        refine g_iload_n hz 3 d_R_hasty_68 rfl rfl ?_
        refine g_istore_n hz (L' := [(2, .int v3), (0, .ref 176), (1, .int v1), (3, .int v3)]) d_R_hasty_69 rfl (by decide) rfl ?_
        refine g_iinc hz (v := v3 + 1) (L' := [(3, .int (v3 + 1)), (2, .int v3), (0, .ref 176), (1, .int v1)]) 3 d_R_hasty_70 rfl (congrArg (fun q => v3 + q) ki_1) (by decide) rfl ?_
        refine g_goto hz (tgt := 21) d_R_hasty_73 (by decide) ?_
        refine g_sub [2, 3, 1, 0] rfl ?_
        exact ih v1 v3 (v3 + 1) _ h
      · replace h := (if_neg c6).symm.trans h
        refine g_iload_n hz 1 d_R_hasty_33 rfl rfl ?_
        refine g_if_ne hz (tgt := 53) d_R_hasty_34 (by decide) (fun c7 => ?_) (fun c7 => ?_)
        · replace h := (if_neg c7).symm.trans h
          refine g_aload_n hz 0 d_R_hasty_53 rfl rfl ?_
          refine gf_R_door hz q_1006 d_R_hasty_54 ?_
          refine g_iload_n hz 3 d_R_hasty_57 rfl rfl ?_
          obtain ⟨n8, h⟩ := gd_use h
          refine g_iald hz (by decide) n8 d_R_hasty_58 ?_
          refine g_aload_n hz 0 d_R_hasty_59 rfl rfl ?_
          refine gf_R_door hz q_1006 d_R_hasty_60 ?_
          refine g_iload_n hz 2 d_R_hasty_63 rfl rfl ?_
          obtain ⟨n9, h⟩ := gd_use h
          refine g_iald hz (by decide) n9 d_R_hasty_64 ?_
          refine g_icmp_ge hz (tgt := 70) d_R_hasty_65 (by decide) (fun c10 => ?_) (fun c10 => ?_)
          · replace h := (if_pos c10).symm.trans h
            refine g_iinc hz (v := v3 + 1) (L' := [(3, .int (v3 + 1)), (0, .ref 176), (1, .int v1), (2, .int v2)]) 3 d_R_hasty_70 rfl (congrArg (fun q => v3 + q) ki_1) (by decide) rfl ?_
            refine g_goto hz (tgt := 21) d_R_hasty_73 (by decide) ?_
            refine g_sub [1, 2, 3, 0] rfl ?_
            exact ih v1 v2 (v3 + 1) _ h
          · replace h := (if_neg c10).symm.trans h
            refine g_iload_n hz 3 d_R_hasty_68 rfl rfl ?_
            refine g_istore_n hz (L' := [(2, .int v3), (0, .ref 176), (1, .int v1), (3, .int v3)]) d_R_hasty_69 rfl (by decide) rfl ?_
            refine g_iinc hz (v := v3 + 1) (L' := [(3, .int (v3 + 1)), (2, .int v3), (0, .ref 176), (1, .int v1)]) 3 d_R_hasty_70 rfl (congrArg (fun q => v3 + q) ki_1) (by decide) rfl ?_
            refine g_goto hz (tgt := 21) d_R_hasty_73 (by decide) ?_
            refine g_sub [2, 3, 1, 0] rfl ?_
            exact ih v1 v3 (v3 + 1) _ h
        · replace h := (if_pos c7).symm.trans h
          refine g_aload_n hz 0 d_R_hasty_37 rfl rfl ?_
          refine g_iload_n hz 3 d_R_hasty_38 rfl rfl ?_
          refine bn_use h (fun x13 s12 e11 h => ?_)
          refine g_callVi hz (c_R_waitsOf l e11) (by decide) rc_R rfl rfl m_R_waitsOf mi_R_waitsOf ms_R_waitsOf q_1209 ⟨Nat.le_of_ble_eq_true rfl, Nat.le_of_ble_eq_true rfl⟩ rfl (st := []) rfl (Nat.le_of_ble_eq_true rfl) d_R_hasty_39 ?_
          refine g_aload_n hz 0 d_R_hasty_42 rfl rfl ?_
          refine g_iload_n hz 2 d_R_hasty_43 rfl rfl ?_
          refine bn_use h (fun x16 s15 e14 h => ?_)
          refine g_callVi hz (c_R_waitsOf l e14) (by decide) rc_R rfl rfl m_R_waitsOf mi_R_waitsOf ms_R_waitsOf q_1209 ⟨Nat.le_of_ble_eq_true rfl, Nat.le_of_ble_eq_true rfl⟩ rfl (st := [.int x13]) rfl (Nat.le_of_ble_eq_true rfl) d_R_hasty_44 ?_
          refine g_icmp_ge hz (tgt := 70) d_R_hasty_47 (by decide) (fun c17 => ?_) (fun c17 => ?_)
          · replace h := (if_pos c17).symm.trans h
            refine g_iinc hz (v := v3 + 1) (L' := [(3, .int (v3 + 1)), (0, .ref 176), (1, .int v1), (2, .int v2)]) 3 d_R_hasty_70 rfl (congrArg (fun q => v3 + q) ki_1) (by decide) rfl ?_
            refine g_goto hz (tgt := 21) d_R_hasty_73 (by decide) ?_
            refine g_sub [1, 2, 3, 0] rfl ?_
            exact ih v1 v2 (v3 + 1) _ h
          · replace h := (if_neg c17).symm.trans h
            refine g_goto hz (tgt := 68) d_R_hasty_50 (by decide) ?_
            refine g_iload_n hz 3 d_R_hasty_68 rfl rfl ?_
            refine g_istore_n hz (L' := [(2, .int v3), (0, .ref 176), (1, .int v1), (3, .int v3)]) d_R_hasty_69 rfl (by decide) rfl ?_
            refine g_iinc hz (v := v3 + 1) (L' := [(3, .int (v3 + 1)), (2, .int v3), (0, .ref 176), (1, .int v1)]) 3 d_R_hasty_70 rfl (congrArg (fun q => v3 + q) ki_1) (by decide) rfl ?_
            refine g_goto hz (tgt := 21) d_R_hasty_73 (by decide) ?_
            refine g_sub [2, 3, 1, 0] rfl ?_
            exact ih v1 v3 (v3 + 1) _ h
def f_R_hasty (s : Mm) (a1 : Int32) : Option (Int32 × Mm) :=
  bn (f_R_isIn s a1 0 1) fun x3 s2 =>
  if x3 = 0 then
    bn (f_R_no s2 (-2)) fun x20 s19 =>
    some (x20, s19)
  else
    k_R_hasty_21 KF a1 (-9) 0 s2
set_option maxRecDepth 20000 in
theorem c_R_hasty (l : Launch) {s : Mm} {a1 : Int32} {r' : Int32} {s' : Mm}  (h : f_R_hasty s a1 = some (r', s')) : Cm l y_R_hasty b_R_hasty 4 (some .int) 1 22 [.ref 176, .int a1] s s' (some (.int r')) := by
  refine Cm.of (own := "PassedOnAndBetterModel") (by decide) rfl (fun ad => Nat.le_of_ble_eq_true rfl) ?_
  intro z hz hq
  show G l z b_R_hasty 4 0 [(0, .ref 176), (1, .int a1)] [] s
  unfold f_R_hasty at h
  refine g_iload_n hz 1 d_R_hasty_0 rfl rfl ?_
  refine g_iconst hz d_R_hasty_1 ki_0 ?_
  refine g_iconst hz d_R_hasty_2 ki_1 ?_
  refine bn_use h (fun x3 s2 e1 h => ?_)
  refine g_callSi hz (c_R_isIn l e1) m_R_isIn mi_R_isIn q_1131 ⟨Nat.le_of_ble_eq_true rfl, Nat.le_of_ble_eq_true rfl⟩ rfl (st := []) rfl (Nat.le_of_ble_eq_true rfl) d_R_hasty_3 ?_
  refine g_if_ne hz (tgt := 16) d_R_hasty_6 (by decide) (fun c4 => ?_) (fun c4 => ?_)
  · replace h := (if_neg c4).symm.trans h
    refine g_bipush hz (v := (-9)) d_R_hasty_16 (by decide) ?_
    refine g_istore_n hz (L' := [(2, .int (-9)), (0, .ref 176), (1, .int a1)]) d_R_hasty_18 rfl (by decide) rfl ?_
    refine g_iconst hz d_R_hasty_19 ki_0 ?_
    refine g_istore_n hz (L' := [(3, .int 0), (2, .int (-9)), (0, .ref 176), (1, .int a1)]) d_R_hasty_20 rfl (by decide) rfl ?_
    refine g_sub [2, 3, 1, 0] rfl ?_
    exact w_R_hasty_21 hz hq KF a1 (-9) 0 _ h
  · replace h := (if_pos c4).symm.trans h
    refine g_aload_n hz 0 d_R_hasty_9 rfl rfl ?_
    refine g_bipush hz (v := (-2)) d_R_hasty_10 (by decide) ?_
    refine bn_use h (fun x20 s19 e18 h => ?_)
    refine g_callVi hz (c_R_no l e18) (by decide) rc_R rfl rfl m_R_no mi_R_no ms_R_no q_1107 ⟨Nat.le_of_ble_eq_true rfl, Nat.le_of_ble_eq_true rfl⟩ rfl (st := []) rfl (Nat.le_of_ble_eq_true rfl) d_R_hasty_12 ?_
    exact g_iret hz (rti h hq) d_R_hasty_15
def f_R_mean (s : Mm) (a1 : Int32) : Option (Int64 × Mm) :=
  bn (f_R_isIn s a1 0 1) fun x3 s2 =>
  if x3 = 0 then
    bn (f_R_lowestOf s2 (-2)) fun x14 s13 =>
    some (x14, s13)
  else
    if (s2 176 12) = 0 then
      some (a1.toInt64, s2)
    else
      bn (f_R_sum s2 182 (s2 176 12)) fun x8 s7 =>
      bn (f_R_partOf s7 (x8.toInt64) ((s7 176 12 : Int32).toInt64) a1) fun x11 s10 =>
      some (x11, s10)
set_option maxRecDepth 20000 in
theorem c_R_mean (l : Launch) {s : Mm} {a1 : Int32} {r' : Int64} {s' : Mm}  (h : f_R_mean s a1 = some (r', s')) : Cm l y_R_mean b_R_mean 2 (some .long) 2 53 [.ref 176, .int a1] s s' (some (.long r')) := by
  refine Cm.of (own := "PassedOnAndBetterModel") (by decide) rfl (fun ad => Nat.le_of_ble_eq_true rfl) ?_
  intro z hz hq
  show G l z b_R_mean 2 0 [(0, .ref 176), (1, .int a1)] [] s
  unfold f_R_mean at h
  refine g_iload_n hz 1 d_R_mean_0 rfl rfl ?_
  refine g_iconst hz d_R_mean_1 ki_0 ?_
  refine g_iconst hz d_R_mean_2 ki_1 ?_
  refine bn_use h (fun x3 s2 e1 h => ?_)
  refine g_callSi hz (c_R_isIn l e1) m_R_isIn mi_R_isIn q_1131 ⟨Nat.le_of_ble_eq_true rfl, Nat.le_of_ble_eq_true rfl⟩ rfl (st := []) rfl (Nat.le_of_ble_eq_true rfl) d_R_mean_3 ?_
  refine g_if_ne hz (tgt := 16) d_R_mean_6 (by decide) (fun c4 => ?_) (fun c4 => ?_)
  · replace h := (if_neg c4).symm.trans h
    refine g_aload_n hz 0 d_R_mean_16 rfl rfl ?_
    refine gf_R_gifts hz q_1015 d_R_mean_17 ?_
    refine g_if_ne hz (tgt := 28) d_R_mean_20 (by decide) (fun c5 => ?_) (fun c5 => ?_)
    · replace h := (if_neg c5).symm.trans h
      refine g_aload_n hz 0 d_R_mean_28 rfl rfl ?_
      refine gf_R_worth hz q_1008 d_R_mean_29 ?_
      refine g_aload_n hz 0 d_R_mean_32 rfl rfl ?_
      refine gf_R_gifts hz q_1015 d_R_mean_33 ?_
      refine bn_use h (fun x8 s7 e6 h => ?_)
      refine g_callSi hz (c_R_sum l (by decide) e6) m_R_sum mi_R_sum q_1284 ⟨Nat.le_of_ble_eq_true rfl, Nat.le_of_ble_eq_true rfl⟩ rfl (st := []) rfl (Nat.le_of_ble_eq_true rfl) d_R_mean_36 ?_
      refine g_i2l hz d_R_mean_39 ?_
      refine g_aload_n hz 0 d_R_mean_40 rfl rfl ?_
      refine gf_R_gifts hz q_1015 d_R_mean_41 ?_
      refine g_i2l hz d_R_mean_44 ?_
      refine g_iload_n hz 1 d_R_mean_45 rfl rfl ?_
      refine bn_use h (fun x11 s10 e9 h => ?_)
      refine g_callSl hz (c_R_partOf l e9) m_R_partOf mi_R_partOf q_1446 ⟨Nat.le_of_ble_eq_true rfl, Nat.le_of_ble_eq_true rfl⟩ rfl (st := []) rfl (Nat.le_of_ble_eq_true rfl) d_R_mean_46 ?_
      exact g_lret hz (rtl h hq) d_R_mean_49
    · replace h := (if_pos c5).symm.trans h
      refine g_iload_n hz 1 d_R_mean_23 rfl rfl ?_
      refine g_i2l hz d_R_mean_24 ?_
      refine g_goto hz (tgt := 49) d_R_mean_25 (by decide) ?_
      exact g_lret hz (rtl h hq) d_R_mean_49
  · replace h := (if_pos c4).symm.trans h
    refine g_aload_n hz 0 d_R_mean_9 rfl rfl ?_
    refine g_bipush hz (v := (-2)) d_R_mean_10 (by decide) ?_
    refine bn_use h (fun x14 s13 e12 h => ?_)
    refine g_callVl hz (c_R_lowestOf l e12) (by decide) rc_R rfl rfl m_R_lowestOf mi_R_lowestOf ms_R_lowestOf q_1441 ⟨Nat.le_of_ble_eq_true rfl, Nat.le_of_ble_eq_true rfl⟩ rfl (st := []) rfl (Nat.le_of_ble_eq_true rfl) d_R_mean_12 ?_
    exact g_lret hz (rtl h hq) d_R_mean_15
def k_R_meet_70 (kc37 : (Int32 → Int32 → Int32 → Int32 → Mm → Option (Int32 × Mm))) (v1 : Int32) (v2 : Int32) (v4 : Int32) (vt0 : Int32) (s : Mm) : Option (Int32 × Mm) :=
  bv (f_R_goesMonth s 0) fun s28 =>
  kc37 v1 v2 vt0 (v4 + 1) s28
set_option maxRecDepth 20000 in
theorem w_R_meet_70 {l : Launch} {z : Zt} (hz : ZOk z b_R_meet 5 "PassedOnAndBetterModel" 5 111) {r' : Int32} {s' : Mm} (hq : ZR z (some .int) s' (some (.int r'))) {kc37 : (Int32 → Int32 → Int32 → Int32 → Mm → Option (Int32 × Mm))} (hk37 : (∀ (v1 : Int32) (v2 : Int32) (v3 : Int32) (v4 : Int32) (s : Mm), kc37 v1 v2 v3 v4 s = some (r', s') → G l z b_R_meet 5 37 [(0, .ref 176), (1, .int v1), (2, .int v2), (3, .int v3), (4, .int v4)] [] s)) (v1 : Int32) (v2 : Int32) (v4 : Int32) (vt0 : Int32) (s : Mm) (h : k_R_meet_70 kc37 v1 v2 v4 vt0 s = some (r', s')) : G l z b_R_meet 5 70 [(0, .ref 176), (1, .int v1), (2, .int v2), (4, .int v4)] [.int vt0] s := by
  unfold k_R_meet_70 at h
  refine g_istore_n hz (L' := [(3, .int vt0), (0, .ref 176), (1, .int v1), (2, .int v2), (4, .int v4)]) d_R_meet_70 rfl (by decide) rfl ?_
  refine g_aload_n hz 1 d_R_meet_71 rfl rfl ?_
  refine g_iconst hz d_R_meet_72 ki_0 ?_
  refine bv_use h (fun s28 e27 h => ?_)
  refine g_callVv hz (c_R_goesMonth l e27) (by decide) rc_R rfl rfl m_R_goesMonth mi_R_goesMonth ms_R_goesMonth q_1198 ⟨Nat.le_of_ble_eq_true rfl, Nat.le_of_ble_eq_true rfl⟩ rfl (st := []) rfl (Nat.le_of_ble_eq_true rfl) d_R_meet_73 ?_
  refine g_iinc hz (v := v4 + 1) (L' := [(4, .int (v4 + 1)), (3, .int vt0), (0, .ref 176), (1, .int v1), (2, .int v2)]) 4 d_R_meet_76 rfl (congrArg (fun q => v4 + q) ki_1) (by decide) rfl ?_
  refine g_goto hz (tgt := 37) d_R_meet_79 (by decide) ?_
  refine g_sub [2, 3, 4, 1, 0] rfl ?_
  exact hk37 v1 v2 vt0 (v4 + 1) _ h
def k_R_meet_37 : Nat → Int32 → Int32 → Int32 → Int32 → Mm → Option (Int32 × Mm)
  | 0, _, _, _, _, _ => none
  | n + 1, v1, v2, v3, v4, s => if 60 < v4 then
      bv (f_R_forgets s) fun s20 =>
      some (v3, s20)
    else
      if 0 ≤ v3 then
        bv (f_R_forgets s) fun s23 =>
        some (v3, s23)
      else
        gd v1 4 <|
        gd v2 4 <|
        if (s 184 v1.toNatClampNeg) = (s 184 v2.toNatClampNeg) then
          k_R_meet_70 (fun v1 v2 v3 v4 s => k_R_meet_37 n v1 v2 v3 v4 s) v1 v2 v4 v4 s
        else
          k_R_meet_70 (fun v1 v2 v3 v4 s => k_R_meet_37 n v1 v2 v3 v4 s) v1 v2 v4 (-9) s
set_option maxRecDepth 20000 in
theorem w_R_meet_37 {l : Launch} {z : Zt} (hz : ZOk z b_R_meet 5 "PassedOnAndBetterModel" 5 111) {r' : Int32} {s' : Mm} (hq : ZR z (some .int) s' (some (.int r'))) : ∀ (n : Nat) (v1 : Int32) (v2 : Int32) (v3 : Int32) (v4 : Int32) (s : Mm), k_R_meet_37 n v1 v2 v3 v4 s = some (r', s') → G l z b_R_meet 5 37 [(0, .ref 176), (1, .int v1), (2, .int v2), (3, .int v3), (4, .int v4)] [] s := by
  intro n
  induction n with
  | zero => intro v1 v2 v3 v4 s h; unfold k_R_meet_37 at h; cases h
  | succ n ih =>
    intro v1 v2 v3 v4 s h
    unfold k_R_meet_37 at h
    refine g_iload hz 4 d_R_meet_37 rfl ?_
    refine g_bipush hz (v := 60) d_R_meet_39 (by decide) ?_
    refine g_icmp_gt hz (tgt := 82) d_R_meet_41 (by decide) (fun c18 => ?_) (fun c18 => ?_)
    · replace h := (if_pos c18).symm.trans h
      refine g_aload_n hz 0 d_R_meet_82 rfl rfl ?_
      refine bv_use h (fun s20 e19 h => ?_)
      refine g_callVv hz (c_R_forgets l e19) (by decide) rc_R rfl rfl m_R_forgets mi_R_forgets ms_R_forgets q_1298 ⟨Nat.le_of_ble_eq_true rfl, Nat.le_of_ble_eq_true rfl⟩ rfl (st := []) rfl (Nat.le_of_ble_eq_true rfl) d_R_meet_83 ?_
      refine g_iload_n hz 3 d_R_meet_86 rfl rfl ?_
      exact g_iret hz (rti h hq) d_R_meet_87
    · replace h := (if_neg c18).symm.trans h
      refine g_iload_n hz 3 d_R_meet_44 rfl rfl ?_
      refine g_if_ge hz (tgt := 82) d_R_meet_45 (by decide) (fun c21 => ?_) (fun c21 => ?_)
      · replace h := (if_pos c21).symm.trans h
        refine g_aload_n hz 0 d_R_meet_82 rfl rfl ?_
        refine bv_use h (fun s23 e22 h => ?_)
        refine g_callVv hz (c_R_forgets l e22) (by decide) rc_R rfl rfl m_R_forgets mi_R_forgets ms_R_forgets q_1298 ⟨Nat.le_of_ble_eq_true rfl, Nat.le_of_ble_eq_true rfl⟩ rfl (st := []) rfl (Nat.le_of_ble_eq_true rfl) d_R_meet_83 ?_
        refine g_iload_n hz 3 d_R_meet_86 rfl rfl ?_
        exact g_iret hz (rti h hq) d_R_meet_87
      · replace h := (if_neg c21).symm.trans h
        refine g_aload_n hz 0 d_R_meet_48 rfl rfl ?_
        refine gf_R_holder hz q_1010 d_R_meet_49 ?_
        refine g_iload_n hz 1 d_R_meet_52 rfl rfl ?_
        obtain ⟨n24, h⟩ := gd_use h
        refine g_iald hz (by decide) n24 d_R_meet_53 ?_
        refine g_aload_n hz 0 d_R_meet_54 rfl rfl ?_
        refine gf_R_holder hz q_1010 d_R_meet_55 ?_
        refine g_iload_n hz 2 d_R_meet_58 rfl rfl ?_
        obtain ⟨n25, h⟩ := gd_use h
        refine g_iald hz (by decide) n25 d_R_meet_59 ?_
        refine g_icmp_ne hz (tgt := 68) d_R_meet_60 (by decide) (fun c26 => ?_) (fun c26 => ?_)
        · replace h := (if_neg c26).symm.trans h
          refine g_bipush hz (v := (-9)) d_R_meet_68 (by decide) ?_
          refine g_sub [0, 1, 2, 4] rfl ?_
          exact w_R_meet_70 hz hq ih v1 v2 v4 (-9) _ h
        · replace h := (if_pos c26).symm.trans h
          refine g_iload hz 4 d_R_meet_63 rfl ?_
          refine g_goto hz (tgt := 70) d_R_meet_65 (by decide) ?_
          refine g_sub [0, 1, 2, 4] rfl ?_
          exact w_R_meet_70 hz hq ih v1 v2 v4 v4 _ h
def f_R_meet (s : Mm) (a1 : Int32) (a2 : Int32) : Option (Int32 × Mm) :=
  bn (f_R_isGift s a1) fun x3 s2 =>
  if x3 = 0 then
    bn (f_R_no s2 (-1)) fun x7 s6 =>
    some (x7, s6)
  else
    bn (f_R_isGift s2 a2) fun x10 s9 =>
    if x10 = 0 then
      bn (f_R_no s9 (-1)) fun x14 s13 =>
      some (x14, s13)
    else
      if a1 = a2 then
        bn (f_R_no s9 (-1)) fun x31 s30 =>
        some (x31, s30)
      else
        bv (f_R_thinks s9) fun s17 =>
        k_R_meet_37 KF a1 a2 (-9) 0 s17
set_option maxRecDepth 20000 in
theorem c_R_meet (l : Launch) {s : Mm} {a1 : Int32} {a2 : Int32} {r' : Int32} {s' : Mm}  (h : f_R_meet s a1 a2 = some (r', s')) : Cm l y_R_meet b_R_meet 5 (some .int) 5 111 [.ref 176, .int a1, .int a2] s s' (some (.int r')) := by
  refine Cm.of (own := "PassedOnAndBetterModel") (by decide) rfl (fun ad => Nat.le_of_ble_eq_true rfl) ?_
  intro z hz hq
  show G l z b_R_meet 5 0 [(0, .ref 176), (1, .int a1), (2, .int a2)] [] s
  unfold f_R_meet at h
  refine g_aload_n hz 0 d_R_meet_0 rfl rfl ?_
  refine g_iload_n hz 1 d_R_meet_1 rfl rfl ?_
  refine bn_use h (fun x3 s2 e1 h => ?_)
  refine g_callVi hz (c_R_isGift l e1) (by decide) rc_R rfl rfl m_R_isGift mi_R_isGift ms_R_isGift q_1186 ⟨Nat.le_of_ble_eq_true rfl, Nat.le_of_ble_eq_true rfl⟩ rfl (st := []) rfl (Nat.le_of_ble_eq_true rfl) d_R_meet_2 ?_
  refine g_if_eq hz (tgt := 21) d_R_meet_5 (by decide) (fun c4 => ?_) (fun c4 => ?_)
  · replace h := (if_pos c4).symm.trans h
    refine g_aload_n hz 0 d_R_meet_21 rfl rfl ?_
    refine g_iconst hz d_R_meet_22 ki_m1 ?_
    refine bn_use h (fun x7 s6 e5 h => ?_)
    refine g_callVi hz (c_R_no l e5) (by decide) rc_R rfl rfl m_R_no mi_R_no ms_R_no q_1107 ⟨Nat.le_of_ble_eq_true rfl, Nat.le_of_ble_eq_true rfl⟩ rfl (st := []) rfl (Nat.le_of_ble_eq_true rfl) d_R_meet_23 ?_
    exact g_iret hz (rti h hq) d_R_meet_26
  · replace h := (if_neg c4).symm.trans h
    refine g_aload_n hz 0 d_R_meet_8 rfl rfl ?_
    refine g_iload_n hz 2 d_R_meet_9 rfl rfl ?_
    refine bn_use h (fun x10 s9 e8 h => ?_)
    refine g_callVi hz (c_R_isGift l e8) (by decide) rc_R rfl rfl m_R_isGift mi_R_isGift ms_R_isGift q_1186 ⟨Nat.le_of_ble_eq_true rfl, Nat.le_of_ble_eq_true rfl⟩ rfl (st := []) rfl (Nat.le_of_ble_eq_true rfl) d_R_meet_10 ?_
    refine g_if_eq hz (tgt := 21) d_R_meet_13 (by decide) (fun c11 => ?_) (fun c11 => ?_)
    · replace h := (if_pos c11).symm.trans h
      refine g_aload_n hz 0 d_R_meet_21 rfl rfl ?_
      refine g_iconst hz d_R_meet_22 ki_m1 ?_
      refine bn_use h (fun x14 s13 e12 h => ?_)
      refine g_callVi hz (c_R_no l e12) (by decide) rc_R rfl rfl m_R_no mi_R_no ms_R_no q_1107 ⟨Nat.le_of_ble_eq_true rfl, Nat.le_of_ble_eq_true rfl⟩ rfl (st := []) rfl (Nat.le_of_ble_eq_true rfl) d_R_meet_23 ?_
      exact g_iret hz (rti h hq) d_R_meet_26
    · replace h := (if_neg c11).symm.trans h
      refine g_iload_n hz 1 d_R_meet_16 rfl rfl ?_
      refine g_iload_n hz 2 d_R_meet_17 rfl rfl ?_
      refine g_icmp_ne hz (tgt := 27) d_R_meet_18 (by decide) (fun c15 => ?_) (fun c15 => ?_)
      · replace h := (if_neg c15).symm.trans h
        refine g_aload_n hz 0 d_R_meet_27 rfl rfl ?_
        refine bv_use h (fun s17 e16 h => ?_)
        refine g_callVv hz (c_R_thinks l e16) (by decide) rc_R rfl rfl m_R_thinks mi_R_thinks ms_R_thinks q_1294 ⟨Nat.le_of_ble_eq_true rfl, Nat.le_of_ble_eq_true rfl⟩ rfl (st := []) rfl (Nat.le_of_ble_eq_true rfl) d_R_meet_28 ?_
        refine g_bipush hz (v := (-9)) d_R_meet_31 (by decide) ?_
        refine g_istore_n hz (L' := [(3, .int (-9)), (0, .ref 176), (1, .int a1), (2, .int a2)]) d_R_meet_33 rfl (by decide) rfl ?_
        refine g_iconst hz d_R_meet_34 ki_0 ?_
        refine g_istore hz (L' := [(4, .int 0), (3, .int (-9)), (0, .ref 176), (1, .int a1), (2, .int a2)]) d_R_meet_35 (by decide) rfl ?_
        refine g_sub [2, 3, 4, 1, 0] rfl ?_
        exact w_R_meet_37 hz hq KF a1 a2 (-9) 0 _ h
      · replace h := (if_pos c15).symm.trans h
        refine g_aload_n hz 0 d_R_meet_21 rfl rfl ?_
        refine g_iconst hz d_R_meet_22 ki_m1 ?_
        refine bn_use h (fun x31 s30 e29 h => ?_)
        refine g_callVi hz (c_R_no l e29) (by decide) rc_R rfl rfl m_R_no mi_R_no ms_R_no q_1107 ⟨Nat.le_of_ble_eq_true rfl, Nat.le_of_ble_eq_true rfl⟩ rfl (st := []) rfl (Nat.le_of_ble_eq_true rfl) d_R_meet_23 ?_
        exact g_iret hz (rti h hq) d_R_meet_26
