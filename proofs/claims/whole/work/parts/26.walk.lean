def k_R_statement_43 (v1 : Int32) (s : Mm) : Option (Int32 × Mm) :=
  gd (s 176 22) 48 <|
  nm (mU s 190 (s 176 22).toNatClampNeg v1) fun s6 =>
  gd (s6 176 22) 48 <|
  nm (mU s6 191 (s6 176 22).toNatClampNeg (s6 176 21)) fun s9 =>
  nm (mU s9 176 21 ((s9 176 21) + 1)) fun s11 =>
  bn (f_R_readsAll s11 v1 (3 * (s11 176 22))) fun x15 s14 =>
  if x15 = 0 then
    some (0, s14)
  else
    bn (f_R_nextLetter s14) fun x19 s18 =>
    if x19 = 59 then
      nm (mU s18 176 21 ((s18 176 21) + 1)) fun s21 =>
      some (1, s21)
    else
      some (0, s18)
set_option maxRecDepth 20000 in
theorem w_R_statement_43 {l : Launch} {z : Zt} (hz : ZOk z b_R_statement 2 "PassedOnAndBetterModel" 3 68) {r' : Int32} {s' : Mm} (hq : ZR z (some .boolean) s' (some (.int r'))) (v1 : Int32) (s : Mm) (h : k_R_statement_43 v1 s = some (r', s')) : G l z b_R_statement 2 43 [(0, .ref 176), (1, .int v1)] [] s := by
  unfold k_R_statement_43 at h
  refine g_aload_n hz 0 d_R_statement_43 rfl rfl ?_
  refine gf_R_letter hz q_1020 d_R_statement_44 ?_
  refine g_aload_n hz 0 d_R_statement_47 rfl rfl ?_
  refine gf_R_statements hz q_1025 d_R_statement_48 ?_
  refine g_iload_n hz 1 d_R_statement_51 rfl rfl ?_
  obtain ⟨n5, h⟩ := gd_use h
  refine g_iast hz (by decide) n5 d_R_statement_52 (fun s6 e7 => ?_)
  replace h := nm_use h e7
  refine g_aload_n hz 0 d_R_statement_53 rfl rfl ?_
  refine gf_R_letterAt hz q_1021 d_R_statement_54 ?_
  refine g_aload_n hz 0 d_R_statement_57 rfl rfl ?_
  refine gf_R_statements hz q_1025 d_R_statement_58 ?_
  refine g_aload_n hz 0 d_R_statement_61 rfl rfl ?_
  refine gf_R_reading hz q_1024 d_R_statement_62 ?_
  obtain ⟨n8, h⟩ := gd_use h
  refine g_iast hz (by decide) n8 d_R_statement_65 (fun s9 e10 => ?_)
  replace h := nm_use h e10
  refine g_aload_n hz 0 d_R_statement_66 rfl rfl ?_
  refine g_dup hz d_R_statement_67 rfl ?_
  refine gf_R_reading hz q_1024 d_R_statement_68 ?_
  refine g_iconst hz d_R_statement_71 ki_1 ?_
  refine g_iadd hz d_R_statement_72 ?_
  refine pf_R_reading hz q_1024 d_R_statement_73 (fun s11 e12 => ?_)
  replace h := nm_use h e12
  refine g_aload_n hz 0 d_R_statement_76 rfl rfl ?_
  refine g_iload_n hz 1 d_R_statement_77 rfl rfl ?_
  refine g_iconst hz d_R_statement_78 ki_3 ?_
  refine g_aload_n hz 0 d_R_statement_79 rfl rfl ?_
  refine gf_R_statements hz q_1025 d_R_statement_80 ?_
  refine g_imul hz d_R_statement_83 ?_
  refine bn_use h (fun x15 s14 e13 h => ?_)
  refine g_callVi hz (c_R_readsAll l e13) (by decide) rc_R rfl rfl m_R_readsAll mi_R_readsAll ms_R_readsAll q_1123 ⟨Nat.le_of_ble_eq_true rfl, Nat.le_of_ble_eq_true rfl⟩ rfl (st := []) rfl (Nat.le_of_ble_eq_true rfl) d_R_statement_84 ?_
  refine g_if_eq hz (tgt := 99) d_R_statement_87 (by decide) (fun c16 => ?_) (fun c16 => ?_)
  · replace h := (if_pos c16).symm.trans h
    refine g_iconst hz d_R_statement_99 ki_0 ?_
    exact g_zret hz (rti h hq) (Or.inl rfl) d_R_statement_100
  · replace h := (if_neg c16).symm.trans h
    refine g_aload_n hz 0 d_R_statement_90 rfl rfl ?_
    refine bn_use h (fun x19 s18 e17 h => ?_)
    refine g_callVi hz (c_R_nextLetter l e17) (by decide) rc_R rfl rfl m_R_nextLetter mi_R_nextLetter ms_R_nextLetter q_1119 ⟨Nat.le_of_ble_eq_true rfl, Nat.le_of_ble_eq_true rfl⟩ rfl (st := []) rfl (Nat.le_of_ble_eq_true rfl) d_R_statement_91 ?_
    refine g_bipush hz (v := 59) d_R_statement_94 (by decide) ?_
    refine g_icmp_eq hz (tgt := 101) d_R_statement_96 (by decide) (fun c20 => ?_) (fun c20 => ?_)
    · replace h := (if_pos c20).symm.trans h
      refine g_aload_n hz 0 d_R_statement_101 rfl rfl ?_
      refine g_dup hz d_R_statement_102 rfl ?_
      refine gf_R_reading hz q_1024 d_R_statement_103 ?_
      refine g_iconst hz d_R_statement_106 ki_1 ?_
      refine g_iadd hz d_R_statement_107 ?_
      refine pf_R_reading hz q_1024 d_R_statement_108 (fun s21 e22 => ?_)
      replace h := nm_use h e22
      refine g_iconst hz d_R_statement_111 ki_1 ?_
      exact g_zret hz (rti h hq) (Or.inr rfl) d_R_statement_112
    · replace h := (if_neg c20).symm.trans h
      refine g_iconst hz d_R_statement_99 ki_0 ?_
      exact g_zret hz (rti h hq) (Or.inl rfl) d_R_statement_100
def f_R_statement (s : Mm) : Option (Int32 × Mm) :=
  bn (f_R_nextLetter s) fun x3 s2 =>
  if x3 = 102 then
    k_R_statement_43 x3 s2
  else
    if x3 = 110 then
      k_R_statement_43 x3 s2
    else
      if x3 = 100 then
        k_R_statement_43 x3 s2
      else
        if x3 = 103 then
          k_R_statement_43 x3 s2
        else
          if x3 = 104 then
            k_R_statement_43 x3 s2
          else
            if x3 = 109 then
              k_R_statement_43 x3 s2
            else
              some (0, s2)
set_option maxRecDepth 20000 in
theorem c_R_statement (l : Launch) {s : Mm}  {r' : Int32} {s' : Mm}  (h : f_R_statement s = some (r', s')) : Cm l y_R_statement b_R_statement 2 (some .boolean) 3 68 [.ref 176] s s' (some (.int r')) := by
  refine Cm.of (own := "PassedOnAndBetterModel") (by decide) rfl (fun ad => Nat.le_of_ble_eq_true rfl) ?_
  intro z hz hq
  show G l z b_R_statement 2 0 [(0, .ref 176)] [] s
  unfold f_R_statement at h
  refine g_aload_n hz 0 d_R_statement_0 rfl rfl ?_
  refine bn_use h (fun x3 s2 e1 h => ?_)
  refine g_callVi hz (c_R_nextLetter l e1) (by decide) rc_R rfl rfl m_R_nextLetter mi_R_nextLetter ms_R_nextLetter q_1119 ⟨Nat.le_of_ble_eq_true rfl, Nat.le_of_ble_eq_true rfl⟩ rfl (st := []) rfl (Nat.le_of_ble_eq_true rfl) d_R_statement_1 ?_
  refine g_istore_n hz (L' := [(1, .int x3), (0, .ref 176)]) d_R_statement_4 rfl (by decide) rfl ?_
  refine g_iload_n hz 0 d_R_statement_5 rfl rfl ?_
  refine g_bipush hz (v := 102) d_R_statement_6 (by decide) ?_
  refine g_icmp_eq hz (tgt := 43) d_R_statement_8 (by decide) (fun c4 => ?_) (fun c4 => ?_)
  · replace h := (if_pos c4).symm.trans h
    refine g_sub [1, 0] rfl ?_
    exact w_R_statement_43 hz hq x3 _ h
  · replace h := (if_neg c4).symm.trans h
    refine g_iload_n hz 0 d_R_statement_11 rfl rfl ?_
    refine g_bipush hz (v := 110) d_R_statement_12 (by decide) ?_
    refine g_icmp_eq hz (tgt := 43) d_R_statement_14 (by decide) (fun c23 => ?_) (fun c23 => ?_)
    · replace h := (if_pos c23).symm.trans h
      refine g_sub [1, 0] rfl ?_
      exact w_R_statement_43 hz hq x3 _ h
    · replace h := (if_neg c23).symm.trans h
      refine g_iload_n hz 0 d_R_statement_17 rfl rfl ?_
      refine g_bipush hz (v := 100) d_R_statement_18 (by decide) ?_
      refine g_icmp_eq hz (tgt := 43) d_R_statement_20 (by decide) (fun c24 => ?_) (fun c24 => ?_)
      · replace h := (if_pos c24).symm.trans h
        refine g_sub [1, 0] rfl ?_
        exact w_R_statement_43 hz hq x3 _ h
      · replace h := (if_neg c24).symm.trans h
        refine g_iload_n hz 0 d_R_statement_23 rfl rfl ?_
        refine g_bipush hz (v := 103) d_R_statement_24 (by decide) ?_
        refine g_icmp_eq hz (tgt := 43) d_R_statement_26 (by decide) (fun c25 => ?_) (fun c25 => ?_)
        · replace h := (if_pos c25).symm.trans h
          refine g_sub [1, 0] rfl ?_
          exact w_R_statement_43 hz hq x3 _ h
        · replace h := (if_neg c25).symm.trans h
          refine g_iload_n hz 0 d_R_statement_29 rfl rfl ?_
          refine g_bipush hz (v := 104) d_R_statement_30 (by decide) ?_
          refine g_icmp_eq hz (tgt := 43) d_R_statement_32 (by decide) (fun c26 => ?_) (fun c26 => ?_)
          · replace h := (if_pos c26).symm.trans h
            refine g_sub [1, 0] rfl ?_
            exact w_R_statement_43 hz hq x3 _ h
          · replace h := (if_neg c26).symm.trans h
            refine g_iload_n hz 0 d_R_statement_35 rfl rfl ?_
            refine g_bipush hz (v := 109) d_R_statement_36 (by decide) ?_
            refine g_icmp_eq hz (tgt := 43) d_R_statement_38 (by decide) (fun c27 => ?_) (fun c27 => ?_)
            · replace h := (if_pos c27).symm.trans h
              refine g_sub [1, 0] rfl ?_
              exact w_R_statement_43 hz hq x3 _ h
            · replace h := (if_neg c27).symm.trans h
              refine g_iconst hz d_R_statement_41 ki_0 ?_
              exact g_zret hz (rti h hq) (Or.inl rfl) d_R_statement_42
def k_R_passes_42 (kc2 : (Nat → Int32 → Mm → Option Mm)) (o1 : Nat) (v2 : Int32) (s : Mm) : Option Mm :=
  nm (mU s 176 26 ((s 176 26) + 1)) fun s7 =>
  kc2 o1 (v2 + 1) s7
set_option maxRecDepth 20000 in
theorem w_R_passes_42 {l : Launch} {z : Zt} (hz : ZOk z b_R_passes 3 "PassedOnAndBetterModel" 0 0) {s' : Mm} (hq : ZR z none s' none) {kc2 : (Nat → Int32 → Mm → Option Mm)} (hk2 : (∀ (o1 : Nat) (v2 : Int32) (ho1 : iA o1) (s : Mm), kc2 o1 v2 s = some s' → G l z b_R_passes 3 2 [(0, .ref 176), (1, .ref o1), (2, .int v2)] [] s)) (o1 : Nat) (v2 : Int32) (ho1 : iA o1) (s : Mm) (h : k_R_passes_42 kc2 o1 v2 s = some s') : G l z b_R_passes 3 42 [(0, .ref 176), (1, .ref o1), (2, .int v2)] [] s := by
  unfold k_R_passes_42 at h
  refine g_aload_n hz 0 d_R_passes_42 rfl rfl ?_
  refine g_dup hz d_R_passes_43 rfl ?_
  refine gf_R_cursor hz q_1029 d_R_passes_44 ?_
  refine g_iconst hz d_R_passes_47 ki_1 ?_
  refine g_iadd hz d_R_passes_48 ?_
  refine pf_R_cursor hz q_1029 d_R_passes_49 (fun s7 e8 => ?_)
  replace h := nm_use h e8
  refine g_iinc hz (v := v2 + 1) (L' := [(2, .int (v2 + 1)), (0, .ref 176), (1, .ref o1)]) 2 d_R_passes_52 rfl (congrArg (fun q => v2 + q) ki_1) (by decide) rfl ?_
  refine g_goto hz (tgt := 2) d_R_passes_55 (by decide) ?_
  refine g_sub [1, 2, 0] rfl ?_
  exact hk2 o1 (v2 + 1) ho1 _ h
def k_R_passes_2 : Nat → Nat → Int32 → Mm → Option Mm
  | 0, _, _, _ => none
  | n + 1, o1, v2, s => if (Int32.ofNat (aL o1)) ≤ v2 then
      some s
    else
      if (s 176 25) = 0 then
        gd (s 176 26) 561 <|
        gd v2 (aL o1) <|
        nm (mU s o1 v2.toNatClampNeg (s 193 (s 176 26).toNatClampNeg)) fun s5 =>
        k_R_passes_42 (fun o1 v2 s => k_R_passes_2 n o1 v2 s) o1 v2 s5
      else
        gd v2 (aL o1) <|
        gd (s 176 26) 561 <|
        nm (mU s 193 (s 176 26).toNatClampNeg (s o1 v2.toNatClampNeg)) fun s11 =>
        k_R_passes_42 (fun o1 v2 s => k_R_passes_2 n o1 v2 s) o1 v2 s11
set_option maxRecDepth 20000 in
theorem w_R_passes_2 {l : Launch} {z : Zt} (hz : ZOk z b_R_passes 3 "PassedOnAndBetterModel" 0 0) {s' : Mm} (hq : ZR z none s' none) : ∀ (n : Nat) (o1 : Nat) (v2 : Int32) (ho1 : iA o1) (s : Mm), k_R_passes_2 n o1 v2 s = some s' → G l z b_R_passes 3 2 [(0, .ref 176), (1, .ref o1), (2, .int v2)] [] s := by
  intro n
  induction n with
  | zero => intro o1 v2 ho1 s h; unfold k_R_passes_2 at h; cases h
  | succ n ih =>
    intro o1 v2 ho1 s h
    unfold k_R_passes_2 at h
    refine g_iload_n hz 2 d_R_passes_2 rfl rfl ?_
    refine g_aload_n hz 1 d_R_passes_3 rfl rfl ?_
    refine g_alen hz (v := Int32.ofNat (aL o1)) ho1 rfl d_R_passes_4 ?_
    refine g_icmp_ge hz (tgt := 58) d_R_passes_5 (by decide) (fun c1 => ?_) (fun c1 => ?_)
    · replace h := (if_pos c1).symm.trans h
      exact g_vret hz (rtv h hq) d_R_passes_58
    · replace h := (if_neg c1).symm.trans h
      refine g_aload_n hz 0 d_R_passes_8 rfl rfl ?_
      refine gf_R_isKeeping hz q_1028 d_R_passes_9 ?_
      refine g_if_eq hz (tgt := 30) d_R_passes_12 (by decide) (fun c2 => ?_) (fun c2 => ?_)
      · replace h := (if_pos c2).symm.trans h
        refine g_aload_n hz 1 d_R_passes_30 rfl rfl ?_
        refine g_iload_n hz 2 d_R_passes_31 rfl rfl ?_
        refine g_aload_n hz 0 d_R_passes_32 rfl rfl ?_
        refine gf_R_store hz q_1026 d_R_passes_33 ?_
        refine g_aload_n hz 0 d_R_passes_36 rfl rfl ?_
        refine gf_R_cursor hz q_1029 d_R_passes_37 ?_
        obtain ⟨n3, h⟩ := gd_use h
        refine g_iald hz (by decide) n3 d_R_passes_40 ?_
        obtain ⟨n4, h⟩ := gd_use h
        refine g_iast hz ho1 n4 d_R_passes_41 (fun s5 e6 => ?_)
        replace h := nm_use h e6
        exact w_R_passes_42 hz hq ih o1 v2 ho1 _ h
      · replace h := (if_neg c2).symm.trans h
        refine g_aload_n hz 0 d_R_passes_15 rfl rfl ?_
        refine gf_R_store hz q_1026 d_R_passes_16 ?_
        refine g_aload_n hz 0 d_R_passes_19 rfl rfl ?_
        refine gf_R_cursor hz q_1029 d_R_passes_20 ?_
        refine g_aload_n hz 1 d_R_passes_23 rfl rfl ?_
        refine g_iload_n hz 2 d_R_passes_24 rfl rfl ?_
        obtain ⟨n9, h⟩ := gd_use h
        refine g_iald hz ho1 n9 d_R_passes_25 ?_
        obtain ⟨n10, h⟩ := gd_use h
        refine g_iast hz (by decide) n10 d_R_passes_26 (fun s11 e12 => ?_)
        replace h := nm_use h e12
        refine g_goto hz (tgt := 42) d_R_passes_27 (by decide) ?_
        exact w_R_passes_42 hz hq ih o1 v2 ho1 _ h
def f_R_passes (s : Mm) (o1 : Nat) : Option Mm :=
  k_R_passes_2 KF o1 0 s
set_option maxRecDepth 20000 in
theorem c_R_passes (l : Launch) {s : Mm} {o1 : Nat} {s' : Mm} (ho1 : iA o1) (h : f_R_passes s o1 = some s') : Cm l y_R_passes b_R_passes 3 none 0 0 [.ref 176, .ref o1] s s' none := by
  refine Cm.of (own := "PassedOnAndBetterModel") (by decide) rfl (fun ad => Nat.le_of_ble_eq_true rfl) ?_
  intro z hz hq
  show G l z b_R_passes 3 0 [(0, .ref 176), (1, .ref o1)] [] s
  unfold f_R_passes at h
  refine g_iconst hz d_R_passes_0 ki_0 ?_
  refine g_istore_n hz (L' := [(2, .int 0), (0, .ref 176), (1, .ref o1)]) d_R_passes_1 rfl (by decide) rfl ?_
  refine g_sub [1, 2, 0] rfl ?_
  exact w_R_passes_2 hz hq KF o1 0 ho1 _ h
def k_R_passOne_20 (v1 : Int32) (vt0 : Int32) (s : Mm) : Option (Int32 × Mm) :=
  if (s 176 25) = 0 then
    nm (mU s 176 26 ((s 176 26) + 1)) fun s4 =>
    some (vt0, s4)
  else
    gd (s 176 26) 561 <|
    nm (mU s 193 (s 176 26).toNatClampNeg v1) fun s7 =>
    nm (mU s7 176 26 ((s7 176 26) + 1)) fun s9 =>
    some (vt0, s9)
set_option maxRecDepth 20000 in
theorem w_R_passOne_20 {l : Launch} {z : Zt} (hz : ZOk z b_R_passOne 3 "PassedOnAndBetterModel" 0 0) {r' : Int32} {s' : Mm} (hq : ZR z (some .int) s' (some (.int r'))) (v1 : Int32) (vt0 : Int32) (s : Mm) (h : k_R_passOne_20 v1 vt0 s = some (r', s')) : G l z b_R_passOne 3 20 [(0, .ref 176), (1, .int v1)] [.int vt0] s := by
  unfold k_R_passOne_20 at h
  refine g_istore_n hz (L' := [(2, .int vt0), (0, .ref 176), (1, .int v1)]) d_R_passOne_20 rfl (by decide) rfl ?_
  refine g_aload_n hz 1 d_R_passOne_21 rfl rfl ?_
  refine gf_R_isKeeping hz q_1028 d_R_passOne_22 ?_
  refine g_if_eq hz (tgt := 38) d_R_passOne_25 (by decide) (fun c3 => ?_) (fun c3 => ?_)
  · replace h := (if_pos c3).symm.trans h
    refine g_aload_n hz 1 d_R_passOne_38 rfl rfl ?_
    refine g_dup hz d_R_passOne_39 rfl ?_
    refine gf_R_cursor hz q_1029 d_R_passOne_40 ?_
    refine g_iconst hz d_R_passOne_43 ki_1 ?_
    refine g_iadd hz d_R_passOne_44 ?_
    refine pf_R_cursor hz q_1029 d_R_passOne_45 (fun s4 e5 => ?_)
    replace h := nm_use h e5
    refine g_iload_n hz 0 d_R_passOne_48 rfl rfl ?_
    exact g_iret hz (rti h hq) d_R_passOne_49
  · replace h := (if_neg c3).symm.trans h
    refine g_aload_n hz 1 d_R_passOne_28 rfl rfl ?_
    refine gf_R_store hz q_1026 d_R_passOne_29 ?_
    refine g_aload_n hz 1 d_R_passOne_32 rfl rfl ?_
    refine gf_R_cursor hz q_1029 d_R_passOne_33 ?_
    refine g_iload_n hz 2 d_R_passOne_36 rfl rfl ?_
    obtain ⟨n6, h⟩ := gd_use h
    refine g_iast hz (by decide) n6 d_R_passOne_37 (fun s7 e8 => ?_)
    replace h := nm_use h e8
    refine g_aload_n hz 1 d_R_passOne_38 rfl rfl ?_
    refine g_dup hz d_R_passOne_39 rfl ?_
    refine gf_R_cursor hz q_1029 d_R_passOne_40 ?_
    refine g_iconst hz d_R_passOne_43 ki_1 ?_
    refine g_iadd hz d_R_passOne_44 ?_
    refine pf_R_cursor hz q_1029 d_R_passOne_45 (fun s9 e10 => ?_)
    replace h := nm_use h e10
    refine g_iload_n hz 0 d_R_passOne_48 rfl rfl ?_
    exact g_iret hz (rti h hq) d_R_passOne_49
def f_R_passOne (s : Mm) (a1 : Int32) : Option (Int32 × Mm) :=
  if (s 176 25) = 0 then
    gd (s 176 26) 561 <|
    k_R_passOne_20 a1 (s 193 (s 176 26).toNatClampNeg) s
  else
    k_R_passOne_20 a1 a1 s
set_option maxRecDepth 20000 in
theorem c_R_passOne (l : Launch) {s : Mm} {a1 : Int32} {r' : Int32} {s' : Mm}  (h : f_R_passOne s a1 = some (r', s')) : Cm l y_R_passOne b_R_passOne 3 (some .int) 0 0 [.ref 176, .int a1] s s' (some (.int r')) := by
  refine Cm.of (own := "PassedOnAndBetterModel") (by decide) rfl (fun ad => Nat.le_of_ble_eq_true rfl) ?_
  intro z hz hq
  show G l z b_R_passOne 3 0 [(0, .ref 176), (1, .int a1)] [] s
  unfold f_R_passOne at h
  refine g_aload_n hz 0 d_R_passOne_0 rfl rfl ?_
  refine gf_R_isKeeping hz q_1028 d_R_passOne_1 ?_
  refine g_if_eq hz (tgt := 11) d_R_passOne_4 (by decide) (fun c1 => ?_) (fun c1 => ?_)
  · replace h := (if_pos c1).symm.trans h
    refine g_aload_n hz 0 d_R_passOne_11 rfl rfl ?_
    refine gf_R_store hz q_1026 d_R_passOne_12 ?_
    refine g_aload_n hz 0 d_R_passOne_15 rfl rfl ?_
    refine gf_R_cursor hz q_1029 d_R_passOne_16 ?_
    obtain ⟨n2, h⟩ := gd_use h
    refine g_iald hz (by decide) n2 d_R_passOne_19 ?_
    exact w_R_passOne_20 hz hq a1 (s 193 (s 176 26).toNatClampNeg) _ h
  · replace h := (if_neg c1).symm.trans h
    refine g_iload_n hz 1 d_R_passOne_7 rfl rfl ?_
    refine g_goto hz (tgt := 20) d_R_passOne_8 (by decide) ?_
    exact w_R_passOne_20 hz hq a1 a1 _ h
def f_R_passesAll (s : Mm) (a1 : Int32) (a2 : Int32) : Option Mm :=
  nm (mU s 176 26 (51 * a1)) fun s1 =>
  gb a2 <|
  nm (mU s1 176 25 a2) fun s4 =>
  bv (f_R_passes s4 178) fun s7 =>
  bv (f_R_passes s7 179) fun s9 =>
  bv (f_R_passes s9 180) fun s11 =>
  bv (f_R_passes s11 181) fun s13 =>
  bv (f_R_passes s13 182) fun s15 =>
  bv (f_R_passes s15 183) fun s17 =>
  bv (f_R_passes s17 184) fun s19 =>
  bv (f_R_passes s19 185) fun s21 =>
  bv (f_R_passes s21 186) fun s23 =>
  bv (f_R_passes s23 187) fun s25 =>
  bn (f_R_passOne s25 (s25 176 11)) fun x28 s27 =>
  nm (mU s27 176 11 x28) fun s29 =>
  bn (f_R_passOne s29 (s29 176 12)) fun x33 s32 =>
  nm (mU s32 176 12 x33) fun s34 =>
  bn (f_R_passOne s34 (s34 176 13)) fun x38 s37 =>
  nm (mU s37 176 13 x38) fun s39 =>
  some s39
set_option maxRecDepth 20000 in
theorem c_R_passesAll (l : Launch) {s : Mm} {a1 : Int32} {a2 : Int32} {s' : Mm}  (h : f_R_passesAll s a1 a2 = some s') : Cm l y_R_passesAll b_R_passesAll 3 none 1 22 [.ref 176, .int a1, .int a2] s s' none := by
  refine Cm.of (own := "PassedOnAndBetterModel") (by decide) rfl (fun ad => Nat.le_of_ble_eq_true rfl) ?_
  intro z hz hq
  show G l z b_R_passesAll 3 0 [(0, .ref 176), (1, .int a1), (2, .int a2)] [] s
  unfold f_R_passesAll at h
  refine g_aload_n hz 0 d_R_passesAll_0 rfl rfl ?_
  refine g_bipush hz (v := 51) d_R_passesAll_1 (by decide) ?_
  refine g_iload_n hz 1 d_R_passesAll_3 rfl rfl ?_
  refine g_imul hz d_R_passesAll_4 ?_
  refine pf_R_cursor hz q_1029 d_R_passesAll_5 (fun s1 e2 => ?_)
  replace h := nm_use h e2
  refine g_aload_n hz 0 d_R_passesAll_8 rfl rfl ?_
  refine g_iload_n hz 2 d_R_passesAll_9 rfl rfl ?_
  obtain ⟨n3, h⟩ := gb_use h
  refine pf_R_isKeeping hz n3 q_1028 d_R_passesAll_10 (fun s4 e5 => ?_)
  replace h := nm_use h e5
  refine g_aload_n hz 0 d_R_passesAll_13 rfl rfl ?_
  refine g_aload_n hz 0 d_R_passesAll_14 rfl rfl ?_
  refine gf_R_kind hz q_1004 d_R_passesAll_15 ?_
  refine bv_use h (fun s7 e6 h => ?_)
  refine g_callVv hz (c_R_passes l (by decide) e6) (by decide) rc_R rfl rfl m_R_passes mi_R_passes ms_R_passes q_1138 ⟨Nat.le_of_ble_eq_true rfl, Nat.le_of_ble_eq_true rfl⟩ rfl (st := []) rfl (Nat.le_of_ble_eq_true rfl) d_R_passesAll_18 ?_
  refine g_aload_n hz 0 d_R_passesAll_21 rfl rfl ?_
  refine g_aload_n hz 0 d_R_passesAll_22 rfl rfl ?_
  refine gf_R_figure hz q_1005 d_R_passesAll_23 ?_
  refine bv_use h (fun s9 e8 h => ?_)
  refine g_callVv hz (c_R_passes l (by decide) e8) (by decide) rc_R rfl rfl m_R_passes mi_R_passes ms_R_passes q_1138 ⟨Nat.le_of_ble_eq_true rfl, Nat.le_of_ble_eq_true rfl⟩ rfl (st := []) rfl (Nat.le_of_ble_eq_true rfl) d_R_passesAll_26 ?_
  refine g_aload_n hz 0 d_R_passesAll_29 rfl rfl ?_
  refine g_aload_n hz 0 d_R_passesAll_30 rfl rfl ?_
  refine gf_R_door hz q_1006 d_R_passesAll_31 ?_
  refine bv_use h (fun s11 e10 h => ?_)
  refine g_callVv hz (c_R_passes l (by decide) e10) (by decide) rc_R rfl rfl m_R_passes mi_R_passes ms_R_passes q_1138 ⟨Nat.le_of_ble_eq_true rfl, Nat.le_of_ble_eq_true rfl⟩ rfl (st := []) rfl (Nat.le_of_ble_eq_true rfl) d_R_passesAll_34 ?_
  refine g_aload_n hz 0 d_R_passesAll_37 rfl rfl ?_
  refine g_aload_n hz 0 d_R_passesAll_38 rfl rfl ?_
  refine gf_R_next hz q_1007 d_R_passesAll_39 ?_
  refine bv_use h (fun s13 e12 h => ?_)
  refine g_callVv hz (c_R_passes l (by decide) e12) (by decide) rc_R rfl rfl m_R_passes mi_R_passes ms_R_passes q_1138 ⟨Nat.le_of_ble_eq_true rfl, Nat.le_of_ble_eq_true rfl⟩ rfl (st := []) rfl (Nat.le_of_ble_eq_true rfl) d_R_passesAll_42 ?_
  refine g_aload_n hz 0 d_R_passesAll_45 rfl rfl ?_
  refine g_aload_n hz 0 d_R_passesAll_46 rfl rfl ?_
  refine gf_R_worth hz q_1008 d_R_passesAll_47 ?_
  refine bv_use h (fun s15 e14 h => ?_)
  refine g_callVv hz (c_R_passes l (by decide) e14) (by decide) rc_R rfl rfl m_R_passes mi_R_passes ms_R_passes q_1138 ⟨Nat.le_of_ble_eq_true rfl, Nat.le_of_ble_eq_true rfl⟩ rfl (st := []) rfl (Nat.le_of_ble_eq_true rfl) d_R_passesAll_50 ?_
  refine g_aload_n hz 0 d_R_passesAll_53 rfl rfl ?_
  refine g_aload_n hz 0 d_R_passesAll_54 rfl rfl ?_
  refine gf_R_size hz q_1009 d_R_passesAll_55 ?_
  refine bv_use h (fun s17 e16 h => ?_)
  refine g_callVv hz (c_R_passes l (by decide) e16) (by decide) rc_R rfl rfl m_R_passes mi_R_passes ms_R_passes q_1138 ⟨Nat.le_of_ble_eq_true rfl, Nat.le_of_ble_eq_true rfl⟩ rfl (st := []) rfl (Nat.le_of_ble_eq_true rfl) d_R_passesAll_58 ?_
  refine g_aload_n hz 0 d_R_passesAll_61 rfl rfl ?_
  refine g_aload_n hz 0 d_R_passesAll_62 rfl rfl ?_
  refine gf_R_holder hz q_1010 d_R_passesAll_63 ?_
  refine bv_use h (fun s19 e18 h => ?_)
  refine g_callVv hz (c_R_passes l (by decide) e18) (by decide) rc_R rfl rfl m_R_passes mi_R_passes ms_R_passes q_1138 ⟨Nat.le_of_ble_eq_true rfl, Nat.le_of_ble_eq_true rfl⟩ rfl (st := []) rfl (Nat.le_of_ble_eq_true rfl) d_R_passesAll_66 ?_
  refine g_aload_n hz 0 d_R_passesAll_69 rfl rfl ?_
  refine g_aload_n hz 0 d_R_passesAll_70 rfl rfl ?_
  refine gf_R_kept hz q_1011 d_R_passesAll_71 ?_
  refine bv_use h (fun s21 e20 h => ?_)
  refine g_callVv hz (c_R_passes l (by decide) e20) (by decide) rc_R rfl rfl m_R_passes mi_R_passes ms_R_passes q_1138 ⟨Nat.le_of_ble_eq_true rfl, Nat.le_of_ble_eq_true rfl⟩ rfl (st := []) rfl (Nat.le_of_ble_eq_true rfl) d_R_passesAll_74 ?_
  refine g_aload_n hz 0 d_R_passesAll_77 rfl rfl ?_
  refine g_aload_n hz 0 d_R_passesAll_78 rfl rfl ?_
  refine gf_R_bettered hz q_1012 d_R_passesAll_79 ?_
  refine bv_use h (fun s23 e22 h => ?_)
  refine g_callVv hz (c_R_passes l (by decide) e22) (by decide) rc_R rfl rfl m_R_passes mi_R_passes ms_R_passes q_1138 ⟨Nat.le_of_ble_eq_true rfl, Nat.le_of_ble_eq_true rfl⟩ rfl (st := []) rfl (Nat.le_of_ble_eq_true rfl) d_R_passesAll_82 ?_
  refine g_aload_n hz 0 d_R_passesAll_85 rfl rfl ?_
  refine g_aload_n hz 0 d_R_passesAll_86 rfl rfl ?_
  refine gf_R_given hz q_1013 d_R_passesAll_87 ?_
  refine bv_use h (fun s25 e24 h => ?_)
  refine g_callVv hz (c_R_passes l (by decide) e24) (by decide) rc_R rfl rfl m_R_passes mi_R_passes ms_R_passes q_1138 ⟨Nat.le_of_ble_eq_true rfl, Nat.le_of_ble_eq_true rfl⟩ rfl (st := []) rfl (Nat.le_of_ble_eq_true rfl) d_R_passesAll_90 ?_
  refine g_aload_n hz 0 d_R_passesAll_93 rfl rfl ?_
  refine g_aload_n hz 0 d_R_passesAll_94 rfl rfl ?_
  refine g_aload_n hz 0 d_R_passesAll_95 rfl rfl ?_
  refine gf_R_friends hz q_1014 d_R_passesAll_96 ?_
  refine bn_use h (fun x28 s27 e26 h => ?_)
  refine g_callVi hz (c_R_passOne l e26) (by decide) rc_R rfl rfl m_R_passOne mi_R_passOne ms_R_passOne q_1142 ⟨Nat.le_of_ble_eq_true rfl, Nat.le_of_ble_eq_true rfl⟩ rfl (st := [.ref 176]) rfl (Nat.le_of_ble_eq_true rfl) d_R_passesAll_99 ?_
  refine pf_R_friends hz q_1014 d_R_passesAll_102 (fun s29 e30 => ?_)
  replace h := nm_use h e30
  refine g_aload_n hz 0 d_R_passesAll_105 rfl rfl ?_
  refine g_aload_n hz 0 d_R_passesAll_106 rfl rfl ?_
  refine g_aload_n hz 0 d_R_passesAll_107 rfl rfl ?_
  refine gf_R_gifts hz q_1015 d_R_passesAll_108 ?_
  refine bn_use h (fun x33 s32 e31 h => ?_)
  refine g_callVi hz (c_R_passOne l e31) (by decide) rc_R rfl rfl m_R_passOne mi_R_passOne ms_R_passOne q_1142 ⟨Nat.le_of_ble_eq_true rfl, Nat.le_of_ble_eq_true rfl⟩ rfl (st := [.ref 176]) rfl (Nat.le_of_ble_eq_true rfl) d_R_passesAll_111 ?_
  refine pf_R_gifts hz q_1015 d_R_passesAll_114 (fun s34 e35 => ?_)
  replace h := nm_use h e35
  refine g_aload_n hz 0 d_R_passesAll_117 rfl rfl ?_
  refine g_aload_n hz 0 d_R_passesAll_118 rfl rfl ?_
  refine g_aload_n hz 0 d_R_passesAll_119 rfl rfl ?_
  refine gf_R_month hz q_1016 d_R_passesAll_120 ?_
  refine bn_use h (fun x38 s37 e36 h => ?_)
  refine g_callVi hz (c_R_passOne l e36) (by decide) rc_R rfl rfl m_R_passOne mi_R_passOne ms_R_passOne q_1142 ⟨Nat.le_of_ble_eq_true rfl, Nat.le_of_ble_eq_true rfl⟩ rfl (st := [.ref 176]) rfl (Nat.le_of_ble_eq_true rfl) d_R_passesAll_123 ?_
  refine pf_R_month hz q_1016 d_R_passesAll_126 (fun s39 e40 => ?_)
  replace h := nm_use h e40
  exact g_vret hz (rtv h hq) d_R_passesAll_129
def f_R_addsFriend (s : Mm) (a1 : Int32) (a2 : Int32) (a3 : Int32) : Option Mm :=
  gd (s 176 11) 6 <|
  nm (mU s 178 (s 176 11).toNatClampNeg a1) fun s2 =>
  gd (s2 176 11) 6 <|
  nm (mU s2 179 (s2 176 11).toNatClampNeg a2) fun s5 =>
  gd (s5 176 11) 6 <|
  nm (mU s5 180 (s5 176 11).toNatClampNeg a3) fun s8 =>
  gd (s8 176 11) 6 <|
  nm (mU s8 181 (s8 176 11).toNatClampNeg (-9)) fun s11 =>
  nm (mU s11 176 11 ((s11 176 11) + 1)) fun s13 =>
  some s13
set_option maxRecDepth 20000 in
theorem c_R_addsFriend (l : Launch) {s : Mm} {a1 : Int32} {a2 : Int32} {a3 : Int32} {s' : Mm}  (h : f_R_addsFriend s a1 a2 a3 = some s') : Cm l y_R_addsFriend b_R_addsFriend 4 none 0 0 [.ref 176, .int a1, .int a2, .int a3] s s' none := by
  refine Cm.of (own := "PassedOnAndBetterModel") (by decide) rfl (fun ad => Nat.le_of_ble_eq_true rfl) ?_
  intro z hz hq
  show G l z b_R_addsFriend 4 0 [(0, .ref 176), (1, .int a1), (2, .int a2), (3, .int a3)] [] s
  unfold f_R_addsFriend at h
  refine g_aload_n hz 0 d_R_addsFriend_0 rfl rfl ?_
  refine gf_R_kind hz q_1004 d_R_addsFriend_1 ?_
  refine g_aload_n hz 0 d_R_addsFriend_4 rfl rfl ?_
  refine gf_R_friends hz q_1014 d_R_addsFriend_5 ?_
  refine g_iload_n hz 1 d_R_addsFriend_8 rfl rfl ?_
  obtain ⟨n1, h⟩ := gd_use h
  refine g_iast hz (by decide) n1 d_R_addsFriend_9 (fun s2 e3 => ?_)
  replace h := nm_use h e3
  refine g_aload_n hz 0 d_R_addsFriend_10 rfl rfl ?_
  refine gf_R_figure hz q_1005 d_R_addsFriend_11 ?_
  refine g_aload_n hz 0 d_R_addsFriend_14 rfl rfl ?_
  refine gf_R_friends hz q_1014 d_R_addsFriend_15 ?_
  refine g_iload_n hz 2 d_R_addsFriend_18 rfl rfl ?_
  obtain ⟨n4, h⟩ := gd_use h
  refine g_iast hz (by decide) n4 d_R_addsFriend_19 (fun s5 e6 => ?_)
  replace h := nm_use h e6
  refine g_aload_n hz 0 d_R_addsFriend_20 rfl rfl ?_
  refine gf_R_door hz q_1006 d_R_addsFriend_21 ?_
  refine g_aload_n hz 0 d_R_addsFriend_24 rfl rfl ?_
  refine gf_R_friends hz q_1014 d_R_addsFriend_25 ?_
  refine g_iload_n hz 3 d_R_addsFriend_28 rfl rfl ?_
  obtain ⟨n7, h⟩ := gd_use h
  refine g_iast hz (by decide) n7 d_R_addsFriend_29 (fun s8 e9 => ?_)
  replace h := nm_use h e9
  refine g_aload_n hz 0 d_R_addsFriend_30 rfl rfl ?_
  refine gf_R_next hz q_1007 d_R_addsFriend_31 ?_
  refine g_aload_n hz 0 d_R_addsFriend_34 rfl rfl ?_
  refine gf_R_friends hz q_1014 d_R_addsFriend_35 ?_
  refine g_bipush hz (v := (-9)) d_R_addsFriend_38 (by decide) ?_
  obtain ⟨n10, h⟩ := gd_use h
  refine g_iast hz (by decide) n10 d_R_addsFriend_40 (fun s11 e12 => ?_)
  replace h := nm_use h e12
  refine g_aload_n hz 0 d_R_addsFriend_41 rfl rfl ?_
  refine g_dup hz d_R_addsFriend_42 rfl ?_
  refine gf_R_friends hz q_1014 d_R_addsFriend_43 ?_
  refine g_iconst hz d_R_addsFriend_46 ki_1 ?_
  refine g_iadd hz d_R_addsFriend_47 ?_
  refine pf_R_friends hz q_1014 d_R_addsFriend_48 (fun s13 e14 => ?_)
  replace h := nm_use h e14
  exact g_vret hz (rtv h hq) d_R_addsFriend_51
def f_R_comesFriend (s : Mm) (a1 : Int32) (a2 : Int32) (a3 : Int32) : Option (Int32 × Mm) :=
  if 5 < a1 then
    some (0, s)
  else
    if a3 = 0 then
      some (0, s)
    else
      if (s 176 11) = 6 then
        some (0, s)
      else
        bv (f_R_addsFriend s a1 a2 a3) fun s5 =>
        some (1, s5)
set_option maxRecDepth 20000 in
theorem c_R_comesFriend (l : Launch) {s : Mm} {a1 : Int32} {a2 : Int32} {a3 : Int32} {r' : Int32} {s' : Mm}  (h : f_R_comesFriend s a1 a2 a3 = some (r', s')) : Cm l y_R_comesFriend b_R_comesFriend 4 (some .boolean) 1 23 [.ref 176, .int a1, .int a2, .int a3] s s' (some (.int r')) := by
  refine Cm.of (own := "PassedOnAndBetterModel") (by decide) rfl (fun ad => Nat.le_of_ble_eq_true rfl) ?_
  intro z hz hq
  show G l z b_R_comesFriend 4 0 [(0, .ref 176), (1, .int a1), (2, .int a2), (3, .int a3)] [] s
  unfold f_R_comesFriend at h
  refine g_iload_n hz 1 d_R_comesFriend_0 rfl rfl ?_
  refine g_iconst hz d_R_comesFriend_1 ki_5 ?_
  refine g_icmp_gt hz (tgt := 18) d_R_comesFriend_2 (by decide) (fun c1 => ?_) (fun c1 => ?_)
  · replace h := (if_pos c1).symm.trans h
    refine g_iconst hz d_R_comesFriend_18 ki_0 ?_
    exact g_zret hz (rti h hq) (Or.inl rfl) d_R_comesFriend_19
  · replace h := (if_neg c1).symm.trans h
    refine g_iload_n hz 3 d_R_comesFriend_5 rfl rfl ?_
    refine g_if_eq hz (tgt := 18) d_R_comesFriend_6 (by decide) (fun c2 => ?_) (fun c2 => ?_)
    · replace h := (if_pos c2).symm.trans h
      refine g_iconst hz d_R_comesFriend_18 ki_0 ?_
      exact g_zret hz (rti h hq) (Or.inl rfl) d_R_comesFriend_19
    · replace h := (if_neg c2).symm.trans h
      refine g_aload_n hz 0 d_R_comesFriend_9 rfl rfl ?_
      refine gf_R_friends hz q_1014 d_R_comesFriend_10 ?_
      refine g_bipush hz (v := 6) d_R_comesFriend_13 (by decide) ?_
      refine g_icmp_ne hz (tgt := 20) d_R_comesFriend_15 (by decide) (fun c3 => ?_) (fun c3 => ?_)
      · replace h := (if_neg c3).symm.trans h
        refine g_aload_n hz 0 d_R_comesFriend_20 rfl rfl ?_
        refine g_iload_n hz 1 d_R_comesFriend_21 rfl rfl ?_
        refine g_iload_n hz 2 d_R_comesFriend_22 rfl rfl ?_
        refine g_iload_n hz 3 d_R_comesFriend_23 rfl rfl ?_
        refine bv_use h (fun s5 e4 h => ?_)
        refine g_callVv hz (c_R_addsFriend l e4) (by decide) rc_R rfl rfl m_R_addsFriend mi_R_addsFriend ms_R_addsFriend q_1154 ⟨Nat.le_of_ble_eq_true rfl, Nat.le_of_ble_eq_true rfl⟩ rfl (st := []) rfl (Nat.le_of_ble_eq_true rfl) d_R_comesFriend_24 ?_
        refine g_iconst hz d_R_comesFriend_27 ki_1 ?_
        exact g_zret hz (rti h hq) (Or.inr rfl) d_R_comesFriend_28
      · replace h := (if_pos c3).symm.trans h
        refine g_iconst hz d_R_comesFriend_18 ki_0 ?_
        exact g_zret hz (rti h hq) (Or.inl rfl) d_R_comesFriend_19
def f_R_isFriend (s : Mm) (a1 : Int32) : Option (Int32 × Mm) :=
  if a1 < 0 then
    some (0, s)
  else
    if (s 176 11) ≤ a1 then
      some (0, s)
    else
      some (1, s)
set_option maxRecDepth 20000 in
theorem c_R_isFriend (l : Launch) {s : Mm} {a1 : Int32} {r' : Int32} {s' : Mm}  (h : f_R_isFriend s a1 = some (r', s')) : Cm l y_R_isFriend b_R_isFriend 2 (some .boolean) 0 0 [.ref 176, .int a1] s s' (some (.int r')) := by
  refine Cm.of (own := "PassedOnAndBetterModel") (by decide) rfl (fun ad => Nat.le_of_ble_eq_true rfl) ?_
  intro z hz hq
  show G l z b_R_isFriend 2 0 [(0, .ref 176), (1, .int a1)] [] s
  unfold f_R_isFriend at h
  refine g_iload_n hz 1 d_R_isFriend_0 rfl rfl ?_
  refine g_if_lt hz (tgt := 16) d_R_isFriend_1 (by decide) (fun c1 => ?_) (fun c1 => ?_)
  · replace h := (if_pos c1).symm.trans h
    refine g_iconst hz d_R_isFriend_16 ki_0 ?_
    exact g_zret hz (rti h hq) (Or.inl rfl) d_R_isFriend_17
  · replace h := (if_neg c1).symm.trans h
    refine g_iload_n hz 1 d_R_isFriend_4 rfl rfl ?_
    refine g_aload_n hz 0 d_R_isFriend_5 rfl rfl ?_
    refine gf_R_friends hz q_1014 d_R_isFriend_6 ?_
    refine g_icmp_ge hz (tgt := 16) d_R_isFriend_9 (by decide) (fun c2 => ?_) (fun c2 => ?_)
    · replace h := (if_pos c2).symm.trans h
      refine g_iconst hz d_R_isFriend_16 ki_0 ?_
      exact g_zret hz (rti h hq) (Or.inl rfl) d_R_isFriend_17
    · replace h := (if_neg c2).symm.trans h
      refine g_iconst hz d_R_isFriend_12 ki_1 ?_
      refine g_goto hz (tgt := 17) d_R_isFriend_13 (by decide) ?_
      exact g_zret hz (rti h hq) (Or.inr rfl) d_R_isFriend_17
def f_R_puts (s : Mm) (a1 : Int32) (a2 : Int32) : Option Mm :=
  gd a1 4 <|
  nm (mU s 184 a1.toNatClampNeg a2) fun s2 =>
  gd a1 4 <|
  nm (mU s2 185 a1.toNatClampNeg 0) fun s5 =>
  gd a1 4 <|
  nm (mU s5 186 a1.toNatClampNeg 0) fun s8 =>
  some s8
set_option maxRecDepth 20000 in
theorem c_R_puts (l : Launch) {s : Mm} {a1 : Int32} {a2 : Int32} {s' : Mm}  (h : f_R_puts s a1 a2 = some s') : Cm l y_R_puts b_R_puts 3 none 0 0 [.ref 176, .int a1, .int a2] s s' none := by
  refine Cm.of (own := "PassedOnAndBetterModel") (by decide) rfl (fun ad => Nat.le_of_ble_eq_true rfl) ?_
  intro z hz hq
  show G l z b_R_puts 3 0 [(0, .ref 176), (1, .int a1), (2, .int a2)] [] s
  unfold f_R_puts at h
  refine g_aload_n hz 0 d_R_puts_0 rfl rfl ?_
  refine gf_R_holder hz q_1010 d_R_puts_1 ?_
  refine g_iload_n hz 1 d_R_puts_4 rfl rfl ?_
  refine g_iload_n hz 2 d_R_puts_5 rfl rfl ?_
  obtain ⟨n1, h⟩ := gd_use h
  refine g_iast hz (by decide) n1 d_R_puts_6 (fun s2 e3 => ?_)
  replace h := nm_use h e3
  refine g_aload_n hz 0 d_R_puts_7 rfl rfl ?_
  refine gf_R_kept hz q_1011 d_R_puts_8 ?_
  refine g_iload_n hz 1 d_R_puts_11 rfl rfl ?_
  refine g_iconst hz d_R_puts_12 ki_0 ?_
  obtain ⟨n4, h⟩ := gd_use h
  refine g_iast hz (by decide) n4 d_R_puts_13 (fun s5 e6 => ?_)
  replace h := nm_use h e6
  refine g_aload_n hz 0 d_R_puts_14 rfl rfl ?_
  refine gf_R_bettered hz q_1012 d_R_puts_15 ?_
  refine g_iload_n hz 1 d_R_puts_18 rfl rfl ?_
  refine g_iconst hz d_R_puts_19 ki_0 ?_
  obtain ⟨n7, h⟩ := gd_use h
  refine g_iast hz (by decide) n7 d_R_puts_20 (fun s8 e9 => ?_)
  replace h := nm_use h e9
  exact g_vret hz (rtv h hq) d_R_puts_21
def f_R_addsGift (s : Mm) (a1 : Int32) (a2 : Int32) (a3 : Int32) : Option Mm :=
  gd (s 176 12) 4 <|
  nm (mU s 182 (s 176 12).toNatClampNeg a1) fun s2 =>
  gd (s2 176 12) 4 <|
  nm (mU s2 183 (s2 176 12).toNatClampNeg a2) fun s5 =>
  gd (s5 176 12) 4 <|
  nm (mU s5 187 (s5 176 12).toNatClampNeg 0) fun s8 =>
  bv (f_R_puts s8 (s8 176 12) a3) fun s11 =>
  nm (mU s11 176 12 ((s11 176 12) + 1)) fun s12 =>
  some s12
set_option maxRecDepth 20000 in
theorem c_R_addsGift (l : Launch) {s : Mm} {a1 : Int32} {a2 : Int32} {a3 : Int32} {s' : Mm}  (h : f_R_addsGift s a1 a2 a3 = some s') : Cm l y_R_addsGift b_R_addsGift 4 none 1 22 [.ref 176, .int a1, .int a2, .int a3] s s' none := by
  refine Cm.of (own := "PassedOnAndBetterModel") (by decide) rfl (fun ad => Nat.le_of_ble_eq_true rfl) ?_
  intro z hz hq
  show G l z b_R_addsGift 4 0 [(0, .ref 176), (1, .int a1), (2, .int a2), (3, .int a3)] [] s
  unfold f_R_addsGift at h
  refine g_aload_n hz 0 d_R_addsGift_0 rfl rfl ?_
  refine gf_R_worth hz q_1008 d_R_addsGift_1 ?_
  refine g_aload_n hz 0 d_R_addsGift_4 rfl rfl ?_
  refine gf_R_gifts hz q_1015 d_R_addsGift_5 ?_
  refine g_iload_n hz 1 d_R_addsGift_8 rfl rfl ?_
  obtain ⟨n1, h⟩ := gd_use h
  refine g_iast hz (by decide) n1 d_R_addsGift_9 (fun s2 e3 => ?_)
  replace h := nm_use h e3
  refine g_aload_n hz 0 d_R_addsGift_10 rfl rfl ?_
  refine gf_R_size hz q_1009 d_R_addsGift_11 ?_
  refine g_aload_n hz 0 d_R_addsGift_14 rfl rfl ?_
  refine gf_R_gifts hz q_1015 d_R_addsGift_15 ?_
  refine g_iload_n hz 2 d_R_addsGift_18 rfl rfl ?_
  obtain ⟨n4, h⟩ := gd_use h
  refine g_iast hz (by decide) n4 d_R_addsGift_19 (fun s5 e6 => ?_)
  replace h := nm_use h e6
  refine g_aload_n hz 0 d_R_addsGift_20 rfl rfl ?_
  refine gf_R_given hz q_1013 d_R_addsGift_21 ?_
  refine g_aload_n hz 0 d_R_addsGift_24 rfl rfl ?_
  refine gf_R_gifts hz q_1015 d_R_addsGift_25 ?_
  refine g_iconst hz d_R_addsGift_28 ki_0 ?_
  obtain ⟨n7, h⟩ := gd_use h
  refine g_iast hz (by decide) n7 d_R_addsGift_29 (fun s8 e9 => ?_)
  replace h := nm_use h e9
  refine g_aload_n hz 0 d_R_addsGift_30 rfl rfl ?_
  refine g_aload_n hz 0 d_R_addsGift_31 rfl rfl ?_
  refine gf_R_gifts hz q_1015 d_R_addsGift_32 ?_
  refine g_iload_n hz 3 d_R_addsGift_35 rfl rfl ?_
  refine bv_use h (fun s11 e10 h => ?_)
  refine g_callVv hz (c_R_puts l e10) (by decide) rc_R rfl rfl m_R_puts mi_R_puts ms_R_puts q_1170 ⟨Nat.le_of_ble_eq_true rfl, Nat.le_of_ble_eq_true rfl⟩ rfl (st := []) rfl (Nat.le_of_ble_eq_true rfl) d_R_addsGift_36 ?_
  refine g_aload_n hz 0 d_R_addsGift_39 rfl rfl ?_
  refine g_dup hz d_R_addsGift_40 rfl ?_
  refine gf_R_gifts hz q_1015 d_R_addsGift_41 ?_
  refine g_iconst hz d_R_addsGift_44 ki_1 ?_
  refine g_iadd hz d_R_addsGift_45 ?_
  refine pf_R_gifts hz q_1015 d_R_addsGift_46 (fun s12 e13 => ?_)
  replace h := nm_use h e13
  exact g_vret hz (rtv h hq) d_R_addsGift_49
def f_R_comesGift (s : Mm) (a1 : Int32) (a2 : Int32) (a3 : Int32) : Option (Int32 × Mm) :=
  bn (f_R_isFriend s a3) fun x3 s2 =>
  if x3 = 0 then
    some (0, s2)
  else
    if a2 = 0 then
      some (0, s2)
    else
      if (s2 176 12) = 4 then
        some (0, s2)
      else
        bv (f_R_addsGift s2 a1 a2 a3) fun s8 =>
        some (1, s8)
set_option maxRecDepth 20000 in
theorem c_R_comesGift (l : Launch) {s : Mm} {a1 : Int32} {a2 : Int32} {a3 : Int32} {r' : Int32} {s' : Mm}  (h : f_R_comesGift s a1 a2 a3 = some (r', s')) : Cm l y_R_comesGift b_R_comesGift 4 (some .boolean) 2 45 [.ref 176, .int a1, .int a2, .int a3] s s' (some (.int r')) := by
  refine Cm.of (own := "PassedOnAndBetterModel") (by decide) rfl (fun ad => Nat.le_of_ble_eq_true rfl) ?_
  intro z hz hq
  show G l z b_R_comesGift 4 0 [(0, .ref 176), (1, .int a1), (2, .int a2), (3, .int a3)] [] s
  unfold f_R_comesGift at h
  refine g_aload_n hz 0 d_R_comesGift_0 rfl rfl ?_
  refine g_iload_n hz 3 d_R_comesGift_1 rfl rfl ?_
  refine bn_use h (fun x3 s2 e1 h => ?_)
  refine g_callVi hz (c_R_isFriend l e1) (by decide) rc_R rfl rfl m_R_isFriend mi_R_isFriend ms_R_isFriend q_1162 ⟨Nat.le_of_ble_eq_true rfl, Nat.le_of_ble_eq_true rfl⟩ rfl (st := []) rfl (Nat.le_of_ble_eq_true rfl) d_R_comesGift_2 ?_
  refine g_if_eq hz (tgt := 20) d_R_comesGift_5 (by decide) (fun c4 => ?_) (fun c4 => ?_)
  · replace h := (if_pos c4).symm.trans h
    refine g_iconst hz d_R_comesGift_20 ki_0 ?_
    exact g_zret hz (rti h hq) (Or.inl rfl) d_R_comesGift_21
  · replace h := (if_neg c4).symm.trans h
    refine g_iload_n hz 2 d_R_comesGift_8 rfl rfl ?_
    refine g_if_eq hz (tgt := 20) d_R_comesGift_9 (by decide) (fun c5 => ?_) (fun c5 => ?_)
    · replace h := (if_pos c5).symm.trans h
      refine g_iconst hz d_R_comesGift_20 ki_0 ?_
      exact g_zret hz (rti h hq) (Or.inl rfl) d_R_comesGift_21
    · replace h := (if_neg c5).symm.trans h
      refine g_aload_n hz 0 d_R_comesGift_12 rfl rfl ?_
      refine gf_R_gifts hz q_1015 d_R_comesGift_13 ?_
      refine g_iconst hz d_R_comesGift_16 ki_4 ?_
      refine g_icmp_ne hz (tgt := 22) d_R_comesGift_17 (by decide) (fun c6 => ?_) (fun c6 => ?_)
      · replace h := (if_neg c6).symm.trans h
        refine g_aload_n hz 0 d_R_comesGift_22 rfl rfl ?_
        refine g_iload_n hz 1 d_R_comesGift_23 rfl rfl ?_
        refine g_iload_n hz 2 d_R_comesGift_24 rfl rfl ?_
        refine g_iload_n hz 3 d_R_comesGift_25 rfl rfl ?_
        refine bv_use h (fun s8 e7 h => ?_)
        refine g_callVv hz (c_R_addsGift l e7) (by decide) rc_R rfl rfl m_R_addsGift mi_R_addsGift ms_R_addsGift q_1166 ⟨Nat.le_of_ble_eq_true rfl, Nat.le_of_ble_eq_true rfl⟩ rfl (st := []) rfl (Nat.le_of_ble_eq_true rfl) d_R_comesGift_26 ?_
        refine g_iconst hz d_R_comesGift_29 ki_1 ?_
        exact g_zret hz (rti h hq) (Or.inr rfl) d_R_comesGift_30
      · replace h := (if_pos c6).symm.trans h
        refine g_iconst hz d_R_comesGift_20 ki_0 ?_
        exact g_zret hz (rti h hq) (Or.inl rfl) d_R_comesGift_21
def f_R_areTwo (s : Mm) (a1 : Int32) (a2 : Int32) : Option (Int32 × Mm) :=
  bn (f_R_isFriend s a1) fun x3 s2 =>
  if x3 = 0 then
    some (0, s2)
  else
    bn (f_R_isFriend s2 a2) fun x7 s6 =>
    if x7 = 0 then
      some (0, s6)
    else
      if a1 = a2 then
        some (0, s6)
      else
        some (1, s6)
set_option maxRecDepth 20000 in
theorem c_R_areTwo (l : Launch) {s : Mm} {a1 : Int32} {a2 : Int32} {r' : Int32} {s' : Mm}  (h : f_R_areTwo s a1 a2 = some (r', s')) : Cm l y_R_areTwo b_R_areTwo 3 (some .boolean) 1 21 [.ref 176, .int a1, .int a2] s s' (some (.int r')) := by
  refine Cm.of (own := "PassedOnAndBetterModel") (by decide) rfl (fun ad => Nat.le_of_ble_eq_true rfl) ?_
  intro z hz hq
  show G l z b_R_areTwo 3 0 [(0, .ref 176), (1, .int a1), (2, .int a2)] [] s
  unfold f_R_areTwo at h
  refine g_aload_n hz 0 d_R_areTwo_0 rfl rfl ?_
  refine g_iload_n hz 1 d_R_areTwo_1 rfl rfl ?_
  refine bn_use h (fun x3 s2 e1 h => ?_)
  refine g_callVi hz (c_R_isFriend l e1) (by decide) rc_R rfl rfl m_R_isFriend mi_R_isFriend ms_R_isFriend q_1162 ⟨Nat.le_of_ble_eq_true rfl, Nat.le_of_ble_eq_true rfl⟩ rfl (st := []) rfl (Nat.le_of_ble_eq_true rfl) d_R_areTwo_2 ?_
  refine g_if_eq hz (tgt := 25) d_R_areTwo_5 (by decide) (fun c4 => ?_) (fun c4 => ?_)
  · replace h := (if_pos c4).symm.trans h
    refine g_iconst hz d_R_areTwo_25 ki_0 ?_
    exact g_zret hz (rti h hq) (Or.inl rfl) d_R_areTwo_26
  · replace h := (if_neg c4).symm.trans h
    refine g_aload_n hz 0 d_R_areTwo_8 rfl rfl ?_
    refine g_iload_n hz 2 d_R_areTwo_9 rfl rfl ?_
    refine bn_use h (fun x7 s6 e5 h => ?_)
    refine g_callVi hz (c_R_isFriend l e5) (by decide) rc_R rfl rfl m_R_isFriend mi_R_isFriend ms_R_isFriend q_1162 ⟨Nat.le_of_ble_eq_true rfl, Nat.le_of_ble_eq_true rfl⟩ rfl (st := []) rfl (Nat.le_of_ble_eq_true rfl) d_R_areTwo_10 ?_
    refine g_if_eq hz (tgt := 25) d_R_areTwo_13 (by decide) (fun c8 => ?_) (fun c8 => ?_)
    · replace h := (if_pos c8).symm.trans h
      refine g_iconst hz d_R_areTwo_25 ki_0 ?_
      exact g_zret hz (rti h hq) (Or.inl rfl) d_R_areTwo_26
    · replace h := (if_neg c8).symm.trans h
      refine g_iload_n hz 1 d_R_areTwo_16 rfl rfl ?_
      refine g_iload_n hz 2 d_R_areTwo_17 rfl rfl ?_
      refine g_icmp_eq hz (tgt := 25) d_R_areTwo_18 (by decide) (fun c9 => ?_) (fun c9 => ?_)
      · replace h := (if_pos c9).symm.trans h
        refine g_iconst hz d_R_areTwo_25 ki_0 ?_
        exact g_zret hz (rti h hq) (Or.inl rfl) d_R_areTwo_26
      · replace h := (if_neg c9).symm.trans h
        refine g_iconst hz d_R_areTwo_21 ki_1 ?_
        refine g_goto hz (tgt := 26) d_R_areTwo_22 (by decide) ?_
        exact g_zret hz (rti h hq) (Or.inr rfl) d_R_areTwo_26
def f_R_turnsNext (s : Mm) (a1 : Int32) (a2 : Int32) : Option Mm :=
  gd a1 6 <|
  if (s 181 a1.toNatClampNeg) = a2 then
    gd a1 6 <|
    nm (mU s 181 a1.toNatClampNeg (-9)) fun s7 =>
    some s7
  else
    gd a1 6 <|
    nm (mU s 181 a1.toNatClampNeg a2) fun s4 =>
    some s4
set_option maxRecDepth 20000 in
theorem c_R_turnsNext (l : Launch) {s : Mm} {a1 : Int32} {a2 : Int32} {s' : Mm}  (h : f_R_turnsNext s a1 a2 = some s') : Cm l y_R_turnsNext b_R_turnsNext 3 none 0 0 [.ref 176, .int a1, .int a2] s s' none := by
  refine Cm.of (own := "PassedOnAndBetterModel") (by decide) rfl (fun ad => Nat.le_of_ble_eq_true rfl) ?_
  intro z hz hq
  show G l z b_R_turnsNext 3 0 [(0, .ref 176), (1, .int a1), (2, .int a2)] [] s
  unfold f_R_turnsNext at h
  refine g_aload_n hz 0 d_R_turnsNext_0 rfl rfl ?_
  refine gf_R_next hz q_1007 d_R_turnsNext_1 ?_
  refine g_iload_n hz 1 d_R_turnsNext_4 rfl rfl ?_
  refine g_aload_n hz 0 d_R_turnsNext_5 rfl rfl ?_
  refine gf_R_next hz q_1007 d_R_turnsNext_6 ?_
  refine g_iload_n hz 1 d_R_turnsNext_9 rfl rfl ?_
  obtain ⟨n1, h⟩ := gd_use h
  refine g_iald hz (by decide) n1 d_R_turnsNext_10 ?_
  refine g_iload_n hz 2 d_R_turnsNext_11 rfl rfl ?_
  refine g_icmp_ne hz (tgt := 20) d_R_turnsNext_12 (by decide) (fun c2 => ?_) (fun c2 => ?_)
  · replace h := (if_neg c2).symm.trans h
    refine g_iload_n hz 2 d_R_turnsNext_20 rfl rfl ?_
    obtain ⟨n3, h⟩ := gd_use h
    refine g_iast hz (by decide) n3 d_R_turnsNext_21 (fun s4 e5 => ?_)
    replace h := nm_use h e5
    exact g_vret hz (rtv h hq) d_R_turnsNext_22
  · replace h := (if_pos c2).symm.trans h
    refine g_bipush hz (v := (-9)) d_R_turnsNext_15 (by decide) ?_
    refine g_goto hz (tgt := 21) d_R_turnsNext_17 (by decide) ?_
    obtain ⟨n6, h⟩ := gd_use h
    refine g_iast hz (by decide) n6 d_R_turnsNext_21 (fun s7 e8 => ?_)
    replace h := nm_use h e8
    exact g_vret hz (rtv h hq) d_R_turnsNext_22
def f_R_comesNext (s : Mm) (a1 : Int32) (a2 : Int32) : Option (Int32 × Mm) :=
  bn (f_R_areTwo s a1 a2) fun x3 s2 =>
  if x3 = 0 then
    some (0, s2)
  else
    bv (f_R_turnsNext s2 a1 a2) fun s6 =>
    some (1, s6)
set_option maxRecDepth 20000 in
theorem c_R_comesNext (l : Launch) {s : Mm} {a1 : Int32} {a2 : Int32} {r' : Int32} {s' : Mm}  (h : f_R_comesNext s a1 a2 = some (r', s')) : Cm l y_R_comesNext b_R_comesNext 3 (some .boolean) 2 43 [.ref 176, .int a1, .int a2] s s' (some (.int r')) := by
  refine Cm.of (own := "PassedOnAndBetterModel") (by decide) rfl (fun ad => Nat.le_of_ble_eq_true rfl) ?_
  intro z hz hq
  show G l z b_R_comesNext 3 0 [(0, .ref 176), (1, .int a1), (2, .int a2)] [] s
  unfold f_R_comesNext at h
  refine g_aload_n hz 0 d_R_comesNext_0 rfl rfl ?_
  refine g_iload_n hz 1 d_R_comesNext_1 rfl rfl ?_
  refine g_iload_n hz 2 d_R_comesNext_2 rfl rfl ?_
  refine bn_use h (fun x3 s2 e1 h => ?_)
  refine g_callVi hz (c_R_areTwo l e1) (by decide) rc_R rfl rfl m_R_areTwo mi_R_areTwo ms_R_areTwo q_1178 ⟨Nat.le_of_ble_eq_true rfl, Nat.le_of_ble_eq_true rfl⟩ rfl (st := []) rfl (Nat.le_of_ble_eq_true rfl) d_R_comesNext_3 ?_
  refine g_if_ne hz (tgt := 11) d_R_comesNext_6 (by decide) (fun c4 => ?_) (fun c4 => ?_)
  · replace h := (if_neg c4).symm.trans h
    refine g_aload_n hz 0 d_R_comesNext_11 rfl rfl ?_
    refine g_iload_n hz 1 d_R_comesNext_12 rfl rfl ?_
    refine g_iload_n hz 2 d_R_comesNext_13 rfl rfl ?_
    refine bv_use h (fun s6 e5 h => ?_)
    refine g_callVv hz (c_R_turnsNext l e5) (by decide) rc_R rfl rfl m_R_turnsNext mi_R_turnsNext ms_R_turnsNext q_1182 ⟨Nat.le_of_ble_eq_true rfl, Nat.le_of_ble_eq_true rfl⟩ rfl (st := []) rfl (Nat.le_of_ble_eq_true rfl) d_R_comesNext_14 ?_
    refine g_iconst hz d_R_comesNext_17 ki_1 ?_
    exact g_zret hz (rti h hq) (Or.inr rfl) d_R_comesNext_18
  · replace h := (if_pos c4).symm.trans h
    refine g_iconst hz d_R_comesNext_9 ki_0 ?_
    exact g_zret hz (rti h hq) (Or.inl rfl) d_R_comesNext_10
def f_R_isGift (s : Mm) (a1 : Int32) : Option (Int32 × Mm) :=
  if a1 < 0 then
    some (0, s)
  else
    if (s 176 12) ≤ a1 then
      some (0, s)
    else
      some (1, s)
set_option maxRecDepth 20000 in
theorem c_R_isGift (l : Launch) {s : Mm} {a1 : Int32} {r' : Int32} {s' : Mm}  (h : f_R_isGift s a1 = some (r', s')) : Cm l y_R_isGift b_R_isGift 2 (some .boolean) 0 0 [.ref 176, .int a1] s s' (some (.int r')) := by
  refine Cm.of (own := "PassedOnAndBetterModel") (by decide) rfl (fun ad => Nat.le_of_ble_eq_true rfl) ?_
  intro z hz hq
  show G l z b_R_isGift 2 0 [(0, .ref 176), (1, .int a1)] [] s
  unfold f_R_isGift at h
  refine g_iload_n hz 1 d_R_isGift_0 rfl rfl ?_
  refine g_if_lt hz (tgt := 16) d_R_isGift_1 (by decide) (fun c1 => ?_) (fun c1 => ?_)
  · replace h := (if_pos c1).symm.trans h
    refine g_iconst hz d_R_isGift_16 ki_0 ?_
    exact g_zret hz (rti h hq) (Or.inl rfl) d_R_isGift_17
  · replace h := (if_neg c1).symm.trans h
    refine g_iload_n hz 1 d_R_isGift_4 rfl rfl ?_
    refine g_aload_n hz 0 d_R_isGift_5 rfl rfl ?_
    refine gf_R_gifts hz q_1015 d_R_isGift_6 ?_
    refine g_icmp_ge hz (tgt := 16) d_R_isGift_9 (by decide) (fun c2 => ?_) (fun c2 => ?_)
    · replace h := (if_pos c2).symm.trans h
      refine g_iconst hz d_R_isGift_16 ki_0 ?_
      exact g_zret hz (rti h hq) (Or.inl rfl) d_R_isGift_17
    · replace h := (if_neg c2).symm.trans h
      refine g_iconst hz d_R_isGift_12 ki_1 ?_
      refine g_goto hz (tgt := 17) d_R_isGift_13 (by decide) ?_
      exact g_zret hz (rti h hq) (Or.inr rfl) d_R_isGift_17
def f_R_held (s : Mm) (a0 : Int32) (a1 : Int32) (a2 : Int32) : Option (Int32 × Mm) :=
  if a1 ≤ a0 then
    if a0 ≤ a2 then
      some (a0, s)
    else
      some (a2, s)
  else
    some (a1, s)
set_option maxRecDepth 20000 in
theorem c_R_held (l : Launch) {s : Mm} {a0 : Int32} {a1 : Int32} {a2 : Int32} {r' : Int32} {s' : Mm}  (h : f_R_held s a0 a1 a2 = some (r', s')) : Cm l y_R_held b_R_held 3 (some .int) 0 0 [.int a0, .int a1, .int a2] s s' (some (.int r')) := by
  refine Cm.of (own := "PassedOnAndBetterModel") (by decide) rfl (fun ad => Nat.le_of_ble_eq_true rfl) ?_
  intro z hz hq
  show G l z b_R_held 3 0 [(0, .int a0), (1, .int a1), (2, .int a2)] [] s
  unfold f_R_held at h
  refine g_iload_n hz 0 d_R_held_0 rfl rfl ?_
  refine g_iload_n hz 1 d_R_held_1 rfl rfl ?_
  refine g_icmp_ge hz (tgt := 9) d_R_held_2 (by decide) (fun c1 => ?_) (fun c1 => ?_)
  · replace h := (if_pos c1).symm.trans h
    refine g_iload_n hz 0 d_R_held_9 rfl rfl ?_
    refine g_iload_n hz 2 d_R_held_10 rfl rfl ?_
    refine g_icmp_le hz (tgt := 18) d_R_held_11 (by decide) (fun c2 => ?_) (fun c2 => ?_)
    · replace h := (if_pos c2).symm.trans h
      refine g_iload_n hz 0 d_R_held_18 rfl rfl ?_
      exact g_iret hz (rti h hq) d_R_held_19
    · replace h := (if_neg c2).symm.trans h
      refine g_iload_n hz 2 d_R_held_14 rfl rfl ?_
      refine g_goto hz (tgt := 19) d_R_held_15 (by decide) ?_
      exact g_iret hz (rti h hq) d_R_held_19
  · replace h := (if_neg c1).symm.trans h
    refine g_iload_n hz 1 d_R_held_5 rfl rfl ?_
    refine g_goto hz (tgt := 19) d_R_held_6 (by decide) ?_
    exact g_iret hz (rti h hq) d_R_held_19
def f_R_waitsOf (s : Mm) (a1 : Int32) : Option (Int32 × Mm) :=
  gd a1 6 <|
  if (s 178 a1.toNatClampNeg) = 1 then
    some (12, s)
  else if (s 178 a1.toNatClampNeg) = 2 then
    some (6, s)
  else if (s 178 a1.toNatClampNeg) = 3 then
    some (3, s)
  else if (s 178 a1.toNatClampNeg) = 4 then
    some (11, s)
  else if (s 178 a1.toNatClampNeg) = 5 then
    some (1, s)
  else
    gd a1 6 <|
    some (12 - (s 179 a1.toNatClampNeg), s)
set_option maxRecDepth 20000 in
theorem c_R_waitsOf (l : Launch) {s : Mm} {a1 : Int32} {r' : Int32} {s' : Mm}  (h : f_R_waitsOf s a1 = some (r', s')) : Cm l y_R_waitsOf b_R_waitsOf 2 (some .int) 0 0 [.ref 176, .int a1] s s' (some (.int r')) := by
  refine Cm.of (own := "PassedOnAndBetterModel") (by decide) rfl (fun ad => Nat.le_of_ble_eq_true rfl) ?_
  intro z hz hq
  show G l z b_R_waitsOf 2 0 [(0, .ref 176), (1, .int a1)] [] s
  unfold f_R_waitsOf at h
  refine g_aload_n hz 0 d_R_waitsOf_0 rfl rfl ?_
  refine gf_R_kind hz q_1004 d_R_waitsOf_1 ?_
  refine g_iload_n hz 1 d_R_waitsOf_4 rfl rfl ?_
  obtain ⟨n1, h⟩ := gd_use h
  refine g_iald hz (by decide) n1 d_R_waitsOf_5 ?_
  by_cases c2 : (s 178 a1.toNatClampNeg) = 1
  · replace h := (if_pos c2).symm.trans h
    refine g_tin hz (off := 34) (tgt := 40) d_R_waitsOf_6 c2 (by decide) (by decide) (by decide) (by decide) ?_
    refine g_bipush hz (v := 12) d_R_waitsOf_40 (by decide) ?_
    exact g_iret hz (rti h hq) d_R_waitsOf_42
  · replace h := (if_neg c2).symm.trans h
    by_cases c3 : (s 178 a1.toNatClampNeg) = 2
    · replace h := (if_pos c3).symm.trans h
      refine g_tin hz (off := 37) (tgt := 43) d_R_waitsOf_6 c3 (by decide) (by decide) (by decide) (by decide) ?_
      refine g_bipush hz (v := 6) d_R_waitsOf_43 (by decide) ?_
      exact g_iret hz (rti h hq) d_R_waitsOf_45
    · replace h := (if_neg c3).symm.trans h
      by_cases c4 : (s 178 a1.toNatClampNeg) = 3
      · replace h := (if_pos c4).symm.trans h
        refine g_tin hz (off := 40) (tgt := 46) d_R_waitsOf_6 c4 (by decide) (by decide) (by decide) (by decide) ?_
        refine g_iconst hz d_R_waitsOf_46 ki_3 ?_
        exact g_iret hz (rti h hq) d_R_waitsOf_47
      · replace h := (if_neg c4).symm.trans h
        by_cases c5 : (s 178 a1.toNatClampNeg) = 4
        · replace h := (if_pos c5).symm.trans h
          refine g_tin hz (off := 42) (tgt := 48) d_R_waitsOf_6 c5 (by decide) (by decide) (by decide) (by decide) ?_
          refine g_bipush hz (v := 11) d_R_waitsOf_48 (by decide) ?_
          exact g_iret hz (rti h hq) d_R_waitsOf_50
        · replace h := (if_neg c5).symm.trans h
          by_cases c6 : (s 178 a1.toNatClampNeg) = 5
          · replace h := (if_pos c6).symm.trans h
            refine g_tin hz (off := 45) (tgt := 51) d_R_waitsOf_6 c6 (by decide) (by decide) (by decide) (by decide) ?_
            refine g_iconst hz d_R_waitsOf_51 ki_1 ?_
            exact g_iret hz (rti h hq) d_R_waitsOf_52
          · replace h := (if_neg c6).symm.trans h
            refine g_tdf hz (tgt := 53) d_R_waitsOf_6 (fun i hi hx => ?_) (by decide) ?_
            · match i, hi, hx with
              | 0, _, hx => exact absurd hx (lv_neT c2 (by decide))
              | 1, _, hx => exact absurd hx (lv_neT c3 (by decide))
              | 2, _, hx => exact absurd hx (lv_neT c4 (by decide))
              | 3, _, hx => exact absurd hx (lv_neT c5 (by decide))
              | 4, _, hx => exact absurd hx (lv_neT c6 (by decide))
              | q + 5, hi, _ => exact absurd hi (by omega)
            · refine g_bipush hz (v := 12) d_R_waitsOf_53 (by decide) ?_
              refine g_aload_n hz 0 d_R_waitsOf_55 rfl rfl ?_
              refine gf_R_figure hz q_1005 d_R_waitsOf_56 ?_
              refine g_iload_n hz 1 d_R_waitsOf_59 rfl rfl ?_
              obtain ⟨n7, h⟩ := gd_use h
              refine g_iald hz (by decide) n7 d_R_waitsOf_60 ?_
              refine g_isub hz d_R_waitsOf_61 ?_
              exact g_iret hz (rti h hq) d_R_waitsOf_62
def f_R_addsOf (s : Mm) (a1 : Int32) : Option (Int32 × Mm) :=
  gd a1 6 <|
  if (s 178 a1.toNatClampNeg) = 1 then
    some (1, s)
  else if (s 178 a1.toNatClampNeg) = 2 then
    some (5, s)
  else if (s 178 a1.toNatClampNeg) = 3 then
    some (2, s)
  else if (s 178 a1.toNatClampNeg) = 4 then
    gd a1 6 <|
    some (1 + (s 179 a1.toNatClampNeg), s)
  else if (s 178 a1.toNatClampNeg) = 5 then
    gd a1 6 <|
    some (((s 179 a1.toNatClampNeg) + 1) / 2, s)
  else
    gd a1 6 <|
    some ((s 179 a1.toNatClampNeg) + 1, s)
set_option maxRecDepth 20000 in
theorem c_R_addsOf (l : Launch) {s : Mm} {a1 : Int32} {r' : Int32} {s' : Mm}  (h : f_R_addsOf s a1 = some (r', s')) : Cm l y_R_addsOf b_R_addsOf 2 (some .int) 0 0 [.ref 176, .int a1] s s' (some (.int r')) := by
  refine Cm.of (own := "PassedOnAndBetterModel") (by decide) rfl (fun ad => Nat.le_of_ble_eq_true rfl) ?_
  intro z hz hq
  show G l z b_R_addsOf 2 0 [(0, .ref 176), (1, .int a1)] [] s
  unfold f_R_addsOf at h
  refine g_aload_n hz 0 d_R_addsOf_0 rfl rfl ?_
  refine gf_R_kind hz q_1004 d_R_addsOf_1 ?_
  refine g_iload_n hz 1 d_R_addsOf_4 rfl rfl ?_
  obtain ⟨n1, h⟩ := gd_use h
  refine g_iald hz (by decide) n1 d_R_addsOf_5 ?_
  by_cases c2 : (s 178 a1.toNatClampNeg) = 1
  · replace h := (if_pos c2).symm.trans h
    refine g_tin hz (off := 34) (tgt := 40) d_R_addsOf_6 c2 (by decide) (by decide) (by decide) (by decide) ?_
    refine g_iconst hz d_R_addsOf_40 ki_1 ?_
    exact g_iret hz (rti h hq) d_R_addsOf_41
  · replace h := (if_neg c2).symm.trans h
    by_cases c3 : (s 178 a1.toNatClampNeg) = 2
    · replace h := (if_pos c3).symm.trans h
      refine g_tin hz (off := 36) (tgt := 42) d_R_addsOf_6 c3 (by decide) (by decide) (by decide) (by decide) ?_
      refine g_iconst hz d_R_addsOf_42 ki_5 ?_
      exact g_iret hz (rti h hq) d_R_addsOf_43
    · replace h := (if_neg c3).symm.trans h
      by_cases c4 : (s 178 a1.toNatClampNeg) = 3
      · replace h := (if_pos c4).symm.trans h
        refine g_tin hz (off := 38) (tgt := 44) d_R_addsOf_6 c4 (by decide) (by decide) (by decide) (by decide) ?_
        refine g_iconst hz d_R_addsOf_44 ki_2 ?_
        exact g_iret hz (rti h hq) d_R_addsOf_45
      · replace h := (if_neg c4).symm.trans h
        by_cases c5 : (s 178 a1.toNatClampNeg) = 4
        · replace h := (if_pos c5).symm.trans h
          refine g_tin hz (off := 40) (tgt := 46) d_R_addsOf_6 c5 (by decide) (by decide) (by decide) (by decide) ?_
          refine g_iconst hz d_R_addsOf_46 ki_1 ?_
          refine g_aload_n hz 0 d_R_addsOf_47 rfl rfl ?_
          refine gf_R_figure hz q_1005 d_R_addsOf_48 ?_
          refine g_iload_n hz 1 d_R_addsOf_51 rfl rfl ?_
          obtain ⟨n6, h⟩ := gd_use h
          refine g_iald hz (by decide) n6 d_R_addsOf_52 ?_
          refine g_iadd hz d_R_addsOf_53 ?_
          exact g_iret hz (rti h hq) d_R_addsOf_54
        · replace h := (if_neg c5).symm.trans h
          by_cases c7 : (s 178 a1.toNatClampNeg) = 5
          · replace h := (if_pos c7).symm.trans h
            refine g_tin hz (off := 49) (tgt := 55) d_R_addsOf_6 c7 (by decide) (by decide) (by decide) (by decide) ?_
            refine g_aload_n hz 0 d_R_addsOf_55 rfl rfl ?_
            refine gf_R_figure hz q_1005 d_R_addsOf_56 ?_
            refine g_iload_n hz 1 d_R_addsOf_59 rfl rfl ?_
            obtain ⟨n8, h⟩ := gd_use h
            refine g_iald hz (by decide) n8 d_R_addsOf_60 ?_
            refine g_iconst hz d_R_addsOf_61 ki_1 ?_
            refine g_iadd hz d_R_addsOf_62 ?_
            refine g_iconst hz d_R_addsOf_63 ki_2 ?_
            refine g_idiv hz d_R_addsOf_64 (by decide) ?_
            exact g_iret hz (rti h hq) d_R_addsOf_65
          · replace h := (if_neg c7).symm.trans h
            refine g_tdf hz (tgt := 66) d_R_addsOf_6 (fun i hi hx => ?_) (by decide) ?_
            · match i, hi, hx with
              | 0, _, hx => exact absurd hx (lv_neT c2 (by decide))
              | 1, _, hx => exact absurd hx (lv_neT c3 (by decide))
              | 2, _, hx => exact absurd hx (lv_neT c4 (by decide))
              | 3, _, hx => exact absurd hx (lv_neT c5 (by decide))
              | 4, _, hx => exact absurd hx (lv_neT c7 (by decide))
              | q + 5, hi, _ => exact absurd hi (by omega)
            · refine g_aload_n hz 0 d_R_addsOf_66 rfl rfl ?_
              refine gf_R_figure hz q_1005 d_R_addsOf_67 ?_
              refine g_iload_n hz 1 d_R_addsOf_70 rfl rfl ?_
              obtain ⟨n9, h⟩ := gd_use h
              refine g_iald hz (by decide) n9 d_R_addsOf_71 ?_
              refine g_iconst hz d_R_addsOf_72 ki_1 ?_
              refine g_iadd hz d_R_addsOf_73 ?_
              exact g_iret hz (rti h hq) d_R_addsOf_74
def f_R_has (s : Mm) (a0 : Int32) (a1 : Int32) : Option (Int32 × Mm) :=
  if ((a0 >>> (a1 &&& 31)) &&& 1) = 1 then
    some (1, s)
  else
    some (0, s)
set_option maxRecDepth 20000 in
theorem c_R_has (l : Launch) {s : Mm} {a0 : Int32} {a1 : Int32} {r' : Int32} {s' : Mm}  (h : f_R_has s a0 a1 = some (r', s')) : Cm l y_R_has b_R_has 2 (some .boolean) 0 0 [.int a0, .int a1] s s' (some (.int r')) := by
  refine Cm.of (own := "PassedOnAndBetterModel") (by decide) rfl (fun ad => Nat.le_of_ble_eq_true rfl) ?_
  intro z hz hq
  show G l z b_R_has 2 0 [(0, .int a0), (1, .int a1)] [] s
  unfold f_R_has at h
  refine g_iload_n hz 0 d_R_has_0 rfl rfl ?_
  refine g_iload_n hz 1 d_R_has_1 rfl rfl ?_
  refine g_ishr hz d_R_has_2 ?_
  refine g_iconst hz d_R_has_3 ki_1 ?_
  refine g_iand hz d_R_has_4 ?_
  refine g_iconst hz d_R_has_5 ki_1 ?_
  refine g_icmp_ne hz (tgt := 13) d_R_has_6 (by decide) (fun c1 => ?_) (fun c1 => ?_)
  · replace h := (if_neg c1).symm.trans h
    refine g_iconst hz d_R_has_13 ki_0 ?_
    exact g_zret hz (rti h hq) (Or.inl rfl) d_R_has_14
  · replace h := (if_pos c1).symm.trans h
    refine g_iconst hz d_R_has_9 ki_1 ?_
    refine g_goto hz (tgt := 14) d_R_has_10 (by decide) ?_
    exact g_zret hz (rti h hq) (Or.inr rfl) d_R_has_14
def f_R_swellsOf (s : Mm) (a1 : Int32) : Option (Int32 × Mm) :=
  gd a1 6 <|
  nm ((s 179 a1.toNatClampNeg) / 2) fun x2 =>
  gd a1 6 <|
  if (s 178 a1.toNatClampNeg) = 1 then
    some (0, s)
  else if (s 178 a1.toNatClampNeg) = 2 then
    gd a1 6 <|
    some (s 179 a1.toNatClampNeg, s)
  else if (s 178 a1.toNatClampNeg) = 3 then
    some ((-3), s)
  else if (s 178 a1.toNatClampNeg) = 4 then
    some (4, s)
  else if (s 178 a1.toNatClampNeg) = 5 then
    if x2 ≤ 2 then
      some (x2, s)
    else
      some (2, s)
  else
    some (x2, s)
set_option maxRecDepth 20000 in
theorem c_R_swellsOf (l : Launch) {s : Mm} {a1 : Int32} {r' : Int32} {s' : Mm}  (h : f_R_swellsOf s a1 = some (r', s')) : Cm l y_R_swellsOf b_R_swellsOf 3 (some .int) 0 0 [.ref 176, .int a1] s s' (some (.int r')) := by
  refine Cm.of (own := "PassedOnAndBetterModel") (by decide) rfl (fun ad => Nat.le_of_ble_eq_true rfl) ?_
  intro z hz hq
  show G l z b_R_swellsOf 3 0 [(0, .ref 176), (1, .int a1)] [] s
  unfold f_R_swellsOf at h
  refine g_aload_n hz 0 d_R_swellsOf_0 rfl rfl ?_
  refine gf_R_figure hz q_1005 d_R_swellsOf_1 ?_
  refine g_iload_n hz 1 d_R_swellsOf_4 rfl rfl ?_
  obtain ⟨n1, h⟩ := gd_use h
  refine g_iald hz (by decide) n1 d_R_swellsOf_5 ?_
  refine g_iconst hz d_R_swellsOf_6 ki_2 ?_
  refine g_idiv hz d_R_swellsOf_7 (by decide) ?_
  refine g_nmi (fun x2 e3 => ?_)
  replace h := nm_use h e3
  refine g_istore_n hz (L' := [(2, .int x2), (0, .ref 176), (1, .int a1)]) d_R_swellsOf_8 rfl (by decide) rfl ?_
  refine g_aload_n hz 1 d_R_swellsOf_9 rfl rfl ?_
  refine gf_R_kind hz q_1004 d_R_swellsOf_10 ?_
  refine g_iload_n hz 2 d_R_swellsOf_13 rfl rfl ?_
  obtain ⟨n4, h⟩ := gd_use h
  refine g_iald hz (by decide) n4 d_R_swellsOf_14 ?_
  by_cases c5 : (s 178 a1.toNatClampNeg) = 1
  · replace h := (if_pos c5).symm.trans h
    refine g_tin hz (off := 33) (tgt := 48) d_R_swellsOf_15 c5 (by decide) (by decide) (by decide) (by decide) ?_
    refine g_iconst hz d_R_swellsOf_48 ki_0 ?_
    exact g_iret hz (rti h hq) d_R_swellsOf_49
  · replace h := (if_neg c5).symm.trans h
    by_cases c6 : (s 178 a1.toNatClampNeg) = 2
    · replace h := (if_pos c6).symm.trans h
      refine g_tin hz (off := 35) (tgt := 50) d_R_swellsOf_15 c6 (by decide) (by decide) (by decide) (by decide) ?_
      refine g_aload_n hz 1 d_R_swellsOf_50 rfl rfl ?_
      refine gf_R_figure hz q_1005 d_R_swellsOf_51 ?_
      refine g_iload_n hz 2 d_R_swellsOf_54 rfl rfl ?_
      obtain ⟨n7, h⟩ := gd_use h
      refine g_iald hz (by decide) n7 d_R_swellsOf_55 ?_
      exact g_iret hz (rti h hq) d_R_swellsOf_56
    · replace h := (if_neg c6).symm.trans h
      by_cases c8 : (s 178 a1.toNatClampNeg) = 3
      · replace h := (if_pos c8).symm.trans h
        refine g_tin hz (off := 42) (tgt := 57) d_R_swellsOf_15 c8 (by decide) (by decide) (by decide) (by decide) ?_
        refine g_bipush hz (v := (-3)) d_R_swellsOf_57 (by decide) ?_
        exact g_iret hz (rti h hq) d_R_swellsOf_59
      · replace h := (if_neg c8).symm.trans h
        by_cases c9 : (s 178 a1.toNatClampNeg) = 4
        · replace h := (if_pos c9).symm.trans h
          refine g_tin hz (off := 45) (tgt := 60) d_R_swellsOf_15 c9 (by decide) (by decide) (by decide) (by decide) ?_
          refine g_iconst hz d_R_swellsOf_60 ki_4 ?_
          exact g_iret hz (rti h hq) d_R_swellsOf_61
        · replace h := (if_neg c9).symm.trans h
          by_cases c10 : (s 178 a1.toNatClampNeg) = 5
          · replace h := (if_pos c10).symm.trans h
            refine g_tin hz (off := 47) (tgt := 62) d_R_swellsOf_15 c10 (by decide) (by decide) (by decide) (by decide) ?_
            refine g_iload_n hz 0 d_R_swellsOf_62 rfl rfl ?_
            refine g_iconst hz d_R_swellsOf_63 ki_2 ?_
            refine g_icmp_le hz (tgt := 71) d_R_swellsOf_64 (by decide) (fun c11 => ?_) (fun c11 => ?_)
            · replace h := (if_pos c11).symm.trans h
              refine g_iload_n hz 0 d_R_swellsOf_71 rfl rfl ?_
              exact g_iret hz (rti h hq) d_R_swellsOf_72
            · replace h := (if_neg c11).symm.trans h
              refine g_iconst hz d_R_swellsOf_67 ki_2 ?_
              refine g_goto hz (tgt := 72) d_R_swellsOf_68 (by decide) ?_
              exact g_iret hz (rti h hq) d_R_swellsOf_72
          · replace h := (if_neg c10).symm.trans h
            refine g_tdf hz (tgt := 73) d_R_swellsOf_15 (fun i hi hx => ?_) (by decide) ?_
            · match i, hi, hx with
              | 0, _, hx => exact absurd hx (lv_neT c5 (by decide))
              | 1, _, hx => exact absurd hx (lv_neT c6 (by decide))
              | 2, _, hx => exact absurd hx (lv_neT c8 (by decide))
              | 3, _, hx => exact absurd hx (lv_neT c9 (by decide))
              | 4, _, hx => exact absurd hx (lv_neT c10 (by decide))
              | q + 5, hi, _ => exact absurd hi (by omega)
            · refine g_iload_n hz 0 d_R_swellsOf_73 rfl rfl ?_
              exact g_iret hz (rti h hq) d_R_swellsOf_74
def f_R_sizeBehind (s : Mm) (a1 : Int32) : Option (Int32 × Mm) :=
  gd a1 4 <|
  if (s 186 a1.toNatClampNeg) = 1 then
    gd a1 4 <|
    some (s 183 a1.toNatClampNeg, s)
  else
    gd a1 4 <|
    gd a1 4 <|
    bn (f_R_swellsOf s (s 184 a1.toNatClampNeg)) fun x7 s6 =>
    bn (f_R_held s6 ((s 183 a1.toNatClampNeg) + x7) 1 999) fun x10 s9 =>
    some (x10, s9)
set_option maxRecDepth 20000 in
theorem c_R_sizeBehind (l : Launch) {s : Mm} {a1 : Int32} {r' : Int32} {s' : Mm}  (h : f_R_sizeBehind s a1 = some (r', s')) : Cm l y_R_sizeBehind b_R_sizeBehind 2 (some .int) 1 22 [.ref 176, .int a1] s s' (some (.int r')) := by
  refine Cm.of (own := "PassedOnAndBetterModel") (by decide) rfl (fun ad => Nat.le_of_ble_eq_true rfl) ?_
  intro z hz hq
  show G l z b_R_sizeBehind 2 0 [(0, .ref 176), (1, .int a1)] [] s
  unfold f_R_sizeBehind at h
  refine g_aload_n hz 0 d_R_sizeBehind_0 rfl rfl ?_
  refine gf_R_bettered hz q_1012 d_R_sizeBehind_1 ?_
  refine g_iload_n hz 1 d_R_sizeBehind_4 rfl rfl ?_
  obtain ⟨n1, h⟩ := gd_use h
  refine g_iald hz (by decide) n1 d_R_sizeBehind_5 ?_
  refine g_iconst hz d_R_sizeBehind_6 ki_1 ?_
  refine g_icmp_ne hz (tgt := 19) d_R_sizeBehind_7 (by decide) (fun c2 => ?_) (fun c2 => ?_)
  · replace h := (if_neg c2).symm.trans h
    refine g_aload_n hz 0 d_R_sizeBehind_19 rfl rfl ?_
    refine gf_R_size hz q_1009 d_R_sizeBehind_20 ?_
    refine g_iload_n hz 1 d_R_sizeBehind_23 rfl rfl ?_
    obtain ⟨n3, h⟩ := gd_use h
    refine g_iald hz (by decide) n3 d_R_sizeBehind_24 ?_
    refine g_aload_n hz 0 d_R_sizeBehind_25 rfl rfl ?_
    refine g_aload_n hz 0 d_R_sizeBehind_26 rfl rfl ?_
    refine gf_R_holder hz q_1010 d_R_sizeBehind_27 ?_
    refine g_iload_n hz 1 d_R_sizeBehind_30 rfl rfl ?_
    obtain ⟨n4, h⟩ := gd_use h
    refine g_iald hz (by decide) n4 d_R_sizeBehind_31 ?_
    refine bn_use h (fun x7 s6 e5 h => ?_)
    refine g_callVi hz (c_R_swellsOf l e5) (by decide) rc_R rfl rfl m_R_swellsOf mi_R_swellsOf ms_R_swellsOf q_1228 ⟨Nat.le_of_ble_eq_true rfl, Nat.le_of_ble_eq_true rfl⟩ rfl (st := [.int (s 183 a1.toNatClampNeg)]) rfl (Nat.le_of_ble_eq_true rfl) d_R_sizeBehind_32 ?_
    refine g_iadd hz d_R_sizeBehind_35 ?_
    refine g_iconst hz d_R_sizeBehind_36 ki_1 ?_
    refine g_sipush hz (v := 999) d_R_sizeBehind_37 (by decide) ?_
    refine bn_use h (fun x10 s9 e8 h => ?_)
    refine g_callSi hz (c_R_held l e8) m_R_held mi_R_held q_1206 ⟨Nat.le_of_ble_eq_true rfl, Nat.le_of_ble_eq_true rfl⟩ rfl (st := []) rfl (Nat.le_of_ble_eq_true rfl) d_R_sizeBehind_40 ?_
    exact g_iret hz (rti h hq) d_R_sizeBehind_43
  · replace h := (if_pos c2).symm.trans h
    refine g_aload_n hz 0 d_R_sizeBehind_10 rfl rfl ?_
    refine gf_R_size hz q_1009 d_R_sizeBehind_11 ?_
    refine g_iload_n hz 1 d_R_sizeBehind_14 rfl rfl ?_
    obtain ⟨n11, h⟩ := gd_use h
    refine g_iald hz (by decide) n11 d_R_sizeBehind_15 ?_
    refine g_goto hz (tgt := 43) d_R_sizeBehind_16 (by decide) ?_
    exact g_iret hz (rti h hq) d_R_sizeBehind_43
def k_R_betters_45 (v1 : Int32) (v2 : Int32) (vt0 : Int32) (vt1 : Int32) (vt2 : Int32) (s : Mm) : Option Mm :=
  bn (f_R_held s (vt2 + (vt1 * vt0)) 0 999) fun x16 s15 =>
  gd v2 6 <|
  gd v1 4 <|
  gd v2 6 <|
  nm (mU s15 188 v2.toNatClampNeg ((s15 188 v2.toNatClampNeg) + (x16 - (s15 182 v1.toNatClampNeg)))) fun s20 =>
  bn (f_R_sizeBehind s20 v1) fun x24 s23 =>
  gd v1 4 <|
  nm (mU s23 183 v1.toNatClampNeg x24) fun s26 =>
  gd v1 4 <|
  nm (mU s26 182 v1.toNatClampNeg x16) fun s29 =>
  gd v1 4 <|
  nm (mU s29 186 v1.toNatClampNeg 1) fun s32 =>
  some s32
set_option maxRecDepth 20000 in
theorem w_R_betters_45 {l : Launch} {z : Zt} (hz : ZOk z b_R_betters 4 "PassedOnAndBetterModel" 2 43) {s' : Mm} (hq : ZR z none s' none) (v1 : Int32) (v2 : Int32) (vt0 : Int32) (vt1 : Int32) (vt2 : Int32) (s : Mm) (h : k_R_betters_45 v1 v2 vt0 vt1 vt2 s = some s') : G l z b_R_betters 4 45 [(0, .ref 176), (1, .int v1), (2, .int v2)] [.int vt0, .int vt1, .int vt2] s := by
  unfold k_R_betters_45 at h
  refine g_imul hz d_R_betters_45 ?_
  refine g_iadd hz d_R_betters_46 ?_
  refine g_iconst hz d_R_betters_47 ki_0 ?_
  refine g_sipush hz (v := 999) d_R_betters_48 (by decide) ?_
  refine bn_use h (fun x16 s15 e14 h => ?_)
  refine g_callSi hz (c_R_held l e14) m_R_held mi_R_held q_1206 ⟨Nat.le_of_ble_eq_true rfl, Nat.le_of_ble_eq_true rfl⟩ rfl (st := []) rfl (Nat.le_of_ble_eq_true rfl) d_R_betters_51 ?_
  refine g_istore_n hz (L' := [(3, .int x16), (0, .ref 176), (1, .int v1), (2, .int v2)]) d_R_betters_54 rfl (by decide) rfl ?_
  refine g_aload_n hz 1 d_R_betters_55 rfl rfl ?_
  refine gf_R_added hz q_1018 d_R_betters_56 ?_
  refine g_iload_n hz 3 d_R_betters_59 rfl rfl ?_
  refine g_dup2 hz d_R_betters_60 rfl rfl ?_
  obtain ⟨n17, h⟩ := gd_use h
  refine g_iald hz (by decide) n17 d_R_betters_61 ?_
  refine g_iload_n hz 0 d_R_betters_62 rfl rfl ?_
  refine g_aload_n hz 1 d_R_betters_63 rfl rfl ?_
  refine gf_R_worth hz q_1008 d_R_betters_64 ?_
  refine g_iload_n hz 2 d_R_betters_67 rfl rfl ?_
  obtain ⟨n18, h⟩ := gd_use h
  refine g_iald hz (by decide) n18 d_R_betters_68 ?_
  refine g_isub hz d_R_betters_69 ?_
  refine g_iadd hz d_R_betters_70 ?_
  obtain ⟨n19, h⟩ := gd_use h
  refine g_iast hz (by decide) n19 d_R_betters_71 (fun s20 e21 => ?_)
  replace h := nm_use h e21
  refine g_aload_n hz 1 d_R_betters_72 rfl rfl ?_
  refine gf_R_size hz q_1009 d_R_betters_73 ?_
  refine g_iload_n hz 2 d_R_betters_76 rfl rfl ?_
  refine g_aload_n hz 1 d_R_betters_77 rfl rfl ?_
  refine g_iload_n hz 2 d_R_betters_78 rfl rfl ?_
  refine bn_use h (fun x24 s23 e22 h => ?_)
  refine g_callVi hz (c_R_sizeBehind l e22) (by decide) rc_R rfl rfl m_R_sizeBehind mi_R_sizeBehind ms_R_sizeBehind q_1224 ⟨Nat.le_of_ble_eq_true rfl, Nat.le_of_ble_eq_true rfl⟩ rfl (st := [.int v1, .ref 183]) rfl (Nat.le_of_ble_eq_true rfl) d_R_betters_79 ?_
  obtain ⟨n25, h⟩ := gd_use h
  refine g_iast hz (by decide) n25 d_R_betters_82 (fun s26 e27 => ?_)
  replace h := nm_use h e27
  refine g_aload_n hz 1 d_R_betters_83 rfl rfl ?_
  refine gf_R_worth hz q_1008 d_R_betters_84 ?_
  refine g_iload_n hz 2 d_R_betters_87 rfl rfl ?_
  refine g_iload_n hz 0 d_R_betters_88 rfl rfl ?_
  obtain ⟨n28, h⟩ := gd_use h
  refine g_iast hz (by decide) n28 d_R_betters_89 (fun s29 e30 => ?_)
  replace h := nm_use h e30
  refine g_aload_n hz 1 d_R_betters_90 rfl rfl ?_
  refine gf_R_bettered hz q_1012 d_R_betters_91 ?_
  refine g_iload_n hz 2 d_R_betters_94 rfl rfl ?_
  refine g_iconst hz d_R_betters_95 ki_1 ?_
  obtain ⟨n31, h⟩ := gd_use h
  refine g_iast hz (by decide) n31 d_R_betters_96 (fun s32 e33 => ?_)
  replace h := nm_use h e33
  exact g_vret hz (rtv h hq) d_R_betters_97
def f_R_betters (s : Mm) (a1 : Int32) : Option Mm :=
  gd a1 4 <|
  if (s 186 a1.toNatClampNeg) = 1 then
    some s
  else
    gd a1 4 <|
    nm (s 184 a1.toNatClampNeg) fun x4 =>
    gd a1 4 <|
    bn (f_R_addsOf s x4) fun x9 s8 =>
    bn (f_R_has s8 (s8 176 14) x4) fun x12 s11 =>
    if x12 = 0 then
      k_R_betters_45 a1 x4 1 x9 (s 182 a1.toNatClampNeg) s11
    else
      k_R_betters_45 a1 x4 2 x9 (s 182 a1.toNatClampNeg) s11
set_option maxRecDepth 20000 in
theorem c_R_betters (l : Launch) {s : Mm} {a1 : Int32} {s' : Mm}  (h : f_R_betters s a1 = some s') : Cm l y_R_betters b_R_betters 4 none 2 43 [.ref 176, .int a1] s s' none := by
  refine Cm.of (own := "PassedOnAndBetterModel") (by decide) rfl (fun ad => Nat.le_of_ble_eq_true rfl) ?_
  intro z hz hq
  show G l z b_R_betters 4 0 [(0, .ref 176), (1, .int a1)] [] s
  unfold f_R_betters at h
  refine g_aload_n hz 0 d_R_betters_0 rfl rfl ?_
  refine gf_R_bettered hz q_1012 d_R_betters_1 ?_
  refine g_iload_n hz 1 d_R_betters_4 rfl rfl ?_
  obtain ⟨n1, h⟩ := gd_use h
  refine g_iald hz (by decide) n1 d_R_betters_5 ?_
  refine g_iconst hz d_R_betters_6 ki_1 ?_
  refine g_icmp_ne hz (tgt := 11) d_R_betters_7 (by decide) (fun c2 => ?_) (fun c2 => ?_)
  · replace h := (if_neg c2).symm.trans h
    refine g_aload_n hz 0 d_R_betters_11 rfl rfl ?_
    refine gf_R_holder hz q_1010 d_R_betters_12 ?_
    refine g_iload_n hz 1 d_R_betters_15 rfl rfl ?_
    obtain ⟨n3, h⟩ := gd_use h
    refine g_iald hz (by decide) n3 d_R_betters_16 ?_
    refine g_nmi (fun x4 e5 => ?_)
    replace h := nm_use h e5
    refine g_istore_n hz (L' := [(2, .int x4), (0, .ref 176), (1, .int a1)]) d_R_betters_17 rfl (by decide) rfl ?_
    refine g_aload_n hz 1 d_R_betters_18 rfl rfl ?_
    refine gf_R_worth hz q_1008 d_R_betters_19 ?_
    refine g_iload_n hz 2 d_R_betters_22 rfl rfl ?_
    obtain ⟨n6, h⟩ := gd_use h
    refine g_iald hz (by decide) n6 d_R_betters_23 ?_
    refine g_aload_n hz 1 d_R_betters_24 rfl rfl ?_
    refine g_iload_n hz 0 d_R_betters_25 rfl rfl ?_
    refine bn_use h (fun x9 s8 e7 h => ?_)
    refine g_callVi hz (c_R_addsOf l e7) (by decide) rc_R rfl rfl m_R_addsOf mi_R_addsOf ms_R_addsOf q_1217 ⟨Nat.le_of_ble_eq_true rfl, Nat.le_of_ble_eq_true rfl⟩ rfl (st := [.int (s 182 a1.toNatClampNeg)]) rfl (Nat.le_of_ble_eq_true rfl) d_R_betters_26 ?_
    refine g_aload_n hz 1 d_R_betters_29 rfl rfl ?_
    refine gf_R_twice hz q_1017 d_R_betters_30 ?_
    refine g_iload_n hz 0 d_R_betters_33 rfl rfl ?_
    refine bn_use h (fun x12 s11 e10 h => ?_)
    refine g_callSi hz (c_R_has l e10) m_R_has mi_R_has q_1221 ⟨Nat.le_of_ble_eq_true rfl, Nat.le_of_ble_eq_true rfl⟩ rfl (st := [.int x9, .int (s 182 a1.toNatClampNeg)]) rfl (Nat.le_of_ble_eq_true rfl) d_R_betters_34 ?_
    refine g_if_eq hz (tgt := 44) d_R_betters_37 (by decide) (fun c13 => ?_) (fun c13 => ?_)
    · replace h := (if_pos c13).symm.trans h
      refine g_iconst hz d_R_betters_44 ki_1 ?_
      refine g_sub [1, 2, 0] rfl ?_
      exact w_R_betters_45 hz hq a1 x4 1 x9 (s 182 a1.toNatClampNeg) _ h
    · replace h := (if_neg c13).symm.trans h
      refine g_iconst hz d_R_betters_40 ki_2 ?_
      refine g_goto hz (tgt := 45) d_R_betters_41 (by decide) ?_
      refine g_sub [1, 2, 0] rfl ?_
      exact w_R_betters_45 hz hq a1 x4 2 x9 (s 182 a1.toNatClampNeg) _ h
  · replace h := (if_pos c2).symm.trans h
    exact g_vret hz (rtv h hq) d_R_betters_10
def f_R_goesOn (s : Mm) (a1 : Int32) (a2 : Int32) : Option Mm :=
  gd a1 4 <|
  bn (f_R_held s ((s 185 a1.toNatClampNeg) + 1) 0 99) fun x4 s3 =>
  gd a1 4 <|
  nm (mU s3 185 a1.toNatClampNeg x4) fun s6 =>
  if a2 = 0 then
    gd a1 4 <|
    gd a1 4 <|
    bn (f_R_waitsOf s6 (s6 184 a1.toNatClampNeg)) fun x13 s12 =>
    if x13 ≤ (s6 185 a1.toNatClampNeg) then
      bv (f_R_betters s12 a1) fun s16 =>
      gd a1 4 <|
      gd (s16 184 a1.toNatClampNeg) 6 <|
      nm (s16 181 (s16 184 a1.toNatClampNeg).toNatClampNeg) fun x19 =>
      if x19 < 0 then
        some s16
      else
        gd a1 4 <|
        gd x19 6 <|
        if (s16 183 a1.toNatClampNeg) ≤ (s16 180 x19.toNatClampNeg) then
          bv (f_R_puts s16 a1 x19) fun s26 =>
          gd a1 4 <|
          bn (f_R_held s26 ((s26 187 a1.toNatClampNeg) + 1) 0 99) fun x30 s29 =>
          gd a1 4 <|
          nm (mU s29 187 a1.toNatClampNeg x30) fun s32 =>
          some s32
        else
          some s16
    else
      some s12
  else
    some s6
set_option maxRecDepth 20000 in
theorem c_R_goesOn (l : Launch) {s : Mm} {a1 : Int32} {a2 : Int32} {s' : Mm}  (h : f_R_goesOn s a1 a2 = some s') : Cm l y_R_goesOn b_R_goesOn 4 none 3 66 [.ref 176, .int a1, .int a2] s s' none := by
  refine Cm.of (own := "PassedOnAndBetterModel") (by decide) rfl (fun ad => Nat.le_of_ble_eq_true rfl) ?_
  intro z hz hq
  show G l z b_R_goesOn 4 0 [(0, .ref 176), (1, .int a1), (2, .int a2)] [] s
  unfold f_R_goesOn at h
  refine g_aload_n hz 0 d_R_goesOn_0 rfl rfl ?_
  refine gf_R_kept hz q_1011 d_R_goesOn_1 ?_
  refine g_iload_n hz 1 d_R_goesOn_4 rfl rfl ?_
  refine g_aload_n hz 0 d_R_goesOn_5 rfl rfl ?_
  refine gf_R_kept hz q_1011 d_R_goesOn_6 ?_
  refine g_iload_n hz 1 d_R_goesOn_9 rfl rfl ?_
  obtain ⟨n1, h⟩ := gd_use h
  refine g_iald hz (by decide) n1 d_R_goesOn_10 ?_
  refine g_iconst hz d_R_goesOn_11 ki_1 ?_
  refine g_iadd hz d_R_goesOn_12 ?_
  refine g_iconst hz d_R_goesOn_13 ki_0 ?_
  refine g_bipush hz (v := 99) d_R_goesOn_14 (by decide) ?_
  refine bn_use h (fun x4 s3 e2 h => ?_)
  refine g_callSi hz (c_R_held l e2) m_R_held mi_R_held q_1206 ⟨Nat.le_of_ble_eq_true rfl, Nat.le_of_ble_eq_true rfl⟩ rfl (st := [.int a1, .ref 185]) rfl (Nat.le_of_ble_eq_true rfl) d_R_goesOn_16 ?_
  obtain ⟨n5, h⟩ := gd_use h
  refine g_iast hz (by decide) n5 d_R_goesOn_19 (fun s6 e7 => ?_)
  replace h := nm_use h e7
  refine g_iload_n hz 2 d_R_goesOn_20 rfl rfl ?_
  refine g_if_ne hz (tgt := 43) d_R_goesOn_21 (by decide) (fun c8 => ?_) (fun c8 => ?_)
  · replace h := (if_neg c8).symm.trans h
    exact g_vret hz (rtv h hq) d_R_goesOn_43
  · replace h := (if_pos c8).symm.trans h
    refine g_aload_n hz 0 d_R_goesOn_24 rfl rfl ?_
    refine gf_R_kept hz q_1011 d_R_goesOn_25 ?_
    refine g_iload_n hz 1 d_R_goesOn_28 rfl rfl ?_
    obtain ⟨n9, h⟩ := gd_use h
    refine g_iald hz (by decide) n9 d_R_goesOn_29 ?_
    refine g_aload_n hz 0 d_R_goesOn_30 rfl rfl ?_
    refine g_aload_n hz 0 d_R_goesOn_31 rfl rfl ?_
    refine gf_R_holder hz q_1010 d_R_goesOn_32 ?_
    refine g_iload_n hz 1 d_R_goesOn_35 rfl rfl ?_
    obtain ⟨n10, h⟩ := gd_use h
    refine g_iald hz (by decide) n10 d_R_goesOn_36 ?_
    refine bn_use h (fun x13 s12 e11 h => ?_)
    refine g_callVi hz (c_R_waitsOf l e11) (by decide) rc_R rfl rfl m_R_waitsOf mi_R_waitsOf ms_R_waitsOf q_1209 ⟨Nat.le_of_ble_eq_true rfl, Nat.le_of_ble_eq_true rfl⟩ rfl (st := [.int (s6 185 a1.toNatClampNeg)]) rfl (Nat.le_of_ble_eq_true rfl) d_R_goesOn_37 ?_
    refine g_icmp_ge hz (tgt := 44) d_R_goesOn_40 (by decide) (fun c14 => ?_) (fun c14 => ?_)
    · replace h := (if_pos c14).symm.trans h
      refine g_aload_n hz 0 d_R_goesOn_44 rfl rfl ?_
      refine g_iload_n hz 1 d_R_goesOn_45 rfl rfl ?_
      refine bv_use h (fun s16 e15 h => ?_)
      refine g_callVv hz (c_R_betters l e15) (by decide) rc_R rfl rfl m_R_betters mi_R_betters ms_R_betters q_1213 ⟨Nat.le_of_ble_eq_true rfl, Nat.le_of_ble_eq_true rfl⟩ rfl (st := []) rfl (Nat.le_of_ble_eq_true rfl) d_R_goesOn_46 ?_
      refine g_aload_n hz 0 d_R_goesOn_49 rfl rfl ?_
      refine gf_R_next hz q_1007 d_R_goesOn_50 ?_
      refine g_aload_n hz 0 d_R_goesOn_53 rfl rfl ?_
      refine gf_R_holder hz q_1010 d_R_goesOn_54 ?_
      refine g_iload_n hz 1 d_R_goesOn_57 rfl rfl ?_
      obtain ⟨n17, h⟩ := gd_use h
      refine g_iald hz (by decide) n17 d_R_goesOn_58 ?_
      obtain ⟨n18, h⟩ := gd_use h
      refine g_iald hz (by decide) n18 d_R_goesOn_59 ?_
      refine g_nmi (fun x19 e20 => ?_)
      replace h := nm_use h e20
      refine g_istore_n hz (L' := [(3, .int x19), (0, .ref 176), (1, .int a1), (2, .int a2)]) d_R_goesOn_60 rfl (by decide) rfl ?_
      refine g_iload_n hz 0 d_R_goesOn_61 rfl rfl ?_
      refine g_if_lt hz (tgt := 80) d_R_goesOn_62 (by decide) (fun c21 => ?_) (fun c21 => ?_)
      · replace h := (if_pos c21).symm.trans h
        exact g_vret hz (rtv h hq) d_R_goesOn_80
      · replace h := (if_neg c21).symm.trans h
        refine g_aload_n hz 1 d_R_goesOn_65 rfl rfl ?_
        refine gf_R_size hz q_1009 d_R_goesOn_66 ?_
        refine g_iload_n hz 2 d_R_goesOn_69 rfl rfl ?_
        obtain ⟨n22, h⟩ := gd_use h
        refine g_iald hz (by decide) n22 d_R_goesOn_70 ?_
        refine g_aload_n hz 1 d_R_goesOn_71 rfl rfl ?_
        refine gf_R_door hz q_1006 d_R_goesOn_72 ?_
        refine g_iload_n hz 0 d_R_goesOn_75 rfl rfl ?_
        obtain ⟨n23, h⟩ := gd_use h
        refine g_iald hz (by decide) n23 d_R_goesOn_76 ?_
        refine g_icmp_le hz (tgt := 81) d_R_goesOn_77 (by decide) (fun c24 => ?_) (fun c24 => ?_)
        · replace h := (if_pos c24).symm.trans h
          refine g_aload_n hz 1 d_R_goesOn_81 rfl rfl ?_
          refine g_iload_n hz 2 d_R_goesOn_82 rfl rfl ?_
          refine g_iload_n hz 0 d_R_goesOn_83 rfl rfl ?_
          refine bv_use h (fun s26 e25 h => ?_)
          refine g_callVv hz (c_R_puts l e25) (by decide) rc_R rfl rfl m_R_puts mi_R_puts ms_R_puts q_1170 ⟨Nat.le_of_ble_eq_true rfl, Nat.le_of_ble_eq_true rfl⟩ rfl (st := []) rfl (Nat.le_of_ble_eq_true rfl) d_R_goesOn_84 ?_
          refine g_aload_n hz 1 d_R_goesOn_87 rfl rfl ?_
          refine gf_R_given hz q_1013 d_R_goesOn_88 ?_
          refine g_iload_n hz 2 d_R_goesOn_91 rfl rfl ?_
          refine g_aload_n hz 1 d_R_goesOn_92 rfl rfl ?_
          refine gf_R_given hz q_1013 d_R_goesOn_93 ?_
          refine g_iload_n hz 2 d_R_goesOn_96 rfl rfl ?_
          obtain ⟨n27, h⟩ := gd_use h
          refine g_iald hz (by decide) n27 d_R_goesOn_97 ?_
          refine g_iconst hz d_R_goesOn_98 ki_1 ?_
          refine g_iadd hz d_R_goesOn_99 ?_
          refine g_iconst hz d_R_goesOn_100 ki_0 ?_
          refine g_bipush hz (v := 99) d_R_goesOn_101 (by decide) ?_
          refine bn_use h (fun x30 s29 e28 h => ?_)
          refine g_callSi hz (c_R_held l e28) m_R_held mi_R_held q_1206 ⟨Nat.le_of_ble_eq_true rfl, Nat.le_of_ble_eq_true rfl⟩ rfl (st := [.int a1, .ref 187]) rfl (Nat.le_of_ble_eq_true rfl) d_R_goesOn_103 ?_
          obtain ⟨n31, h⟩ := gd_use h
          refine g_iast hz (by decide) n31 d_R_goesOn_106 (fun s32 e33 => ?_)
          replace h := nm_use h e33
          exact g_vret hz (rtv h hq) d_R_goesOn_107
        · replace h := (if_neg c24).symm.trans h
          exact g_vret hz (rtv h hq) d_R_goesOn_80
    · replace h := (if_neg c14).symm.trans h
      exact g_vret hz (rtv h hq) d_R_goesOn_43
def k_R_goesMonth_12 : Nat → Int32 → Int32 → Mm → Option Mm
  | 0, _, _, _ => none
  | n + 1, v1, v2, s => if (s 176 12) ≤ v2 then
      some s
    else
      bv (f_R_goesOn s v2 v1) fun s5 =>
      k_R_goesMonth_12 n v1 (v2 + 1) s5
set_option maxRecDepth 20000 in
theorem w_R_goesMonth_12 {l : Launch} {z : Zt} (hz : ZOk z b_R_goesMonth 3 "PassedOnAndBetterModel" 4 89) {s' : Mm} (hq : ZR z none s' none) : ∀ (n : Nat) (v1 : Int32) (v2 : Int32) (s : Mm), k_R_goesMonth_12 n v1 v2 s = some s' → G l z b_R_goesMonth 3 12 [(0, .ref 176), (1, .int v1), (2, .int v2)] [] s := by
  intro n
  induction n with
  | zero => intro v1 v2 s h; unfold k_R_goesMonth_12 at h; cases h
  | succ n ih =>
    intro v1 v2 s h
    unfold k_R_goesMonth_12 at h
    refine g_iload_n hz 2 d_R_goesMonth_12 rfl rfl ?_
    refine g_aload_n hz 0 d_R_goesMonth_13 rfl rfl ?_
    refine gf_R_gifts hz q_1015 d_R_goesMonth_14 ?_
    refine g_icmp_ge hz (tgt := 32) d_R_goesMonth_17 (by decide) (fun c3 => ?_) (fun c3 => ?_)
    · replace h := (if_pos c3).symm.trans h
      exact g_vret hz (rtv h hq) d_R_goesMonth_32
    · replace h := (if_neg c3).symm.trans h
      refine g_aload_n hz 0 d_R_goesMonth_20 rfl rfl ?_
      refine g_iload_n hz 2 d_R_goesMonth_21 rfl rfl ?_
      refine g_iload_n hz 1 d_R_goesMonth_22 rfl rfl ?_
      refine bv_use h (fun s5 e4 h => ?_)
      refine g_callVv hz (c_R_goesOn l e4) (by decide) rc_R rfl rfl m_R_goesOn mi_R_goesOn ms_R_goesOn q_1202 ⟨Nat.le_of_ble_eq_true rfl, Nat.le_of_ble_eq_true rfl⟩ rfl (st := []) rfl (Nat.le_of_ble_eq_true rfl) d_R_goesMonth_23 ?_
      refine g_iinc hz (v := v2 + 1) (L' := [(2, .int (v2 + 1)), (0, .ref 176), (1, .int v1)]) 2 d_R_goesMonth_26 rfl (congrArg (fun q => v2 + q) ki_1) (by decide) rfl ?_
      refine g_goto hz (tgt := 12) d_R_goesMonth_29 (by decide) ?_
      refine g_sub [1, 2, 0] rfl ?_
      exact ih v1 (v2 + 1) _ h
def f_R_goesMonth (s : Mm) (a1 : Int32) : Option Mm :=
  nm (mU s 176 13 ((s 176 13) + 1)) fun s1 =>
  k_R_goesMonth_12 KF a1 0 s1
set_option maxRecDepth 20000 in
theorem c_R_goesMonth (l : Launch) {s : Mm} {a1 : Int32} {s' : Mm}  (h : f_R_goesMonth s a1 = some s') : Cm l y_R_goesMonth b_R_goesMonth 3 none 4 89 [.ref 176, .int a1] s s' none := by
  refine Cm.of (own := "PassedOnAndBetterModel") (by decide) rfl (fun ad => Nat.le_of_ble_eq_true rfl) ?_
  intro z hz hq
  show G l z b_R_goesMonth 3 0 [(0, .ref 176), (1, .int a1)] [] s
  unfold f_R_goesMonth at h
  refine g_aload_n hz 0 d_R_goesMonth_0 rfl rfl ?_
  refine g_dup hz d_R_goesMonth_1 rfl ?_
  refine gf_R_month hz q_1016 d_R_goesMonth_2 ?_
  refine g_iconst hz d_R_goesMonth_5 ki_1 ?_
  refine g_iadd hz d_R_goesMonth_6 ?_
  refine pf_R_month hz q_1016 d_R_goesMonth_7 (fun s1 e2 => ?_)
  replace h := nm_use h e2
  refine g_iconst hz d_R_goesMonth_10 ki_0 ?_
  refine g_istore_n hz (L' := [(2, .int 0), (0, .ref 176), (1, .int a1)]) d_R_goesMonth_11 rfl (by decide) rfl ?_
  refine g_sub [1, 2, 0] rfl ?_
  exact w_R_goesMonth_12 hz hq KF a1 0 _ h
