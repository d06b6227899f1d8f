def k_R_sum_4 : Nat → Nat → Int32 → Int32 → Int32 → Mm → Option (Int32 × Mm)
  | 0, _, _, _, _, _ => none
  | n + 1, o0, v1, v2, v3, s => if v1 ≤ v3 then
      some (v2, s)
    else
      gd v3 (aL o0) <|
      nm (v2 + (s o0 v3.toNatClampNeg)) fun x3 =>
      k_R_sum_4 n o0 v1 x3 (v3 + 1) s
set_option maxRecDepth 20000 in
theorem w_R_sum_4 {l : Launch} {z : Zt} (hz : ZOk z b_R_sum 4 "PassedOnAndBetterModel" 0 0) {r' : Int32} {s' : Mm} (hq : ZR z (some .int) s' (some (.int r'))) : ∀ (n : Nat) (o0 : Nat) (v1 : Int32) (v2 : Int32) (v3 : Int32) (ho0 : iA o0) (s : Mm), k_R_sum_4 n o0 v1 v2 v3 s = some (r', s') → G l z b_R_sum 4 4 [(0, .ref o0), (1, .int v1), (2, .int v2), (3, .int v3)] [] s := by
  intro n
  induction n with
  | zero => intro o0 v1 v2 v3 ho0 s h; unfold k_R_sum_4 at h; cases h
  | succ n ih =>
    intro o0 v1 v2 v3 ho0 s h
    unfold k_R_sum_4 at h
    refine g_iload_n hz 3 d_R_sum_4 rfl rfl ?_
    refine g_iload_n hz 1 d_R_sum_5 rfl rfl ?_
    refine g_icmp_ge hz (tgt := 21) d_R_sum_6 (by decide) (fun c1 => ?_) (fun c1 => ?_)
    · replace h := (if_pos c1).symm.trans h
      refine g_iload_n hz 2 d_R_sum_21 rfl rfl ?_
      exact g_iret hz (rti h hq) d_R_sum_22
    · replace h := (if_neg c1).symm.trans h
      refine g_iload_n hz 2 d_R_sum_9 rfl rfl ?_
      refine g_aload_n hz 0 d_R_sum_10 rfl rfl ?_
      refine g_iload_n hz 3 d_R_sum_11 rfl rfl ?_
      obtain ⟨n2, h⟩ := gd_use h
      refine g_iald hz ho0 n2 d_R_sum_12 ?_
      refine g_iadd hz d_R_sum_13 ?_
      refine g_nmi (fun x3 e4 => ?_)
      replace h := nm_use h e4
      refine g_istore_n hz (L' := [(2, .int x3), (0, .ref o0), (1, .int v1), (3, .int v3)]) d_R_sum_14 rfl (by decide) rfl ?_
      refine g_iinc hz (v := v3 + 1) (L' := [(3, .int (v3 + 1)), (2, .int x3), (0, .ref o0), (1, .int v1)]) 3 d_R_sum_15 rfl (congrArg (fun q => v3 + q) ki_1) (by decide) rfl ?_
      refine g_goto hz (tgt := 4) d_R_sum_18 (by decide) ?_
      refine g_sub [2, 3, 1, 0] rfl ?_
      exact ih o0 v1 x3 (v3 + 1) ho0 _ h
def f_R_sum (s : Mm) (o0 : Nat) (a1 : Int32) : Option (Int32 × Mm) :=
  k_R_sum_4 KF o0 a1 0 0 s
set_option maxRecDepth 20000 in
theorem c_R_sum (l : Launch) {s : Mm} {o0 : Nat} {a1 : Int32} {r' : Int32} {s' : Mm} (ho0 : iA o0) (h : f_R_sum s o0 a1 = some (r', s')) : Cm l y_R_sum b_R_sum 4 (some .int) 0 0 [.ref o0, .int a1] s s' (some (.int r')) := by
  refine Cm.of (own := "PassedOnAndBetterModel") (by decide) rfl (fun ad => Nat.le_of_ble_eq_true rfl) ?_
  intro z hz hq
  show G l z b_R_sum 4 0 [(0, .ref o0), (1, .int a1)] [] s
  unfold f_R_sum at h
  refine g_iconst hz d_R_sum_0 ki_0 ?_
  refine g_istore_n hz (L' := [(2, .int 0), (0, .ref o0), (1, .int a1)]) d_R_sum_1 rfl (by decide) rfl ?_
  refine g_iconst hz d_R_sum_2 ki_0 ?_
  refine g_istore_n hz (L' := [(3, .int 0), (2, .int 0), (0, .ref o0), (1, .int a1)]) d_R_sum_3 rfl (by decide) rfl ?_
  refine g_sub [2, 3, 1, 0] rfl ?_
  exact w_R_sum_4 hz hq KF o0 a1 0 0 ho0 _ h
def k_R_months_27 (v1 : Int32) (v2 : Int32) (s : Mm) : Option (Int32 × Mm) :=
  if v2 = 0 then
    bv (f_R_keepsBack s) fun s7 =>
    bv (f_R_goes s7 v1) fun s9 =>
    bn (f_R_sum s9 182 (s9 176 12)) fun x12 s11 =>
    some (x12, s11)
  else
    bn (f_R_no s v2) fun x15 s14 =>
    some (x15, s14)
set_option maxRecDepth 20000 in
theorem w_R_months_27 {l : Launch} {z : Zt} (hz : ZOk z b_R_months 3 "PassedOnAndBetterModel" 6 133) {r' : Int32} {s' : Mm} (hq : ZR z (some .int) s' (some (.int r'))) (v1 : Int32) (v2 : Int32) (s : Mm) (h : k_R_months_27 v1 v2 s = some (r', s')) : G l z b_R_months 3 27 [(0, .ref 176), (1, .int v1), (2, .int v2)] [] s := by
  unfold k_R_months_27 at h
  refine g_iload_n hz 2 d_R_months_27 rfl rfl ?_
  refine g_if_eq hz (tgt := 37) d_R_months_28 (by decide) (fun c5 => ?_) (fun c5 => ?_)
  · replace h := (if_pos c5).symm.trans h
    refine g_aload_n hz 0 d_R_months_37 rfl rfl ?_
    refine bv_use h (fun s7 e6 h => ?_)
    refine g_callVv hz (c_R_keepsBack l e6) (by decide) rc_R rfl rfl m_R_keepsBack mi_R_keepsBack ms_R_keepsBack q_1268 ⟨Nat.le_of_ble_eq_true rfl, Nat.le_of_ble_eq_true rfl⟩ rfl (st := []) rfl (Nat.le_of_ble_eq_true rfl) d_R_months_38 ?_
    refine g_aload_n hz 0 d_R_months_41 rfl rfl ?_
    refine g_iload_n hz 1 d_R_months_42 rfl rfl ?_
    refine bv_use h (fun s9 e8 h => ?_)
    refine g_callVv hz (c_R_goes l e8) (by decide) rc_R rfl rfl m_R_goes mi_R_goes ms_R_goes q_1194 ⟨Nat.le_of_ble_eq_true rfl, Nat.le_of_ble_eq_true rfl⟩ rfl (st := []) rfl (Nat.le_of_ble_eq_true rfl) d_R_months_43 ?_
    refine g_aload_n hz 0 d_R_months_46 rfl rfl ?_
    refine gf_R_worth hz q_1008 d_R_months_47 ?_
    refine g_aload_n hz 0 d_R_months_50 rfl rfl ?_
    refine gf_R_gifts hz q_1015 d_R_months_51 ?_
    refine bn_use h (fun x12 s11 e10 h => ?_)
    refine g_callSi hz (c_R_sum l (by decide) e10) m_R_sum mi_R_sum q_1284 ⟨Nat.le_of_ble_eq_true rfl, Nat.le_of_ble_eq_true rfl⟩ rfl (st := []) rfl (Nat.le_of_ble_eq_true rfl) d_R_months_54 ?_
    exact g_iret hz (rti h hq) d_R_months_57
  · replace h := (if_neg c5).symm.trans h
    refine g_aload_n hz 0 d_R_months_31 rfl rfl ?_
    refine g_iload_n hz 2 d_R_months_32 rfl rfl ?_
    refine bn_use h (fun x15 s14 e13 h => ?_)
    refine g_callVi hz (c_R_no l e13) (by decide) rc_R rfl rfl m_R_no mi_R_no ms_R_no q_1107 ⟨Nat.le_of_ble_eq_true rfl, Nat.le_of_ble_eq_true rfl⟩ rfl (st := []) rfl (Nat.le_of_ble_eq_true rfl) d_R_months_33 ?_
    exact g_iret hz (rti h hq) d_R_months_36
def f_R_months (s : Mm) (a1 : Int32) : Option (Int32 × Mm) :=
  bn (f_R_bound s a1 1 60) fun x3 s2 =>
  if x3 = 0 then
    if ((s2 176 13) + a1) ≤ 999 then
      k_R_months_27 a1 x3 s2
    else
      k_R_months_27 a1 (-6) s2
  else
    k_R_months_27 a1 x3 s2
set_option maxRecDepth 20000 in
theorem c_R_months (l : Launch) {s : Mm} {a1 : Int32} {r' : Int32} {s' : Mm}  (h : f_R_months s a1 = some (r', s')) : Cm l y_R_months b_R_months 3 (some .int) 6 133 [.ref 176, .int a1] s s' (some (.int r')) := by
  refine Cm.of (own := "PassedOnAndBetterModel") (by decide) rfl (fun ad => Nat.le_of_ble_eq_true rfl) ?_
  intro z hz hq
  show G l z b_R_months 3 0 [(0, .ref 176), (1, .int a1)] [] s
  unfold f_R_months at h
  refine g_iload_n hz 1 d_R_months_0 rfl rfl ?_
  refine g_iconst hz d_R_months_1 ki_1 ?_
  refine g_bipush hz (v := 60) d_R_months_2 (by decide) ?_
  refine bn_use h (fun x3 s2 e1 h => ?_)
  refine g_callSi hz (c_R_bound l e1) m_R_bound mi_R_bound q_1104 ⟨Nat.le_of_ble_eq_true rfl, Nat.le_of_ble_eq_true rfl⟩ rfl (st := []) rfl (Nat.le_of_ble_eq_true rfl) d_R_months_4 ?_
  refine g_istore_n hz (L' := [(2, .int x3), (0, .ref 176), (1, .int a1)]) d_R_months_7 rfl (by decide) rfl ?_
  refine g_iload_n hz 0 d_R_months_8 rfl rfl ?_
  refine g_if_ne hz (tgt := 27) d_R_months_9 (by decide) (fun c4 => ?_) (fun c4 => ?_)
  · replace h := (if_neg c4).symm.trans h
    refine g_sub [1, 2, 0] rfl ?_
    exact w_R_months_27 hz hq a1 x3 _ h
  · replace h := (if_pos c4).symm.trans h
    refine g_aload_n hz 1 d_R_months_12 rfl rfl ?_
    refine gf_R_month hz q_1016 d_R_months_13 ?_
    refine g_iload_n hz 2 d_R_months_16 rfl rfl ?_
    refine g_iadd hz d_R_months_17 ?_
    refine g_sipush hz (v := 999) d_R_months_18 (by decide) ?_
    refine g_icmp_le hz (tgt := 27) d_R_months_21 (by decide) (fun c16 => ?_) (fun c16 => ?_)
    · replace h := (if_pos c16).symm.trans h
      refine g_sub [1, 2, 0] rfl ?_
      exact w_R_months_27 hz hq a1 x3 _ h
    · replace h := (if_neg c16).symm.trans h
      refine g_bipush hz (v := (-6)) d_R_months_24 (by decide) ?_
      refine g_istore_n hz (L' := [(2, .int (-6)), (0, .ref 176), (1, .int a1)]) d_R_months_26 rfl (by decide) rfl ?_
      refine g_sub [1, 2, 0] rfl ?_
      exact w_R_months_27 hz hq a1 (-6) _ h
def f_R_notMonths (s : Mm) (a0 : Int32) : Option (Int32 × Mm) :=
  bn (f_R_bound s a0 0 60) fun x3 s2 =>
  some (x3, s2)
set_option maxRecDepth 20000 in
theorem c_R_notMonths (l : Launch) {s : Mm} {a0 : Int32} {r' : Int32} {s' : Mm}  (h : f_R_notMonths s a0 = some (r', s')) : Cm l y_R_notMonths b_R_notMonths 1 (some .int) 1 22 [.int a0] s s' (some (.int r')) := by
  refine Cm.of (own := "PassedOnAndBetterModel") (by decide) rfl (fun ad => Nat.le_of_ble_eq_true rfl) ?_
  intro z hz hq
  show G l z b_R_notMonths 1 0 [(0, .int a0)] [] s
  unfold f_R_notMonths at h
  refine g_iload_n hz 0 d_R_notMonths_0 rfl rfl ?_
  refine g_iconst hz d_R_notMonths_1 ki_0 ?_
  refine g_bipush hz (v := 60) d_R_notMonths_2 (by decide) ?_
  refine bn_use h (fun x3 s2 e1 h => ?_)
  refine g_callSi hz (c_R_bound l e1) m_R_bound mi_R_bound q_1104 ⟨Nat.le_of_ble_eq_true rfl, Nat.le_of_ble_eq_true rfl⟩ rfl (st := []) rfl (Nat.le_of_ble_eq_true rfl) d_R_notMonths_4 ?_
  exact g_iret hz (rti h hq) d_R_notMonths_7
def k_R_thinks_8 : Nat → Int32 → Mm → Option Mm
  | 0, _, _ => none
  | n + 1, v1, s => if 6 ≤ v1 then
      some s
    else
      gd v1 6 <|
      nm (mU s 188 v1.toNatClampNeg 0) fun s5 =>
      k_R_thinks_8 n (v1 + 1) s5
set_option maxRecDepth 20000 in
theorem w_R_thinks_8 {l : Launch} {z : Zt} (hz : ZOk z b_R_thinks 2 "PassedOnAndBetterModel" 2 44) {s' : Mm} (hq : ZR z none s' none) : ∀ (n : Nat) (v1 : Int32) (s : Mm), k_R_thinks_8 n v1 s = some s' → G l z b_R_thinks 2 8 [(0, .ref 176), (1, .int v1)] [] s := by
  intro n
  induction n with
  | zero => intro v1 s h; unfold k_R_thinks_8 at h; cases h
  | succ n ih =>
    intro v1 s h
    unfold k_R_thinks_8 at h
    refine g_iload_n hz 1 d_R_thinks_8 rfl rfl ?_
    refine g_bipush hz (v := 6) d_R_thinks_9 (by decide) ?_
    refine g_icmp_ge hz (tgt := 27) d_R_thinks_11 (by decide) (fun c3 => ?_) (fun c3 => ?_)
    · replace h := (if_pos c3).symm.trans h
      exact g_vret hz (rtv h hq) d_R_thinks_27
    · replace h := (if_neg c3).symm.trans h
      refine g_aload_n hz 0 d_R_thinks_14 rfl rfl ?_
      refine gf_R_added hz q_1018 d_R_thinks_15 ?_
      refine g_iload_n hz 1 d_R_thinks_18 rfl rfl ?_
      refine g_iconst hz d_R_thinks_19 ki_0 ?_
      obtain ⟨n4, h⟩ := gd_use h
      refine g_iast hz (by decide) n4 d_R_thinks_20 (fun s5 e6 => ?_)
      replace h := nm_use h e6
      refine g_iinc hz (v := v1 + 1) (L' := [(1, .int (v1 + 1)), (0, .ref 176)]) 1 d_R_thinks_21 rfl (congrArg (fun q => v1 + q) ki_1) (by decide) rfl ?_
      refine g_goto hz (tgt := 8) d_R_thinks_24 (by decide) ?_
      refine g_sub [1, 0] rfl ?_
      exact ih (v1 + 1) _ h
def f_R_thinks (s : Mm) : Option Mm :=
  bv (f_R_passesAll s 2 1) fun s2 =>
  k_R_thinks_8 KF 0 s2
set_option maxRecDepth 20000 in
theorem c_R_thinks (l : Launch) {s : Mm}  {s' : Mm}  (h : f_R_thinks s = some s') : Cm l y_R_thinks b_R_thinks 2 none 2 44 [.ref 176] s s' none := by
  refine Cm.of (own := "PassedOnAndBetterModel") (by decide) rfl (fun ad => Nat.le_of_ble_eq_true rfl) ?_
  intro z hz hq
  show G l z b_R_thinks 2 0 [(0, .ref 176)] [] s
  unfold f_R_thinks at h
  refine g_aload_n hz 0 d_R_thinks_0 rfl rfl ?_
  refine g_iconst hz d_R_thinks_1 ki_2 ?_
  refine g_iconst hz d_R_thinks_2 ki_1 ?_
  refine bv_use h (fun s2 e1 h => ?_)
  refine g_callVv hz (c_R_passesAll l e1) (by decide) rc_R rfl rfl m_R_passesAll mi_R_passesAll ms_R_passesAll q_1134 ⟨Nat.le_of_ble_eq_true rfl, Nat.le_of_ble_eq_true rfl⟩ rfl (st := []) rfl (Nat.le_of_ble_eq_true rfl) d_R_thinks_3 ?_
  refine g_iconst hz d_R_thinks_6 ki_0 ?_
  refine g_istore_n hz (L' := [(1, .int 0), (0, .ref 176)]) d_R_thinks_7 rfl (by decide) rfl ?_
  refine g_sub [1, 0] rfl ?_
  exact w_R_thinks_8 hz hq KF 0 _ h
def f_R_forgets (s : Mm) : Option Mm :=
  bv (f_R_passesAll s 2 0) fun s2 =>
  some s2
set_option maxRecDepth 20000 in
theorem c_R_forgets (l : Launch) {s : Mm}  {s' : Mm}  (h : f_R_forgets s = some s') : Cm l y_R_forgets b_R_forgets 1 none 2 44 [.ref 176] s s' none := by
  refine Cm.of (own := "PassedOnAndBetterModel") (by decide) rfl (fun ad => Nat.le_of_ble_eq_true rfl) ?_
  intro z hz hq
  show G l z b_R_forgets 1 0 [(0, .ref 176)] [] s
  unfold f_R_forgets at h
  refine g_aload_n hz 0 d_R_forgets_0 rfl rfl ?_
  refine g_iconst hz d_R_forgets_1 ki_2 ?_
  refine g_iconst hz d_R_forgets_2 ki_0 ?_
  refine bv_use h (fun s2 e1 h => ?_)
  refine g_callVv hz (c_R_passesAll l e1) (by decide) rc_R rfl rfl m_R_passesAll mi_R_passesAll ms_R_passesAll q_1134 ⟨Nat.le_of_ble_eq_true rfl, Nat.le_of_ble_eq_true rfl⟩ rfl (st := []) rfl (Nat.le_of_ble_eq_true rfl) d_R_forgets_3 ?_
  exact g_vret hz (rtv h hq) d_R_forgets_6
def k_R_behind_36 (v1 : Int32) (v2 : Int32) (v3 : Int32) (v4 : Int32) (s : Mm) : Option (Int32 × Mm) :=
  if v4 = 0 then
    bv (f_R_thinks s) fun s11 =>
    bv (f_R_goes s11 v2) fun s13 =>
    if v3 = 0 then
      gd v1 4 <|
      nm (s13 184 v1.toNatClampNeg) fun x33 =>
      bv (f_R_forgets s13) fun s36 =>
      some (x33, s36)
    else
      if v3 = 1 then
        gd v1 4 <|
        nm (s13 182 v1.toNatClampNeg) fun x28 =>
        bv (f_R_forgets s13) fun s31 =>
        some (x28, s31)
      else
        if v3 = 2 then
          gd v1 4 <|
          nm (s13 183 v1.toNatClampNeg) fun x23 =>
          bv (f_R_forgets s13) fun s26 =>
          some (x23, s26)
        else
          gd v1 4 <|
          nm (s13 187 v1.toNatClampNeg) fun x18 =>
          bv (f_R_forgets s13) fun s21 =>
          some (x18, s21)
  else
    bn (f_R_no s v4) fun x39 s38 =>
    some (x39, s38)
set_option maxRecDepth 20000 in
theorem w_R_behind_36 {l : Launch} {z : Zt} (hz : ZOk z b_R_behind 6 "PassedOnAndBetterModel" 6 133) {r' : Int32} {s' : Mm} (hq : ZR z (some .int) s' (some (.int r'))) (v1 : Int32) (v2 : Int32) (v3 : Int32) (v4 : Int32) (s : Mm) (h : k_R_behind_36 v1 v2 v3 v4 s = some (r', s')) : G l z b_R_behind 6 36 [(0, .ref 176), (1, .int v1), (2, .int v2), (3, .int v3), (4, .int v4)] [] s := by
  unfold k_R_behind_36 at h
  refine g_iload hz 4 d_R_behind_36 rfl ?_
  refine g_if_eq hz (tgt := 48) d_R_behind_38 (by decide) (fun c9 => ?_) (fun c9 => ?_)
  · replace h := (if_pos c9).symm.trans h
    refine g_aload_n hz 0 d_R_behind_48 rfl rfl ?_
    refine bv_use h (fun s11 e10 h => ?_)
    refine g_callVv hz (c_R_thinks l e10) (by decide) rc_R rfl rfl m_R_thinks mi_R_thinks ms_R_thinks q_1294 ⟨Nat.le_of_ble_eq_true rfl, Nat.le_of_ble_eq_true rfl⟩ rfl (st := []) rfl (Nat.le_of_ble_eq_true rfl) d_R_behind_49 ?_
    refine g_aload_n hz 0 d_R_behind_52 rfl rfl ?_
    refine g_iload_n hz 2 d_R_behind_53 rfl rfl ?_
    refine bv_use h (fun s13 e12 h => ?_)
    refine g_callVv hz (c_R_goes l e12) (by decide) rc_R rfl rfl m_R_goes mi_R_goes ms_R_goes q_1194 ⟨Nat.le_of_ble_eq_true rfl, Nat.le_of_ble_eq_true rfl⟩ rfl (st := []) rfl (Nat.le_of_ble_eq_true rfl) d_R_behind_54 ?_
    refine g_iload_n hz 3 d_R_behind_57 rfl rfl ?_
    refine g_if_ne hz (tgt := 70) d_R_behind_58 (by decide) (fun c14 => ?_) (fun c14 => ?_)
    · replace h := (if_neg c14).symm.trans h
      refine g_iload_n hz 3 d_R_behind_70 rfl rfl ?_
      refine g_iconst hz d_R_behind_71 ki_1 ?_
      refine g_icmp_ne hz (tgt := 84) d_R_behind_72 (by decide) (fun c15 => ?_) (fun c15 => ?_)
      · replace h := (if_neg c15).symm.trans h
        refine g_iload_n hz 3 d_R_behind_84 rfl rfl ?_
        refine g_iconst hz d_R_behind_85 ki_2 ?_
        refine g_icmp_ne hz (tgt := 98) d_R_behind_86 (by decide) (fun c16 => ?_) (fun c16 => ?_)
        · replace h := (if_neg c16).symm.trans h
          refine g_aload_n hz 0 d_R_behind_98 rfl rfl ?_
          refine gf_R_given hz q_1013 d_R_behind_99 ?_
          refine g_iload_n hz 1 d_R_behind_102 rfl rfl ?_
          obtain ⟨n17, h⟩ := gd_use h
          refine g_iald hz (by decide) n17 d_R_behind_103 ?_
          refine g_nmi (fun x18 e19 => ?_)
          replace h := nm_use h e19
          refine g_istore hz (L' := [(5, .int x18), (0, .ref 176), (1, .int v1), (2, .int v2), (3, .int v3), (4, .int v4)]) d_R_behind_104 (by decide) rfl ?_
          refine g_aload_n hz 1 d_R_behind_106 rfl rfl ?_
          refine bv_use h (fun s21 e20 h => ?_)
          refine g_callVv hz (c_R_forgets l e20) (by decide) rc_R rfl rfl m_R_forgets mi_R_forgets ms_R_forgets q_1298 ⟨Nat.le_of_ble_eq_true rfl, Nat.le_of_ble_eq_true rfl⟩ rfl (st := []) rfl (Nat.le_of_ble_eq_true rfl) d_R_behind_107 ?_
          refine g_iload hz 0 d_R_behind_110 rfl ?_
          exact g_iret hz (rti h hq) d_R_behind_112
        · replace h := (if_pos c16).symm.trans h
          refine g_aload_n hz 0 d_R_behind_89 rfl rfl ?_
          refine gf_R_size hz q_1009 d_R_behind_90 ?_
          refine g_iload_n hz 1 d_R_behind_93 rfl rfl ?_
          obtain ⟨n22, h⟩ := gd_use h
          refine g_iald hz (by decide) n22 d_R_behind_94 ?_
          refine g_goto hz (tgt := 104) d_R_behind_95 (by decide) ?_
          refine g_nmi (fun x23 e24 => ?_)
          replace h := nm_use h e24
          refine g_istore hz (L' := [(5, .int x23), (0, .ref 176), (1, .int v1), (2, .int v2), (3, .int v3), (4, .int v4)]) d_R_behind_104 (by decide) rfl ?_
          refine g_aload_n hz 1 d_R_behind_106 rfl rfl ?_
          refine bv_use h (fun s26 e25 h => ?_)
          refine g_callVv hz (c_R_forgets l e25) (by decide) rc_R rfl rfl m_R_forgets mi_R_forgets ms_R_forgets q_1298 ⟨Nat.le_of_ble_eq_true rfl, Nat.le_of_ble_eq_true rfl⟩ rfl (st := []) rfl (Nat.le_of_ble_eq_true rfl) d_R_behind_107 ?_
          refine g_iload hz 0 d_R_behind_110 rfl ?_
          exact g_iret hz (rti h hq) d_R_behind_112
      · replace h := (if_pos c15).symm.trans h
        refine g_aload_n hz 0 d_R_behind_75 rfl rfl ?_
        refine gf_R_worth hz q_1008 d_R_behind_76 ?_
        refine g_iload_n hz 1 d_R_behind_79 rfl rfl ?_
        obtain ⟨n27, h⟩ := gd_use h
        refine g_iald hz (by decide) n27 d_R_behind_80 ?_
        refine g_goto hz (tgt := 104) d_R_behind_81 (by decide) ?_
        refine g_nmi (fun x28 e29 => ?_)
        replace h := nm_use h e29
        refine g_istore hz (L' := [(5, .int x28), (0, .ref 176), (1, .int v1), (2, .int v2), (3, .int v3), (4, .int v4)]) d_R_behind_104 (by decide) rfl ?_
        refine g_aload_n hz 1 d_R_behind_106 rfl rfl ?_
        refine bv_use h (fun s31 e30 h => ?_)
        refine g_callVv hz (c_R_forgets l e30) (by decide) rc_R rfl rfl m_R_forgets mi_R_forgets ms_R_forgets q_1298 ⟨Nat.le_of_ble_eq_true rfl, Nat.le_of_ble_eq_true rfl⟩ rfl (st := []) rfl (Nat.le_of_ble_eq_true rfl) d_R_behind_107 ?_
        refine g_iload hz 0 d_R_behind_110 rfl ?_
        exact g_iret hz (rti h hq) d_R_behind_112
    · replace h := (if_pos c14).symm.trans h
      refine g_aload_n hz 0 d_R_behind_61 rfl rfl ?_
      refine gf_R_holder hz q_1010 d_R_behind_62 ?_
      refine g_iload_n hz 1 d_R_behind_65 rfl rfl ?_
      obtain ⟨n32, h⟩ := gd_use h
      refine g_iald hz (by decide) n32 d_R_behind_66 ?_
      refine g_goto hz (tgt := 104) d_R_behind_67 (by decide) ?_
      refine g_nmi (fun x33 e34 => ?_)
      replace h := nm_use h e34
      refine g_istore hz (L' := [(5, .int x33), (0, .ref 176), (1, .int v1), (2, .int v2), (3, .int v3), (4, .int v4)]) d_R_behind_104 (by decide) rfl ?_
      refine g_aload_n hz 1 d_R_behind_106 rfl rfl ?_
      refine bv_use h (fun s36 e35 h => ?_)
      refine g_callVv hz (c_R_forgets l e35) (by decide) rc_R rfl rfl m_R_forgets mi_R_forgets ms_R_forgets q_1298 ⟨Nat.le_of_ble_eq_true rfl, Nat.le_of_ble_eq_true rfl⟩ rfl (st := []) rfl (Nat.le_of_ble_eq_true rfl) d_R_behind_107 ?_
      refine g_iload hz 0 d_R_behind_110 rfl ?_
      exact g_iret hz (rti h hq) d_R_behind_112
  · replace h := (if_neg c9).symm.trans h
    refine g_aload_n hz 0 d_R_behind_41 rfl rfl ?_
    refine g_iload hz 4 d_R_behind_42 rfl ?_
    refine bn_use h (fun x39 s38 e37 h => ?_)
    refine g_callVi hz (c_R_no l e37) (by decide) rc_R rfl rfl m_R_no mi_R_no ms_R_no q_1107 ⟨Nat.le_of_ble_eq_true rfl, Nat.le_of_ble_eq_true rfl⟩ rfl (st := []) rfl (Nat.le_of_ble_eq_true rfl) d_R_behind_44 ?_
    exact g_iret hz (rti h hq) d_R_behind_47
def k_R_behind_16 (v1 : Int32) (v2 : Int32) (v3 : Int32) (vt0 : Int32) (s : Mm) : Option (Int32 × Mm) :=
  if vt0 = 0 then
    bn (f_R_isIn s v3 0 3) fun x42 s41 =>
    if x42 = 0 then
      k_R_behind_36 v1 v2 v3 (-2) s41
    else
      k_R_behind_36 v1 v2 v3 vt0 s41
  else
    k_R_behind_36 v1 v2 v3 vt0 s
set_option maxRecDepth 20000 in
theorem w_R_behind_16 {l : Launch} {z : Zt} (hz : ZOk z b_R_behind 6 "PassedOnAndBetterModel" 6 133) {r' : Int32} {s' : Mm} (hq : ZR z (some .int) s' (some (.int r'))) (v1 : Int32) (v2 : Int32) (v3 : Int32) (vt0 : Int32) (s : Mm) (h : k_R_behind_16 v1 v2 v3 vt0 s = some (r', s')) : G l z b_R_behind 6 16 [(0, .ref 176), (1, .int v1), (2, .int v2), (3, .int v3)] [.int vt0] s := by
  unfold k_R_behind_16 at h
  refine g_istore hz (L' := [(4, .int vt0), (0, .ref 176), (1, .int v1), (2, .int v2), (3, .int v3)]) d_R_behind_16 (by decide) rfl ?_
  refine g_iload hz 0 d_R_behind_18 rfl ?_
  refine g_if_ne hz (tgt := 36) d_R_behind_20 (by decide) (fun c8 => ?_) (fun c8 => ?_)
  · replace h := (if_neg c8).symm.trans h
    refine g_sub [1, 2, 3, 4, 0] rfl ?_
    exact w_R_behind_36 hz hq v1 v2 v3 vt0 _ h
  · replace h := (if_pos c8).symm.trans h
    refine g_iload_n hz 4 d_R_behind_23 rfl rfl ?_
    refine g_iconst hz d_R_behind_24 ki_0 ?_
    refine g_iconst hz d_R_behind_25 ki_3 ?_
    refine bn_use h (fun x42 s41 e40 h => ?_)
    refine g_callSi hz (c_R_isIn l e40) m_R_isIn mi_R_isIn q_1131 ⟨Nat.le_of_ble_eq_true rfl, Nat.le_of_ble_eq_true rfl⟩ rfl (st := []) rfl (Nat.le_of_ble_eq_true rfl) d_R_behind_26 ?_
    refine g_if_ne hz (tgt := 36) d_R_behind_29 (by decide) (fun c43 => ?_) (fun c43 => ?_)
    · replace h := (if_neg c43).symm.trans h
      refine g_sub [1, 2, 3, 4, 0] rfl ?_
      exact w_R_behind_36 hz hq v1 v2 v3 vt0 _ h
    · replace h := (if_pos c43).symm.trans h
      refine g_bipush hz (v := (-2)) d_R_behind_32 (by decide) ?_
      refine g_istore hz (L' := [(4, .int (-2)), (0, .ref 176), (1, .int v1), (2, .int v2), (3, .int v3)]) d_R_behind_34 (by decide) rfl ?_
      refine g_sub [1, 2, 3, 4, 0] rfl ?_
      exact w_R_behind_36 hz hq v1 v2 v3 (-2) _ h
def f_R_behind (s : Mm) (a1 : Int32) (a2 : Int32) (a3 : Int32) : Option (Int32 × Mm) :=
  bn (f_R_isGift s a1) fun x3 s2 =>
  if x3 = 0 then
    k_R_behind_16 a1 a2 a3 (-1) s2
  else
    bn (f_R_notMonths s2 a2) fun x7 s6 =>
    k_R_behind_16 a1 a2 a3 x7 s6
set_option maxRecDepth 20000 in
theorem c_R_behind (l : Launch) {s : Mm} {a1 : Int32} {a2 : Int32} {a3 : Int32} {r' : Int32} {s' : Mm}  (h : f_R_behind s a1 a2 a3 = some (r', s')) : Cm l y_R_behind b_R_behind 6 (some .int) 6 133 [.ref 176, .int a1, .int a2, .int a3] s s' (some (.int r')) := by
  refine Cm.of (own := "PassedOnAndBetterModel") (by decide) rfl (fun ad => Nat.le_of_ble_eq_true rfl) ?_
  intro z hz hq
  show G l z b_R_behind 6 0 [(0, .ref 176), (1, .int a1), (2, .int a2), (3, .int a3)] [] s
  unfold f_R_behind at h
  refine g_aload_n hz 0 d_R_behind_0 rfl rfl ?_
  refine g_iload_n hz 1 d_R_behind_1 rfl rfl ?_
  refine bn_use h (fun x3 s2 e1 h => ?_)
  refine g_callVi hz (c_R_isGift l e1) (by decide) rc_R rfl rfl m_R_isGift mi_R_isGift ms_R_isGift q_1186 ⟨Nat.le_of_ble_eq_true rfl, Nat.le_of_ble_eq_true rfl⟩ rfl (st := []) rfl (Nat.le_of_ble_eq_true rfl) d_R_behind_2 ?_
  refine g_if_ne hz (tgt := 12) d_R_behind_5 (by decide) (fun c4 => ?_) (fun c4 => ?_)
  · replace h := (if_neg c4).symm.trans h
    refine g_iload_n hz 2 d_R_behind_12 rfl rfl ?_
    refine bn_use h (fun x7 s6 e5 h => ?_)
    refine g_callSi hz (c_R_notMonths l e5) m_R_notMonths mi_R_notMonths q_1291 ⟨Nat.le_of_ble_eq_true rfl, Nat.le_of_ble_eq_true rfl⟩ rfl (st := []) rfl (Nat.le_of_ble_eq_true rfl) d_R_behind_13 ?_
    exact w_R_behind_16 hz hq a1 a2 a3 x7 _ h
  · replace h := (if_pos c4).symm.trans h
    refine g_iconst hz d_R_behind_8 ki_m1 ?_
    refine g_goto hz (tgt := 16) d_R_behind_9 (by decide) ?_
    exact w_R_behind_16 hz hq a1 a2 a3 (-1) _ h
def k_R_then_21 (v1 : Int32) (v2 : Int32) (vt0 : Int32) (s : Mm) : Option (Int32 × Mm) :=
  if vt0 = 0 then
    bv (f_R_thinks s) fun s7 =>
    bv (f_R_goes s7 v2) fun s9 =>
    if 0 ≤ v1 then
      bn (f_R_holds s9 v1) fun x13 s12 =>
      bv (f_R_forgets s12) fun s15 =>
      some (x13, s15)
    else
      bn (f_R_sum s9 182 (s9 176 12)) fun x18 s17 =>
      bv (f_R_forgets s17) fun s20 =>
      some (x18, s20)
  else
    bn (f_R_no s vt0) fun x23 s22 =>
    some (x23, s22)
set_option maxRecDepth 20000 in
theorem w_R_then_21 {l : Launch} {z : Zt} (hz : ZOk z b_R_then 5 "PassedOnAndBetterModel" 6 133) {r' : Int32} {s' : Mm} (hq : ZR z (some .int) s' (some (.int r'))) (v1 : Int32) (v2 : Int32) (vt0 : Int32) (s : Mm) (h : k_R_then_21 v1 v2 vt0 s = some (r', s')) : G l z b_R_then 5 21 [(0, .ref 176), (1, .int v1), (2, .int v2)] [.int vt0] s := by
  unfold k_R_then_21 at h
  refine g_istore_n hz (L' := [(3, .int vt0), (0, .ref 176), (1, .int v1), (2, .int v2)]) d_R_then_21 rfl (by decide) rfl ?_
  refine g_iload_n hz 0 d_R_then_22 rfl rfl ?_
  refine g_if_eq hz (tgt := 32) d_R_then_23 (by decide) (fun c5 => ?_) (fun c5 => ?_)
  · replace h := (if_pos c5).symm.trans h
    refine g_aload_n hz 1 d_R_then_32 rfl rfl ?_
    refine bv_use h (fun s7 e6 h => ?_)
    refine g_callVv hz (c_R_thinks l e6) (by decide) rc_R rfl rfl m_R_thinks mi_R_thinks ms_R_thinks q_1294 ⟨Nat.le_of_ble_eq_true rfl, Nat.le_of_ble_eq_true rfl⟩ rfl (st := []) rfl (Nat.le_of_ble_eq_true rfl) d_R_then_33 ?_
    refine g_aload_n hz 1 d_R_then_36 rfl rfl ?_
    refine g_iload_n hz 3 d_R_then_37 rfl rfl ?_
    refine bv_use h (fun s9 e8 h => ?_)
    refine g_callVv hz (c_R_goes l e8) (by decide) rc_R rfl rfl m_R_goes mi_R_goes ms_R_goes q_1194 ⟨Nat.le_of_ble_eq_true rfl, Nat.le_of_ble_eq_true rfl⟩ rfl (st := []) rfl (Nat.le_of_ble_eq_true rfl) d_R_then_38 ?_
    refine g_iload_n hz 2 d_R_then_41 rfl rfl ?_
    refine g_if_ge hz (tgt := 59) d_R_then_42 (by decide) (fun c10 => ?_) (fun c10 => ?_)
    · replace h := (if_pos c10).symm.trans h
      refine g_aload_n hz 1 d_R_then_59 rfl rfl ?_
      refine g_iload_n hz 2 d_R_then_60 rfl rfl ?_
      refine bn_use h (fun x13 s12 e11 h => ?_)
      refine g_callVi hz (c_R_holds l e11) (by decide) rc_R rfl rfl m_R_holds mi_R_holds ms_R_holds q_1248 ⟨Nat.le_of_ble_eq_true rfl, Nat.le_of_ble_eq_true rfl⟩ rfl (st := []) rfl (Nat.le_of_ble_eq_true rfl) d_R_then_61 ?_
      refine g_istore hz (L' := [(4, .int x13), (3, .int vt0), (0, .ref 176), (1, .int v1), (2, .int v2)]) d_R_then_64 (by decide) rfl ?_
      refine g_aload_n hz 2 d_R_then_66 rfl rfl ?_
      refine bv_use h (fun s15 e14 h => ?_)
      refine g_callVv hz (c_R_forgets l e14) (by decide) rc_R rfl rfl m_R_forgets mi_R_forgets ms_R_forgets q_1298 ⟨Nat.le_of_ble_eq_true rfl, Nat.le_of_ble_eq_true rfl⟩ rfl (st := []) rfl (Nat.le_of_ble_eq_true rfl) d_R_then_67 ?_
      refine g_iload hz 0 d_R_then_70 rfl ?_
      exact g_iret hz (rti h hq) d_R_then_72
    · replace h := (if_neg c10).symm.trans h
      refine g_aload_n hz 1 d_R_then_45 rfl rfl ?_
      refine gf_R_worth hz q_1008 d_R_then_46 ?_
      refine g_aload_n hz 1 d_R_then_49 rfl rfl ?_
      refine gf_R_gifts hz q_1015 d_R_then_50 ?_
      refine bn_use h (fun x18 s17 e16 h => ?_)
      refine g_callSi hz (c_R_sum l (by decide) e16) m_R_sum mi_R_sum q_1284 ⟨Nat.le_of_ble_eq_true rfl, Nat.le_of_ble_eq_true rfl⟩ rfl (st := []) rfl (Nat.le_of_ble_eq_true rfl) d_R_then_53 ?_
      refine g_goto hz (tgt := 64) d_R_then_56 (by decide) ?_
      refine g_istore hz (L' := [(4, .int x18), (3, .int vt0), (0, .ref 176), (1, .int v1), (2, .int v2)]) d_R_then_64 (by decide) rfl ?_
      refine g_aload_n hz 2 d_R_then_66 rfl rfl ?_
      refine bv_use h (fun s20 e19 h => ?_)
      refine g_callVv hz (c_R_forgets l e19) (by decide) rc_R rfl rfl m_R_forgets mi_R_forgets ms_R_forgets q_1298 ⟨Nat.le_of_ble_eq_true rfl, Nat.le_of_ble_eq_true rfl⟩ rfl (st := []) rfl (Nat.le_of_ble_eq_true rfl) d_R_then_67 ?_
      refine g_iload hz 0 d_R_then_70 rfl ?_
      exact g_iret hz (rti h hq) d_R_then_72
  · replace h := (if_neg c5).symm.trans h
    refine g_aload_n hz 1 d_R_then_26 rfl rfl ?_
    refine g_iload_n hz 0 d_R_then_27 rfl rfl ?_
    refine bn_use h (fun x23 s22 e21 h => ?_)
    refine g_callVi hz (c_R_no l e21) (by decide) rc_R rfl rfl m_R_no mi_R_no ms_R_no q_1107 ⟨Nat.le_of_ble_eq_true rfl, Nat.le_of_ble_eq_true rfl⟩ rfl (st := []) rfl (Nat.le_of_ble_eq_true rfl) d_R_then_28 ?_
    exact g_iret hz (rti h hq) d_R_then_31
def f_R_then (s : Mm) (a1 : Int32) (a2 : Int32) : Option (Int32 × Mm) :=
  if a1 = (-1) then
    bn (f_R_notMonths s a2) fun x4 s3 =>
    k_R_then_21 a1 a2 x4 s3
  else
    bn (f_R_isFriend s a1) fun x26 s25 =>
    if x26 = 0 then
      k_R_then_21 a1 a2 (-1) s25
    else
      bn (f_R_notMonths s25 a2) fun x30 s29 =>
      k_R_then_21 a1 a2 x30 s29
set_option maxRecDepth 20000 in
theorem c_R_then (l : Launch) {s : Mm} {a1 : Int32} {a2 : Int32} {r' : Int32} {s' : Mm}  (h : f_R_then s a1 a2 = some (r', s')) : Cm l y_R_then b_R_then 5 (some .int) 6 133 [.ref 176, .int a1, .int a2] s s' (some (.int r')) := by
  refine Cm.of (own := "PassedOnAndBetterModel") (by decide) rfl (fun ad => Nat.le_of_ble_eq_true rfl) ?_
  intro z hz hq
  show G l z b_R_then 5 0 [(0, .ref 176), (1, .int a1), (2, .int a2)] [] s
  unfold f_R_then at h
  refine g_iload_n hz 1 d_R_then_0 rfl rfl ?_
  refine g_iconst hz d_R_then_1 ki_m1 ?_
  refine g_icmp_eq hz (tgt := 17) d_R_then_2 (by decide) (fun c1 => ?_) (fun c1 => ?_)
  · replace h := (if_pos c1).symm.trans h
    refine g_iload_n hz 2 d_R_then_17 rfl rfl ?_
    refine bn_use h (fun x4 s3 e2 h => ?_)
    refine g_callSi hz (c_R_notMonths l e2) m_R_notMonths mi_R_notMonths q_1291 ⟨Nat.le_of_ble_eq_true rfl, Nat.le_of_ble_eq_true rfl⟩ rfl (st := []) rfl (Nat.le_of_ble_eq_true rfl) d_R_then_18 ?_
    exact w_R_then_21 hz hq a1 a2 x4 _ h
  · replace h := (if_neg c1).symm.trans h
    refine g_aload_n hz 0 d_R_then_5 rfl rfl ?_
    refine g_iload_n hz 1 d_R_then_6 rfl rfl ?_
    refine bn_use h (fun x26 s25 e24 h => ?_)
    refine g_callVi hz (c_R_isFriend l e24) (by decide) rc_R rfl rfl m_R_isFriend mi_R_isFriend ms_R_isFriend q_1162 ⟨Nat.le_of_ble_eq_true rfl, Nat.le_of_ble_eq_true rfl⟩ rfl (st := []) rfl (Nat.le_of_ble_eq_true rfl) d_R_then_7 ?_
    refine g_if_ne hz (tgt := 17) d_R_then_10 (by decide) (fun c27 => ?_) (fun c27 => ?_)
    · replace h := (if_neg c27).symm.trans h
      refine g_iload_n hz 2 d_R_then_17 rfl rfl ?_
      refine bn_use h (fun x30 s29 e28 h => ?_)
      refine g_callSi hz (c_R_notMonths l e28) m_R_notMonths mi_R_notMonths q_1291 ⟨Nat.le_of_ble_eq_true rfl, Nat.le_of_ble_eq_true rfl⟩ rfl (st := []) rfl (Nat.le_of_ble_eq_true rfl) d_R_then_18 ?_
      exact w_R_then_21 hz hq a1 a2 x30 _ h
    · replace h := (if_pos c27).symm.trans h
      refine g_iconst hz d_R_then_13 ki_m1 ?_
      refine g_goto hz (tgt := 21) d_R_then_14 (by decide) ?_
      exact w_R_then_21 hz hq a1 a2 (-1) _ h
def k_R_givenAt_58 (kc21 : (Int32 → Int32 → Int32 → Int32 → Int32 → Int32 → Mm → Option (Int32 × Mm))) (v1 : Int32) (v2 : Int32) (v3 : Int32) (v5 : Int32) (v6 : Int32) (vt0 : Int32) (s : Mm) : Option (Int32 × Mm) :=
  if vt0 = 0 then
    kc21 v1 v2 v3 vt0 v5 (v6 + 1) s
  else
    if v2 = 0 then
      kc21 v1 v2 v3 vt0 v6 (v6 + 1) s
    else
      gd v1 4 <|
      if (s 184 v1.toNatClampNeg) = v3 then
        kc21 v1 v2 v3 vt0 v6 (v6 + 1) s
      else
        kc21 v1 v2 v3 vt0 v5 (v6 + 1) s
set_option maxRecDepth 20000 in
theorem w_R_givenAt_58 {l : Launch} {z : Zt} (hz : ZOk z b_R_givenAt 7 "PassedOnAndBetterModel" 5 111) {r' : Int32} {s' : Mm} (hq : ZR z (some .int) s' (some (.int r'))) {kc21 : (Int32 → Int32 → Int32 → Int32 → Int32 → Int32 → Mm → Option (Int32 × Mm))} (hk21 : (∀ (v1 : Int32) (v2 : Int32) (v3 : Int32) (v4 : Int32) (v5 : Int32) (v6 : Int32) (s : Mm), kc21 v1 v2 v3 v4 v5 v6 s = some (r', s') → G l z b_R_givenAt 7 21 [(0, .ref 176), (1, .int v1), (2, .int v2), (3, .int v3), (4, .int v4), (5, .int v5), (6, .int v6)] [] s)) (v1 : Int32) (v2 : Int32) (v3 : Int32) (v5 : Int32) (v6 : Int32) (vt0 : Int32) (s : Mm) (h : k_R_givenAt_58 kc21 v1 v2 v3 v5 v6 vt0 s = some (r', s')) : G l z b_R_givenAt 7 58 [(0, .ref 176), (1, .int v1), (2, .int v2), (3, .int v3), (5, .int v5), (6, .int v6)] [.int vt0] s := by
  unfold k_R_givenAt_58 at h
  refine g_istore hz (L' := [(4, .int vt0), (0, .ref 176), (1, .int v1), (2, .int v2), (3, .int v3), (5, .int v5), (6, .int v6)]) d_R_givenAt_58 (by decide) rfl ?_
  refine g_iload hz 0 d_R_givenAt_60 rfl ?_
  refine g_if_eq hz (tgt := 83) d_R_givenAt_62 (by decide) (fun c15 => ?_) (fun c15 => ?_)
  · replace h := (if_pos c15).symm.trans h
    refine g_iinc hz (v := v6 + 1) (L' := [(6, .int (v6 + 1)), (4, .int vt0), (0, .ref 176), (1, .int v1), (2, .int v2), (3, .int v3), (5, .int v5)]) 6 d_R_givenAt_83 rfl (congrArg (fun q => v6 + q) ki_1) (by decide) rfl ?_
    refine g_goto hz (tgt := 21) d_R_givenAt_86 (by decide) ?_
    refine g_sub [2, 3, 4, 5, 1, 6, 0] rfl ?_
    exact hk21 v1 v2 v3 vt0 v5 (v6 + 1) _ h
  · replace h := (if_neg c15).symm.trans h
    refine g_iload_n hz 3 d_R_givenAt_65 rfl rfl ?_
    refine g_if_eq hz (tgt := 79) d_R_givenAt_66 (by decide) (fun c16 => ?_) (fun c16 => ?_)
    · replace h := (if_pos c16).symm.trans h
      refine g_iload hz 6 d_R_givenAt_79 rfl ?_
      refine g_istore hz (L' := [(5, .int v6), (4, .int vt0), (0, .ref 176), (1, .int v1), (2, .int v2), (3, .int v3), (6, .int v6)]) d_R_givenAt_81 (by decide) rfl ?_
      refine g_iinc hz (v := v6 + 1) (L' := [(6, .int (v6 + 1)), (5, .int v6), (4, .int vt0), (0, .ref 176), (1, .int v1), (2, .int v2), (3, .int v3)]) 6 d_R_givenAt_83 rfl (congrArg (fun q => v6 + q) ki_1) (by decide) rfl ?_
      refine g_goto hz (tgt := 21) d_R_givenAt_86 (by decide) ?_
      refine g_sub [3, 4, 5, 6, 2, 1, 0] rfl ?_
      exact hk21 v1 v2 v3 vt0 v6 (v6 + 1) _ h
    · replace h := (if_neg c16).symm.trans h
      refine g_aload_n hz 1 d_R_givenAt_69 rfl rfl ?_
      refine gf_R_holder hz q_1010 d_R_givenAt_70 ?_
      refine g_iload_n hz 2 d_R_givenAt_73 rfl rfl ?_
      obtain ⟨n17, h⟩ := gd_use h
      refine g_iald hz (by decide) n17 d_R_givenAt_74 ?_
      refine g_iload_n hz 4 d_R_givenAt_75 rfl rfl ?_
      refine g_icmp_ne hz (tgt := 83) d_R_givenAt_76 (by decide) (fun c18 => ?_) (fun c18 => ?_)
      · replace h := (if_neg c18).symm.trans h
        refine g_iinc hz (v := v6 + 1) (L' := [(6, .int (v6 + 1)), (4, .int vt0), (0, .ref 176), (1, .int v1), (2, .int v2), (3, .int v3), (5, .int v5)]) 6 d_R_givenAt_83 rfl (congrArg (fun q => v6 + q) ki_1) (by decide) rfl ?_
        refine g_goto hz (tgt := 21) d_R_givenAt_86 (by decide) ?_
        refine g_sub [2, 3, 4, 5, 1, 6, 0] rfl ?_
        exact hk21 v1 v2 v3 vt0 v5 (v6 + 1) _ h
      · replace h := (if_pos c18).symm.trans h
        refine g_iload hz 6 d_R_givenAt_79 rfl ?_
        refine g_istore hz (L' := [(5, .int v6), (4, .int vt0), (0, .ref 176), (1, .int v1), (2, .int v2), (3, .int v3), (6, .int v6)]) d_R_givenAt_81 (by decide) rfl ?_
        refine g_iinc hz (v := v6 + 1) (L' := [(6, .int (v6 + 1)), (5, .int v6), (4, .int vt0), (0, .ref 176), (1, .int v1), (2, .int v2), (3, .int v3)]) 6 d_R_givenAt_83 rfl (congrArg (fun q => v6 + q) ki_1) (by decide) rfl ?_
        refine g_goto hz (tgt := 21) d_R_givenAt_86 (by decide) ?_
        refine g_sub [3, 4, 5, 6, 2, 1, 0] rfl ?_
        exact hk21 v1 v2 v3 vt0 v6 (v6 + 1) _ h
def k_R_givenAt_21 : Nat → Int32 → Int32 → Int32 → Int32 → Int32 → Int32 → Mm → Option (Int32 × Mm)
  | 0, _, _, _, _, _, _, _ => none
  | n + 1, v1, v2, v3, v4, v5, v6, s => if 60 < v6 then
      bv (f_R_forgets s) fun s8 =>
      some (v5, s8)
    else
      if 0 ≤ v5 then
        bv (f_R_forgets s) fun s11 =>
        some (v5, s11)
      else
        bv (f_R_goesMonth s 0) fun s13 =>
        if v4 = 0 then
          gd v1 4 <|
          if (s13 184 v1.toNatClampNeg) = v3 then
            k_R_givenAt_58 (fun v1 v2 v3 v4 v5 v6 s => k_R_givenAt_21 n v1 v2 v3 v4 v5 v6 s) v1 v2 v3 v5 v6 0 s13
          else
            k_R_givenAt_58 (fun v1 v2 v3 v4 v5 v6 s => k_R_givenAt_21 n v1 v2 v3 v4 v5 v6 s) v1 v2 v3 v5 v6 1 s13
        else
          k_R_givenAt_58 (fun v1 v2 v3 v4 v5 v6 s => k_R_givenAt_21 n v1 v2 v3 v4 v5 v6 s) v1 v2 v3 v5 v6 1 s13
set_option maxRecDepth 20000 in
theorem w_R_givenAt_21 {l : Launch} {z : Zt} (hz : ZOk z b_R_givenAt 7 "PassedOnAndBetterModel" 5 111) {r' : Int32} {s' : Mm} (hq : ZR z (some .int) s' (some (.int r'))) : ∀ (n : Nat) (v1 : Int32) (v2 : Int32) (v3 : Int32) (v4 : Int32) (v5 : Int32) (v6 : Int32) (s : Mm), k_R_givenAt_21 n v1 v2 v3 v4 v5 v6 s = some (r', s') → G l z b_R_givenAt 7 21 [(0, .ref 176), (1, .int v1), (2, .int v2), (3, .int v3), (4, .int v4), (5, .int v5), (6, .int v6)] [] s := by
  intro n
  induction n with
  | zero => intro v1 v2 v3 v4 v5 v6 s h; unfold k_R_givenAt_21 at h; cases h
  | succ n ih =>
    intro v1 v2 v3 v4 v5 v6 s h
    unfold k_R_givenAt_21 at h
    refine g_iload hz 6 d_R_givenAt_21 rfl ?_
    refine g_bipush hz (v := 60) d_R_givenAt_23 (by decide) ?_
    refine g_icmp_gt hz (tgt := 89) d_R_givenAt_25 (by decide) (fun c6 => ?_) (fun c6 => ?_)
    · replace h := (if_pos c6).symm.trans h
      refine g_aload_n hz 0 d_R_givenAt_89 rfl rfl ?_
      refine bv_use h (fun s8 e7 h => ?_)
      refine g_callVv hz (c_R_forgets l e7) (by decide) rc_R rfl rfl m_R_forgets mi_R_forgets ms_R_forgets q_1298 ⟨Nat.le_of_ble_eq_true rfl, Nat.le_of_ble_eq_true rfl⟩ rfl (st := []) rfl (Nat.le_of_ble_eq_true rfl) d_R_givenAt_90 ?_
      refine g_iload hz 5 d_R_givenAt_93 rfl ?_
      exact g_iret hz (rti h hq) d_R_givenAt_95
    · replace h := (if_neg c6).symm.trans h
      refine g_iload hz 5 d_R_givenAt_28 rfl ?_
      refine g_if_ge hz (tgt := 89) d_R_givenAt_30 (by decide) (fun c9 => ?_) (fun c9 => ?_)
      · replace h := (if_pos c9).symm.trans h
        refine g_aload_n hz 0 d_R_givenAt_89 rfl rfl ?_
        refine bv_use h (fun s11 e10 h => ?_)
        refine g_callVv hz (c_R_forgets l e10) (by decide) rc_R rfl rfl m_R_forgets mi_R_forgets ms_R_forgets q_1298 ⟨Nat.le_of_ble_eq_true rfl, Nat.le_of_ble_eq_true rfl⟩ rfl (st := []) rfl (Nat.le_of_ble_eq_true rfl) d_R_givenAt_90 ?_
        refine g_iload hz 5 d_R_givenAt_93 rfl ?_
        exact g_iret hz (rti h hq) d_R_givenAt_95
      · replace h := (if_neg c9).symm.trans h
        refine g_aload_n hz 0 d_R_givenAt_33 rfl rfl ?_
        refine g_iconst hz d_R_givenAt_34 ki_0 ?_
        refine bv_use h (fun s13 e12 h => ?_)
        refine g_callVv hz (c_R_goesMonth l e12) (by decide) rc_R rfl rfl m_R_goesMonth mi_R_goesMonth ms_R_goesMonth q_1198 ⟨Nat.le_of_ble_eq_true rfl, Nat.le_of_ble_eq_true rfl⟩ rfl (st := []) rfl (Nat.le_of_ble_eq_true rfl) d_R_givenAt_35 ?_
        refine g_iload hz 4 d_R_givenAt_38 rfl ?_
        refine g_if_ne hz (tgt := 53) d_R_givenAt_40 (by decide) (fun c14 => ?_) (fun c14 => ?_)
        · replace h := (if_neg c14).symm.trans h
          refine g_iconst hz d_R_givenAt_53 ki_1 ?_
          refine g_goto hz (tgt := 58) d_R_givenAt_54 (by decide) ?_
          refine g_sub [0, 1, 2, 3, 5, 6] rfl ?_
          exact w_R_givenAt_58 hz hq ih v1 v2 v3 v5 v6 1 _ h
        · replace h := (if_pos c14).symm.trans h
          refine g_aload_n hz 0 d_R_givenAt_43 rfl rfl ?_
          refine gf_R_holder hz q_1010 d_R_givenAt_44 ?_
          refine g_iload_n hz 1 d_R_givenAt_47 rfl rfl ?_
          obtain ⟨n19, h⟩ := gd_use h
          refine g_iald hz (by decide) n19 d_R_givenAt_48 ?_
          refine g_iload_n hz 3 d_R_givenAt_49 rfl rfl ?_
          refine g_icmp_eq hz (tgt := 57) d_R_givenAt_50 (by decide) (fun c20 => ?_) (fun c20 => ?_)
          · replace h := (if_pos c20).symm.trans h
            refine g_iconst hz d_R_givenAt_57 ki_0 ?_
            refine g_sub [0, 1, 2, 3, 5, 6] rfl ?_
            exact w_R_givenAt_58 hz hq ih v1 v2 v3 v5 v6 0 _ h
          · replace h := (if_neg c20).symm.trans h
            refine g_iconst hz d_R_givenAt_53 ki_1 ?_
            refine g_goto hz (tgt := 58) d_R_givenAt_54 (by decide) ?_
            refine g_sub [0, 1, 2, 3, 5, 6] rfl ?_
            exact w_R_givenAt_58 hz hq ih v1 v2 v3 v5 v6 1 _ h
def f_R_givenAt (s : Mm) (a1 : Int32) (a2 : Int32) : Option (Int32 × Mm) :=
  gd a1 4 <|
  nm (s 184 a1.toNatClampNeg) fun x2 =>
  bv (f_R_thinks s) fun s5 =>
  k_R_givenAt_21 KF a1 a2 x2 0 (-9) 1 s5
set_option maxRecDepth 20000 in
theorem c_R_givenAt (l : Launch) {s : Mm} {a1 : Int32} {a2 : Int32} {r' : Int32} {s' : Mm}  (h : f_R_givenAt s a1 a2 = some (r', s')) : Cm l y_R_givenAt b_R_givenAt 7 (some .int) 5 111 [.ref 176, .int a1, .int a2] s s' (some (.int r')) := by
  refine Cm.of (own := "PassedOnAndBetterModel") (by decide) rfl (fun ad => Nat.le_of_ble_eq_true rfl) ?_
  intro z hz hq
  show G l z b_R_givenAt 7 0 [(0, .ref 176), (1, .int a1), (2, .int a2)] [] s
  unfold f_R_givenAt at h
  refine g_aload_n hz 0 d_R_givenAt_0 rfl rfl ?_
  refine gf_R_holder hz q_1010 d_R_givenAt_1 ?_
  refine g_iload_n hz 1 d_R_givenAt_4 rfl rfl ?_
  obtain ⟨n1, h⟩ := gd_use h
  refine g_iald hz (by decide) n1 d_R_givenAt_5 ?_
  refine g_nmi (fun x2 e3 => ?_)
  replace h := nm_use h e3
  refine g_istore_n hz (L' := [(3, .int x2), (0, .ref 176), (1, .int a1), (2, .int a2)]) d_R_givenAt_6 rfl (by decide) rfl ?_
  refine g_iconst hz d_R_givenAt_7 ki_0 ?_
  refine g_istore hz (L' := [(4, .int 0), (3, .int x2), (0, .ref 176), (1, .int a1), (2, .int a2)]) d_R_givenAt_8 (by decide) rfl ?_
  refine g_aload_n hz 2 d_R_givenAt_10 rfl rfl ?_
  refine bv_use h (fun s5 e4 h => ?_)
  refine g_callVv hz (c_R_thinks l e4) (by decide) rc_R rfl rfl m_R_thinks mi_R_thinks ms_R_thinks q_1294 ⟨Nat.le_of_ble_eq_true rfl, Nat.le_of_ble_eq_true rfl⟩ rfl (st := []) rfl (Nat.le_of_ble_eq_true rfl) d_R_givenAt_11 ?_
  refine g_bipush hz (v := (-9)) d_R_givenAt_14 (by decide) ?_
  refine g_istore hz (L' := [(5, .int (-9)), (4, .int 0), (3, .int x2), (0, .ref 176), (1, .int a1), (2, .int a2)]) d_R_givenAt_16 (by decide) rfl ?_
  refine g_iconst hz d_R_givenAt_18 ki_1 ?_
  refine g_istore hz (L' := [(6, .int 1), (5, .int (-9)), (4, .int 0), (3, .int x2), (0, .ref 176), (1, .int a1), (2, .int a2)]) d_R_givenAt_19 (by decide) rfl ?_
  refine g_sub [4, 5, 6, 3, 2, 1, 0] rfl ?_
  exact w_R_givenAt_21 hz hq KF a1 a2 x2 0 (-9) 1 _ h
def k_R_given_27 (v1 : Int32) (v2 : Int32) (vt0 : Int32) (s : Mm) : Option (Int32 × Mm) :=
  if vt0 = 0 then
    if v2 = 1 then
      bn (f_R_givenAt s v1 1) fun x16 s15 =>
      some (x16, s15)
    else
      bn (f_R_givenAt s v1 0) fun x13 s12 =>
      some (x13, s12)
  else
    bn (f_R_no s vt0) fun x19 s18 =>
    some (x19, s18)
set_option maxRecDepth 20000 in
theorem w_R_given_27 {l : Launch} {z : Zt} (hz : ZOk z b_R_given 4 "PassedOnAndBetterModel" 6 137) {r' : Int32} {s' : Mm} (hq : ZR z (some .int) s' (some (.int r'))) (v1 : Int32) (v2 : Int32) (vt0 : Int32) (s : Mm) (h : k_R_given_27 v1 v2 vt0 s = some (r', s')) : G l z b_R_given 4 27 [(0, .ref 176), (1, .int v1), (2, .int v2)] [.int vt0] s := by
  unfold k_R_given_27 at h
  refine g_istore_n hz (L' := [(3, .int vt0), (0, .ref 176), (1, .int v1), (2, .int v2)]) d_R_given_27 rfl (by decide) rfl ?_
  refine g_iload_n hz 0 d_R_given_28 rfl rfl ?_
  refine g_if_eq hz (tgt := 40) d_R_given_29 (by decide) (fun c9 => ?_) (fun c9 => ?_)
  · replace h := (if_pos c9).symm.trans h
    refine g_aload_n hz 1 d_R_given_40 rfl rfl ?_
    refine g_iload_n hz 2 d_R_given_41 rfl rfl ?_
    refine g_iload_n hz 3 d_R_given_42 rfl rfl ?_
    refine g_iconst hz d_R_given_43 ki_1 ?_
    refine g_icmp_ne hz (tgt := 51) d_R_given_44 (by decide) (fun c10 => ?_) (fun c10 => ?_)
    · replace h := (if_neg c10).symm.trans h
      refine g_iconst hz d_R_given_51 ki_0 ?_
      refine bn_use h (fun x13 s12 e11 h => ?_)
      refine g_callVi hz (c_R_givenAt l e11) (by decide) rc_R rfl rfl m_R_givenAt mi_R_givenAt ms_R_givenAt q_1310 ⟨Nat.le_of_ble_eq_true rfl, Nat.le_of_ble_eq_true rfl⟩ rfl (st := []) rfl (Nat.le_of_ble_eq_true rfl) d_R_given_52 ?_
      exact g_iret hz (rti h hq) d_R_given_55
    · replace h := (if_pos c10).symm.trans h
      refine g_iconst hz d_R_given_47 ki_1 ?_
      refine g_goto hz (tgt := 52) d_R_given_48 (by decide) ?_
      refine bn_use h (fun x16 s15 e14 h => ?_)
      refine g_callVi hz (c_R_givenAt l e14) (by decide) rc_R rfl rfl m_R_givenAt mi_R_givenAt ms_R_givenAt q_1310 ⟨Nat.le_of_ble_eq_true rfl, Nat.le_of_ble_eq_true rfl⟩ rfl (st := []) rfl (Nat.le_of_ble_eq_true rfl) d_R_given_52 ?_
      exact g_iret hz (rti h hq) d_R_given_55
  · replace h := (if_neg c9).symm.trans h
    refine g_aload_n hz 1 d_R_given_32 rfl rfl ?_
    refine g_iload_n hz 0 d_R_given_33 rfl rfl ?_
    refine bn_use h (fun x19 s18 e17 h => ?_)
    refine g_callVi hz (c_R_no l e17) (by decide) rc_R rfl rfl m_R_no mi_R_no ms_R_no q_1107 ⟨Nat.le_of_ble_eq_true rfl, Nat.le_of_ble_eq_true rfl⟩ rfl (st := []) rfl (Nat.le_of_ble_eq_true rfl) d_R_given_34 ?_
    refine g_goto hz (tgt := 55) d_R_given_37 (by decide) ?_
    exact g_iret hz (rti h hq) d_R_given_55
def f_R_given (s : Mm) (a1 : Int32) (a2 : Int32) : Option (Int32 × Mm) :=
  bn (f_R_isGift s a1) fun x3 s2 =>
  if x3 = 0 then
    k_R_given_27 a1 a2 (-1) s2
  else
    bn (f_R_isIn s2 a2 0 1) fun x7 s6 =>
    if x7 = 0 then
      k_R_given_27 a1 a2 (-2) s6
    else
      k_R_given_27 a1 a2 0 s6
set_option maxRecDepth 20000 in
theorem c_R_given (l : Launch) {s : Mm} {a1 : Int32} {a2 : Int32} {r' : Int32} {s' : Mm}  (h : f_R_given s a1 a2 = some (r', s')) : Cm l y_R_given b_R_given 4 (some .int) 6 137 [.ref 176, .int a1, .int a2] s s' (some (.int r')) := by
  refine Cm.of (own := "PassedOnAndBetterModel") (by decide) rfl (fun ad => Nat.le_of_ble_eq_true rfl) ?_
  intro z hz hq
  show G l z b_R_given 4 0 [(0, .ref 176), (1, .int a1), (2, .int a2)] [] s
  unfold f_R_given at h
  refine g_aload_n hz 0 d_R_given_0 rfl rfl ?_
  refine g_iload_n hz 1 d_R_given_1 rfl rfl ?_
  refine bn_use h (fun x3 s2 e1 h => ?_)
  refine g_callVi hz (c_R_isGift l e1) (by decide) rc_R rfl rfl m_R_isGift mi_R_isGift ms_R_isGift q_1186 ⟨Nat.le_of_ble_eq_true rfl, Nat.le_of_ble_eq_true rfl⟩ rfl (st := []) rfl (Nat.le_of_ble_eq_true rfl) d_R_given_2 ?_
  refine g_if_ne hz (tgt := 12) d_R_given_5 (by decide) (fun c4 => ?_) (fun c4 => ?_)
  · replace h := (if_neg c4).symm.trans h
    refine g_iload_n hz 2 d_R_given_12 rfl rfl ?_
    refine g_iconst hz d_R_given_13 ki_0 ?_
    refine g_iconst hz d_R_given_14 ki_1 ?_
    refine bn_use h (fun x7 s6 e5 h => ?_)
    refine g_callSi hz (c_R_isIn l e5) m_R_isIn mi_R_isIn q_1131 ⟨Nat.le_of_ble_eq_true rfl, Nat.le_of_ble_eq_true rfl⟩ rfl (st := []) rfl (Nat.le_of_ble_eq_true rfl) d_R_given_15 ?_
    refine g_if_ne hz (tgt := 26) d_R_given_18 (by decide) (fun c8 => ?_) (fun c8 => ?_)
    · replace h := (if_neg c8).symm.trans h
      refine g_iconst hz d_R_given_26 ki_0 ?_
      exact w_R_given_27 hz hq a1 a2 0 _ h
    · replace h := (if_pos c8).symm.trans h
      refine g_bipush hz (v := (-2)) d_R_given_21 (by decide) ?_
      refine g_goto hz (tgt := 27) d_R_given_23 (by decide) ?_
      exact w_R_given_27 hz hq a1 a2 (-2) _ h
  · replace h := (if_pos c4).symm.trans h
    refine g_iconst hz d_R_given_8 ki_m1 ?_
    refine g_goto hz (tgt := 27) d_R_given_9 (by decide) ?_
    exact w_R_given_27 hz hq a1 a2 (-1) _ h
def k_R_comesAt_39 (kc11 : (Int32 → Int32 → Int32 → Int32 → Int32 → Mm → Option (Int32 × Mm))) (v1 : Int32) (v2 : Int32) (v3 : Int32) (v5 : Int32) (vt0 : Int32) (s : Mm) : Option (Int32 × Mm) :=
  bv (f_R_goesMonth s 0) fun s12 =>
  kc11 v1 v2 v3 vt0 (v5 + 1) s12
set_option maxRecDepth 20000 in
theorem w_R_comesAt_39 {l : Launch} {z : Zt} (hz : ZOk z b_R_comesAt 6 "PassedOnAndBetterModel" 5 111) {r' : Int32} {s' : Mm} (hq : ZR z (some .int) s' (some (.int r'))) {kc11 : (Int32 → Int32 → Int32 → Int32 → Int32 → Mm → Option (Int32 × Mm))} (hk11 : (∀ (v1 : Int32) (v2 : Int32) (v3 : Int32) (v4 : Int32) (v5 : Int32) (s : Mm), kc11 v1 v2 v3 v4 v5 s = some (r', s') → G l z b_R_comesAt 6 11 [(0, .ref 176), (1, .int v1), (2, .int v2), (3, .int v3), (4, .int v4), (5, .int v5)] [] s)) (v1 : Int32) (v2 : Int32) (v3 : Int32) (v5 : Int32) (vt0 : Int32) (s : Mm) (h : k_R_comesAt_39 kc11 v1 v2 v3 v5 vt0 s = some (r', s')) : G l z b_R_comesAt 6 39 [(0, .ref 176), (1, .int v1), (2, .int v2), (3, .int v3), (5, .int v5)] [.int vt0] s := by
  unfold k_R_comesAt_39 at h
  refine g_istore hz (L' := [(4, .int vt0), (0, .ref 176), (1, .int v1), (2, .int v2), (3, .int v3), (5, .int v5)]) d_R_comesAt_39 (by decide) rfl ?_
  refine g_aload_n hz 1 d_R_comesAt_41 rfl rfl ?_
  refine g_iconst hz d_R_comesAt_42 ki_0 ?_
  refine bv_use h (fun s12 e11 h => ?_)
  refine g_callVv hz (c_R_goesMonth l e11) (by decide) rc_R rfl rfl m_R_goesMonth mi_R_goesMonth ms_R_goesMonth q_1198 ⟨Nat.le_of_ble_eq_true rfl, Nat.le_of_ble_eq_true rfl⟩ rfl (st := []) rfl (Nat.le_of_ble_eq_true rfl) d_R_comesAt_43 ?_
  refine g_iinc hz (v := v5 + 1) (L' := [(5, .int (v5 + 1)), (4, .int vt0), (0, .ref 176), (1, .int v1), (2, .int v2), (3, .int v3)]) 5 d_R_comesAt_46 rfl (congrArg (fun q => v5 + q) ki_1) (by decide) rfl ?_
  refine g_goto hz (tgt := 11) d_R_comesAt_49 (by decide) ?_
  refine g_sub [2, 3, 4, 5, 1, 0] rfl ?_
  exact hk11 v1 v2 v3 vt0 (v5 + 1) _ h
def k_R_comesAt_11 : Nat → Int32 → Int32 → Int32 → Int32 → Int32 → Mm → Option (Int32 × Mm)
  | 0, _, _, _, _, _, _ => none
  | n + 1, v1, v2, v3, v4, v5, s => if v3 < v5 then
      bv (f_R_forgets s) fun s5 =>
      some (v4, s5)
    else
      if 0 ≤ v4 then
        bv (f_R_forgets s) fun s8 =>
        some (v4, s8)
      else
        gd v1 4 <|
        if (s 184 v1.toNatClampNeg) = v2 then
          k_R_comesAt_39 (fun v1 v2 v3 v4 v5 s => k_R_comesAt_11 n v1 v2 v3 v4 v5 s) v1 v2 v3 v5 v5 s
        else
          k_R_comesAt_39 (fun v1 v2 v3 v4 v5 s => k_R_comesAt_11 n v1 v2 v3 v4 v5 s) v1 v2 v3 v5 (-9) s
set_option maxRecDepth 20000 in
theorem w_R_comesAt_11 {l : Launch} {z : Zt} (hz : ZOk z b_R_comesAt 6 "PassedOnAndBetterModel" 5 111) {r' : Int32} {s' : Mm} (hq : ZR z (some .int) s' (some (.int r'))) : ∀ (n : Nat) (v1 : Int32) (v2 : Int32) (v3 : Int32) (v4 : Int32) (v5 : Int32) (s : Mm), k_R_comesAt_11 n v1 v2 v3 v4 v5 s = some (r', s') → G l z b_R_comesAt 6 11 [(0, .ref 176), (1, .int v1), (2, .int v2), (3, .int v3), (4, .int v4), (5, .int v5)] [] s := by
  intro n
  induction n with
  | zero => intro v1 v2 v3 v4 v5 s h; unfold k_R_comesAt_11 at h; cases h
  | succ n ih =>
    intro v1 v2 v3 v4 v5 s h
    unfold k_R_comesAt_11 at h
    refine g_iload hz 5 d_R_comesAt_11 rfl ?_
    refine g_iload_n hz 3 d_R_comesAt_13 rfl rfl ?_
    refine g_icmp_gt hz (tgt := 52) d_R_comesAt_14 (by decide) (fun c3 => ?_) (fun c3 => ?_)
    · replace h := (if_pos c3).symm.trans h
      refine g_aload_n hz 0 d_R_comesAt_52 rfl rfl ?_
      refine bv_use h (fun s5 e4 h => ?_)
      refine g_callVv hz (c_R_forgets l e4) (by decide) rc_R rfl rfl m_R_forgets mi_R_forgets ms_R_forgets q_1298 ⟨Nat.le_of_ble_eq_true rfl, Nat.le_of_ble_eq_true rfl⟩ rfl (st := []) rfl (Nat.le_of_ble_eq_true rfl) d_R_comesAt_53 ?_
      refine g_iload hz 4 d_R_comesAt_56 rfl ?_
      exact g_iret hz (rti h hq) d_R_comesAt_58
    · replace h := (if_neg c3).symm.trans h
      refine g_iload hz 4 d_R_comesAt_17 rfl ?_
      refine g_if_ge hz (tgt := 52) d_R_comesAt_19 (by decide) (fun c6 => ?_) (fun c6 => ?_)
      · replace h := (if_pos c6).symm.trans h
        refine g_aload_n hz 0 d_R_comesAt_52 rfl rfl ?_
        refine bv_use h (fun s8 e7 h => ?_)
        refine g_callVv hz (c_R_forgets l e7) (by decide) rc_R rfl rfl m_R_forgets mi_R_forgets ms_R_forgets q_1298 ⟨Nat.le_of_ble_eq_true rfl, Nat.le_of_ble_eq_true rfl⟩ rfl (st := []) rfl (Nat.le_of_ble_eq_true rfl) d_R_comesAt_53 ?_
        refine g_iload hz 4 d_R_comesAt_56 rfl ?_
        exact g_iret hz (rti h hq) d_R_comesAt_58
      · replace h := (if_neg c6).symm.trans h
        refine g_aload_n hz 0 d_R_comesAt_22 rfl rfl ?_
        refine gf_R_holder hz q_1010 d_R_comesAt_23 ?_
        refine g_iload_n hz 1 d_R_comesAt_26 rfl rfl ?_
        obtain ⟨n9, h⟩ := gd_use h
        refine g_iald hz (by decide) n9 d_R_comesAt_27 ?_
        refine g_iload_n hz 2 d_R_comesAt_28 rfl rfl ?_
        refine g_icmp_ne hz (tgt := 37) d_R_comesAt_29 (by decide) (fun c10 => ?_) (fun c10 => ?_)
        · replace h := (if_neg c10).symm.trans h
          refine g_bipush hz (v := (-9)) d_R_comesAt_37 (by decide) ?_
          refine g_sub [0, 1, 2, 3, 5] rfl ?_
          exact w_R_comesAt_39 hz hq ih v1 v2 v3 v5 (-9) _ h
        · replace h := (if_pos c10).symm.trans h
          refine g_iload hz 5 d_R_comesAt_32 rfl ?_
          refine g_goto hz (tgt := 39) d_R_comesAt_34 (by decide) ?_
          refine g_sub [0, 1, 2, 3, 5] rfl ?_
          exact w_R_comesAt_39 hz hq ih v1 v2 v3 v5 v5 _ h
def f_R_comesAt (s : Mm) (a1 : Int32) (a2 : Int32) (a3 : Int32) : Option (Int32 × Mm) :=
  bv (f_R_thinks s) fun s2 =>
  k_R_comesAt_11 KF a1 a2 a3 (-9) 0 s2
set_option maxRecDepth 20000 in
theorem c_R_comesAt (l : Launch) {s : Mm} {a1 : Int32} {a2 : Int32} {a3 : Int32} {r' : Int32} {s' : Mm}  (h : f_R_comesAt s a1 a2 a3 = some (r', s')) : Cm l y_R_comesAt b_R_comesAt 6 (some .int) 5 111 [.ref 176, .int a1, .int a2, .int a3] s s' (some (.int r')) := by
  refine Cm.of (own := "PassedOnAndBetterModel") (by decide) rfl (fun ad => Nat.le_of_ble_eq_true rfl) ?_
  intro z hz hq
  show G l z b_R_comesAt 6 0 [(0, .ref 176), (1, .int a1), (2, .int a2), (3, .int a3)] [] s
  unfold f_R_comesAt at h
  refine g_aload_n hz 0 d_R_comesAt_0 rfl rfl ?_
  refine bv_use h (fun s2 e1 h => ?_)
  refine g_callVv hz (c_R_thinks l e1) (by decide) rc_R rfl rfl m_R_thinks mi_R_thinks ms_R_thinks q_1294 ⟨Nat.le_of_ble_eq_true rfl, Nat.le_of_ble_eq_true rfl⟩ rfl (st := []) rfl (Nat.le_of_ble_eq_true rfl) d_R_comesAt_1 ?_
  refine g_bipush hz (v := (-9)) d_R_comesAt_4 (by decide) ?_
  refine g_istore hz (L' := [(4, .int (-9)), (0, .ref 176), (1, .int a1), (2, .int a2), (3, .int a3)]) d_R_comesAt_6 (by decide) rfl ?_
  refine g_iconst hz d_R_comesAt_8 ki_0 ?_
  refine g_istore hz (L' := [(5, .int 0), (4, .int (-9)), (0, .ref 176), (1, .int a1), (2, .int a2), (3, .int a3)]) d_R_comesAt_9 (by decide) rfl ?_
  refine g_sub [2, 3, 4, 5, 1, 0] rfl ?_
  exact w_R_comesAt_11 hz hq KF a1 a2 a3 (-9) 0 _ h
def f_R_comes2 (s : Mm) (a1 : Int32) (a2 : Int32) : Option (Int32 × Mm) :=
  bn (f_R_isGift s a1) fun x3 s2 =>
  if x3 = 0 then
    bn (f_R_no s2 (-1)) fun x7 s6 =>
    some (x7, s6)
  else
    bn (f_R_isFriend s2 a2) fun x10 s9 =>
    if x10 = 0 then
      bn (f_R_no s9 (-1)) fun x14 s13 =>
      some (x14, s13)
    else
      bn (f_R_comesAt s9 a1 a2 60) fun x17 s16 =>
      some (x17, s16)
set_option maxRecDepth 20000 in
theorem c_R_comes2 (l : Launch) {s : Mm} {a1 : Int32} {a2 : Int32} {r' : Int32} {s' : Mm}  (h : f_R_comes2 s a1 a2 = some (r', s')) : Cm l y_R_comes2 b_R_comes2 3 (some .int) 6 136 [.ref 176, .int a1, .int a2] s s' (some (.int r')) := by
  refine Cm.of (own := "PassedOnAndBetterModel") (by decide) rfl (fun ad => Nat.le_of_ble_eq_true rfl) ?_
  intro z hz hq
  show G l z b_R_comes2 3 0 [(0, .ref 176), (1, .int a1), (2, .int a2)] [] s
  unfold f_R_comes2 at h
  refine g_aload_n hz 0 d_R_comes2_0 rfl rfl ?_
  refine g_iload_n hz 1 d_R_comes2_1 rfl rfl ?_
  refine bn_use h (fun x3 s2 e1 h => ?_)
  refine g_callVi hz (c_R_isGift l e1) (by decide) rc_R rfl rfl m_R_isGift mi_R_isGift ms_R_isGift q_1186 ⟨Nat.le_of_ble_eq_true rfl, Nat.le_of_ble_eq_true rfl⟩ rfl (st := []) rfl (Nat.le_of_ble_eq_true rfl) d_R_comes2_2 ?_
  refine g_if_eq hz (tgt := 27) d_R_comes2_5 (by decide) (fun c4 => ?_) (fun c4 => ?_)
  · replace h := (if_pos c4).symm.trans h
    refine g_aload_n hz 0 d_R_comes2_27 rfl rfl ?_
    refine g_iconst hz d_R_comes2_28 ki_m1 ?_
    refine bn_use h (fun x7 s6 e5 h => ?_)
    refine g_callVi hz (c_R_no l e5) (by decide) rc_R rfl rfl m_R_no mi_R_no ms_R_no q_1107 ⟨Nat.le_of_ble_eq_true rfl, Nat.le_of_ble_eq_true rfl⟩ rfl (st := []) rfl (Nat.le_of_ble_eq_true rfl) d_R_comes2_29 ?_
    exact g_iret hz (rti h hq) d_R_comes2_32
  · replace h := (if_neg c4).symm.trans h
    refine g_aload_n hz 0 d_R_comes2_8 rfl rfl ?_
    refine g_iload_n hz 2 d_R_comes2_9 rfl rfl ?_
    refine bn_use h (fun x10 s9 e8 h => ?_)
    refine g_callVi hz (c_R_isFriend l e8) (by decide) rc_R rfl rfl m_R_isFriend mi_R_isFriend ms_R_isFriend q_1162 ⟨Nat.le_of_ble_eq_true rfl, Nat.le_of_ble_eq_true rfl⟩ rfl (st := []) rfl (Nat.le_of_ble_eq_true rfl) d_R_comes2_10 ?_
    refine g_if_eq hz (tgt := 27) d_R_comes2_13 (by decide) (fun c11 => ?_) (fun c11 => ?_)
    · replace h := (if_pos c11).symm.trans h
      refine g_aload_n hz 0 d_R_comes2_27 rfl rfl ?_
      refine g_iconst hz d_R_comes2_28 ki_m1 ?_
      refine bn_use h (fun x14 s13 e12 h => ?_)
      refine g_callVi hz (c_R_no l e12) (by decide) rc_R rfl rfl m_R_no mi_R_no ms_R_no q_1107 ⟨Nat.le_of_ble_eq_true rfl, Nat.le_of_ble_eq_true rfl⟩ rfl (st := []) rfl (Nat.le_of_ble_eq_true rfl) d_R_comes2_29 ?_
      exact g_iret hz (rti h hq) d_R_comes2_32
    · replace h := (if_neg c11).symm.trans h
      refine g_aload_n hz 0 d_R_comes2_16 rfl rfl ?_
      refine g_iload_n hz 1 d_R_comes2_17 rfl rfl ?_
      refine g_iload_n hz 2 d_R_comes2_18 rfl rfl ?_
      refine g_bipush hz (v := 60) d_R_comes2_19 (by decide) ?_
      refine bn_use h (fun x17 s16 e15 h => ?_)
      refine g_callVi hz (c_R_comesAt l e15) (by decide) rc_R rfl rfl m_R_comesAt mi_R_comesAt ms_R_comesAt q_1318 ⟨Nat.le_of_ble_eq_true rfl, Nat.le_of_ble_eq_true rfl⟩ rfl (st := []) rfl (Nat.le_of_ble_eq_true rfl) d_R_comes2_21 ?_
      refine g_goto hz (tgt := 32) d_R_comes2_24 (by decide) ?_
      exact g_iret hz (rti h hq) d_R_comes2_32
def f_R_isStuck (s : Mm) (a1 : Int32) : Option (Int32 × Mm) :=
  gd a1 4 <|
  gd a1 4 <|
  bn (f_R_waitsOf s (s 184 a1.toNatClampNeg)) fun x5 s4 =>
  if x5 ≤ ((s 185 a1.toNatClampNeg) + 1) then
    gd a1 4 <|
    gd (s4 184 a1.toNatClampNeg) 6 <|
    nm (s4 181 (s4 184 a1.toNatClampNeg).toNatClampNeg) fun x9 =>
    if x9 < 0 then
      some (1, s4)
    else
      bn (f_R_sizeBehind s4 a1) fun x14 s13 =>
      gd x9 6 <|
      if x14 ≤ (s13 180 x9.toNatClampNeg) then
        some (0, s13)
      else
        some (1, s13)
  else
    some (0, s4)
set_option maxRecDepth 20000 in
theorem c_R_isStuck (l : Launch) {s : Mm} {a1 : Int32} {r' : Int32} {s' : Mm}  (h : f_R_isStuck s a1 = some (r', s')) : Cm l y_R_isStuck b_R_isStuck 3 (some .boolean) 2 43 [.ref 176, .int a1] s s' (some (.int r')) := by
  refine Cm.of (own := "PassedOnAndBetterModel") (by decide) rfl (fun ad => Nat.le_of_ble_eq_true rfl) ?_
  intro z hz hq
  show G l z b_R_isStuck 3 0 [(0, .ref 176), (1, .int a1)] [] s
  unfold f_R_isStuck at h
  refine g_aload_n hz 0 d_R_isStuck_0 rfl rfl ?_
  refine gf_R_kept hz q_1011 d_R_isStuck_1 ?_
  refine g_iload_n hz 1 d_R_isStuck_4 rfl rfl ?_
  obtain ⟨n1, h⟩ := gd_use h
  refine g_iald hz (by decide) n1 d_R_isStuck_5 ?_
  refine g_iconst hz d_R_isStuck_6 ki_1 ?_
  refine g_iadd hz d_R_isStuck_7 ?_
  refine g_aload_n hz 0 d_R_isStuck_8 rfl rfl ?_
  refine g_aload_n hz 0 d_R_isStuck_9 rfl rfl ?_
  refine gf_R_holder hz q_1010 d_R_isStuck_10 ?_
  refine g_iload_n hz 1 d_R_isStuck_13 rfl rfl ?_
  obtain ⟨n2, h⟩ := gd_use h
  refine g_iald hz (by decide) n2 d_R_isStuck_14 ?_
  refine bn_use h (fun x5 s4 e3 h => ?_)
  refine g_callVi hz (c_R_waitsOf l e3) (by decide) rc_R rfl rfl m_R_waitsOf mi_R_waitsOf ms_R_waitsOf q_1209 ⟨Nat.le_of_ble_eq_true rfl, Nat.le_of_ble_eq_true rfl⟩ rfl (st := [.int ((s 185 a1.toNatClampNeg) + 1)]) rfl (Nat.le_of_ble_eq_true rfl) d_R_isStuck_15 ?_
  refine g_icmp_ge hz (tgt := 23) d_R_isStuck_18 (by decide) (fun c6 => ?_) (fun c6 => ?_)
  · replace h := (if_pos c6).symm.trans h
    refine g_aload_n hz 0 d_R_isStuck_23 rfl rfl ?_
    refine gf_R_next hz q_1007 d_R_isStuck_24 ?_
    refine g_aload_n hz 0 d_R_isStuck_27 rfl rfl ?_
    refine gf_R_holder hz q_1010 d_R_isStuck_28 ?_
    refine g_iload_n hz 1 d_R_isStuck_31 rfl rfl ?_
    obtain ⟨n7, h⟩ := gd_use h
    refine g_iald hz (by decide) n7 d_R_isStuck_32 ?_
    obtain ⟨n8, h⟩ := gd_use h
    refine g_iald hz (by decide) n8 d_R_isStuck_33 ?_
    refine g_nmi (fun x9 e10 => ?_)
    replace h := nm_use h e10
    refine g_istore_n hz (L' := [(2, .int x9), (0, .ref 176), (1, .int a1)]) d_R_isStuck_34 rfl (by decide) rfl ?_
    refine g_iload_n hz 0 d_R_isStuck_35 rfl rfl ?_
    refine g_if_lt hz (tgt := 53) d_R_isStuck_36 (by decide) (fun c11 => ?_) (fun c11 => ?_)
    · replace h := (if_pos c11).symm.trans h
      refine g_iconst hz d_R_isStuck_53 ki_1 ?_
      refine g_goto hz (tgt := 58) d_R_isStuck_54 (by decide) ?_
      exact g_zret hz (rti h hq) (Or.inr rfl) d_R_isStuck_58
    · replace h := (if_neg c11).symm.trans h
      refine g_aload_n hz 1 d_R_isStuck_39 rfl rfl ?_
      refine g_iload_n hz 2 d_R_isStuck_40 rfl rfl ?_
      refine bn_use h (fun x14 s13 e12 h => ?_)
      refine g_callVi hz (c_R_sizeBehind l e12) (by decide) rc_R rfl rfl m_R_sizeBehind mi_R_sizeBehind ms_R_sizeBehind q_1224 ⟨Nat.le_of_ble_eq_true rfl, Nat.le_of_ble_eq_true rfl⟩ rfl (st := []) rfl (Nat.le_of_ble_eq_true rfl) d_R_isStuck_41 ?_
      refine g_aload_n hz 1 d_R_isStuck_44 rfl rfl ?_
      refine gf_R_door hz q_1006 d_R_isStuck_45 ?_
      refine g_iload_n hz 0 d_R_isStuck_48 rfl rfl ?_
      obtain ⟨n15, h⟩ := gd_use h
      refine g_iald hz (by decide) n15 d_R_isStuck_49 ?_
      refine g_icmp_le hz (tgt := 57) d_R_isStuck_50 (by decide) (fun c16 => ?_) (fun c16 => ?_)
      · replace h := (if_pos c16).symm.trans h
        refine g_iconst hz d_R_isStuck_57 ki_0 ?_
        exact g_zret hz (rti h hq) (Or.inl rfl) d_R_isStuck_58
      · replace h := (if_neg c16).symm.trans h
        refine g_iconst hz d_R_isStuck_53 ki_1 ?_
        refine g_goto hz (tgt := 58) d_R_isStuck_54 (by decide) ?_
        exact g_zret hz (rti h hq) (Or.inr rfl) d_R_isStuck_58
  · replace h := (if_neg c6).symm.trans h
    refine g_iconst hz d_R_isStuck_21 ki_0 ?_
    exact g_zret hz (rti h hq) (Or.inl rfl) d_R_isStuck_22
def k_R_sticks_4 : Nat → Int32 → Int32 → Mm → Option (Int32 × Mm)
  | 0, _, _, _ => none
  | n + 1, v1, v2, s => if (s 176 12) ≤ v2 then
      some (v1, s)
    else
      bn (f_R_isStuck s v2) fun x4 s3 =>
      if x4 = 0 then
        nm (v1 ||| 0) fun x6 =>
        k_R_sticks_4 n x6 (v2 + 1) s3
      else
        nm (v1 ||| (1 <<< (v2 &&& 31))) fun x8 =>
        k_R_sticks_4 n x8 (v2 + 1) s3
set_option maxRecDepth 20000 in
theorem w_R_sticks_4 {l : Launch} {z : Zt} (hz : ZOk z b_R_sticks 3 "PassedOnAndBetterModel" 3 65) {r' : Int32} {s' : Mm} (hq : ZR z (some .int) s' (some (.int r'))) : ∀ (n : Nat) (v1 : Int32) (v2 : Int32) (s : Mm), k_R_sticks_4 n v1 v2 s = some (r', s') → G l z b_R_sticks 3 4 [(0, .ref 176), (1, .int v1), (2, .int v2)] [] s := by
  intro n
  induction n with
  | zero => intro v1 v2 s h; unfold k_R_sticks_4 at h; cases h
  | succ n ih =>
    intro v1 v2 s h
    unfold k_R_sticks_4 at h
    refine g_iload_n hz 2 d_R_sticks_4 rfl rfl ?_
    refine g_aload_n hz 0 d_R_sticks_5 rfl rfl ?_
    refine gf_R_gifts hz q_1015 d_R_sticks_6 ?_
    refine g_icmp_ge hz (tgt := 36) d_R_sticks_9 (by decide) (fun c1 => ?_) (fun c1 => ?_)
    · replace h := (if_pos c1).symm.trans h
      refine g_iload_n hz 1 d_R_sticks_36 rfl rfl ?_
      exact g_iret hz (rti h hq) d_R_sticks_37
    · replace h := (if_neg c1).symm.trans h
      refine g_iload_n hz 1 d_R_sticks_12 rfl rfl ?_
      refine g_aload_n hz 0 d_R_sticks_13 rfl rfl ?_
      refine g_iload_n hz 2 d_R_sticks_14 rfl rfl ?_
      refine bn_use h (fun x4 s3 e2 h => ?_)
      refine g_callVi hz (c_R_isStuck l e2) (by decide) rc_R rfl rfl m_R_isStuck mi_R_isStuck ms_R_isStuck q_1326 ⟨Nat.le_of_ble_eq_true rfl, Nat.le_of_ble_eq_true rfl⟩ rfl (st := [.int v1]) rfl (Nat.le_of_ble_eq_true rfl) d_R_sticks_15 ?_
      refine g_if_eq hz (tgt := 27) d_R_sticks_18 (by decide) (fun c5 => ?_) (fun c5 => ?_)
      · replace h := (if_pos c5).symm.trans h
        refine g_iconst hz d_R_sticks_27 ki_0 ?_
        refine g_ior hz d_R_sticks_28 ?_
        refine g_nmi (fun x6 e7 => ?_)
        replace h := nm_use h e7
        refine g_istore_n hz (L' := [(1, .int x6), (0, .ref 176), (2, .int v2)]) d_R_sticks_29 rfl (by decide) rfl ?_
        refine g_iinc hz (v := v2 + 1) (L' := [(2, .int (v2 + 1)), (1, .int x6), (0, .ref 176)]) 2 d_R_sticks_30 rfl (congrArg (fun q => v2 + q) ki_1) (by decide) rfl ?_
        refine g_goto hz (tgt := 4) d_R_sticks_33 (by decide) ?_
        refine g_sub [2, 1, 0] rfl ?_
        exact ih x6 (v2 + 1) _ h
      · replace h := (if_neg c5).symm.trans h
        refine g_iconst hz d_R_sticks_21 ki_1 ?_
        refine g_iload_n hz 2 d_R_sticks_22 rfl rfl ?_
        refine g_ishl hz d_R_sticks_23 ?_
        refine g_goto hz (tgt := 28) d_R_sticks_24 (by decide) ?_
        refine g_ior hz d_R_sticks_28 ?_
        refine g_nmi (fun x8 e9 => ?_)
        replace h := nm_use h e9
        refine g_istore_n hz (L' := [(1, .int x8), (0, .ref 176), (2, .int v2)]) d_R_sticks_29 rfl (by decide) rfl ?_
        refine g_iinc hz (v := v2 + 1) (L' := [(2, .int (v2 + 1)), (1, .int x8), (0, .ref 176)]) 2 d_R_sticks_30 rfl (congrArg (fun q => v2 + q) ki_1) (by decide) rfl ?_
        refine g_goto hz (tgt := 4) d_R_sticks_33 (by decide) ?_
        refine g_sub [2, 1, 0] rfl ?_
        exact ih x8 (v2 + 1) _ h
def f_R_sticks (s : Mm) : Option (Int32 × Mm) :=
  k_R_sticks_4 KF 0 0 s
set_option maxRecDepth 20000 in
theorem c_R_sticks (l : Launch) {s : Mm}  {r' : Int32} {s' : Mm}  (h : f_R_sticks s = some (r', s')) : Cm l y_R_sticks b_R_sticks 3 (some .int) 3 65 [.ref 176] s s' (some (.int r')) := by
  refine Cm.of (own := "PassedOnAndBetterModel") (by decide) rfl (fun ad => Nat.le_of_ble_eq_true rfl) ?_
  intro z hz hq
  show G l z b_R_sticks 3 0 [(0, .ref 176)] [] s
  unfold f_R_sticks at h
  refine g_iconst hz d_R_sticks_0 ki_0 ?_
  refine g_istore_n hz (L' := [(1, .int 0), (0, .ref 176)]) d_R_sticks_1 rfl (by decide) rfl ?_
  refine g_iconst hz d_R_sticks_2 ki_0 ?_
  refine g_istore_n hz (L' := [(2, .int 0), (1, .int 0), (0, .ref 176)]) d_R_sticks_3 rfl (by decide) rfl ?_
  refine g_sub [2, 1, 0] rfl ?_
  exact w_R_sticks_4 hz hq KF 0 0 _ h
def f_R_changes (s : Mm) : Option Mm :=
  bv (f_R_passesAll s 1 1) fun s2 =>
  some s2
set_option maxRecDepth 20000 in
theorem c_R_changes (l : Launch) {s : Mm}  {s' : Mm}  (h : f_R_changes s = some s') : Cm l y_R_changes b_R_changes 1 none 2 44 [.ref 176] s s' none := by
  refine Cm.of (own := "PassedOnAndBetterModel") (by decide) rfl (fun ad => Nat.le_of_ble_eq_true rfl) ?_
  intro z hz hq
  show G l z b_R_changes 1 0 [(0, .ref 176)] [] s
  unfold f_R_changes at h
  refine g_aload_n hz 0 d_R_changes_0 rfl rfl ?_
  refine g_iconst hz d_R_changes_1 ki_1 ?_
  refine g_iconst hz d_R_changes_2 ki_1 ?_
  refine bv_use h (fun s2 e1 h => ?_)
  refine g_callVv hz (c_R_passesAll l e1) (by decide) rc_R rfl rfl m_R_passesAll mi_R_passesAll ms_R_passesAll q_1134 ⟨Nat.le_of_ble_eq_true rfl, Nat.le_of_ble_eq_true rfl⟩ rfl (st := []) rfl (Nat.le_of_ble_eq_true rfl) d_R_changes_3 ?_
  exact g_vret hz (rtv h hq) d_R_changes_6
def f_R_worthIn (s : Mm) (a1 : Int32) (a2 : Int32) : Option (Int32 × Mm) :=
  bv (f_R_thinks s) fun s2 =>
  bv (f_R_goes s2 a2) fun s4 =>
  if 0 ≤ a1 then
    gd a1 4 <|
    nm (s4 182 a1.toNatClampNeg) fun x7 =>
    bv (f_R_forgets s4) fun s10 =>
    some (x7, s10)
  else
    bn (f_R_sum s4 182 (s4 176 12)) fun x13 s12 =>
    bv (f_R_forgets s12) fun s15 =>
    some (x13, s15)
set_option maxRecDepth 20000 in
theorem c_R_worthIn (l : Launch) {s : Mm} {a1 : Int32} {a2 : Int32} {r' : Int32} {s' : Mm}  (h : f_R_worthIn s a1 a2 = some (r', s')) : Cm l y_R_worthIn b_R_worthIn 4 (some .int) 6 133 [.ref 176, .int a1, .int a2] s s' (some (.int r')) := by
  refine Cm.of (own := "PassedOnAndBetterModel") (by decide) rfl (fun ad => Nat.le_of_ble_eq_true rfl) ?_
  intro z hz hq
  show G l z b_R_worthIn 4 0 [(0, .ref 176), (1, .int a1), (2, .int a2)] [] s
  unfold f_R_worthIn at h
  refine g_aload_n hz 0 d_R_worthIn_0 rfl rfl ?_
  refine bv_use h (fun s2 e1 h => ?_)
  refine g_callVv hz (c_R_thinks l e1) (by decide) rc_R rfl rfl m_R_thinks mi_R_thinks ms_R_thinks q_1294 ⟨Nat.le_of_ble_eq_true rfl, Nat.le_of_ble_eq_true rfl⟩ rfl (st := []) rfl (Nat.le_of_ble_eq_true rfl) d_R_worthIn_1 ?_
  refine g_aload_n hz 0 d_R_worthIn_4 rfl rfl ?_
  refine g_iload_n hz 2 d_R_worthIn_5 rfl rfl ?_
  refine bv_use h (fun s4 e3 h => ?_)
  refine g_callVv hz (c_R_goes l e3) (by decide) rc_R rfl rfl m_R_goes mi_R_goes ms_R_goes q_1194 ⟨Nat.le_of_ble_eq_true rfl, Nat.le_of_ble_eq_true rfl⟩ rfl (st := []) rfl (Nat.le_of_ble_eq_true rfl) d_R_worthIn_6 ?_
  refine g_iload_n hz 1 d_R_worthIn_9 rfl rfl ?_
  refine g_if_ge hz (tgt := 27) d_R_worthIn_10 (by decide) (fun c5 => ?_) (fun c5 => ?_)
  · replace h := (if_pos c5).symm.trans h
    refine g_aload_n hz 0 d_R_worthIn_27 rfl rfl ?_
    refine gf_R_worth hz q_1008 d_R_worthIn_28 ?_
    refine g_iload_n hz 1 d_R_worthIn_31 rfl rfl ?_
    obtain ⟨n6, h⟩ := gd_use h
    refine g_iald hz (by decide) n6 d_R_worthIn_32 ?_
    refine g_nmi (fun x7 e8 => ?_)
    replace h := nm_use h e8
    refine g_istore_n hz (L' := [(3, .int x7), (0, .ref 176), (1, .int a1), (2, .int a2)]) d_R_worthIn_33 rfl (by decide) rfl ?_
    refine g_aload_n hz 1 d_R_worthIn_34 rfl rfl ?_
    refine bv_use h (fun s10 e9 h => ?_)
    refine g_callVv hz (c_R_forgets l e9) (by decide) rc_R rfl rfl m_R_forgets mi_R_forgets ms_R_forgets q_1298 ⟨Nat.le_of_ble_eq_true rfl, Nat.le_of_ble_eq_true rfl⟩ rfl (st := []) rfl (Nat.le_of_ble_eq_true rfl) d_R_worthIn_35 ?_
    refine g_iload_n hz 0 d_R_worthIn_38 rfl rfl ?_
    exact g_iret hz (rti h hq) d_R_worthIn_39
  · replace h := (if_neg c5).symm.trans h
    refine g_aload_n hz 0 d_R_worthIn_13 rfl rfl ?_
    refine gf_R_worth hz q_1008 d_R_worthIn_14 ?_
    refine g_aload_n hz 0 d_R_worthIn_17 rfl rfl ?_
    refine gf_R_gifts hz q_1015 d_R_worthIn_18 ?_
    refine bn_use h (fun x13 s12 e11 h => ?_)
    refine g_callSi hz (c_R_sum l (by decide) e11) m_R_sum mi_R_sum q_1284 ⟨Nat.le_of_ble_eq_true rfl, Nat.le_of_ble_eq_true rfl⟩ rfl (st := []) rfl (Nat.le_of_ble_eq_true rfl) d_R_worthIn_21 ?_
    refine g_goto hz (tgt := 33) d_R_worthIn_24 (by decide) ?_
    refine g_istore_n hz (L' := [(3, .int x13), (0, .ref 176), (1, .int a1), (2, .int a2)]) d_R_worthIn_33 rfl (by decide) rfl ?_
    refine g_aload_n hz 1 d_R_worthIn_34 rfl rfl ?_
    refine bv_use h (fun s15 e14 h => ?_)
    refine g_callVv hz (c_R_forgets l e14) (by decide) rc_R rfl rfl m_R_forgets mi_R_forgets ms_R_forgets q_1298 ⟨Nat.le_of_ble_eq_true rfl, Nat.le_of_ble_eq_true rfl⟩ rfl (st := []) rfl (Nat.le_of_ble_eq_true rfl) d_R_worthIn_35 ?_
    refine g_iload_n hz 0 d_R_worthIn_38 rfl rfl ?_
    exact g_iret hz (rti h hq) d_R_worthIn_39
def f_R_changesBack (s : Mm) : Option Mm :=
  bv (f_R_passesAll s 1 0) fun s2 =>
  some s2
set_option maxRecDepth 20000 in
theorem c_R_changesBack (l : Launch) {s : Mm}  {s' : Mm}  (h : f_R_changesBack s = some s') : Cm l y_R_changesBack b_R_changesBack 1 none 2 44 [.ref 176] s s' none := by
  refine Cm.of (own := "PassedOnAndBetterModel") (by decide) rfl (fun ad => Nat.le_of_ble_eq_true rfl) ?_
  intro z hz hq
  show G l z b_R_changesBack 1 0 [(0, .ref 176)] [] s
  unfold f_R_changesBack at h
  refine g_aload_n hz 0 d_R_changesBack_0 rfl rfl ?_
  refine g_iconst hz d_R_changesBack_1 ki_1 ?_
  refine g_iconst hz d_R_changesBack_2 ki_0 ?_
  refine bv_use h (fun s2 e1 h => ?_)
  refine g_callVv hz (c_R_passesAll l e1) (by decide) rc_R rfl rfl m_R_passesAll mi_R_passesAll ms_R_passesAll q_1134 ⟨Nat.le_of_ble_eq_true rfl, Nat.le_of_ble_eq_true rfl⟩ rfl (st := []) rfl (Nat.le_of_ble_eq_true rfl) d_R_changesBack_3 ?_
  exact g_vret hz (rtv h hq) d_R_changesBack_6
def f_R_worthFrom (s : Mm) (a1 : Int32) (a2 : Int32) (a3 : Int32) : Option (Int32 × Mm) :=
  bv (f_R_changes s) fun s2 =>
  bv (f_R_puts s2 a1 a2) fun s4 =>
  bn (f_R_worthIn s4 a1 a3) fun x7 s6 =>
  bv (f_R_changesBack s6) fun s9 =>
  some (x7, s9)
set_option maxRecDepth 20000 in
theorem c_R_worthFrom (l : Launch) {s : Mm} {a1 : Int32} {a2 : Int32} {a3 : Int32} {r' : Int32} {s' : Mm}  (h : f_R_worthFrom s a1 a2 a3 = some (r', s')) : Cm l y_R_worthFrom b_R_worthFrom 5 (some .int) 7 156 [.ref 176, .int a1, .int a2, .int a3] s s' (some (.int r')) := by
  refine Cm.of (own := "PassedOnAndBetterModel") (by decide) rfl (fun ad => Nat.le_of_ble_eq_true rfl) ?_
  intro z hz hq
  show G l z b_R_worthFrom 5 0 [(0, .ref 176), (1, .int a1), (2, .int a2), (3, .int a3)] [] s
  unfold f_R_worthFrom at h
  refine g_aload_n hz 0 d_R_worthFrom_0 rfl rfl ?_
  refine bv_use h (fun s2 e1 h => ?_)
  refine g_callVv hz (c_R_changes l e1) (by decide) rc_R rfl rfl m_R_changes mi_R_changes ms_R_changes q_1338 ⟨Nat.le_of_ble_eq_true rfl, Nat.le_of_ble_eq_true rfl⟩ rfl (st := []) rfl (Nat.le_of_ble_eq_true rfl) d_R_worthFrom_1 ?_
  refine g_aload_n hz 0 d_R_worthFrom_4 rfl rfl ?_
  refine g_iload_n hz 1 d_R_worthFrom_5 rfl rfl ?_
  refine g_iload_n hz 2 d_R_worthFrom_6 rfl rfl ?_
  refine bv_use h (fun s4 e3 h => ?_)
  refine g_callVv hz (c_R_puts l e3) (by decide) rc_R rfl rfl m_R_puts mi_R_puts ms_R_puts q_1170 ⟨Nat.le_of_ble_eq_true rfl, Nat.le_of_ble_eq_true rfl⟩ rfl (st := []) rfl (Nat.le_of_ble_eq_true rfl) d_R_worthFrom_7 ?_
  refine g_aload_n hz 0 d_R_worthFrom_10 rfl rfl ?_
  refine g_iload_n hz 1 d_R_worthFrom_11 rfl rfl ?_
  refine g_iload_n hz 3 d_R_worthFrom_12 rfl rfl ?_
  refine bn_use h (fun x7 s6 e5 h => ?_)
  refine g_callVi hz (c_R_worthIn l e5) (by decide) rc_R rfl rfl m_R_worthIn mi_R_worthIn ms_R_worthIn q_1342 ⟨Nat.le_of_ble_eq_true rfl, Nat.le_of_ble_eq_true rfl⟩ rfl (st := []) rfl (Nat.le_of_ble_eq_true rfl) d_R_worthFrom_13 ?_
  refine g_istore hz (L' := [(4, .int x7), (0, .ref 176), (1, .int a1), (2, .int a2), (3, .int a3)]) d_R_worthFrom_16 (by decide) rfl ?_
  refine g_aload_n hz 1 d_R_worthFrom_18 rfl rfl ?_
  refine bv_use h (fun s9 e8 h => ?_)
  refine g_callVv hz (c_R_changesBack l e8) (by decide) rc_R rfl rfl m_R_changesBack mi_R_changesBack ms_R_changesBack q_1346 ⟨Nat.le_of_ble_eq_true rfl, Nat.le_of_ble_eq_true rfl⟩ rfl (st := []) rfl (Nat.le_of_ble_eq_true rfl) d_R_worthFrom_19 ?_
  refine g_iload hz 0 d_R_worthFrom_22 rfl ?_
  exact g_iret hz (rti h hq) d_R_worthFrom_24
def k_R_bestStart_59 : Nat → Int32 → Int32 → Int32 → Int32 → Int32 → Int32 → Mm → Option (Int32 × Mm)
  | 0, _, _, _, _, _, _, _ => none
  | n + 1, v1, v2, v3, v5, v6, v7, s => if (s 176 11) ≤ v7 then
      if v3 = 0 then
        some (v5, s)
      else
        some (v6, s)
    else
      bn (f_R_worthFrom s v1 v7 v2) fun x14 s13 =>
      if v6 < x14 then
        k_R_bestStart_59 n v1 v2 v3 v7 x14 (v7 + 1) s13
      else
        k_R_bestStart_59 n v1 v2 v3 v5 v6 (v7 + 1) s13
set_option maxRecDepth 20000 in
theorem w_R_bestStart_59 {l : Launch} {z : Zt} (hz : ZOk z b_R_bestStart 9 "PassedOnAndBetterModel" 8 180) {r' : Int32} {s' : Mm} (hq : ZR z (some .int) s' (some (.int r'))) : ∀ (n : Nat) (v1 : Int32) (v2 : Int32) (v3 : Int32) (v5 : Int32) (v6 : Int32) (v7 : Int32) (s : Mm), k_R_bestStart_59 n v1 v2 v3 v5 v6 v7 s = some (r', s') → G l z b_R_bestStart 9 59 [(0, .ref 176), (1, .int v1), (2, .int v2), (3, .int v3), (5, .int v5), (6, .int v6), (7, .int v7)] [] s := by
  intro n
  induction n with
  | zero => intro v1 v2 v3 v5 v6 v7 s h; unfold k_R_bestStart_59 at h; cases h
  | succ n ih =>
    intro v1 v2 v3 v5 v6 v7 s h
    unfold k_R_bestStart_59 at h
    refine g_iload hz 6 d_R_bestStart_59 rfl ?_
    refine g_aload_n hz 0 d_R_bestStart_61 rfl rfl ?_
    refine gf_R_friends hz q_1014 d_R_bestStart_62 ?_
    refine g_icmp_ge hz (tgt := 102) d_R_bestStart_65 (by decide) (fun c10 => ?_) (fun c10 => ?_)
    · replace h := (if_pos c10).symm.trans h
      refine g_iload_n hz 3 d_R_bestStart_102 rfl rfl ?_
      refine g_if_ne hz (tgt := 111) d_R_bestStart_103 (by decide) (fun c11 => ?_) (fun c11 => ?_)
      · replace h := (if_neg c11).symm.trans h
        refine g_iload hz 5 d_R_bestStart_111 rfl ?_
        exact g_iret hz (rti h hq) d_R_bestStart_113
      · replace h := (if_pos c11).symm.trans h
        refine g_iload hz 4 d_R_bestStart_106 rfl ?_
        refine g_goto hz (tgt := 113) d_R_bestStart_108 (by decide) ?_
        exact g_iret hz (rti h hq) d_R_bestStart_113
    · replace h := (if_neg c10).symm.trans h
      refine g_aload_n hz 0 d_R_bestStart_68 rfl rfl ?_
      refine g_iload_n hz 1 d_R_bestStart_69 rfl rfl ?_
      refine g_iload hz 6 d_R_bestStart_70 rfl ?_
      refine g_iload_n hz 2 d_R_bestStart_72 rfl rfl ?_
      refine bn_use h (fun x14 s13 e12 h => ?_)
      refine g_callVi hz (c_R_worthFrom l e12) (by decide) rc_R rfl rfl m_R_worthFrom mi_R_worthFrom ms_R_worthFrom q_1334 ⟨Nat.le_of_ble_eq_true rfl, Nat.le_of_ble_eq_true rfl⟩ rfl (st := []) rfl (Nat.le_of_ble_eq_true rfl) d_R_bestStart_73 ?_
      refine g_istore hz (L' := [(8, .int x14), (0, .ref 176), (1, .int v1), (2, .int v2), (3, .int v3), (5, .int v5), (6, .int v6), (7, .int v7)]) d_R_bestStart_76 (by decide) rfl ?_
      refine g_iload hz 0 d_R_bestStart_78 rfl ?_
      refine g_iload hz 6 d_R_bestStart_80 rfl ?_
      refine g_icmp_gt hz (tgt := 88) d_R_bestStart_82 (by decide) (fun c15 => ?_) (fun c15 => ?_)
      · replace h := (if_pos c15).symm.trans h
        refine g_iload hz 7 d_R_bestStart_88 rfl ?_
        refine g_istore hz (L' := [(5, .int v7), (8, .int x14), (0, .ref 176), (1, .int v1), (2, .int v2), (3, .int v3), (6, .int v6), (7, .int v7)]) d_R_bestStart_90 (by decide) rfl ?_
        refine g_iload hz 1 d_R_bestStart_92 rfl ?_
        refine g_istore hz (L' := [(6, .int x14), (5, .int v7), (8, .int x14), (0, .ref 176), (1, .int v1), (2, .int v2), (3, .int v3), (7, .int v7)]) d_R_bestStart_94 (by decide) rfl ?_
        refine g_iinc hz (v := v7 + 1) (L' := [(7, .int (v7 + 1)), (6, .int x14), (5, .int v7), (8, .int x14), (0, .ref 176), (1, .int v1), (2, .int v2), (3, .int v3)]) 7 d_R_bestStart_96 rfl (congrArg (fun q => v7 + q) ki_1) (by decide) rfl ?_
        refine g_goto hz (tgt := 59) d_R_bestStart_99 (by decide) ?_
        refine g_sub [4, 5, 6, 7, 2, 1, 0] rfl ?_
        exact ih v1 v2 v3 v7 x14 (v7 + 1) _ h
      · replace h := (if_neg c15).symm.trans h
        refine g_goto hz (tgt := 96) d_R_bestStart_85 (by decide) ?_
        refine g_iinc hz (v := v7 + 1) (L' := [(7, .int (v7 + 1)), (8, .int x14), (0, .ref 176), (1, .int v1), (2, .int v2), (3, .int v3), (5, .int v5), (6, .int v6)]) 7 d_R_bestStart_96 rfl (congrArg (fun q => v7 + q) ki_1) (by decide) rfl ?_
        refine g_goto hz (tgt := 59) d_R_bestStart_99 (by decide) ?_
        refine g_sub [2, 3, 4, 5, 6, 7, 0] rfl ?_
        exact ih v1 v2 v3 v5 v6 (v7 + 1) _ h
def k_R_bestStart_36 (v1 : Int32) (v2 : Int32) (v3 : Int32) (v4 : Int32) (s : Mm) : Option (Int32 × Mm) :=
  if v4 = 0 then
    k_R_bestStart_59 KF v1 v2 v3 (-9) (-9) 0 s
  else
    bn (f_R_no s v4) fun x18 s17 =>
    some (x18, s17)
set_option maxRecDepth 20000 in
theorem w_R_bestStart_36 {l : Launch} {z : Zt} (hz : ZOk z b_R_bestStart 9 "PassedOnAndBetterModel" 8 180) {r' : Int32} {s' : Mm} (hq : ZR z (some .int) s' (some (.int r'))) (v1 : Int32) (v2 : Int32) (v3 : Int32) (v4 : Int32) (s : Mm) (h : k_R_bestStart_36 v1 v2 v3 v4 s = some (r', s')) : G l z b_R_bestStart 9 36 [(0, .ref 176), (1, .int v1), (2, .int v2), (3, .int v3), (4, .int v4)] [] s := by
  unfold k_R_bestStart_36 at h
  refine g_iload hz 4 d_R_bestStart_36 rfl ?_
  refine g_if_eq hz (tgt := 48) d_R_bestStart_38 (by decide) (fun c9 => ?_) (fun c9 => ?_)
  · replace h := (if_pos c9).symm.trans h
    refine g_bipush hz (v := (-9)) d_R_bestStart_48 (by decide) ?_
    refine g_istore hz (L' := [(5, .int (-9)), (0, .ref 176), (1, .int v1), (2, .int v2), (3, .int v3), (4, .int v4)]) d_R_bestStart_50 (by decide) rfl ?_
    refine g_bipush hz (v := (-9)) d_R_bestStart_52 (by decide) ?_
    refine g_istore hz (L' := [(6, .int (-9)), (5, .int (-9)), (0, .ref 176), (1, .int v1), (2, .int v2), (3, .int v3), (4, .int v4)]) d_R_bestStart_54 (by decide) rfl ?_
    refine g_iconst hz d_R_bestStart_56 ki_0 ?_
    refine g_istore hz (L' := [(7, .int 0), (6, .int (-9)), (5, .int (-9)), (0, .ref 176), (1, .int v1), (2, .int v2), (3, .int v3), (4, .int v4)]) d_R_bestStart_57 (by decide) rfl ?_
    refine g_sub [3, 4, 5, 6, 2, 1, 0] rfl ?_
    exact w_R_bestStart_59 hz hq KF v1 v2 v3 (-9) (-9) 0 _ h
  · replace h := (if_neg c9).symm.trans h
    refine g_aload_n hz 0 d_R_bestStart_41 rfl rfl ?_
    refine g_iload hz 4 d_R_bestStart_42 rfl ?_
    refine bn_use h (fun x18 s17 e16 h => ?_)
    refine g_callVi hz (c_R_no l e16) (by decide) rc_R rfl rfl m_R_no mi_R_no ms_R_no q_1107 ⟨Nat.le_of_ble_eq_true rfl, Nat.le_of_ble_eq_true rfl⟩ rfl (st := []) rfl (Nat.le_of_ble_eq_true rfl) d_R_bestStart_44 ?_
    exact g_iret hz (rti h hq) d_R_bestStart_47
def k_R_bestStart_16 (v1 : Int32) (v2 : Int32) (v3 : Int32) (vt0 : Int32) (s : Mm) : Option (Int32 × Mm) :=
  if vt0 = 0 then
    bn (f_R_isIn s v3 0 1) fun x21 s20 =>
    if x21 = 0 then
      k_R_bestStart_36 v1 v2 v3 (-2) s20
    else
      k_R_bestStart_36 v1 v2 v3 vt0 s20
  else
    k_R_bestStart_36 v1 v2 v3 vt0 s
set_option maxRecDepth 20000 in
theorem w_R_bestStart_16 {l : Launch} {z : Zt} (hz : ZOk z b_R_bestStart 9 "PassedOnAndBetterModel" 8 180) {r' : Int32} {s' : Mm} (hq : ZR z (some .int) s' (some (.int r'))) (v1 : Int32) (v2 : Int32) (v3 : Int32) (vt0 : Int32) (s : Mm) (h : k_R_bestStart_16 v1 v2 v3 vt0 s = some (r', s')) : G l z b_R_bestStart 9 16 [(0, .ref 176), (1, .int v1), (2, .int v2), (3, .int v3)] [.int vt0] s := by
  unfold k_R_bestStart_16 at h
  refine g_istore hz (L' := [(4, .int vt0), (0, .ref 176), (1, .int v1), (2, .int v2), (3, .int v3)]) d_R_bestStart_16 (by decide) rfl ?_
  refine g_iload hz 0 d_R_bestStart_18 rfl ?_
  refine g_if_ne hz (tgt := 36) d_R_bestStart_20 (by decide) (fun c8 => ?_) (fun c8 => ?_)
  · replace h := (if_neg c8).symm.trans h
    refine g_sub [1, 2, 3, 4, 0] rfl ?_
    exact w_R_bestStart_36 hz hq v1 v2 v3 vt0 _ h
  · replace h := (if_pos c8).symm.trans h
    refine g_iload_n hz 4 d_R_bestStart_23 rfl rfl ?_
    refine g_iconst hz d_R_bestStart_24 ki_0 ?_
    refine g_iconst hz d_R_bestStart_25 ki_1 ?_
    refine bn_use h (fun x21 s20 e19 h => ?_)
    refine g_callSi hz (c_R_isIn l e19) m_R_isIn mi_R_isIn q_1131 ⟨Nat.le_of_ble_eq_true rfl, Nat.le_of_ble_eq_true rfl⟩ rfl (st := []) rfl (Nat.le_of_ble_eq_true rfl) d_R_bestStart_26 ?_
    refine g_if_ne hz (tgt := 36) d_R_bestStart_29 (by decide) (fun c22 => ?_) (fun c22 => ?_)
    · replace h := (if_neg c22).symm.trans h
      refine g_sub [1, 2, 3, 4, 0] rfl ?_
      exact w_R_bestStart_36 hz hq v1 v2 v3 vt0 _ h
    · replace h := (if_pos c22).symm.trans h
      refine g_bipush hz (v := (-2)) d_R_bestStart_32 (by decide) ?_
      refine g_istore hz (L' := [(4, .int (-2)), (0, .ref 176), (1, .int v1), (2, .int v2), (3, .int v3)]) d_R_bestStart_34 (by decide) rfl ?_
      refine g_sub [1, 2, 3, 4, 0] rfl ?_
      exact w_R_bestStart_36 hz hq v1 v2 v3 (-2) _ h
def f_R_bestStart (s : Mm) (a1 : Int32) (a2 : Int32) (a3 : Int32) : Option (Int32 × Mm) :=
  bn (f_R_isGift s a1) fun x3 s2 =>
  if x3 = 0 then
    k_R_bestStart_16 a1 a2 a3 (-1) s2
  else
    bn (f_R_notMonths s2 a2) fun x7 s6 =>
    k_R_bestStart_16 a1 a2 a3 x7 s6
set_option maxRecDepth 20000 in
theorem c_R_bestStart (l : Launch) {s : Mm} {a1 : Int32} {a2 : Int32} {a3 : Int32} {r' : Int32} {s' : Mm}  (h : f_R_bestStart s a1 a2 a3 = some (r', s')) : Cm l y_R_bestStart b_R_bestStart 9 (some .int) 8 180 [.ref 176, .int a1, .int a2, .int a3] s s' (some (.int r')) := by
  refine Cm.of (own := "PassedOnAndBetterModel") (by decide) rfl (fun ad => Nat.le_of_ble_eq_true rfl) ?_
  intro z hz hq
  show G l z b_R_bestStart 9 0 [(0, .ref 176), (1, .int a1), (2, .int a2), (3, .int a3)] [] s
  unfold f_R_bestStart at h
  refine g_aload_n hz 0 d_R_bestStart_0 rfl rfl ?_
  refine g_iload_n hz 1 d_R_bestStart_1 rfl rfl ?_
  refine bn_use h (fun x3 s2 e1 h => ?_)
  refine g_callVi hz (c_R_isGift l e1) (by decide) rc_R rfl rfl m_R_isGift mi_R_isGift ms_R_isGift q_1186 ⟨Nat.le_of_ble_eq_true rfl, Nat.le_of_ble_eq_true rfl⟩ rfl (st := []) rfl (Nat.le_of_ble_eq_true rfl) d_R_bestStart_2 ?_
  refine g_if_ne hz (tgt := 12) d_R_bestStart_5 (by decide) (fun c4 => ?_) (fun c4 => ?_)
  · replace h := (if_neg c4).symm.trans h
    refine g_iload_n hz 2 d_R_bestStart_12 rfl rfl ?_
    refine bn_use h (fun x7 s6 e5 h => ?_)
    refine g_callSi hz (c_R_notMonths l e5) m_R_notMonths mi_R_notMonths q_1291 ⟨Nat.le_of_ble_eq_true rfl, Nat.le_of_ble_eq_true rfl⟩ rfl (st := []) rfl (Nat.le_of_ble_eq_true rfl) d_R_bestStart_13 ?_
    exact w_R_bestStart_16 hz hq a1 a2 a3 x7 _ h
  · replace h := (if_pos c4).symm.trans h
    refine g_iconst hz d_R_bestStart_8 ki_m1 ?_
    refine g_goto hz (tgt := 16) d_R_bestStart_9 (by decide) ?_
    exact w_R_bestStart_16 hz hq a1 a2 a3 (-1) _ h
def f_R_worthNext (s : Mm) (a1 : Int32) (a2 : Int32) (a3 : Int32) : Option (Int32 × Mm) :=
  gd a1 6 <|
  nm (s 181 a1.toNatClampNeg) fun x2 =>
  gd a1 6 <|
  nm (mU s 181 a1.toNatClampNeg a2) fun s5 =>
  bn (f_R_worthIn s5 (-9) a3) fun x9 s8 =>
  gd a1 6 <|
  nm (mU s8 181 a1.toNatClampNeg x2) fun s11 =>
  some (x9, s11)
set_option maxRecDepth 20000 in
theorem c_R_worthNext (l : Launch) {s : Mm} {a1 : Int32} {a2 : Int32} {a3 : Int32} {r' : Int32} {s' : Mm}  (h : f_R_worthNext s a1 a2 a3 = some (r', s')) : Cm l y_R_worthNext b_R_worthNext 6 (some .int) 7 156 [.ref 176, .int a1, .int a2, .int a3] s s' (some (.int r')) := by
  refine Cm.of (own := "PassedOnAndBetterModel") (by decide) rfl (fun ad => Nat.le_of_ble_eq_true rfl) ?_
  intro z hz hq
  show G l z b_R_worthNext 6 0 [(0, .ref 176), (1, .int a1), (2, .int a2), (3, .int a3)] [] s
  unfold f_R_worthNext at h
  refine g_aload_n hz 0 d_R_worthNext_0 rfl rfl ?_
  refine gf_R_next hz q_1007 d_R_worthNext_1 ?_
  refine g_iload_n hz 1 d_R_worthNext_4 rfl rfl ?_
  obtain ⟨n1, h⟩ := gd_use h
  refine g_iald hz (by decide) n1 d_R_worthNext_5 ?_
  refine g_nmi (fun x2 e3 => ?_)
  replace h := nm_use h e3
  refine g_istore hz (L' := [(4, .int x2), (0, .ref 176), (1, .int a1), (2, .int a2), (3, .int a3)]) d_R_worthNext_6 (by decide) rfl ?_
  refine g_aload_n hz 1 d_R_worthNext_8 rfl rfl ?_
  refine gf_R_next hz q_1007 d_R_worthNext_9 ?_
  refine g_iload_n hz 2 d_R_worthNext_12 rfl rfl ?_
  refine g_iload_n hz 3 d_R_worthNext_13 rfl rfl ?_
  obtain ⟨n4, h⟩ := gd_use h
  refine g_iast hz (by decide) n4 d_R_worthNext_14 (fun s5 e6 => ?_)
  replace h := nm_use h e6
  refine g_aload_n hz 1 d_R_worthNext_15 rfl rfl ?_
  refine g_bipush hz (v := (-9)) d_R_worthNext_16 (by decide) ?_
  refine g_iload_n hz 4 d_R_worthNext_18 rfl rfl ?_
  refine bn_use h (fun x9 s8 e7 h => ?_)
  refine g_callVi hz (c_R_worthIn l e7) (by decide) rc_R rfl rfl m_R_worthIn mi_R_worthIn ms_R_worthIn q_1342 ⟨Nat.le_of_ble_eq_true rfl, Nat.le_of_ble_eq_true rfl⟩ rfl (st := []) rfl (Nat.le_of_ble_eq_true rfl) d_R_worthNext_19 ?_
  refine g_istore hz (L' := [(5, .int x9), (4, .int x2), (0, .ref 176), (1, .int a1), (2, .int a2), (3, .int a3)]) d_R_worthNext_22 (by decide) rfl ?_
  refine g_aload_n hz 2 d_R_worthNext_24 rfl rfl ?_
  refine gf_R_next hz q_1007 d_R_worthNext_25 ?_
  refine g_iload_n hz 3 d_R_worthNext_28 rfl rfl ?_
  refine g_iload hz 1 d_R_worthNext_29 rfl ?_
  obtain ⟨n10, h⟩ := gd_use h
  refine g_iast hz (by decide) n10 d_R_worthNext_31 (fun s11 e12 => ?_)
  replace h := nm_use h e12
  refine g_iload hz 0 d_R_worthNext_32 rfl ?_
  exact g_iret hz (rti h hq) d_R_worthNext_34
def k_R_bestNext_87 (kc59 : (Int32 → Int32 → Int32 → Int32 → Int32 → Int32 → Mm → Option (Int32 × Mm))) (v1 : Int32) (v2 : Int32) (v3 : Int32) (v5 : Int32) (v6 : Int32) (v7 : Int32) (vt0 : Int32) (s : Mm) : Option (Int32 × Mm) :=
  if v6 < vt0 then
    kc59 v1 v2 v3 v7 vt0 (v7 + 1) s
  else
    kc59 v1 v2 v3 v5 v6 (v7 + 1) s
set_option maxRecDepth 20000 in
theorem w_R_bestNext_87 {l : Launch} {z : Zt} (hz : ZOk z b_R_bestNext 9 "PassedOnAndBetterModel" 8 181) {r' : Int32} {s' : Mm} (hq : ZR z (some .int) s' (some (.int r'))) {kc59 : (Int32 → Int32 → Int32 → Int32 → Int32 → Int32 → Mm → Option (Int32 × Mm))} (hk59 : (∀ (v1 : Int32) (v2 : Int32) (v3 : Int32) (v5 : Int32) (v6 : Int32) (v7 : Int32) (s : Mm), kc59 v1 v2 v3 v5 v6 v7 s = some (r', s') → G l z b_R_bestNext 9 59 [(0, .ref 176), (1, .int v1), (2, .int v2), (3, .int v3), (5, .int v5), (6, .int v6), (7, .int v7)] [] s)) (v1 : Int32) (v2 : Int32) (v3 : Int32) (v5 : Int32) (v6 : Int32) (v7 : Int32) (vt0 : Int32) (s : Mm) (h : k_R_bestNext_87 kc59 v1 v2 v3 v5 v6 v7 vt0 s = some (r', s')) : G l z b_R_bestNext 9 87 [(0, .ref 176), (1, .int v1), (2, .int v2), (3, .int v3), (5, .int v5), (6, .int v6), (7, .int v7)] [.int vt0] s := by
  unfold k_R_bestNext_87 at h
  refine g_istore hz (L' := [(8, .int vt0), (0, .ref 176), (1, .int v1), (2, .int v2), (3, .int v3), (5, .int v5), (6, .int v6), (7, .int v7)]) d_R_bestNext_87 (by decide) rfl ?_
  refine g_iload hz 0 d_R_bestNext_89 rfl ?_
  refine g_iload hz 6 d_R_bestNext_91 rfl ?_
  refine g_icmp_gt hz (tgt := 99) d_R_bestNext_93 (by decide) (fun c21 => ?_) (fun c21 => ?_)
  · replace h := (if_pos c21).symm.trans h
    refine g_iload hz 7 d_R_bestNext_99 rfl ?_
    refine g_istore hz (L' := [(5, .int v7), (8, .int vt0), (0, .ref 176), (1, .int v1), (2, .int v2), (3, .int v3), (6, .int v6), (7, .int v7)]) d_R_bestNext_101 (by decide) rfl ?_
    refine g_iload hz 1 d_R_bestNext_103 rfl ?_
    refine g_istore hz (L' := [(6, .int vt0), (5, .int v7), (8, .int vt0), (0, .ref 176), (1, .int v1), (2, .int v2), (3, .int v3), (7, .int v7)]) d_R_bestNext_105 (by decide) rfl ?_
    refine g_iinc hz (v := v7 + 1) (L' := [(7, .int (v7 + 1)), (6, .int vt0), (5, .int v7), (8, .int vt0), (0, .ref 176), (1, .int v1), (2, .int v2), (3, .int v3)]) 7 d_R_bestNext_107 rfl (congrArg (fun q => v7 + q) ki_1) (by decide) rfl ?_
    refine g_goto hz (tgt := 59) d_R_bestNext_110 (by decide) ?_
    refine g_sub [4, 5, 6, 7, 2, 1, 0] rfl ?_
    exact hk59 v1 v2 v3 v7 vt0 (v7 + 1) _ h
  · replace h := (if_neg c21).symm.trans h
    refine g_goto hz (tgt := 107) d_R_bestNext_96 (by decide) ?_
    refine g_iinc hz (v := v7 + 1) (L' := [(7, .int (v7 + 1)), (8, .int vt0), (0, .ref 176), (1, .int v1), (2, .int v2), (3, .int v3), (5, .int v5), (6, .int v6)]) 7 d_R_bestNext_107 rfl (congrArg (fun q => v7 + q) ki_1) (by decide) rfl ?_
    refine g_goto hz (tgt := 59) d_R_bestNext_110 (by decide) ?_
    refine g_sub [2, 3, 4, 5, 6, 7, 0] rfl ?_
    exact hk59 v1 v2 v3 v5 v6 (v7 + 1) _ h
def k_R_bestNext_59 : Nat → Int32 → Int32 → Int32 → Int32 → Int32 → Int32 → Mm → Option (Int32 × Mm)
  | 0, _, _, _, _, _, _, _ => none
  | n + 1, v1, v2, v3, v5, v6, v7, s => if (s 176 11) ≤ v7 then
      bn (f_R_worthNext s v1 (-9) v2) fun x13 s12 =>
      if x13 ≤ v6 then
        if v3 = 0 then
          some (v5, s12)
        else
          some (v6, s12)
      else
        if v3 = 0 then
          some (9, s12)
        else
          some (x13, s12)
    else
      if v7 = v1 then
        k_R_bestNext_87 (fun v1 v2 v3 v5 v6 v7 s => k_R_bestNext_59 n v1 v2 v3 v5 v6 v7 s) v1 v2 v3 v5 v6 v7 (-9) s
      else
        bn (f_R_worthNext s v1 v7 v2) fun x20 s19 =>
        k_R_bestNext_87 (fun v1 v2 v3 v5 v6 v7 s => k_R_bestNext_59 n v1 v2 v3 v5 v6 v7 s) v1 v2 v3 v5 v6 v7 x20 s19
set_option maxRecDepth 20000 in
theorem w_R_bestNext_59 {l : Launch} {z : Zt} (hz : ZOk z b_R_bestNext 9 "PassedOnAndBetterModel" 8 181) {r' : Int32} {s' : Mm} (hq : ZR z (some .int) s' (some (.int r'))) : ∀ (n : Nat) (v1 : Int32) (v2 : Int32) (v3 : Int32) (v5 : Int32) (v6 : Int32) (v7 : Int32) (s : Mm), k_R_bestNext_59 n v1 v2 v3 v5 v6 v7 s = some (r', s') → G l z b_R_bestNext 9 59 [(0, .ref 176), (1, .int v1), (2, .int v2), (3, .int v3), (5, .int v5), (6, .int v6), (7, .int v7)] [] s := by
  intro n
  induction n with
  | zero => intro v1 v2 v3 v5 v6 v7 s h; unfold k_R_bestNext_59 at h; cases h
  | succ n ih =>
    intro v1 v2 v3 v5 v6 v7 s h
    unfold k_R_bestNext_59 at h
    refine g_iload hz 6 d_R_bestNext_59 rfl ?_
    refine g_aload_n hz 0 d_R_bestNext_61 rfl rfl ?_
    refine gf_R_friends hz q_1014 d_R_bestNext_62 ?_
    refine g_icmp_ge hz (tgt := 113) d_R_bestNext_65 (by decide) (fun c10 => ?_) (fun c10 => ?_)
    · replace h := (if_pos c10).symm.trans h
      refine g_aload_n hz 0 d_R_bestNext_113 rfl rfl ?_
      refine g_iload_n hz 1 d_R_bestNext_114 rfl rfl ?_
      refine g_bipush hz (v := (-9)) d_R_bestNext_115 (by decide) ?_
      refine g_iload_n hz 2 d_R_bestNext_117 rfl rfl ?_
      refine bn_use h (fun x13 s12 e11 h => ?_)
      refine g_callVi hz (c_R_worthNext l e11) (by decide) rc_R rfl rfl m_R_worthNext mi_R_worthNext ms_R_worthNext q_1354 ⟨Nat.le_of_ble_eq_true rfl, Nat.le_of_ble_eq_true rfl⟩ rfl (st := []) rfl (Nat.le_of_ble_eq_true rfl) d_R_bestNext_118 ?_
      refine g_istore hz (L' := [(7, .int x13), (0, .ref 176), (1, .int v1), (2, .int v2), (3, .int v3), (5, .int v5), (6, .int v6)]) d_R_bestNext_121 (by decide) rfl ?_
      refine g_iload hz 0 d_R_bestNext_123 rfl ?_
      refine g_iload hz 6 d_R_bestNext_125 rfl ?_
      refine g_icmp_le hz (tgt := 138) d_R_bestNext_127 (by decide) (fun c14 => ?_) (fun c14 => ?_)
      · replace h := (if_pos c14).symm.trans h
        refine g_iload_n hz 4 d_R_bestNext_138 rfl rfl ?_
        refine g_if_ne hz (tgt := 147) d_R_bestNext_139 (by decide) (fun c15 => ?_) (fun c15 => ?_)
        · replace h := (if_neg c15).symm.trans h
          refine g_iload hz 6 d_R_bestNext_147 rfl ?_
          exact g_iret hz (rti h hq) d_R_bestNext_149
        · replace h := (if_pos c15).symm.trans h
          refine g_iload hz 5 d_R_bestNext_142 rfl ?_
          refine g_goto hz (tgt := 149) d_R_bestNext_144 (by decide) ?_
          exact g_iret hz (rti h hq) d_R_bestNext_149
      · replace h := (if_neg c14).symm.trans h
        refine g_bipush hz (v := 9) d_R_bestNext_130 (by decide) ?_
        refine g_istore hz (L' := [(5, .int 9), (7, .int x13), (0, .ref 176), (1, .int v1), (2, .int v2), (3, .int v3), (6, .int v6)]) d_R_bestNext_132 (by decide) rfl ?_
        refine g_iload hz 1 d_R_bestNext_134 rfl ?_
        refine g_istore hz (L' := [(6, .int x13), (5, .int 9), (7, .int x13), (0, .ref 176), (1, .int v1), (2, .int v2), (3, .int v3)]) d_R_bestNext_136 (by decide) rfl ?_
        refine g_iload_n hz 6 d_R_bestNext_138 rfl rfl ?_
        refine g_if_ne hz (tgt := 147) d_R_bestNext_139 (by decide) (fun c16 => ?_) (fun c16 => ?_)
        · replace h := (if_neg c16).symm.trans h
          refine g_iload hz 0 d_R_bestNext_147 rfl ?_
          exact g_iret hz (rti h hq) d_R_bestNext_149
        · replace h := (if_pos c16).symm.trans h
          refine g_iload hz 1 d_R_bestNext_142 rfl ?_
          refine g_goto hz (tgt := 149) d_R_bestNext_144 (by decide) ?_
          exact g_iret hz (rti h hq) d_R_bestNext_149
    · replace h := (if_neg c10).symm.trans h
      refine g_iload hz 6 d_R_bestNext_68 rfl ?_
      refine g_iload_n hz 1 d_R_bestNext_70 rfl rfl ?_
      refine g_icmp_ne hz (tgt := 79) d_R_bestNext_71 (by decide) (fun c17 => ?_) (fun c17 => ?_)
      · replace h := (if_neg c17).symm.trans h
        refine g_aload_n hz 0 d_R_bestNext_79 rfl rfl ?_
        refine g_iload_n hz 1 d_R_bestNext_80 rfl rfl ?_
        refine g_iload hz 6 d_R_bestNext_81 rfl ?_
        refine g_iload_n hz 2 d_R_bestNext_83 rfl rfl ?_
        refine bn_use h (fun x20 s19 e18 h => ?_)
        refine g_callVi hz (c_R_worthNext l e18) (by decide) rc_R rfl rfl m_R_worthNext mi_R_worthNext ms_R_worthNext q_1354 ⟨Nat.le_of_ble_eq_true rfl, Nat.le_of_ble_eq_true rfl⟩ rfl (st := []) rfl (Nat.le_of_ble_eq_true rfl) d_R_bestNext_84 ?_
        exact w_R_bestNext_87 hz hq ih v1 v2 v3 v5 v6 v7 x20 _ h
      · replace h := (if_pos c17).symm.trans h
        refine g_bipush hz (v := (-9)) d_R_bestNext_74 (by decide) ?_
        refine g_goto hz (tgt := 87) d_R_bestNext_76 (by decide) ?_
        exact w_R_bestNext_87 hz hq ih v1 v2 v3 v5 v6 v7 (-9) _ h
def k_R_bestNext_36 (v1 : Int32) (v2 : Int32) (v3 : Int32) (v4 : Int32) (s : Mm) : Option (Int32 × Mm) :=
  if v4 = 0 then
    k_R_bestNext_59 KF v1 v2 v3 (-9) (-9) 0 s
  else
    bn (f_R_no s v4) fun x24 s23 =>
    some (x24, s23)
set_option maxRecDepth 20000 in
theorem w_R_bestNext_36 {l : Launch} {z : Zt} (hz : ZOk z b_R_bestNext 9 "PassedOnAndBetterModel" 8 181) {r' : Int32} {s' : Mm} (hq : ZR z (some .int) s' (some (.int r'))) (v1 : Int32) (v2 : Int32) (v3 : Int32) (v4 : Int32) (s : Mm) (h : k_R_bestNext_36 v1 v2 v3 v4 s = some (r', s')) : G l z b_R_bestNext 9 36 [(0, .ref 176), (1, .int v1), (2, .int v2), (3, .int v3), (4, .int v4)] [] s := by
  unfold k_R_bestNext_36 at h
  refine g_iload hz 4 d_R_bestNext_36 rfl ?_
  refine g_if_eq hz (tgt := 48) d_R_bestNext_38 (by decide) (fun c9 => ?_) (fun c9 => ?_)
  · replace h := (if_pos c9).symm.trans h
    refine g_bipush hz (v := (-9)) d_R_bestNext_48 (by decide) ?_
    refine g_istore hz (L' := [(5, .int (-9)), (0, .ref 176), (1, .int v1), (2, .int v2), (3, .int v3), (4, .int v4)]) d_R_bestNext_50 (by decide) rfl ?_
    refine g_bipush hz (v := (-9)) d_R_bestNext_52 (by decide) ?_
    refine g_istore hz (L' := [(6, .int (-9)), (5, .int (-9)), (0, .ref 176), (1, .int v1), (2, .int v2), (3, .int v3), (4, .int v4)]) d_R_bestNext_54 (by decide) rfl ?_
    refine g_iconst hz d_R_bestNext_56 ki_0 ?_
    refine g_istore hz (L' := [(7, .int 0), (6, .int (-9)), (5, .int (-9)), (0, .ref 176), (1, .int v1), (2, .int v2), (3, .int v3), (4, .int v4)]) d_R_bestNext_57 (by decide) rfl ?_
    refine g_sub [3, 4, 5, 6, 2, 1, 0] rfl ?_
    exact w_R_bestNext_59 hz hq KF v1 v2 v3 (-9) (-9) 0 _ h
  · replace h := (if_neg c9).symm.trans h
    refine g_aload_n hz 0 d_R_bestNext_41 rfl rfl ?_
    refine g_iload hz 4 d_R_bestNext_42 rfl ?_
    refine bn_use h (fun x24 s23 e22 h => ?_)
    refine g_callVi hz (c_R_no l e22) (by decide) rc_R rfl rfl m_R_no mi_R_no ms_R_no q_1107 ⟨Nat.le_of_ble_eq_true rfl, Nat.le_of_ble_eq_true rfl⟩ rfl (st := []) rfl (Nat.le_of_ble_eq_true rfl) d_R_bestNext_44 ?_
    exact g_iret hz (rti h hq) d_R_bestNext_47
def k_R_bestNext_16 (v1 : Int32) (v2 : Int32) (v3 : Int32) (vt0 : Int32) (s : Mm) : Option (Int32 × Mm) :=
  if vt0 = 0 then
    bn (f_R_isIn s v3 0 1) fun x27 s26 =>
    if x27 = 0 then
      k_R_bestNext_36 v1 v2 v3 (-2) s26
    else
      k_R_bestNext_36 v1 v2 v3 vt0 s26
  else
    k_R_bestNext_36 v1 v2 v3 vt0 s
set_option maxRecDepth 20000 in
theorem w_R_bestNext_16 {l : Launch} {z : Zt} (hz : ZOk z b_R_bestNext 9 "PassedOnAndBetterModel" 8 181) {r' : Int32} {s' : Mm} (hq : ZR z (some .int) s' (some (.int r'))) (v1 : Int32) (v2 : Int32) (v3 : Int32) (vt0 : Int32) (s : Mm) (h : k_R_bestNext_16 v1 v2 v3 vt0 s = some (r', s')) : G l z b_R_bestNext 9 16 [(0, .ref 176), (1, .int v1), (2, .int v2), (3, .int v3)] [.int vt0] s := by
  unfold k_R_bestNext_16 at h
  refine g_istore hz (L' := [(4, .int vt0), (0, .ref 176), (1, .int v1), (2, .int v2), (3, .int v3)]) d_R_bestNext_16 (by decide) rfl ?_
  refine g_iload hz 0 d_R_bestNext_18 rfl ?_
  refine g_if_ne hz (tgt := 36) d_R_bestNext_20 (by decide) (fun c8 => ?_) (fun c8 => ?_)
  · replace h := (if_neg c8).symm.trans h
    refine g_sub [1, 2, 3, 4, 0] rfl ?_
    exact w_R_bestNext_36 hz hq v1 v2 v3 vt0 _ h
  · replace h := (if_pos c8).symm.trans h
    refine g_iload_n hz 4 d_R_bestNext_23 rfl rfl ?_
    refine g_iconst hz d_R_bestNext_24 ki_0 ?_
    refine g_iconst hz d_R_bestNext_25 ki_1 ?_
    refine bn_use h (fun x27 s26 e25 h => ?_)
    refine g_callSi hz (c_R_isIn l e25) m_R_isIn mi_R_isIn q_1131 ⟨Nat.le_of_ble_eq_true rfl, Nat.le_of_ble_eq_true rfl⟩ rfl (st := []) rfl (Nat.le_of_ble_eq_true rfl) d_R_bestNext_26 ?_
    refine g_if_ne hz (tgt := 36) d_R_bestNext_29 (by decide) (fun c28 => ?_) (fun c28 => ?_)
    · replace h := (if_neg c28).symm.trans h
      refine g_sub [1, 2, 3, 4, 0] rfl ?_
      exact w_R_bestNext_36 hz hq v1 v2 v3 vt0 _ h
    · replace h := (if_pos c28).symm.trans h
      refine g_bipush hz (v := (-2)) d_R_bestNext_32 (by decide) ?_
      refine g_istore hz (L' := [(4, .int (-2)), (0, .ref 176), (1, .int v1), (2, .int v2), (3, .int v3)]) d_R_bestNext_34 (by decide) rfl ?_
      refine g_sub [1, 2, 3, 4, 0] rfl ?_
      exact w_R_bestNext_36 hz hq v1 v2 v3 (-2) _ h
def f_R_bestNext (s : Mm) (a1 : Int32) (a2 : Int32) (a3 : Int32) : Option (Int32 × Mm) :=
  bn (f_R_isFriend s a1) fun x3 s2 =>
  if x3 = 0 then
    k_R_bestNext_16 a1 a2 a3 (-1) s2
  else
    bn (f_R_notMonths s2 a2) fun x7 s6 =>
    k_R_bestNext_16 a1 a2 a3 x7 s6
set_option maxRecDepth 20000 in
theorem c_R_bestNext (l : Launch) {s : Mm} {a1 : Int32} {a2 : Int32} {a3 : Int32} {r' : Int32} {s' : Mm}  (h : f_R_bestNext s a1 a2 a3 = some (r', s')) : Cm l y_R_bestNext b_R_bestNext 9 (some .int) 8 181 [.ref 176, .int a1, .int a2, .int a3] s s' (some (.int r')) := by
  refine Cm.of (own := "PassedOnAndBetterModel") (by decide) rfl (fun ad => Nat.le_of_ble_eq_true rfl) ?_
  intro z hz hq
  show G l z b_R_bestNext 9 0 [(0, .ref 176), (1, .int a1), (2, .int a2), (3, .int a3)] [] s
  unfold f_R_bestNext at h
  refine g_aload_n hz 0 d_R_bestNext_0 rfl rfl ?_
  refine g_iload_n hz 1 d_R_bestNext_1 rfl rfl ?_
  refine bn_use h (fun x3 s2 e1 h => ?_)
  refine g_callVi hz (c_R_isFriend l e1) (by decide) rc_R rfl rfl m_R_isFriend mi_R_isFriend ms_R_isFriend q_1162 ⟨Nat.le_of_ble_eq_true rfl, Nat.le_of_ble_eq_true rfl⟩ rfl (st := []) rfl (Nat.le_of_ble_eq_true rfl) d_R_bestNext_2 ?_
  refine g_if_ne hz (tgt := 12) d_R_bestNext_5 (by decide) (fun c4 => ?_) (fun c4 => ?_)
  · replace h := (if_neg c4).symm.trans h
    refine g_iload_n hz 2 d_R_bestNext_12 rfl rfl ?_
    refine bn_use h (fun x7 s6 e5 h => ?_)
    refine g_callSi hz (c_R_notMonths l e5) m_R_notMonths mi_R_notMonths q_1291 ⟨Nat.le_of_ble_eq_true rfl, Nat.le_of_ble_eq_true rfl⟩ rfl (st := []) rfl (Nat.le_of_ble_eq_true rfl) d_R_bestNext_13 ?_
    exact w_R_bestNext_16 hz hq a1 a2 a3 x7 _ h
  · replace h := (if_pos c4).symm.trans h
    refine g_iconst hz d_R_bestNext_8 ki_m1 ?_
    refine g_goto hz (tgt := 16) d_R_bestNext_9 (by decide) ?_
    exact w_R_bestNext_16 hz hq a1 a2 a3 (-1) _ h
