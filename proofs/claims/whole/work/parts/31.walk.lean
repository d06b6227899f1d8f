def k_R_bare_33 (kc24 : (Int32 → Int32 → Int32 → Mm → Option (Int32 × Mm))) : Nat → Int32 → Int32 → Int32 → Int32 → Mm → Option (Int32 × Mm)
  | 0, _, _, _, _, _ => none
  | n + 1, v1, v3, v4, v5, s => if (s 176 12) ≤ v5 then
      bv (f_R_goesMonth s 0) fun s12 =>
      kc24 v1 v3 (v4 + 1) s12
    else
      gd v5 4 <|
      nm (v3 ||| (1 <<< ((s 184 v5.toNatClampNeg) &&& 31))) fun x14 =>
      k_R_bare_33 kc24 n v1 x14 v4 (v5 + 1) s
set_option maxRecDepth 20000 in
theorem w_R_bare_33 {l : Launch} {z : Zt} (hz : ZOk z b_R_bare 6 "PassedOnAndBetterModel" 5 111) {r' : Int32} {s' : Mm} (hq : ZR z (some .int) s' (some (.int r'))) {kc24 : (Int32 → Int32 → Int32 → Mm → Option (Int32 × Mm))} (hk24 : (∀ (v1 : Int32) (v3 : Int32) (v4 : Int32) (s : Mm), kc24 v1 v3 v4 s = some (r', s') → G l z b_R_bare 6 24 [(0, .ref 176), (1, .int v1), (3, .int v3), (4, .int v4)] [] s)) : ∀ (n : Nat) (v1 : Int32) (v3 : Int32) (v4 : Int32) (v5 : Int32) (s : Mm), k_R_bare_33 kc24 n v1 v3 v4 v5 s = some (r', s') → G l z b_R_bare 6 33 [(0, .ref 176), (1, .int v1), (3, .int v3), (4, .int v4), (5, .int v5)] [] s := by
  intro n
  induction n with
  | zero => intro v1 v3 v4 v5 s h; unfold k_R_bare_33 at h; cases h
  | succ n ih =>
    intro v1 v3 v4 v5 s h
    unfold k_R_bare_33 at h
    refine g_iload hz 4 d_R_bare_33 rfl ?_
    refine g_aload_n hz 0 d_R_bare_35 rfl rfl ?_
    refine gf_R_gifts hz q_1015 d_R_bare_36 ?_
    refine g_icmp_ge hz (tgt := 60) d_R_bare_39 (by decide) (fun c10 => ?_) (fun c10 => ?_)
    · replace h := (if_pos c10).symm.trans h
      refine g_aload_n hz 0 d_R_bare_60 rfl rfl ?_
      refine g_iconst hz d_R_bare_61 ki_0 ?_
      refine bv_use h (fun s12 e11 h => ?_)
      refine g_callVv hz (c_R_goesMonth l e11) (by decide) rc_R rfl rfl m_R_goesMonth mi_R_goesMonth ms_R_goesMonth q_1198 ⟨Nat.le_of_ble_eq_true rfl, Nat.le_of_ble_eq_true rfl⟩ rfl (st := []) rfl (Nat.le_of_ble_eq_true rfl) d_R_bare_62 ?_
      refine g_iinc hz (v := v4 + 1) (L' := [(4, .int (v4 + 1)), (0, .ref 176), (1, .int v1), (3, .int v3), (5, .int v5)]) 3 d_R_bare_65 rfl (congrArg (fun q => v4 + q) ki_1) (by decide) rfl ?_
      refine g_goto hz (tgt := 24) d_R_bare_68 (by decide) ?_
      refine g_sub [1, 2, 3, 0] rfl ?_
      exact hk24 v1 v3 (v4 + 1) _ h
    · replace h := (if_neg c10).symm.trans h
      refine g_iload_n hz 2 d_R_bare_42 rfl rfl ?_
      refine g_iconst hz d_R_bare_43 ki_1 ?_
      refine g_aload_n hz 0 d_R_bare_44 rfl rfl ?_
      refine gf_R_holder hz q_1010 d_R_bare_45 ?_
      refine g_iload hz 4 d_R_bare_48 rfl ?_
      obtain ⟨n13, h⟩ := gd_use h
      refine g_iald hz (by decide) n13 d_R_bare_50 ?_
      refine g_ishl hz d_R_bare_51 ?_
      refine g_ior hz d_R_bare_52 ?_
      refine g_nmi (fun x14 e15 => ?_)
      replace h := nm_use h e15
      refine g_istore_n hz (L' := [(3, .int x14), (0, .ref 176), (1, .int v1), (4, .int v4), (5, .int v5)]) d_R_bare_53 rfl (by decide) rfl ?_
      refine g_iinc hz (v := v5 + 1) (L' := [(5, .int (v5 + 1)), (3, .int x14), (0, .ref 176), (1, .int v1), (4, .int v4)]) 4 d_R_bare_54 rfl (congrArg (fun q => v5 + q) ki_1) (by decide) rfl ?_
      refine g_goto hz (tgt := 33) d_R_bare_57 (by decide) ?_
      refine g_sub [2, 3, 1, 4, 0] rfl ?_
      exact ih v1 x14 v4 (v5 + 1) _ h
def k_R_bare_24 : Nat → Int32 → Int32 → Int32 → Mm → Option (Int32 × Mm)
  | 0, _, _, _, _ => none
  | n + 1, v1, v3, v4, s => if v1 < v4 then
      bv (f_R_forgets s) fun s9 =>
      some (((1 <<< ((s9 176 11) &&& 31)) - 1) &&& (v3 ^^^ (-1)), s9)
    else
      k_R_bare_33 (fun v1 v3 v4 s => k_R_bare_24 n v1 v3 v4 s) KF v1 v3 v4 0 s
set_option maxRecDepth 20000 in
theorem w_R_bare_24 {l : Launch} {z : Zt} (hz : ZOk z b_R_bare 6 "PassedOnAndBetterModel" 5 111) {r' : Int32} {s' : Mm} (hq : ZR z (some .int) s' (some (.int r'))) : ∀ (n : Nat) (v1 : Int32) (v3 : Int32) (v4 : Int32) (s : Mm), k_R_bare_24 n v1 v3 v4 s = some (r', s') → G l z b_R_bare 6 24 [(0, .ref 176), (1, .int v1), (3, .int v3), (4, .int v4)] [] s := by
  intro n
  induction n with
  | zero => intro v1 v3 v4 s h; unfold k_R_bare_24 at h; cases h
  | succ n ih =>
    intro v1 v3 v4 s h
    unfold k_R_bare_24 at h
    refine g_iload hz 3 d_R_bare_24 rfl ?_
    refine g_iload_n hz 1 d_R_bare_26 rfl rfl ?_
    refine g_icmp_gt hz (tgt := 71) d_R_bare_27 (by decide) (fun c7 => ?_) (fun c7 => ?_)
    · replace h := (if_pos c7).symm.trans h
      refine g_aload_n hz 0 d_R_bare_71 rfl rfl ?_
      refine bv_use h (fun s9 e8 h => ?_)
      refine g_callVv hz (c_R_forgets l e8) (by decide) rc_R rfl rfl m_R_forgets mi_R_forgets ms_R_forgets q_1298 ⟨Nat.le_of_ble_eq_true rfl, Nat.le_of_ble_eq_true rfl⟩ rfl (st := []) rfl (Nat.le_of_ble_eq_true rfl) d_R_bare_72 ?_
      refine g_iconst hz d_R_bare_75 ki_1 ?_
      refine g_aload_n hz 0 d_R_bare_76 rfl rfl ?_
      refine gf_R_friends hz q_1014 d_R_bare_77 ?_
      refine g_ishl hz d_R_bare_80 ?_
      refine g_iconst hz d_R_bare_81 ki_1 ?_
      refine g_isub hz d_R_bare_82 ?_
      refine g_iload_n hz 2 d_R_bare_83 rfl rfl ?_
      refine g_iconst hz d_R_bare_84 ki_m1 ?_
      refine g_ixor hz d_R_bare_85 ?_
      refine g_iand hz d_R_bare_86 ?_
      exact g_iret hz (rti h hq) d_R_bare_87
    · replace h := (if_neg c7).symm.trans h
      refine g_iconst hz d_R_bare_30 ki_0 ?_
      refine g_istore hz (L' := [(5, .int 0), (0, .ref 176), (1, .int v1), (3, .int v3), (4, .int v4)]) d_R_bare_31 (by decide) rfl ?_
      refine g_sub [1, 2, 3, 4, 0] rfl ?_
      exact w_R_bare_33 hz hq ih KF v1 v3 v4 0 _ h
def f_R_bare (s : Mm) (a1 : Int32) : Option (Int32 × Mm) :=
  bn (f_R_notMonths s a1) fun x3 s2 =>
  if x3 = 0 then
    bv (f_R_thinks s2) fun s6 =>
    k_R_bare_24 KF a1 0 0 s6
  else
    bn (f_R_no s2 x3) fun x18 s17 =>
    some (x18, s17)
set_option maxRecDepth 20000 in
theorem c_R_bare (l : Launch) {s : Mm} {a1 : Int32} {r' : Int32} {s' : Mm}  (h : f_R_bare s a1 = some (r', s')) : Cm l y_R_bare b_R_bare 6 (some .int) 5 111 [.ref 176, .int a1] s s' (some (.int r')) := by
  refine Cm.of (own := "PassedOnAndBetterModel") (by decide) rfl (fun ad => Nat.le_of_ble_eq_true rfl) ?_
  intro z hz hq
  show G l z b_R_bare 6 0 [(0, .ref 176), (1, .int a1)] [] s
  unfold f_R_bare at h
  refine g_iload_n hz 1 d_R_bare_0 rfl rfl ?_
  refine bn_use h (fun x3 s2 e1 h => ?_)
  refine g_callSi hz (c_R_notMonths l e1) m_R_notMonths mi_R_notMonths q_1291 ⟨Nat.le_of_ble_eq_true rfl, Nat.le_of_ble_eq_true rfl⟩ rfl (st := []) rfl (Nat.le_of_ble_eq_true rfl) d_R_bare_1 ?_
  refine g_istore_n hz (L' := [(2, .int x3), (0, .ref 176), (1, .int a1)]) d_R_bare_4 rfl (by decide) rfl ?_
  refine g_iload_n hz 0 d_R_bare_5 rfl rfl ?_
  refine g_if_eq hz (tgt := 15) d_R_bare_6 (by decide) (fun c4 => ?_) (fun c4 => ?_)
  · replace h := (if_pos c4).symm.trans h
    refine g_iconst hz d_R_bare_15 ki_0 ?_
    refine g_istore_n hz (L' := [(3, .int 0), (2, .int x3), (0, .ref 176), (1, .int a1)]) d_R_bare_16 rfl (by decide) rfl ?_
    refine g_aload_n hz 2 d_R_bare_17 rfl rfl ?_
    refine bv_use h (fun s6 e5 h => ?_)
    refine g_callVv hz (c_R_thinks l e5) (by decide) rc_R rfl rfl m_R_thinks mi_R_thinks ms_R_thinks q_1294 ⟨Nat.le_of_ble_eq_true rfl, Nat.le_of_ble_eq_true rfl⟩ rfl (st := []) rfl (Nat.le_of_ble_eq_true rfl) d_R_bare_18 ?_
    refine g_iconst hz d_R_bare_21 ki_0 ?_
    refine g_istore hz (L' := [(4, .int 0), (3, .int 0), (2, .int x3), (0, .ref 176), (1, .int a1)]) d_R_bare_22 (by decide) rfl ?_
    refine g_sub [3, 4, 1, 0] rfl ?_
    exact w_R_bare_24 hz hq KF a1 0 0 _ h
  · replace h := (if_neg c4).symm.trans h
    refine g_aload_n hz 1 d_R_bare_9 rfl rfl ?_
    refine g_iload_n hz 0 d_R_bare_10 rfl rfl ?_
    refine bn_use h (fun x18 s17 e16 h => ?_)
    refine g_callVi hz (c_R_no l e16) (by decide) rc_R rfl rfl m_R_no mi_R_no ms_R_no q_1107 ⟨Nat.le_of_ble_eq_true rfl, Nat.le_of_ble_eq_true rfl⟩ rfl (st := []) rfl (Nat.le_of_ble_eq_true rfl) d_R_bare_11 ?_
    exact g_iret hz (rti h hq) d_R_bare_14
def f_R_year (s : Mm) : Option (Int32 × Mm) :=
  bn (f_R_worthIn s (-9) 12) fun x3 s2 =>
  bn (f_R_sum s2 182 (s2 176 12)) fun x6 s5 =>
  some (x3 - x6, s5)
set_option maxRecDepth 20000 in
theorem c_R_year (l : Launch) {s : Mm}  {r' : Int32} {s' : Mm}  (h : f_R_year s = some (r', s')) : Cm l y_R_year b_R_year 1 (some .int) 7 156 [.ref 176] s s' (some (.int r')) := by
  refine Cm.of (own := "PassedOnAndBetterModel") (by decide) rfl (fun ad => Nat.le_of_ble_eq_true rfl) ?_
  intro z hz hq
  show G l z b_R_year 1 0 [(0, .ref 176)] [] s
  unfold f_R_year at h
  refine g_aload_n hz 0 d_R_year_0 rfl rfl ?_
  refine g_bipush hz (v := (-9)) d_R_year_1 (by decide) ?_
  refine g_bipush hz (v := 12) d_R_year_3 (by decide) ?_
  refine bn_use h (fun x3 s2 e1 h => ?_)
  refine g_callVi hz (c_R_worthIn l e1) (by decide) rc_R rfl rfl m_R_worthIn mi_R_worthIn ms_R_worthIn q_1342 ⟨Nat.le_of_ble_eq_true rfl, Nat.le_of_ble_eq_true rfl⟩ rfl (st := []) rfl (Nat.le_of_ble_eq_true rfl) d_R_year_5 ?_
  refine g_aload_n hz 0 d_R_year_8 rfl rfl ?_
  refine gf_R_worth hz q_1008 d_R_year_9 ?_
  refine g_aload_n hz 0 d_R_year_12 rfl rfl ?_
  refine gf_R_gifts hz q_1015 d_R_year_13 ?_
  refine bn_use h (fun x6 s5 e4 h => ?_)
  refine g_callSi hz (c_R_sum l (by decide) e4) m_R_sum mi_R_sum q_1284 ⟨Nat.le_of_ble_eq_true rfl, Nat.le_of_ble_eq_true rfl⟩ rfl (st := [.int x3]) rfl (Nat.le_of_ble_eq_true rfl) d_R_year_16 ?_
  refine g_isub hz d_R_year_19 ?_
  exact g_iret hz (rti h hq) d_R_year_20
def k_R_row_24 (v1 : Int32) (v2 : Int32) (s : Mm) : Option (Int32 × Mm) :=
  if v2 = 0 then
    gd (s 176 29) 12 <|
    nm (mU s 194 (s 176 29).toNatClampNeg v1) fun s7 =>
    nm (mU s7 176 29 ((s7 176 29) + 1)) fun s9 =>
    some (s9 176 29, s9)
  else
    bn (f_R_no s v2) fun x13 s12 =>
    some (x13, s12)
set_option maxRecDepth 20000 in
theorem w_R_row_24 {l : Launch} {z : Zt} (hz : ZOk z b_R_row 3 "PassedOnAndBetterModel" 1 22) {r' : Int32} {s' : Mm} (hq : ZR z (some .int) s' (some (.int r'))) (v1 : Int32) (v2 : Int32) (s : Mm) (h : k_R_row_24 v1 v2 s = some (r', s')) : G l z b_R_row 3 24 [(0, .ref 176), (1, .int v1), (2, .int v2)] [] s := by
  unfold k_R_row_24 at h
  refine g_iload_n hz 2 d_R_row_24 rfl rfl ?_
  refine g_if_eq hz (tgt := 34) d_R_row_25 (by decide) (fun c5 => ?_) (fun c5 => ?_)
  · replace h := (if_pos c5).symm.trans h
    refine g_aload_n hz 0 d_R_row_34 rfl rfl ?_
    refine gf_R_row hz q_1031 d_R_row_35 ?_
    refine g_aload_n hz 0 d_R_row_38 rfl rfl ?_
    refine gf_R_rowMany hz q_1032 d_R_row_39 ?_
    refine g_iload_n hz 1 d_R_row_42 rfl rfl ?_
    obtain ⟨n6, h⟩ := gd_use h
    refine g_iast hz (by decide) n6 d_R_row_43 (fun s7 e8 => ?_)
    replace h := nm_use h e8
    refine g_aload_n hz 0 d_R_row_44 rfl rfl ?_
    refine g_dup hz d_R_row_45 rfl ?_
    refine gf_R_rowMany hz q_1032 d_R_row_46 ?_
    refine g_iconst hz d_R_row_49 ki_1 ?_
    refine g_iadd hz d_R_row_50 ?_
    refine pf_R_rowMany hz q_1032 d_R_row_51 (fun s9 e10 => ?_)
    replace h := nm_use h e10
    refine g_aload_n hz 0 d_R_row_54 rfl rfl ?_
    refine gf_R_rowMany hz q_1032 d_R_row_55 ?_
    exact g_iret hz (rti h hq) d_R_row_58
  · replace h := (if_neg c5).symm.trans h
    refine g_aload_n hz 0 d_R_row_28 rfl rfl ?_
    refine g_iload_n hz 2 d_R_row_29 rfl rfl ?_
    refine bn_use h (fun x13 s12 e11 h => ?_)
    refine g_callVi hz (c_R_no l e11) (by decide) rc_R rfl rfl m_R_no mi_R_no ms_R_no q_1107 ⟨Nat.le_of_ble_eq_true rfl, Nat.le_of_ble_eq_true rfl⟩ rfl (st := []) rfl (Nat.le_of_ble_eq_true rfl) d_R_row_30 ?_
    exact g_iret hz (rti h hq) d_R_row_33
def f_R_row (s : Mm) (a1 : Int32) : Option (Int32 × Mm) :=
  bn (f_R_bound s a1 0 99) fun x3 s2 =>
  if x3 = 0 then
    if (s2 176 29) = 12 then
      k_R_row_24 a1 (-6) s2
    else
      k_R_row_24 a1 x3 s2
  else
    k_R_row_24 a1 x3 s2
set_option maxRecDepth 20000 in
theorem c_R_row (l : Launch) {s : Mm} {a1 : Int32} {r' : Int32} {s' : Mm}  (h : f_R_row s a1 = some (r', s')) : Cm l y_R_row b_R_row 3 (some .int) 1 22 [.ref 176, .int a1] s s' (some (.int r')) := by
  refine Cm.of (own := "PassedOnAndBetterModel") (by decide) rfl (fun ad => Nat.le_of_ble_eq_true rfl) ?_
  intro z hz hq
  show G l z b_R_row 3 0 [(0, .ref 176), (1, .int a1)] [] s
  unfold f_R_row at h
  refine g_iload_n hz 1 d_R_row_0 rfl rfl ?_
  refine g_iconst hz d_R_row_1 ki_0 ?_
  refine g_bipush hz (v := 99) d_R_row_2 (by decide) ?_
  refine bn_use h (fun x3 s2 e1 h => ?_)
  refine g_callSi hz (c_R_bound l e1) m_R_bound mi_R_bound q_1104 ⟨Nat.le_of_ble_eq_true rfl, Nat.le_of_ble_eq_true rfl⟩ rfl (st := []) rfl (Nat.le_of_ble_eq_true rfl) d_R_row_4 ?_
  refine g_istore_n hz (L' := [(2, .int x3), (0, .ref 176), (1, .int a1)]) d_R_row_7 rfl (by decide) rfl ?_
  refine g_iload_n hz 0 d_R_row_8 rfl rfl ?_
  refine g_if_ne hz (tgt := 24) d_R_row_9 (by decide) (fun c4 => ?_) (fun c4 => ?_)
  · replace h := (if_neg c4).symm.trans h
    refine g_sub [1, 2, 0] rfl ?_
    exact w_R_row_24 hz hq a1 x3 _ h
  · replace h := (if_pos c4).symm.trans h
    refine g_aload_n hz 1 d_R_row_12 rfl rfl ?_
    refine gf_R_rowMany hz q_1032 d_R_row_13 ?_
    refine g_bipush hz (v := 12) d_R_row_16 (by decide) ?_
    refine g_icmp_ne hz (tgt := 24) d_R_row_18 (by decide) (fun c14 => ?_) (fun c14 => ?_)
    · replace h := (if_neg c14).symm.trans h
      refine g_sub [1, 2, 0] rfl ?_
      exact w_R_row_24 hz hq a1 x3 _ h
    · replace h := (if_pos c14).symm.trans h
      refine g_bipush hz (v := (-6)) d_R_row_21 (by decide) ?_
      refine g_istore_n hz (L' := [(2, .int (-6)), (0, .ref 176), (1, .int a1)]) d_R_row_23 rfl (by decide) rfl ?_
      refine g_sub [1, 2, 0] rfl ?_
      exact w_R_row_24 hz hq a1 (-6) _ h
def k_R_judge_12 : Nat → Int32 → Int32 → Mm → Option (Int32 × Mm)
  | 0, _, _, _ => none
  | n + 1, v1, v2, s => if v1 ≤ v2 then
      some ((-9), s)
    else
      if (s 176 12) ≤ v2 then
        some (v2, s)
      else
        gd v2 4 <|
        gd v2 12 <|
        if (s 184 v2.toNatClampNeg) = (s 194 v2.toNatClampNeg) then
          k_R_judge_12 n v1 (v2 + 1) s
        else
          some (v2, s)
set_option maxRecDepth 20000 in
theorem w_R_judge_12 {l : Launch} {z : Zt} (hz : ZOk z b_R_judge 3 "PassedOnAndBetterModel" 0 0) {r' : Int32} {s' : Mm} (hq : ZR z (some .int) s' (some (.int r'))) : ∀ (n : Nat) (v1 : Int32) (v2 : Int32) (s : Mm), k_R_judge_12 n v1 v2 s = some (r', s') → G l z b_R_judge 3 12 [(0, .ref 176), (1, .int v1), (2, .int v2)] [] s := by
  intro n
  induction n with
  | zero => intro v1 v2 s h; unfold k_R_judge_12 at h; cases h
  | succ n ih =>
    intro v1 v2 s h
    unfold k_R_judge_12 at h
    refine g_iload_n hz 2 d_R_judge_12 rfl rfl ?_
    refine g_iload_n hz 1 d_R_judge_13 rfl rfl ?_
    refine g_icmp_ge hz (tgt := 48) d_R_judge_14 (by decide) (fun c5 => ?_) (fun c5 => ?_)
    · replace h := (if_pos c5).symm.trans h
      refine g_bipush hz (v := (-9)) d_R_judge_48 (by decide) ?_
      exact g_iret hz (rti h hq) d_R_judge_50
    · replace h := (if_neg c5).symm.trans h
      refine g_iload_n hz 2 d_R_judge_17 rfl rfl ?_
      refine g_aload_n hz 0 d_R_judge_18 rfl rfl ?_
      refine gf_R_gifts hz q_1015 d_R_judge_19 ?_
      refine g_icmp_ge hz (tgt := 40) d_R_judge_22 (by decide) (fun c6 => ?_) (fun c6 => ?_)
      · replace h := (if_pos c6).symm.trans h
        refine g_iload_n hz 2 d_R_judge_40 rfl rfl ?_
        exact g_iret hz (rti h hq) d_R_judge_41
      · replace h := (if_neg c6).symm.trans h
        refine g_aload_n hz 0 d_R_judge_25 rfl rfl ?_
        refine gf_R_holder hz q_1010 d_R_judge_26 ?_
        refine g_iload_n hz 2 d_R_judge_29 rfl rfl ?_
        obtain ⟨n7, h⟩ := gd_use h
        refine g_iald hz (by decide) n7 d_R_judge_30 ?_
        refine g_aload_n hz 0 d_R_judge_31 rfl rfl ?_
        refine gf_R_row hz q_1031 d_R_judge_32 ?_
        refine g_iload_n hz 2 d_R_judge_35 rfl rfl ?_
        obtain ⟨n8, h⟩ := gd_use h
        refine g_iald hz (by decide) n8 d_R_judge_36 ?_
        refine g_icmp_eq hz (tgt := 42) d_R_judge_37 (by decide) (fun c9 => ?_) (fun c9 => ?_)
        · replace h := (if_pos c9).symm.trans h
          refine g_iinc hz (v := v2 + 1) (L' := [(2, .int (v2 + 1)), (0, .ref 176), (1, .int v1)]) 2 d_R_judge_42 rfl (congrArg (fun q => v2 + q) ki_1) (by decide) rfl ?_
          refine g_goto hz (tgt := 12) d_R_judge_45 (by decide) ?_
          refine g_sub [1, 2, 0] rfl ?_
          exact ih v1 (v2 + 1) _ h
        · replace h := (if_neg c9).symm.trans h
          refine g_iload_n hz 2 d_R_judge_40 rfl rfl ?_
          exact g_iret hz (rti h hq) d_R_judge_41
def f_R_judge (s : Mm) : Option (Int32 × Mm) :=
  nm (s 176 29) fun x1 =>
  nm (mU s 176 29 0) fun s3 =>
  k_R_judge_12 KF x1 0 s3
set_option maxRecDepth 20000 in
theorem c_R_judge (l : Launch) {s : Mm}  {r' : Int32} {s' : Mm}  (h : f_R_judge s = some (r', s')) : Cm l y_R_judge b_R_judge 3 (some .int) 0 0 [.ref 176] s s' (some (.int r')) := by
  refine Cm.of (own := "PassedOnAndBetterModel") (by decide) rfl (fun ad => Nat.le_of_ble_eq_true rfl) ?_
  intro z hz hq
  show G l z b_R_judge 3 0 [(0, .ref 176)] [] s
  unfold f_R_judge at h
  refine g_aload_n hz 0 d_R_judge_0 rfl rfl ?_
  refine gf_R_rowMany hz q_1032 d_R_judge_1 ?_
  refine g_nmi (fun x1 e2 => ?_)
  replace h := nm_use h e2
  refine g_istore_n hz (L' := [(1, .int x1), (0, .ref 176)]) d_R_judge_4 rfl (by decide) rfl ?_
  refine g_aload_n hz 1 d_R_judge_5 rfl rfl ?_
  refine g_iconst hz d_R_judge_6 ki_0 ?_
  refine pf_R_rowMany hz q_1032 d_R_judge_7 (fun s3 e4 => ?_)
  replace h := nm_use h e4
  refine g_iconst hz d_R_judge_10 ki_0 ?_
  refine g_istore_n hz (L' := [(2, .int 0), (1, .int x1), (0, .ref 176)]) d_R_judge_11 rfl (by decide) rfl ?_
  refine g_sub [2, 1, 0] rfl ?_
  exact w_R_judge_12 hz hq KF x1 0 _ h
def f_R_clear (s : Mm) : Option (Int32 × Mm) :=
  nm (s 176 29) fun x1 =>
  nm (mU s 176 29 0) fun s3 =>
  some (x1, s3)
set_option maxRecDepth 20000 in
theorem c_R_clear (l : Launch) {s : Mm}  {r' : Int32} {s' : Mm}  (h : f_R_clear s = some (r', s')) : Cm l y_R_clear b_R_clear 2 (some .int) 0 0 [.ref 176] s s' (some (.int r')) := by
  refine Cm.of (own := "PassedOnAndBetterModel") (by decide) rfl (fun ad => Nat.le_of_ble_eq_true rfl) ?_
  intro z hz hq
  show G l z b_R_clear 2 0 [(0, .ref 176)] [] s
  unfold f_R_clear at h
  refine g_aload_n hz 0 d_R_clear_0 rfl rfl ?_
  refine gf_R_rowMany hz q_1032 d_R_clear_1 ?_
  refine g_nmi (fun x1 e2 => ?_)
  replace h := nm_use h e2
  refine g_istore_n hz (L' := [(1, .int x1), (0, .ref 176)]) d_R_clear_4 rfl (by decide) rfl ?_
  refine g_aload_n hz 1 d_R_clear_5 rfl rfl ?_
  refine g_iconst hz d_R_clear_6 ki_0 ?_
  refine pf_R_rowMany hz q_1032 d_R_clear_7 (fun s3 e4 => ?_)
  replace h := nm_use h e4
  refine g_iload_n hz 0 d_R_clear_10 rfl rfl ?_
  exact g_iret hz (rti h hq) d_R_clear_11
def f_R_draw (s : Mm) (a1 : Int32) : Option (Int32 × Mm) :=
  nm (mU s 176 31 (((s 176 31) * 1103515245) + 12345)) fun s1 =>
  gz a1 <|
  some ((((s1 176 31) &&& 2147483647) / 65536) - (((s1 176 31) &&& 2147483647) / 65536) / a1 * a1, s1)
set_option maxRecDepth 20000 in
theorem c_R_draw (l : Launch) {s : Mm} {a1 : Int32} {r' : Int32} {s' : Mm}  (h : f_R_draw s a1 = some (r', s')) : Cm l y_R_draw b_R_draw 2 (some .int) 0 0 [.ref 176, .int a1] s s' (some (.int r')) := by
  refine Cm.of (own := "PassedOnAndBetterModel") (by decide) rfl (fun ad => Nat.le_of_ble_eq_true rfl) ?_
  intro z hz hq
  show G l z b_R_draw 2 0 [(0, .ref 176), (1, .int a1)] [] s
  unfold f_R_draw at h
  refine g_aload_n hz 0 d_R_draw_0 rfl rfl ?_
  refine g_aload_n hz 0 d_R_draw_1 rfl rfl ?_
  refine gf_R_lots hz q_1034 d_R_draw_2 ?_
  refine g_ldcw hz q_1504 d_R_draw_5 ?_
  refine g_imul hz d_R_draw_8 ?_
  refine g_sipush hz (v := 12345) d_R_draw_9 (by decide) ?_
  refine g_iadd hz d_R_draw_12 ?_
  refine pf_R_lots hz q_1034 d_R_draw_13 (fun s1 e2 => ?_)
  replace h := nm_use h e2
  refine g_aload_n hz 0 d_R_draw_16 rfl rfl ?_
  refine gf_R_lots hz q_1034 d_R_draw_17 ?_
  refine g_ldcw hz q_1505 d_R_draw_20 ?_
  refine g_iand hz d_R_draw_23 ?_
  refine g_ldcw hz q_1506 d_R_draw_24 ?_
  refine g_idiv hz d_R_draw_27 (by decide) ?_
  refine g_iload_n hz 1 d_R_draw_28 rfl rfl ?_
  obtain ⟨n3, h⟩ := gz_use h
  refine g_irem hz d_R_draw_29 n3 ?_
  exact g_iret hz (rti h hq) d_R_draw_30
def k_R_lots_186 (kc59 : (Int32 → Int32 → Int32 → Int32 → Mm → Option (Int32 × Mm))) (v1 : Int32) (v3 : Int32) (v6 : Int32) (v7 : Int32) (vt0 : Int32) (vt1 : Int32) (s : Mm) : Option (Int32 × Mm) :=
  nm (vt1 + (vt0 - v7)) fun x23 =>
  bv (f_R_forgets s) fun s26 =>
  kc59 v1 v3 x23 (v6 + 1) s26
set_option maxRecDepth 20000 in
theorem w_R_lots_186 {l : Launch} {z : Zt} (hz : ZOk z b_R_lots 10 "PassedOnAndBetterModel" 6 133) {r' : Int32} {s' : Mm} (hq : ZR z (some .int) s' (some (.int r'))) {kc59 : (Int32 → Int32 → Int32 → Int32 → Mm → Option (Int32 × Mm))} (hk59 : (∀ (v1 : Int32) (v3 : Int32) (v5 : Int32) (v6 : Int32) (s : Mm), kc59 v1 v3 v5 v6 s = some (r', s') → G l z b_R_lots 10 59 [(0, .ref 176), (1, .int v1), (3, .int v3), (5, .int v5), (6, .int v6)] [] s)) (v1 : Int32) (v3 : Int32) (v6 : Int32) (v7 : Int32) (vt0 : Int32) (vt1 : Int32) (s : Mm) (h : k_R_lots_186 kc59 v1 v3 v6 v7 vt0 vt1 s = some (r', s')) : G l z b_R_lots 10 186 [(0, .ref 176), (1, .int v1), (3, .int v3), (6, .int v6), (7, .int v7)] [.int vt0, .int vt1] s := by
  unfold k_R_lots_186 at h
  refine g_iload hz 4 d_R_lots_186 rfl ?_
  refine g_isub hz d_R_lots_188 ?_
  refine g_iadd hz d_R_lots_189 ?_
  refine g_nmi (fun x23 e24 => ?_)
  replace h := nm_use h e24
  refine g_istore hz (L' := [(5, .int x23), (0, .ref 176), (1, .int v1), (3, .int v3), (6, .int v6), (7, .int v7)]) d_R_lots_190 (by decide) rfl ?_
  refine g_aload_n hz 1 d_R_lots_192 rfl rfl ?_
  refine bv_use h (fun s26 e25 h => ?_)
  refine g_callVv hz (c_R_forgets l e25) (by decide) rc_R rfl rfl m_R_forgets mi_R_forgets ms_R_forgets q_1298 ⟨Nat.le_of_ble_eq_true rfl, Nat.le_of_ble_eq_true rfl⟩ rfl (st := []) rfl (Nat.le_of_ble_eq_true rfl) d_R_lots_193 ?_
  refine g_iinc hz (v := v6 + 1) (L' := [(6, .int (v6 + 1)), (5, .int x23), (0, .ref 176), (1, .int v1), (3, .int v3), (7, .int v7)]) 4 d_R_lots_196 rfl (congrArg (fun q => v6 + q) ki_1) (by decide) rfl ?_
  refine g_goto hz (tgt := 59) d_R_lots_199 (by decide) ?_
  refine g_sub [2, 3, 4, 1, 0] rfl ?_
  exact hk59 v1 v3 x23 (v6 + 1) _ h
def k_R_lots_103 (kc59 : (Int32 → Int32 → Int32 → Int32 → Mm → Option (Int32 × Mm))) : Nat → Int32 → Int32 → Int32 → Int32 → Int32 → Int32 → Mm → Option (Int32 × Mm)
  | 0, _, _, _, _, _, _, _ => none
  | n + 1, v1, v3, v5, v6, v7, v8, s => if (s 176 11) ≤ v8 then
      bv (f_R_goes s 24) fun s18 =>
      if v3 = 0 then
        bn (f_R_sum s18 182 (s18 176 12)) fun x29 s28 =>
        k_R_lots_186 kc59 v1 v3 v6 v7 x29 v5 s28
      else
        bn (f_R_sum s18 187 (s18 176 12)) fun x22 s21 =>
        k_R_lots_186 kc59 v1 v3 v6 v7 x22 v5 s21
    else
      bn (f_R_draw s (s 176 11)) fun x32 s31 =>
      if x32 = v8 then
        gd v8 6 <|
        nm (mU s31 181 v8.toNatClampNeg (-9)) fun s38 =>
        k_R_lots_103 kc59 n v1 v3 v5 v6 v7 (v8 + 1) s38
      else
        gd v8 6 <|
        nm (mU s31 181 v8.toNatClampNeg x32) fun s35 =>
        k_R_lots_103 kc59 n v1 v3 v5 v6 v7 (v8 + 1) s35
set_option maxRecDepth 20000 in
theorem w_R_lots_103 {l : Launch} {z : Zt} (hz : ZOk z b_R_lots 10 "PassedOnAndBetterModel" 6 133) {r' : Int32} {s' : Mm} (hq : ZR z (some .int) s' (some (.int r'))) {kc59 : (Int32 → Int32 → Int32 → Int32 → Mm → Option (Int32 × Mm))} (hk59 : (∀ (v1 : Int32) (v3 : Int32) (v5 : Int32) (v6 : Int32) (s : Mm), kc59 v1 v3 v5 v6 s = some (r', s') → G l z b_R_lots 10 59 [(0, .ref 176), (1, .int v1), (3, .int v3), (5, .int v5), (6, .int v6)] [] s)) : ∀ (n : Nat) (v1 : Int32) (v3 : Int32) (v5 : Int32) (v6 : Int32) (v7 : Int32) (v8 : Int32) (s : Mm), k_R_lots_103 kc59 n v1 v3 v5 v6 v7 v8 s = some (r', s') → G l z b_R_lots 10 103 [(0, .ref 176), (1, .int v1), (3, .int v3), (5, .int v5), (6, .int v6), (7, .int v7), (8, .int v8)] [] s := by
  intro n
  induction n with
  | zero => intro v1 v3 v5 v6 v7 v8 s h; unfold k_R_lots_103 at h; cases h
  | succ n ih =>
    intro v1 v3 v5 v6 v7 v8 s h
    unfold k_R_lots_103 at h
    refine g_iload hz 6 d_R_lots_103 rfl ?_
    refine g_aload_n hz 0 d_R_lots_105 rfl rfl ?_
    refine gf_R_friends hz q_1014 d_R_lots_106 ?_
    refine g_icmp_ge hz (tgt := 149) d_R_lots_109 (by decide) (fun c16 => ?_) (fun c16 => ?_)
    · replace h := (if_pos c16).symm.trans h
      refine g_aload_n hz 0 d_R_lots_149 rfl rfl ?_
      refine g_bipush hz (v := 24) d_R_lots_150 (by decide) ?_
      refine bv_use h (fun s18 e17 h => ?_)
      refine g_callVv hz (c_R_goes l e17) (by decide) rc_R rfl rfl m_R_goes mi_R_goes ms_R_goes q_1194 ⟨Nat.le_of_ble_eq_true rfl, Nat.le_of_ble_eq_true rfl⟩ rfl (st := []) rfl (Nat.le_of_ble_eq_true rfl) d_R_lots_152 ?_
      refine g_iload hz 3 d_R_lots_155 rfl ?_
      refine g_iload_n hz 2 d_R_lots_157 rfl rfl ?_
      refine g_if_ne hz (tgt := 175) d_R_lots_158 (by decide) (fun c19 => ?_) (fun c19 => ?_)
      · replace h := (if_neg c19).symm.trans h
        refine g_aload_n hz 0 d_R_lots_175 rfl rfl ?_
        refine gf_R_given hz q_1013 d_R_lots_176 ?_
        refine g_aload_n hz 0 d_R_lots_179 rfl rfl ?_
        refine gf_R_gifts hz q_1015 d_R_lots_180 ?_
        refine bn_use h (fun x22 s21 e20 h => ?_)
        refine g_callSi hz (c_R_sum l (by decide) e20) m_R_sum mi_R_sum q_1284 ⟨Nat.le_of_ble_eq_true rfl, Nat.le_of_ble_eq_true rfl⟩ rfl (st := [.int v5]) rfl (Nat.le_of_ble_eq_true rfl) d_R_lots_183 ?_
        refine g_sub [0, 1, 2, 4, 5] rfl ?_
        exact w_R_lots_186 hz hq hk59 v1 v3 v6 v7 x22 v5 _ h
      · replace h := (if_pos c19).symm.trans h
        refine g_aload_n hz 0 d_R_lots_161 rfl rfl ?_
        refine gf_R_worth hz q_1008 d_R_lots_162 ?_
        refine g_aload_n hz 0 d_R_lots_165 rfl rfl ?_
        refine gf_R_gifts hz q_1015 d_R_lots_166 ?_
        refine bn_use h (fun x29 s28 e27 h => ?_)
        refine g_callSi hz (c_R_sum l (by decide) e27) m_R_sum mi_R_sum q_1284 ⟨Nat.le_of_ble_eq_true rfl, Nat.le_of_ble_eq_true rfl⟩ rfl (st := [.int v5]) rfl (Nat.le_of_ble_eq_true rfl) d_R_lots_169 ?_
        refine g_goto hz (tgt := 186) d_R_lots_172 (by decide) ?_
        refine g_sub [0, 1, 2, 4, 5] rfl ?_
        exact w_R_lots_186 hz hq hk59 v1 v3 v6 v7 x29 v5 _ h
    · replace h := (if_neg c16).symm.trans h
      refine g_aload_n hz 0 d_R_lots_112 rfl rfl ?_
      refine g_aload_n hz 0 d_R_lots_113 rfl rfl ?_
      refine gf_R_friends hz q_1014 d_R_lots_114 ?_
      refine bn_use h (fun x32 s31 e30 h => ?_)
      refine g_callVi hz (c_R_draw l e30) (by decide) rc_R rfl rfl m_R_draw mi_R_draw ms_R_draw q_1500 ⟨Nat.le_of_ble_eq_true rfl, Nat.le_of_ble_eq_true rfl⟩ rfl (st := []) rfl (Nat.le_of_ble_eq_true rfl) d_R_lots_117 ?_
      refine g_istore hz (L' := [(9, .int x32), (0, .ref 176), (1, .int v1), (3, .int v3), (5, .int v5), (6, .int v6), (7, .int v7), (8, .int v8)]) d_R_lots_120 (by decide) rfl ?_
      refine g_aload_n hz 1 d_R_lots_122 rfl rfl ?_
      refine gf_R_next hz q_1007 d_R_lots_123 ?_
      refine g_iload hz 7 d_R_lots_126 rfl ?_
      refine g_iload hz 0 d_R_lots_128 rfl ?_
      refine g_iload hz 7 d_R_lots_130 rfl ?_
      refine g_icmp_ne hz (tgt := 140) d_R_lots_132 (by decide) (fun c33 => ?_) (fun c33 => ?_)
      · replace h := (if_neg c33).symm.trans h
        refine g_iload hz 0 d_R_lots_140 rfl ?_
        obtain ⟨n34, h⟩ := gd_use h
        refine g_iast hz (by decide) n34 d_R_lots_142 (fun s35 e36 => ?_)
        replace h := nm_use h e36
        refine g_iinc hz (v := v8 + 1) (L' := [(8, .int (v8 + 1)), (9, .int x32), (0, .ref 176), (1, .int v1), (3, .int v3), (5, .int v5), (6, .int v6), (7, .int v7)]) 7 d_R_lots_143 rfl (congrArg (fun q => v8 + q) ki_1) (by decide) rfl ?_
        refine g_goto hz (tgt := 103) d_R_lots_146 (by decide) ?_
        refine g_sub [2, 3, 4, 5, 6, 7, 0] rfl ?_
        exact ih v1 v3 v5 v6 v7 (v8 + 1) _ h
      · replace h := (if_pos c33).symm.trans h
        refine g_bipush hz (v := (-9)) d_R_lots_135 (by decide) ?_
        refine g_goto hz (tgt := 142) d_R_lots_137 (by decide) ?_
        obtain ⟨n37, h⟩ := gd_use h
        refine g_iast hz (by decide) n37 d_R_lots_142 (fun s38 e39 => ?_)
        replace h := nm_use h e39
        refine g_iinc hz (v := v8 + 1) (L' := [(8, .int (v8 + 1)), (9, .int x32), (0, .ref 176), (1, .int v1), (3, .int v3), (5, .int v5), (6, .int v6), (7, .int v7)]) 7 d_R_lots_143 rfl (congrArg (fun q => v8 + q) ki_1) (by decide) rfl ?_
        refine g_goto hz (tgt := 103) d_R_lots_146 (by decide) ?_
        refine g_sub [2, 3, 4, 5, 6, 7, 0] rfl ?_
        exact ih v1 v3 v5 v6 v7 (v8 + 1) _ h
def k_R_lots_59 : Nat → Int32 → Int32 → Int32 → Int32 → Mm → Option (Int32 × Mm)
  | 0, _, _, _, _, _ => none
  | n + 1, v1, v3, v5, v6, s => if v1 ≤ v6 then
      some (v5, s)
    else
      bv (f_R_thinks s) fun s11 =>
      if v3 = 0 then
        bn (f_R_sum s11 182 (s11 176 12)) fun x42 s41 =>
        k_R_lots_103 (fun v1 v3 v5 v6 s => k_R_lots_59 n v1 v3 v5 v6 s) KF v1 v3 v5 v6 x42 0 s41
      else
        bn (f_R_sum s11 187 (s11 176 12)) fun x15 s14 =>
        k_R_lots_103 (fun v1 v3 v5 v6 s => k_R_lots_59 n v1 v3 v5 v6 s) KF v1 v3 v5 v6 x15 0 s14
set_option maxRecDepth 20000 in
theorem w_R_lots_59 {l : Launch} {z : Zt} (hz : ZOk z b_R_lots 10 "PassedOnAndBetterModel" 6 133) {r' : Int32} {s' : Mm} (hq : ZR z (some .int) s' (some (.int r'))) : ∀ (n : Nat) (v1 : Int32) (v3 : Int32) (v5 : Int32) (v6 : Int32) (s : Mm), k_R_lots_59 n v1 v3 v5 v6 s = some (r', s') → G l z b_R_lots 10 59 [(0, .ref 176), (1, .int v1), (3, .int v3), (5, .int v5), (6, .int v6)] [] s := by
  intro n
  induction n with
  | zero => intro v1 v3 v5 v6 s h; unfold k_R_lots_59 at h; cases h
  | succ n ih =>
    intro v1 v3 v5 v6 s h
    unfold k_R_lots_59 at h
    refine g_iload hz 4 d_R_lots_59 rfl ?_
    refine g_iload_n hz 1 d_R_lots_61 rfl rfl ?_
    refine g_icmp_ge hz (tgt := 202) d_R_lots_62 (by decide) (fun c9 => ?_) (fun c9 => ?_)
    · replace h := (if_pos c9).symm.trans h
      refine g_iload hz 3 d_R_lots_202 rfl ?_
      exact g_iret hz (rti h hq) d_R_lots_204
    · replace h := (if_neg c9).symm.trans h
      refine g_aload_n hz 0 d_R_lots_65 rfl rfl ?_
      refine bv_use h (fun s11 e10 h => ?_)
      refine g_callVv hz (c_R_thinks l e10) (by decide) rc_R rfl rfl m_R_thinks mi_R_thinks ms_R_thinks q_1294 ⟨Nat.le_of_ble_eq_true rfl, Nat.le_of_ble_eq_true rfl⟩ rfl (st := []) rfl (Nat.le_of_ble_eq_true rfl) d_R_lots_66 ?_
      refine g_iload_n hz 2 d_R_lots_69 rfl rfl ?_
      refine g_if_ne hz (tgt := 87) d_R_lots_70 (by decide) (fun c12 => ?_) (fun c12 => ?_)
      · replace h := (if_neg c12).symm.trans h
        refine g_aload_n hz 0 d_R_lots_87 rfl rfl ?_
        refine gf_R_given hz q_1013 d_R_lots_88 ?_
        refine g_aload_n hz 0 d_R_lots_91 rfl rfl ?_
        refine gf_R_gifts hz q_1015 d_R_lots_92 ?_
        refine bn_use h (fun x15 s14 e13 h => ?_)
        refine g_callSi hz (c_R_sum l (by decide) e13) m_R_sum mi_R_sum q_1284 ⟨Nat.le_of_ble_eq_true rfl, Nat.le_of_ble_eq_true rfl⟩ rfl (st := []) rfl (Nat.le_of_ble_eq_true rfl) d_R_lots_95 ?_
        refine g_istore hz (L' := [(7, .int x15), (0, .ref 176), (1, .int v1), (3, .int v3), (5, .int v5), (6, .int v6)]) d_R_lots_98 (by decide) rfl ?_
        refine g_iconst hz d_R_lots_100 ki_0 ?_
        refine g_istore hz (L' := [(8, .int 0), (7, .int x15), (0, .ref 176), (1, .int v1), (3, .int v3), (5, .int v5), (6, .int v6)]) d_R_lots_101 (by decide) rfl ?_
        refine g_sub [2, 3, 4, 5, 6, 1, 0] rfl ?_
        exact w_R_lots_103 hz hq ih KF v1 v3 v5 v6 x15 0 _ h
      · replace h := (if_pos c12).symm.trans h
        refine g_aload_n hz 0 d_R_lots_73 rfl rfl ?_
        refine gf_R_worth hz q_1008 d_R_lots_74 ?_
        refine g_aload_n hz 0 d_R_lots_77 rfl rfl ?_
        refine gf_R_gifts hz q_1015 d_R_lots_78 ?_
        refine bn_use h (fun x42 s41 e40 h => ?_)
        refine g_callSi hz (c_R_sum l (by decide) e40) m_R_sum mi_R_sum q_1284 ⟨Nat.le_of_ble_eq_true rfl, Nat.le_of_ble_eq_true rfl⟩ rfl (st := []) rfl (Nat.le_of_ble_eq_true rfl) d_R_lots_81 ?_
        refine g_goto hz (tgt := 98) d_R_lots_84 (by decide) ?_
        refine g_istore hz (L' := [(7, .int x42), (0, .ref 176), (1, .int v1), (3, .int v3), (5, .int v5), (6, .int v6)]) d_R_lots_98 (by decide) rfl ?_
        refine g_iconst hz d_R_lots_100 ki_0 ?_
        refine g_istore hz (L' := [(8, .int 0), (7, .int x42), (0, .ref 176), (1, .int v1), (3, .int v3), (5, .int v5), (6, .int v6)]) d_R_lots_101 (by decide) rfl ?_
        refine g_sub [2, 3, 4, 5, 6, 1, 0] rfl ?_
        exact w_R_lots_103 hz hq ih KF v1 v3 v5 v6 x42 0 _ h
def k_R_lots_27 (v1 : Int32) (v2 : Int32) (v3 : Int32) (v4 : Int32) (s : Mm) : Option (Int32 × Mm) :=
  if v4 = 0 then
    if (s 176 11) = 0 then
      some (0, s)
    else
      nm (mU s 176 31 v2) fun s7 =>
      k_R_lots_59 KF v1 v3 0 0 s7
  else
    bn (f_R_no s v4) fun x45 s44 =>
    some (x45, s44)
set_option maxRecDepth 20000 in
theorem w_R_lots_27 {l : Launch} {z : Zt} (hz : ZOk z b_R_lots 10 "PassedOnAndBetterModel" 6 133) {r' : Int32} {s' : Mm} (hq : ZR z (some .int) s' (some (.int r'))) (v1 : Int32) (v2 : Int32) (v3 : Int32) (v4 : Int32) (s : Mm) (h : k_R_lots_27 v1 v2 v3 v4 s = some (r', s')) : G l z b_R_lots 10 27 [(0, .ref 176), (1, .int v1), (2, .int v2), (3, .int v3), (4, .int v4)] [] s := by
  unfold k_R_lots_27 at h
  refine g_iload hz 4 d_R_lots_27 rfl ?_
  refine g_if_eq hz (tgt := 39) d_R_lots_29 (by decide) (fun c5 => ?_) (fun c5 => ?_)
  · replace h := (if_pos c5).symm.trans h
    refine g_aload_n hz 0 d_R_lots_39 rfl rfl ?_
    refine gf_R_friends hz q_1014 d_R_lots_40 ?_
    refine g_if_ne hz (tgt := 48) d_R_lots_43 (by decide) (fun c6 => ?_) (fun c6 => ?_)
    · replace h := (if_neg c6).symm.trans h
      refine g_aload_n hz 0 d_R_lots_48 rfl rfl ?_
      refine g_iload_n hz 2 d_R_lots_49 rfl rfl ?_
      refine pf_R_lots hz q_1034 d_R_lots_50 (fun s7 e8 => ?_)
      replace h := nm_use h e8
      refine g_iconst hz d_R_lots_53 ki_0 ?_
      refine g_istore hz (L' := [(5, .int 0), (0, .ref 176), (1, .int v1), (2, .int v2), (3, .int v3), (4, .int v4)]) d_R_lots_54 (by decide) rfl ?_
      refine g_iconst hz d_R_lots_56 ki_0 ?_
      refine g_istore hz (L' := [(6, .int 0), (5, .int 0), (0, .ref 176), (1, .int v1), (2, .int v2), (3, .int v3), (4, .int v4)]) d_R_lots_57 (by decide) rfl ?_
      refine g_sub [2, 3, 5, 1, 0] rfl ?_
      exact w_R_lots_59 hz hq KF v1 v3 0 0 _ h
    · replace h := (if_pos c6).symm.trans h
      refine g_iconst hz d_R_lots_46 ki_0 ?_
      exact g_iret hz (rti h hq) d_R_lots_47
  · replace h := (if_neg c5).symm.trans h
    refine g_aload_n hz 0 d_R_lots_32 rfl rfl ?_
    refine g_iload hz 4 d_R_lots_33 rfl ?_
    refine bn_use h (fun x45 s44 e43 h => ?_)
    refine g_callVi hz (c_R_no l e43) (by decide) rc_R rfl rfl m_R_no mi_R_no ms_R_no q_1107 ⟨Nat.le_of_ble_eq_true rfl, Nat.le_of_ble_eq_true rfl⟩ rfl (st := []) rfl (Nat.le_of_ble_eq_true rfl) d_R_lots_35 ?_
    exact g_iret hz (rti h hq) d_R_lots_38
def f_R_lots (s : Mm) (a1 : Int32) (a2 : Int32) (a3 : Int32) : Option (Int32 × Mm) :=
  bn (f_R_bound s a1 1 20) fun x3 s2 =>
  if x3 = 0 then
    bn (f_R_isIn s2 a3 0 1) fun x48 s47 =>
    if x48 = 0 then
      k_R_lots_27 a1 a2 a3 (-2) s47
    else
      k_R_lots_27 a1 a2 a3 x3 s47
  else
    k_R_lots_27 a1 a2 a3 x3 s2
set_option maxRecDepth 20000 in
theorem c_R_lots (l : Launch) {s : Mm} {a1 : Int32} {a2 : Int32} {a3 : Int32} {r' : Int32} {s' : Mm}  (h : f_R_lots s a1 a2 a3 = some (r', s')) : Cm l y_R_lots b_R_lots 10 (some .int) 6 133 [.ref 176, .int a1, .int a2, .int a3] s s' (some (.int r')) := by
  refine Cm.of (own := "PassedOnAndBetterModel") (by decide) rfl (fun ad => Nat.le_of_ble_eq_true rfl) ?_
  intro z hz hq
  show G l z b_R_lots 10 0 [(0, .ref 176), (1, .int a1), (2, .int a2), (3, .int a3)] [] s
  unfold f_R_lots at h
  refine g_iload_n hz 1 d_R_lots_0 rfl rfl ?_
  refine g_iconst hz d_R_lots_1 ki_1 ?_
  refine g_bipush hz (v := 20) d_R_lots_2 (by decide) ?_
  refine bn_use h (fun x3 s2 e1 h => ?_)
  refine g_callSi hz (c_R_bound l e1) m_R_bound mi_R_bound q_1104 ⟨Nat.le_of_ble_eq_true rfl, Nat.le_of_ble_eq_true rfl⟩ rfl (st := []) rfl (Nat.le_of_ble_eq_true rfl) d_R_lots_4 ?_
  refine g_istore hz (L' := [(4, .int x3), (0, .ref 176), (1, .int a1), (2, .int a2), (3, .int a3)]) d_R_lots_7 (by decide) rfl ?_
  refine g_iload hz 0 d_R_lots_9 rfl ?_
  refine g_if_ne hz (tgt := 27) d_R_lots_11 (by decide) (fun c4 => ?_) (fun c4 => ?_)
  · replace h := (if_neg c4).symm.trans h
    refine g_sub [1, 2, 3, 4, 0] rfl ?_
    exact w_R_lots_27 hz hq a1 a2 a3 x3 _ h
  · replace h := (if_pos c4).symm.trans h
    refine g_iload_n hz 4 d_R_lots_14 rfl rfl ?_
    refine g_iconst hz d_R_lots_15 ki_0 ?_
    refine g_iconst hz d_R_lots_16 ki_1 ?_
    refine bn_use h (fun x48 s47 e46 h => ?_)
    refine g_callSi hz (c_R_isIn l e46) m_R_isIn mi_R_isIn q_1131 ⟨Nat.le_of_ble_eq_true rfl, Nat.le_of_ble_eq_true rfl⟩ rfl (st := []) rfl (Nat.le_of_ble_eq_true rfl) d_R_lots_17 ?_
    refine g_if_ne hz (tgt := 27) d_R_lots_20 (by decide) (fun c49 => ?_) (fun c49 => ?_)
    · replace h := (if_neg c49).symm.trans h
      refine g_sub [1, 2, 3, 4, 0] rfl ?_
      exact w_R_lots_27 hz hq a1 a2 a3 x3 _ h
    · replace h := (if_pos c49).symm.trans h
      refine g_bipush hz (v := (-2)) d_R_lots_23 (by decide) ?_
      refine g_istore hz (L' := [(4, .int (-2)), (0, .ref 176), (1, .int a1), (2, .int a2), (3, .int a3)]) d_R_lots_25 (by decide) rfl ?_
      refine g_sub [1, 2, 3, 4, 0] rfl ?_
      exact w_R_lots_27 hz hq a1 a2 a3 (-2) _ h
def f_R_count (s : Mm) (a1 : Int32) : Option (Int32 × Mm) :=
  bn (f_R_isIn s a1 11 16) fun x3 s2 =>
  if x3 = 0 then
    if a1 = 0 then
      some (s2 176 11, s2)
    else if a1 = 1 then
      some (s2 176 12, s2)
    else if a1 = 2 then
      some (s2 176 13, s2)
    else if a1 = 3 then
      bn (f_R_sum s2 182 (s2 176 12)) fun x11 s10 =>
      some (x11, s10)
    else if a1 = 4 then
      bn (f_R_sum s2 183 (s2 176 12)) fun x15 s14 =>
      some (x15, s14)
    else if a1 = 5 then
      bn (f_R_sum s2 187 (s2 176 12)) fun x19 s18 =>
      some (x19, s18)
    else if a1 = 6 then
      some (s2 176 20, s2)
    else if a1 = 7 then
      some (s2 176 29, s2)
    else if a1 = 8 then
      some (s2 176 27, s2)
    else
      some ((-9), s2)
  else
    gd (a1 - 10) 7 <|
    some (s2 177 (a1 - 10).toNatClampNeg, s2)
set_option maxRecDepth 20000 in
theorem c_R_count (l : Launch) {s : Mm} {a1 : Int32} {r' : Int32} {s' : Mm}  (h : f_R_count s a1 = some (r', s')) : Cm l y_R_count b_R_count 2 (some .int) 1 23 [.ref 176, .int a1] s s' (some (.int r')) := by
  refine Cm.of (own := "PassedOnAndBetterModel") (by decide) rfl (fun ad => Nat.le_of_ble_eq_true rfl) ?_
  intro z hz hq
  show G l z b_R_count 2 0 [(0, .ref 176), (1, .int a1)] [] s
  unfold f_R_count at h
  refine g_iload_n hz 1 d_R_count_0 rfl rfl ?_
  refine g_bipush hz (v := 11) d_R_count_1 (by decide) ?_
  refine g_bipush hz (v := 16) d_R_count_3 (by decide) ?_
  refine bn_use h (fun x3 s2 e1 h => ?_)
  refine g_callSi hz (c_R_isIn l e1) m_R_isIn mi_R_isIn q_1131 ⟨Nat.le_of_ble_eq_true rfl, Nat.le_of_ble_eq_true rfl⟩ rfl (st := []) rfl (Nat.le_of_ble_eq_true rfl) d_R_count_5 ?_
  refine g_if_eq hz (tgt := 21) d_R_count_8 (by decide) (fun c4 => ?_) (fun c4 => ?_)
  · replace h := (if_pos c4).symm.trans h
    refine g_iload_n hz 1 d_R_count_21 rfl rfl ?_
    by_cases c5 : a1 = 0
    · replace h := (if_pos c5).symm.trans h
      refine g_tin hz (off := 50) (tgt := 72) d_R_count_22 c5 (by decide) (by decide) (by decide) (by decide) ?_
      refine g_aload_n hz 0 d_R_count_72 rfl rfl ?_
      refine gf_R_friends hz q_1014 d_R_count_73 ?_
      exact g_iret hz (rti h hq) d_R_count_76
    · replace h := (if_neg c5).symm.trans h
      by_cases c6 : a1 = 1
      · replace h := (if_pos c6).symm.trans h
        refine g_tin hz (off := 55) (tgt := 77) d_R_count_22 c6 (by decide) (by decide) (by decide) (by decide) ?_
        refine g_aload_n hz 0 d_R_count_77 rfl rfl ?_
        refine gf_R_gifts hz q_1015 d_R_count_78 ?_
        exact g_iret hz (rti h hq) d_R_count_81
      · replace h := (if_neg c6).symm.trans h
        by_cases c7 : a1 = 2
        · replace h := (if_pos c7).symm.trans h
          refine g_tin hz (off := 60) (tgt := 82) d_R_count_22 c7 (by decide) (by decide) (by decide) (by decide) ?_
          refine g_aload_n hz 0 d_R_count_82 rfl rfl ?_
          refine gf_R_month hz q_1016 d_R_count_83 ?_
          exact g_iret hz (rti h hq) d_R_count_86
        · replace h := (if_neg c7).symm.trans h
          by_cases c8 : a1 = 3
          · replace h := (if_pos c8).symm.trans h
            refine g_tin hz (off := 65) (tgt := 87) d_R_count_22 c8 (by decide) (by decide) (by decide) (by decide) ?_
            refine g_aload_n hz 0 d_R_count_87 rfl rfl ?_
            refine gf_R_worth hz q_1008 d_R_count_88 ?_
            refine g_aload_n hz 0 d_R_count_91 rfl rfl ?_
            refine gf_R_gifts hz q_1015 d_R_count_92 ?_
            refine bn_use h (fun x11 s10 e9 h => ?_)
            refine g_callSi hz (c_R_sum l (by decide) e9) m_R_sum mi_R_sum q_1284 ⟨Nat.le_of_ble_eq_true rfl, Nat.le_of_ble_eq_true rfl⟩ rfl (st := []) rfl (Nat.le_of_ble_eq_true rfl) d_R_count_95 ?_
            exact g_iret hz (rti h hq) d_R_count_98
          · replace h := (if_neg c8).symm.trans h
            by_cases c12 : a1 = 4
            · replace h := (if_pos c12).symm.trans h
              refine g_tin hz (off := 77) (tgt := 99) d_R_count_22 c12 (by decide) (by decide) (by decide) (by decide) ?_
              refine g_aload_n hz 0 d_R_count_99 rfl rfl ?_
              refine gf_R_size hz q_1009 d_R_count_100 ?_
              refine g_aload_n hz 0 d_R_count_103 rfl rfl ?_
              refine gf_R_gifts hz q_1015 d_R_count_104 ?_
              refine bn_use h (fun x15 s14 e13 h => ?_)
              refine g_callSi hz (c_R_sum l (by decide) e13) m_R_sum mi_R_sum q_1284 ⟨Nat.le_of_ble_eq_true rfl, Nat.le_of_ble_eq_true rfl⟩ rfl (st := []) rfl (Nat.le_of_ble_eq_true rfl) d_R_count_107 ?_
              exact g_iret hz (rti h hq) d_R_count_110
            · replace h := (if_neg c12).symm.trans h
              by_cases c16 : a1 = 5
              · replace h := (if_pos c16).symm.trans h
                refine g_tin hz (off := 89) (tgt := 111) d_R_count_22 c16 (by decide) (by decide) (by decide) (by decide) ?_
                refine g_aload_n hz 0 d_R_count_111 rfl rfl ?_
                refine gf_R_given hz q_1013 d_R_count_112 ?_
                refine g_aload_n hz 0 d_R_count_115 rfl rfl ?_
                refine gf_R_gifts hz q_1015 d_R_count_116 ?_
                refine bn_use h (fun x19 s18 e17 h => ?_)
                refine g_callSi hz (c_R_sum l (by decide) e17) m_R_sum mi_R_sum q_1284 ⟨Nat.le_of_ble_eq_true rfl, Nat.le_of_ble_eq_true rfl⟩ rfl (st := []) rfl (Nat.le_of_ble_eq_true rfl) d_R_count_119 ?_
                exact g_iret hz (rti h hq) d_R_count_122
              · replace h := (if_neg c16).symm.trans h
                by_cases c20 : a1 = 6
                · replace h := (if_pos c20).symm.trans h
                  refine g_tin hz (off := 101) (tgt := 123) d_R_count_22 c20 (by decide) (by decide) (by decide) (by decide) ?_
                  refine g_aload_n hz 0 d_R_count_123 rfl rfl ?_
                  refine gf_R_taped hz q_1023 d_R_count_124 ?_
                  exact g_iret hz (rti h hq) d_R_count_127
                · replace h := (if_neg c20).symm.trans h
                  by_cases c21 : a1 = 7
                  · replace h := (if_pos c21).symm.trans h
                    refine g_tin hz (off := 106) (tgt := 128) d_R_count_22 c21 (by decide) (by decide) (by decide) (by decide) ?_
                    refine g_aload_n hz 0 d_R_count_128 rfl rfl ?_
                    refine gf_R_rowMany hz q_1032 d_R_count_129 ?_
                    exact g_iret hz (rti h hq) d_R_count_132
                  · replace h := (if_neg c21).symm.trans h
                    by_cases c22 : a1 = 8
                    · replace h := (if_pos c22).symm.trans h
                      refine g_tin hz (off := 111) (tgt := 133) d_R_count_22 c22 (by decide) (by decide) (by decide) (by decide) ?_
                      refine g_aload_n hz 0 d_R_count_133 rfl rfl ?_
                      refine gf_R_backs hz q_1030 d_R_count_134 ?_
                      exact g_iret hz (rti h hq) d_R_count_137
                    · replace h := (if_neg c22).symm.trans h
                      refine g_tdf hz (tgt := 138) d_R_count_22 (fun i hi hx => ?_) (by decide) ?_
                      · match i, hi, hx with
                        | 0, _, hx => exact absurd hx (lv_neT c5 (by decide))
                        | 1, _, hx => exact absurd hx (lv_neT c6 (by decide))
                        | 2, _, hx => exact absurd hx (lv_neT c7 (by decide))
                        | 3, _, hx => exact absurd hx (lv_neT c8 (by decide))
                        | 4, _, hx => exact absurd hx (lv_neT c12 (by decide))
                        | 5, _, hx => exact absurd hx (lv_neT c16 (by decide))
                        | 6, _, hx => exact absurd hx (lv_neT c20 (by decide))
                        | 7, _, hx => exact absurd hx (lv_neT c21 (by decide))
                        | 8, _, hx => exact absurd hx (lv_neT c22 (by decide))
                        | q + 9, hi, _ => exact absurd hi (by omega)
                      · refine g_bipush hz (v := (-9)) d_R_count_138 (by decide) ?_
                        exact g_iret hz (rti h hq) d_R_count_140
  · replace h := (if_neg c4).symm.trans h
    refine g_aload_n hz 0 d_R_count_11 rfl rfl ?_
    refine gf_R_refused hz q_1003 d_R_count_12 ?_
    refine g_iload_n hz 1 d_R_count_15 rfl rfl ?_
    refine g_bipush hz (v := 10) d_R_count_16 (by decide) ?_
    refine g_isub hz d_R_count_18 ?_
    obtain ⟨n23, h⟩ := gd_use h
    refine g_iald hz (by decide) n23 d_R_count_19 ?_
    exact g_iret hz (rti h hq) d_R_count_20
