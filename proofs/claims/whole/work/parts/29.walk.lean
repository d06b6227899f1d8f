def k_R_bits_4 : Nat → Int32 → Int32 → Int32 → Mm → Option (Int32 × Mm)
  | 0, _, _, _, _ => none
  | n + 1, v0, v1, v2, s => if 31 ≤ v2 then
      some (v1, s)
    else
      nm (v1 + ((v0 >>> (v2 &&& 31)) &&& 1)) fun x2 =>
      k_R_bits_4 n v0 x2 (v2 + 1) s
set_option maxRecDepth 20000 in
theorem w_R_bits_4 {l : Launch} {z : Zt} (hz : ZOk z b_R_bits 3 "PassedOnAndBetterModel" 0 0) {r' : Int32} {s' : Mm} (hq : ZR z (some .int) s' (some (.int r'))) : ∀ (n : Nat) (v0 : Int32) (v1 : Int32) (v2 : Int32) (s : Mm), k_R_bits_4 n v0 v1 v2 s = some (r', s') → G l z b_R_bits 3 4 [(0, .int v0), (1, .int v1), (2, .int v2)] [] s := by
  intro n
  induction n with
  | zero => intro v0 v1 v2 s h; unfold k_R_bits_4 at h; cases h
  | succ n ih =>
    intro v0 v1 v2 s h
    unfold k_R_bits_4 at h
    refine g_iload_n hz 2 d_R_bits_4 rfl rfl ?_
    refine g_bipush hz (v := 31) d_R_bits_5 (by decide) ?_
    refine g_icmp_ge hz (tgt := 24) d_R_bits_7 (by decide) (fun c1 => ?_) (fun c1 => ?_)
    · replace h := (if_pos c1).symm.trans h
      refine g_iload_n hz 1 d_R_bits_24 rfl rfl ?_
      exact g_iret hz (rti h hq) d_R_bits_25
    · replace h := (if_neg c1).symm.trans h
      refine g_iload_n hz 1 d_R_bits_10 rfl rfl ?_
      refine g_iload_n hz 0 d_R_bits_11 rfl rfl ?_
      refine g_iload_n hz 2 d_R_bits_12 rfl rfl ?_
      refine g_ishr hz d_R_bits_13 ?_
      refine g_iconst hz d_R_bits_14 ki_1 ?_
      refine g_iand hz d_R_bits_15 ?_
      refine g_iadd hz d_R_bits_16 ?_
      refine g_nmi (fun x2 e3 => ?_)
      replace h := nm_use h e3
      refine g_istore_n hz (L' := [(1, .int x2), (0, .int v0), (2, .int v2)]) d_R_bits_17 rfl (by decide) rfl ?_
      refine g_iinc hz (v := v2 + 1) (L' := [(2, .int (v2 + 1)), (1, .int x2), (0, .int v0)]) 2 d_R_bits_18 rfl (congrArg (fun q => v2 + q) ki_1) (by decide) rfl ?_
      refine g_goto hz (tgt := 4) d_R_bits_21 (by decide) ?_
      refine g_sub [2, 1, 0] rfl ?_
      exact ih v0 x2 (v2 + 1) _ h
def f_R_bits (s : Mm) (a0 : Int32) : Option (Int32 × Mm) :=
  k_R_bits_4 KF a0 0 0 s
set_option maxRecDepth 20000 in
theorem c_R_bits (l : Launch) {s : Mm} {a0 : Int32} {r' : Int32} {s' : Mm}  (h : f_R_bits s a0 = some (r', s')) : Cm l y_R_bits b_R_bits 3 (some .int) 0 0 [.int a0] s s' (some (.int r')) := by
  refine Cm.of (own := "PassedOnAndBetterModel") (by decide) rfl (fun ad => Nat.le_of_ble_eq_true rfl) ?_
  intro z hz hq
  show G l z b_R_bits 3 0 [(0, .int a0)] [] s
  unfold f_R_bits at h
  refine g_iconst hz d_R_bits_0 ki_0 ?_
  refine g_istore_n hz (L' := [(1, .int 0), (0, .int a0)]) d_R_bits_1 rfl (by decide) rfl ?_
  refine g_iconst hz d_R_bits_2 ki_0 ?_
  refine g_istore_n hz (L' := [(2, .int 0), (1, .int 0), (0, .int a0)]) d_R_bits_3 rfl (by decide) rfl ?_
  refine g_sub [2, 1, 0] rfl ?_
  exact w_R_bits_4 hz hq KF a0 0 0 _ h
def k_R_comesWide_7 : Nat → Int32 → Int32 → Int32 → Int32 → Int32 → Mm → Option (Int32 × Mm)
  | 0, _, _, _, _, _, _ => none
  | n + 1, v1, v2, v3, v4, v5, s => if (s 176 11) ≤ v5 then
      bn (f_R_comesAt s v1 v2 v3) fun x6 s5 =>
      if x6 < 0 then
        bv (f_R_changesBack s5) fun s9 =>
        some (0, s9)
      else
        bv (f_R_changesBack s5) fun s11 =>
        some (1, s11)
    else
      bn (f_R_has s v4 v5) fun x14 s13 =>
      if x14 = 0 then
        gd v5 6 <|
        gd v5 6 <|
        nm (mU s13 180 v5.toNatClampNeg (s13 180 v5.toNatClampNeg)) fun s18 =>
        k_R_comesWide_7 n v1 v2 v3 v4 (v5 + 1) s18
      else
        gd v5 6 <|
        nm (mU s13 180 v5.toNatClampNeg 99) fun s21 =>
        k_R_comesWide_7 n v1 v2 v3 v4 (v5 + 1) s21
set_option maxRecDepth 20000 in
theorem w_R_comesWide_7 {l : Launch} {z : Zt} (hz : ZOk z b_R_comesWide 6 "PassedOnAndBetterModel" 6 136) {r' : Int32} {s' : Mm} (hq : ZR z (some .boolean) s' (some (.int r'))) : ∀ (n : Nat) (v1 : Int32) (v2 : Int32) (v3 : Int32) (v4 : Int32) (v5 : Int32) (s : Mm), k_R_comesWide_7 n v1 v2 v3 v4 v5 s = some (r', s') → G l z b_R_comesWide 6 7 [(0, .ref 176), (1, .int v1), (2, .int v2), (3, .int v3), (4, .int v4), (5, .int v5)] [] s := by
  intro n
  induction n with
  | zero => intro v1 v2 v3 v4 v5 s h; unfold k_R_comesWide_7 at h; cases h
  | succ n ih =>
    intro v1 v2 v3 v4 v5 s h
    unfold k_R_comesWide_7 at h
    refine g_iload hz 5 d_R_comesWide_7 rfl ?_
    refine g_aload_n hz 0 d_R_comesWide_9 rfl rfl ?_
    refine gf_R_friends hz q_1014 d_R_comesWide_10 ?_
    refine g_icmp_ge hz (tgt := 51) d_R_comesWide_13 (by decide) (fun c3 => ?_) (fun c3 => ?_)
    · replace h := (if_pos c3).symm.trans h
      refine g_aload_n hz 0 d_R_comesWide_51 rfl rfl ?_
      refine g_iload_n hz 1 d_R_comesWide_52 rfl rfl ?_
      refine g_iload_n hz 2 d_R_comesWide_53 rfl rfl ?_
      refine g_iload_n hz 3 d_R_comesWide_54 rfl rfl ?_
      refine bn_use h (fun x6 s5 e4 h => ?_)
      refine g_callVi hz (c_R_comesAt l e4) (by decide) rc_R rfl rfl m_R_comesAt mi_R_comesAt ms_R_comesAt q_1318 ⟨Nat.le_of_ble_eq_true rfl, Nat.le_of_ble_eq_true rfl⟩ rfl (st := []) rfl (Nat.le_of_ble_eq_true rfl) d_R_comesWide_55 ?_
      refine g_if_lt hz (tgt := 65) d_R_comesWide_58 (by decide) (fun c7 => ?_) (fun c7 => ?_)
      · replace h := (if_pos c7).symm.trans h
        refine g_iconst hz d_R_comesWide_65 ki_0 ?_
        refine g_istore hz (L' := [(5, .int 0), (0, .ref 176), (1, .int v1), (2, .int v2), (3, .int v3), (4, .int v4)]) d_R_comesWide_66 (by decide) rfl ?_
        refine g_aload_n hz 1 d_R_comesWide_68 rfl rfl ?_
        refine bv_use h (fun s9 e8 h => ?_)
        refine g_callVv hz (c_R_changesBack l e8) (by decide) rc_R rfl rfl m_R_changesBack mi_R_changesBack ms_R_changesBack q_1346 ⟨Nat.le_of_ble_eq_true rfl, Nat.le_of_ble_eq_true rfl⟩ rfl (st := []) rfl (Nat.le_of_ble_eq_true rfl) d_R_comesWide_69 ?_
        refine g_iload hz 0 d_R_comesWide_72 rfl ?_
        exact g_zret hz (rti h hq) (Or.inl rfl) d_R_comesWide_74
      · replace h := (if_neg c7).symm.trans h
        refine g_iconst hz d_R_comesWide_61 ki_1 ?_
        refine g_goto hz (tgt := 66) d_R_comesWide_62 (by decide) ?_
        refine g_istore hz (L' := [(5, .int 1), (0, .ref 176), (1, .int v1), (2, .int v2), (3, .int v3), (4, .int v4)]) d_R_comesWide_66 (by decide) rfl ?_
        refine g_aload_n hz 1 d_R_comesWide_68 rfl rfl ?_
        refine bv_use h (fun s11 e10 h => ?_)
        refine g_callVv hz (c_R_changesBack l e10) (by decide) rc_R rfl rfl m_R_changesBack mi_R_changesBack ms_R_changesBack q_1346 ⟨Nat.le_of_ble_eq_true rfl, Nat.le_of_ble_eq_true rfl⟩ rfl (st := []) rfl (Nat.le_of_ble_eq_true rfl) d_R_comesWide_69 ?_
        refine g_iload hz 0 d_R_comesWide_72 rfl ?_
        exact g_zret hz (rti h hq) (Or.inr rfl) d_R_comesWide_74
    · replace h := (if_neg c3).symm.trans h
      refine g_aload_n hz 0 d_R_comesWide_16 rfl rfl ?_
      refine gf_R_door hz q_1006 d_R_comesWide_17 ?_
      refine g_iload hz 5 d_R_comesWide_20 rfl ?_
      refine g_iload hz 4 d_R_comesWide_22 rfl ?_
      refine g_iload hz 5 d_R_comesWide_24 rfl ?_
      refine bn_use h (fun x14 s13 e12 h => ?_)
      refine g_callSi hz (c_R_has l e12) m_R_has mi_R_has q_1221 ⟨Nat.le_of_ble_eq_true rfl, Nat.le_of_ble_eq_true rfl⟩ rfl (st := [.int v5, .ref 180]) rfl (Nat.le_of_ble_eq_true rfl) d_R_comesWide_26 ?_
      refine g_if_eq hz (tgt := 37) d_R_comesWide_29 (by decide) (fun c15 => ?_) (fun c15 => ?_)
      · replace h := (if_pos c15).symm.trans h
        refine g_aload_n hz 0 d_R_comesWide_37 rfl rfl ?_
        refine gf_R_door hz q_1006 d_R_comesWide_38 ?_
        refine g_iload hz 5 d_R_comesWide_41 rfl ?_
        obtain ⟨n16, h⟩ := gd_use h
        refine g_iald hz (by decide) n16 d_R_comesWide_43 ?_
        obtain ⟨n17, h⟩ := gd_use h
        refine g_iast hz (by decide) n17 d_R_comesWide_44 (fun s18 e19 => ?_)
        replace h := nm_use h e19
        refine g_iinc hz (v := v5 + 1) (L' := [(5, .int (v5 + 1)), (0, .ref 176), (1, .int v1), (2, .int v2), (3, .int v3), (4, .int v4)]) 5 d_R_comesWide_45 rfl (congrArg (fun q => v5 + q) ki_1) (by decide) rfl ?_
        refine g_goto hz (tgt := 7) d_R_comesWide_48 (by decide) ?_
        refine g_sub [1, 2, 3, 4, 5, 0] rfl ?_
        exact ih v1 v2 v3 v4 (v5 + 1) _ h
      · replace h := (if_neg c15).symm.trans h
        refine g_bipush hz (v := 99) d_R_comesWide_32 (by decide) ?_
        refine g_goto hz (tgt := 44) d_R_comesWide_34 (by decide) ?_
        obtain ⟨n20, h⟩ := gd_use h
        refine g_iast hz (by decide) n20 d_R_comesWide_44 (fun s21 e22 => ?_)
        replace h := nm_use h e22
        refine g_iinc hz (v := v5 + 1) (L' := [(5, .int (v5 + 1)), (0, .ref 176), (1, .int v1), (2, .int v2), (3, .int v3), (4, .int v4)]) 5 d_R_comesWide_45 rfl (congrArg (fun q => v5 + q) ki_1) (by decide) rfl ?_
        refine g_goto hz (tgt := 7) d_R_comesWide_48 (by decide) ?_
        refine g_sub [1, 2, 3, 4, 5, 0] rfl ?_
        exact ih v1 v2 v3 v4 (v5 + 1) _ h
def f_R_comesWide (s : Mm) (a1 : Int32) (a2 : Int32) (a3 : Int32) (a4 : Int32) : Option (Int32 × Mm) :=
  bv (f_R_changes s) fun s2 =>
  k_R_comesWide_7 KF a1 a2 a3 a4 0 s2
set_option maxRecDepth 20000 in
theorem c_R_comesWide (l : Launch) {s : Mm} {a1 : Int32} {a2 : Int32} {a3 : Int32} {a4 : Int32} {r' : Int32} {s' : Mm}  (h : f_R_comesWide s a1 a2 a3 a4 = some (r', s')) : Cm l y_R_comesWide b_R_comesWide 6 (some .boolean) 6 136 [.ref 176, .int a1, .int a2, .int a3, .int a4] s s' (some (.int r')) := by
  refine Cm.of (own := "PassedOnAndBetterModel") (by decide) rfl (fun ad => Nat.le_of_ble_eq_true rfl) ?_
  intro z hz hq
  show G l z b_R_comesWide 6 0 [(0, .ref 176), (1, .int a1), (2, .int a2), (3, .int a3), (4, .int a4)] [] s
  unfold f_R_comesWide at h
  refine g_aload_n hz 0 d_R_comesWide_0 rfl rfl ?_
  refine bv_use h (fun s2 e1 h => ?_)
  refine g_callVv hz (c_R_changes l e1) (by decide) rc_R rfl rfl m_R_changes mi_R_changes ms_R_changes q_1338 ⟨Nat.le_of_ble_eq_true rfl, Nat.le_of_ble_eq_true rfl⟩ rfl (st := []) rfl (Nat.le_of_ble_eq_true rfl) d_R_comesWide_1 ?_
  refine g_iconst hz d_R_comesWide_4 ki_0 ?_
  refine g_istore hz (L' := [(5, .int 0), (0, .ref 176), (1, .int a1), (2, .int a2), (3, .int a3), (4, .int a4)]) d_R_comesWide_5 (by decide) rfl ?_
  refine g_sub [1, 2, 3, 4, 5, 0] rfl ?_
  exact w_R_comesWide_7 hz hq KF a1 a2 a3 a4 0 _ h
def k_R_doorsFor_77 (kc45 : (Int32 → Int32 → Int32 → Int32 → Int32 → Mm → Option (Int32 × Mm))) (v1 : Int32) (v2 : Int32) (v3 : Int32) (v5 : Int32) (v6 : Int32) (s : Mm) : Option (Int32 × Mm) :=
  bn (f_R_comesWide s v1 v2 v3 v6) fun x10 s9 =>
  if x10 = 0 then
    kc45 v1 v2 v3 v5 (v6 + 1) s9
  else
    kc45 v1 v2 v3 v6 (v6 + 1) s9
set_option maxRecDepth 20000 in
theorem w_R_doorsFor_77 {l : Launch} {z : Zt} (hz : ZOk z b_R_doorsFor 7 "PassedOnAndBetterModel" 7 161) {r' : Int32} {s' : Mm} (hq : ZR z (some .int) s' (some (.int r'))) {kc45 : (Int32 → Int32 → Int32 → Int32 → Int32 → Mm → Option (Int32 × Mm))} (hk45 : (∀ (v1 : Int32) (v2 : Int32) (v3 : Int32) (v5 : Int32) (v6 : Int32) (s : Mm), kc45 v1 v2 v3 v5 v6 s = some (r', s') → G l z b_R_doorsFor 7 45 [(0, .ref 176), (1, .int v1), (2, .int v2), (3, .int v3), (5, .int v5), (6, .int v6)] [] s)) (v1 : Int32) (v2 : Int32) (v3 : Int32) (v5 : Int32) (v6 : Int32) (s : Mm) (h : k_R_doorsFor_77 kc45 v1 v2 v3 v5 v6 s = some (r', s')) : G l z b_R_doorsFor 7 77 [(0, .ref 176), (1, .int v1), (2, .int v2), (3, .int v3), (5, .int v5), (6, .int v6)] [] s := by
  unfold k_R_doorsFor_77 at h
  refine g_aload_n hz 0 d_R_doorsFor_77 rfl rfl ?_
  refine g_iload_n hz 1 d_R_doorsFor_78 rfl rfl ?_
  refine g_iload_n hz 2 d_R_doorsFor_79 rfl rfl ?_
  refine g_iload_n hz 3 d_R_doorsFor_80 rfl rfl ?_
  refine g_iload hz 5 d_R_doorsFor_81 rfl ?_
  refine bn_use h (fun x10 s9 e8 h => ?_)
  refine g_callVi hz (c_R_comesWide l e8) (by decide) rc_R rfl rfl m_R_comesWide mi_R_comesWide ms_R_comesWide q_1365 ⟨Nat.le_of_ble_eq_true rfl, Nat.le_of_ble_eq_true rfl⟩ rfl (st := []) rfl (Nat.le_of_ble_eq_true rfl) d_R_doorsFor_83 ?_
  refine g_if_eq hz (tgt := 93) d_R_doorsFor_86 (by decide) (fun c11 => ?_) (fun c11 => ?_)
  · replace h := (if_pos c11).symm.trans h
    refine g_iinc hz (v := v6 + 1) (L' := [(6, .int (v6 + 1)), (0, .ref 176), (1, .int v1), (2, .int v2), (3, .int v3), (5, .int v5)]) 5 d_R_doorsFor_93 rfl (congrArg (fun q => v6 + q) ki_1) (by decide) rfl ?_
    refine g_goto hz (tgt := 45) d_R_doorsFor_96 (by decide) ?_
    refine g_sub [1, 2, 3, 4, 5, 0] rfl ?_
    exact hk45 v1 v2 v3 v5 (v6 + 1) _ h
  · replace h := (if_neg c11).symm.trans h
    refine g_iload hz 5 d_R_doorsFor_89 rfl ?_
    refine g_istore hz (L' := [(5, .int v6), (0, .ref 176), (1, .int v1), (2, .int v2), (3, .int v3), (6, .int v6)]) d_R_doorsFor_91 (by decide) rfl ?_
    refine g_iinc hz (v := v6 + 1) (L' := [(6, .int (v6 + 1)), (5, .int v6), (0, .ref 176), (1, .int v1), (2, .int v2), (3, .int v3)]) 5 d_R_doorsFor_93 rfl (congrArg (fun q => v6 + q) ki_1) (by decide) rfl ?_
    refine g_goto hz (tgt := 45) d_R_doorsFor_96 (by decide) ?_
    refine g_sub [2, 3, 4, 5, 1, 0] rfl ?_
    exact hk45 v1 v2 v3 v6 (v6 + 1) _ h
def k_R_doorsFor_45 : Nat → Int32 → Int32 → Int32 → Int32 → Int32 → Mm → Option (Int32 × Mm)
  | 0, _, _, _, _, _, _ => none
  | n + 1, v1, v2, v3, v5, v6, s => if (1 <<< ((s 176 11) &&& 31)) ≤ v6 then
      some (v5, s)
    else
      if v5 < 0 then
        k_R_doorsFor_77 (fun v1 v2 v3 v5 v6 s => k_R_doorsFor_45 n v1 v2 v3 v5 v6 s) v1 v2 v3 v5 v6 s
      else
        bn (f_R_bits s v6) fun x14 s13 =>
        bn (f_R_bits s13 v5) fun x17 s16 =>
        if x14 < x17 then
          k_R_doorsFor_77 (fun v1 v2 v3 v5 v6 s => k_R_doorsFor_45 n v1 v2 v3 v5 v6 s) v1 v2 v3 v5 v6 s16
        else
          k_R_doorsFor_45 n v1 v2 v3 v5 (v6 + 1) s16
set_option maxRecDepth 20000 in
theorem w_R_doorsFor_45 {l : Launch} {z : Zt} (hz : ZOk z b_R_doorsFor 7 "PassedOnAndBetterModel" 7 161) {r' : Int32} {s' : Mm} (hq : ZR z (some .int) s' (some (.int r'))) : ∀ (n : Nat) (v1 : Int32) (v2 : Int32) (v3 : Int32) (v5 : Int32) (v6 : Int32) (s : Mm), k_R_doorsFor_45 n v1 v2 v3 v5 v6 s = some (r', s') → G l z b_R_doorsFor 7 45 [(0, .ref 176), (1, .int v1), (2, .int v2), (3, .int v3), (5, .int v5), (6, .int v6)] [] s := by
  intro n
  induction n with
  | zero => intro v1 v2 v3 v5 v6 s h; unfold k_R_doorsFor_45 at h; cases h
  | succ n ih =>
    intro v1 v2 v3 v5 v6 s h
    unfold k_R_doorsFor_45 at h
    refine g_iload hz 5 d_R_doorsFor_45 rfl ?_
    refine g_iconst hz d_R_doorsFor_47 ki_1 ?_
    refine g_aload_n hz 0 d_R_doorsFor_48 rfl rfl ?_
    refine gf_R_friends hz q_1014 d_R_doorsFor_49 ?_
    refine g_ishl hz d_R_doorsFor_52 ?_
    refine g_icmp_ge hz (tgt := 99) d_R_doorsFor_53 (by decide) (fun c6 => ?_) (fun c6 => ?_)
    · replace h := (if_pos c6).symm.trans h
      refine g_iload hz 4 d_R_doorsFor_99 rfl ?_
      exact g_iret hz (rti h hq) d_R_doorsFor_101
    · replace h := (if_neg c6).symm.trans h
      refine g_iload hz 4 d_R_doorsFor_56 rfl ?_
      refine g_if_lt hz (tgt := 77) d_R_doorsFor_58 (by decide) (fun c7 => ?_) (fun c7 => ?_)
      · replace h := (if_pos c7).symm.trans h
        exact w_R_doorsFor_77 hz hq ih v1 v2 v3 v5 v6 _ h
      · replace h := (if_neg c7).symm.trans h
        refine g_iload hz 5 d_R_doorsFor_61 rfl ?_
        refine bn_use h (fun x14 s13 e12 h => ?_)
        refine g_callSi hz (c_R_bits l e12) m_R_bits mi_R_bits q_1362 ⟨Nat.le_of_ble_eq_true rfl, Nat.le_of_ble_eq_true rfl⟩ rfl (st := []) rfl (Nat.le_of_ble_eq_true rfl) d_R_doorsFor_63 ?_
        refine g_iload hz 4 d_R_doorsFor_66 rfl ?_
        refine bn_use h (fun x17 s16 e15 h => ?_)
        refine g_callSi hz (c_R_bits l e15) m_R_bits mi_R_bits q_1362 ⟨Nat.le_of_ble_eq_true rfl, Nat.le_of_ble_eq_true rfl⟩ rfl (st := [.int x14]) rfl (Nat.le_of_ble_eq_true rfl) d_R_doorsFor_68 ?_
        refine g_icmp_lt hz (tgt := 77) d_R_doorsFor_71 (by decide) (fun c18 => ?_) (fun c18 => ?_)
        · replace h := (if_pos c18).symm.trans h
          exact w_R_doorsFor_77 hz hq ih v1 v2 v3 v5 v6 _ h
        · replace h := (if_neg c18).symm.trans h
          refine g_goto hz (tgt := 93) d_R_doorsFor_74 (by decide) ?_
          refine g_iinc hz (v := v6 + 1) (L' := [(6, .int (v6 + 1)), (0, .ref 176), (1, .int v1), (2, .int v2), (3, .int v3), (5, .int v5)]) 5 d_R_doorsFor_93 rfl (congrArg (fun q => v6 + q) ki_1) (by decide) rfl ?_
          refine g_goto hz (tgt := 45) d_R_doorsFor_96 (by decide) ?_
          refine g_sub [1, 2, 3, 4, 5, 0] rfl ?_
          exact ih v1 v2 v3 v5 (v6 + 1) _ h
def k_R_doorsFor_24 (v1 : Int32) (v2 : Int32) (v3 : Int32) (vt0 : Int32) (s : Mm) : Option (Int32 × Mm) :=
  if vt0 = 0 then
    k_R_doorsFor_45 KF v1 v2 v3 (-9) 0 s
  else
    bn (f_R_no s vt0) fun x21 s20 =>
    some (x21, s20)
set_option maxRecDepth 20000 in
theorem w_R_doorsFor_24 {l : Launch} {z : Zt} (hz : ZOk z b_R_doorsFor 7 "PassedOnAndBetterModel" 7 161) {r' : Int32} {s' : Mm} (hq : ZR z (some .int) s' (some (.int r'))) (v1 : Int32) (v2 : Int32) (v3 : Int32) (vt0 : Int32) (s : Mm) (h : k_R_doorsFor_24 v1 v2 v3 vt0 s = some (r', s')) : G l z b_R_doorsFor 7 24 [(0, .ref 176), (1, .int v1), (2, .int v2), (3, .int v3)] [.int vt0] s := by
  unfold k_R_doorsFor_24 at h
  refine g_istore hz (L' := [(4, .int vt0), (0, .ref 176), (1, .int v1), (2, .int v2), (3, .int v3)]) d_R_doorsFor_24 (by decide) rfl ?_
  refine g_iload hz 0 d_R_doorsFor_26 rfl ?_
  refine g_if_eq hz (tgt := 38) d_R_doorsFor_28 (by decide) (fun c5 => ?_) (fun c5 => ?_)
  · replace h := (if_pos c5).symm.trans h
    refine g_bipush hz (v := (-9)) d_R_doorsFor_38 (by decide) ?_
    refine g_istore hz (L' := [(5, .int (-9)), (4, .int vt0), (0, .ref 176), (1, .int v1), (2, .int v2), (3, .int v3)]) d_R_doorsFor_40 (by decide) rfl ?_
    refine g_iconst hz d_R_doorsFor_42 ki_0 ?_
    refine g_istore hz (L' := [(6, .int 0), (5, .int (-9)), (4, .int vt0), (0, .ref 176), (1, .int v1), (2, .int v2), (3, .int v3)]) d_R_doorsFor_43 (by decide) rfl ?_
    refine g_sub [3, 4, 5, 6, 1, 0] rfl ?_
    exact w_R_doorsFor_45 hz hq KF v1 v2 v3 (-9) 0 _ h
  · replace h := (if_neg c5).symm.trans h
    refine g_aload_n hz 1 d_R_doorsFor_31 rfl rfl ?_
    refine g_iload hz 0 d_R_doorsFor_32 rfl ?_
    refine bn_use h (fun x21 s20 e19 h => ?_)
    refine g_callVi hz (c_R_no l e19) (by decide) rc_R rfl rfl m_R_no mi_R_no ms_R_no q_1107 ⟨Nat.le_of_ble_eq_true rfl, Nat.le_of_ble_eq_true rfl⟩ rfl (st := []) rfl (Nat.le_of_ble_eq_true rfl) d_R_doorsFor_34 ?_
    exact g_iret hz (rti h hq) d_R_doorsFor_37
def f_R_doorsFor (s : Mm) (a1 : Int32) (a2 : Int32) (a3 : Int32) : Option (Int32 × Mm) :=
  bn (f_R_isGift s a1) fun x3 s2 =>
  if x3 = 0 then
    k_R_doorsFor_24 a1 a2 a3 (-1) s2
  else
    bn (f_R_isFriend s2 a2) fun x24 s23 =>
    if x24 = 0 then
      k_R_doorsFor_24 a1 a2 a3 (-1) s23
    else
      bn (f_R_notMonths s23 a3) fun x28 s27 =>
      k_R_doorsFor_24 a1 a2 a3 x28 s27
set_option maxRecDepth 20000 in
theorem c_R_doorsFor (l : Launch) {s : Mm} {a1 : Int32} {a2 : Int32} {a3 : Int32} {r' : Int32} {s' : Mm}  (h : f_R_doorsFor s a1 a2 a3 = some (r', s')) : Cm l y_R_doorsFor b_R_doorsFor 7 (some .int) 7 161 [.ref 176, .int a1, .int a2, .int a3] s s' (some (.int r')) := by
  refine Cm.of (own := "PassedOnAndBetterModel") (by decide) rfl (fun ad => Nat.le_of_ble_eq_true rfl) ?_
  intro z hz hq
  show G l z b_R_doorsFor 7 0 [(0, .ref 176), (1, .int a1), (2, .int a2), (3, .int a3)] [] s
  unfold f_R_doorsFor at h
  refine g_aload_n hz 0 d_R_doorsFor_0 rfl rfl ?_
  refine g_iload_n hz 1 d_R_doorsFor_1 rfl rfl ?_
  refine bn_use h (fun x3 s2 e1 h => ?_)
  refine g_callVi hz (c_R_isGift l e1) (by decide) rc_R rfl rfl m_R_isGift mi_R_isGift ms_R_isGift q_1186 ⟨Nat.le_of_ble_eq_true rfl, Nat.le_of_ble_eq_true rfl⟩ rfl (st := []) rfl (Nat.le_of_ble_eq_true rfl) d_R_doorsFor_2 ?_
  refine g_if_eq hz (tgt := 16) d_R_doorsFor_5 (by decide) (fun c4 => ?_) (fun c4 => ?_)
  · replace h := (if_pos c4).symm.trans h
    refine g_iconst hz d_R_doorsFor_16 ki_m1 ?_
    refine g_goto hz (tgt := 24) d_R_doorsFor_17 (by decide) ?_
    exact w_R_doorsFor_24 hz hq a1 a2 a3 (-1) _ h
  · replace h := (if_neg c4).symm.trans h
    refine g_aload_n hz 0 d_R_doorsFor_8 rfl rfl ?_
    refine g_iload_n hz 2 d_R_doorsFor_9 rfl rfl ?_
    refine bn_use h (fun x24 s23 e22 h => ?_)
    refine g_callVi hz (c_R_isFriend l e22) (by decide) rc_R rfl rfl m_R_isFriend mi_R_isFriend ms_R_isFriend q_1162 ⟨Nat.le_of_ble_eq_true rfl, Nat.le_of_ble_eq_true rfl⟩ rfl (st := []) rfl (Nat.le_of_ble_eq_true rfl) d_R_doorsFor_10 ?_
    refine g_if_ne hz (tgt := 20) d_R_doorsFor_13 (by decide) (fun c25 => ?_) (fun c25 => ?_)
    · replace h := (if_neg c25).symm.trans h
      refine g_iload_n hz 3 d_R_doorsFor_20 rfl rfl ?_
      refine bn_use h (fun x28 s27 e26 h => ?_)
      refine g_callSi hz (c_R_notMonths l e26) m_R_notMonths mi_R_notMonths q_1291 ⟨Nat.le_of_ble_eq_true rfl, Nat.le_of_ble_eq_true rfl⟩ rfl (st := []) rfl (Nat.le_of_ble_eq_true rfl) d_R_doorsFor_21 ?_
      exact w_R_doorsFor_24 hz hq a1 a2 a3 x28 _ h
    · replace h := (if_pos c25).symm.trans h
      refine g_iconst hz d_R_doorsFor_16 ki_m1 ?_
      refine g_goto hz (tgt := 24) d_R_doorsFor_17 (by decide) ?_
      exact w_R_doorsFor_24 hz hq a1 a2 a3 (-1) _ h
def f_R_handsIn (s : Mm) (a1 : Int32) : Option (Int32 × Mm) :=
  bv (f_R_thinks s) fun s2 =>
  bv (f_R_goes s2 a1) fun s4 =>
  bn (f_R_sum s4 187 (s4 176 12)) fun x7 s6 =>
  bv (f_R_forgets s6) fun s9 =>
  some (x7, s9)
set_option maxRecDepth 20000 in
theorem c_R_handsIn (l : Launch) {s : Mm} {a1 : Int32} {r' : Int32} {s' : Mm}  (h : f_R_handsIn s a1 = some (r', s')) : Cm l y_R_handsIn b_R_handsIn 3 (some .int) 6 133 [.ref 176, .int a1] s s' (some (.int r')) := by
  refine Cm.of (own := "PassedOnAndBetterModel") (by decide) rfl (fun ad => Nat.le_of_ble_eq_true rfl) ?_
  intro z hz hq
  show G l z b_R_handsIn 3 0 [(0, .ref 176), (1, .int a1)] [] s
  unfold f_R_handsIn at h
  refine g_aload_n hz 0 d_R_handsIn_0 rfl rfl ?_
  refine bv_use h (fun s2 e1 h => ?_)
  refine g_callVv hz (c_R_thinks l e1) (by decide) rc_R rfl rfl m_R_thinks mi_R_thinks ms_R_thinks q_1294 ⟨Nat.le_of_ble_eq_true rfl, Nat.le_of_ble_eq_true rfl⟩ rfl (st := []) rfl (Nat.le_of_ble_eq_true rfl) d_R_handsIn_1 ?_
  refine g_aload_n hz 0 d_R_handsIn_4 rfl rfl ?_
  refine g_iload_n hz 1 d_R_handsIn_5 rfl rfl ?_
  refine bv_use h (fun s4 e3 h => ?_)
  refine g_callVv hz (c_R_goes l e3) (by decide) rc_R rfl rfl m_R_goes mi_R_goes ms_R_goes q_1194 ⟨Nat.le_of_ble_eq_true rfl, Nat.le_of_ble_eq_true rfl⟩ rfl (st := []) rfl (Nat.le_of_ble_eq_true rfl) d_R_handsIn_6 ?_
  refine g_aload_n hz 0 d_R_handsIn_9 rfl rfl ?_
  refine gf_R_given hz q_1013 d_R_handsIn_10 ?_
  refine g_aload_n hz 0 d_R_handsIn_13 rfl rfl ?_
  refine gf_R_gifts hz q_1015 d_R_handsIn_14 ?_
  refine bn_use h (fun x7 s6 e5 h => ?_)
  refine g_callSi hz (c_R_sum l (by decide) e5) m_R_sum mi_R_sum q_1284 ⟨Nat.le_of_ble_eq_true rfl, Nat.le_of_ble_eq_true rfl⟩ rfl (st := []) rfl (Nat.le_of_ble_eq_true rfl) d_R_handsIn_17 ?_
  refine g_istore_n hz (L' := [(2, .int x7), (0, .ref 176), (1, .int a1)]) d_R_handsIn_20 rfl (by decide) rfl ?_
  refine g_aload_n hz 1 d_R_handsIn_21 rfl rfl ?_
  refine bv_use h (fun s9 e8 h => ?_)
  refine g_callVv hz (c_R_forgets l e8) (by decide) rc_R rfl rfl m_R_forgets mi_R_forgets ms_R_forgets q_1298 ⟨Nat.le_of_ble_eq_true rfl, Nat.le_of_ble_eq_true rfl⟩ rfl (st := []) rfl (Nat.le_of_ble_eq_true rfl) d_R_handsIn_22 ?_
  refine g_iload_n hz 0 d_R_handsIn_25 rfl rfl ?_
  exact g_iret hz (rti h hq) d_R_handsIn_26
def k_R_doorWanted_67 : Nat → Int32 → Int32 → Int32 → Int32 → Int32 → Int32 → Int32 → Mm → Option (Int32 × Mm)
  | 0, _, _, _, _, _, _, _, _ => none
  | n + 1, v1, v2, v3, v5, v6, v7, v8, s => if 99 < v8 then
      gd v1 6 <|
      nm (mU s 180 v1.toNatClampNeg v5) fun s15 =>
      if v3 = 0 then
        some (v6, s15)
      else
        some (v7, s15)
    else
      gd v1 6 <|
      nm (mU s 180 v1.toNatClampNeg v8) fun s19 =>
      bn (f_R_handsIn s19 v2) fun x23 s22 =>
      if v7 < x23 then
        k_R_doorWanted_67 n v1 v2 v3 v5 v8 x23 (v8 + 1) s22
      else
        k_R_doorWanted_67 n v1 v2 v3 v5 v6 v7 (v8 + 1) s22
set_option maxRecDepth 20000 in
theorem w_R_doorWanted_67 {l : Launch} {z : Zt} (hz : ZOk z b_R_doorWanted 10 "PassedOnAndBetterModel" 7 155) {r' : Int32} {s' : Mm} (hq : ZR z (some .int) s' (some (.int r'))) : ∀ (n : Nat) (v1 : Int32) (v2 : Int32) (v3 : Int32) (v5 : Int32) (v6 : Int32) (v7 : Int32) (v8 : Int32) (s : Mm), k_R_doorWanted_67 n v1 v2 v3 v5 v6 v7 v8 s = some (r', s') → G l z b_R_doorWanted 10 67 [(0, .ref 176), (1, .int v1), (2, .int v2), (3, .int v3), (5, .int v5), (6, .int v6), (7, .int v7), (8, .int v8)] [] s := by
  intro n
  induction n with
  | zero => intro v1 v2 v3 v5 v6 v7 v8 s h; unfold k_R_doorWanted_67 at h; cases h
  | succ n ih =>
    intro v1 v2 v3 v5 v6 v7 v8 s h
    unfold k_R_doorWanted_67 at h
    refine g_iload hz 7 d_R_doorWanted_67 rfl ?_
    refine g_bipush hz (v := 99) d_R_doorWanted_69 (by decide) ?_
    refine g_icmp_gt hz (tgt := 113) d_R_doorWanted_71 (by decide) (fun c13 => ?_) (fun c13 => ?_)
    · replace h := (if_pos c13).symm.trans h
      refine g_aload_n hz 0 d_R_doorWanted_113 rfl rfl ?_
      refine gf_R_door hz q_1006 d_R_doorWanted_114 ?_
      refine g_iload_n hz 1 d_R_doorWanted_117 rfl rfl ?_
      refine g_iload hz 4 d_R_doorWanted_118 rfl ?_
      obtain ⟨n14, h⟩ := gd_use h
      refine g_iast hz (by decide) n14 d_R_doorWanted_120 (fun s15 e16 => ?_)
      replace h := nm_use h e16
      refine g_iload_n hz 3 d_R_doorWanted_121 rfl rfl ?_
      refine g_if_ne hz (tgt := 130) d_R_doorWanted_122 (by decide) (fun c17 => ?_) (fun c17 => ?_)
      · replace h := (if_neg c17).symm.trans h
        refine g_iload hz 6 d_R_doorWanted_130 rfl ?_
        exact g_iret hz (rti h hq) d_R_doorWanted_132
      · replace h := (if_pos c17).symm.trans h
        refine g_iload hz 5 d_R_doorWanted_125 rfl ?_
        refine g_goto hz (tgt := 132) d_R_doorWanted_127 (by decide) ?_
        exact g_iret hz (rti h hq) d_R_doorWanted_132
    · replace h := (if_neg c13).symm.trans h
      refine g_aload_n hz 0 d_R_doorWanted_74 rfl rfl ?_
      refine gf_R_door hz q_1006 d_R_doorWanted_75 ?_
      refine g_iload_n hz 1 d_R_doorWanted_78 rfl rfl ?_
      refine g_iload hz 7 d_R_doorWanted_79 rfl ?_
      obtain ⟨n18, h⟩ := gd_use h
      refine g_iast hz (by decide) n18 d_R_doorWanted_81 (fun s19 e20 => ?_)
      replace h := nm_use h e20
      refine g_aload_n hz 0 d_R_doorWanted_82 rfl rfl ?_
      refine g_iload_n hz 2 d_R_doorWanted_83 rfl rfl ?_
      refine bn_use h (fun x23 s22 e21 h => ?_)
      refine g_callVi hz (c_R_handsIn l e21) (by decide) rc_R rfl rfl m_R_handsIn mi_R_handsIn ms_R_handsIn q_1373 ⟨Nat.le_of_ble_eq_true rfl, Nat.le_of_ble_eq_true rfl⟩ rfl (st := []) rfl (Nat.le_of_ble_eq_true rfl) d_R_doorWanted_84 ?_
      refine g_istore hz (L' := [(9, .int x23), (0, .ref 176), (1, .int v1), (2, .int v2), (3, .int v3), (5, .int v5), (6, .int v6), (7, .int v7), (8, .int v8)]) d_R_doorWanted_87 (by decide) rfl ?_
      refine g_iload hz 0 d_R_doorWanted_89 rfl ?_
      refine g_iload hz 7 d_R_doorWanted_91 rfl ?_
      refine g_icmp_gt hz (tgt := 99) d_R_doorWanted_93 (by decide) (fun c24 => ?_) (fun c24 => ?_)
      · replace h := (if_pos c24).symm.trans h
        refine g_iload hz 8 d_R_doorWanted_99 rfl ?_
        refine g_istore hz (L' := [(6, .int v8), (9, .int x23), (0, .ref 176), (1, .int v1), (2, .int v2), (3, .int v3), (5, .int v5), (7, .int v7), (8, .int v8)]) d_R_doorWanted_101 (by decide) rfl ?_
        refine g_iload hz 1 d_R_doorWanted_103 rfl ?_
        refine g_istore hz (L' := [(7, .int x23), (6, .int v8), (9, .int x23), (0, .ref 176), (1, .int v1), (2, .int v2), (3, .int v3), (5, .int v5), (8, .int v8)]) d_R_doorWanted_105 (by decide) rfl ?_
        refine g_iinc hz (v := v8 + 1) (L' := [(8, .int (v8 + 1)), (7, .int x23), (6, .int v8), (9, .int x23), (0, .ref 176), (1, .int v1), (2, .int v2), (3, .int v3), (5, .int v5)]) 8 d_R_doorWanted_107 rfl (congrArg (fun q => v8 + q) ki_1) (by decide) rfl ?_
        refine g_goto hz (tgt := 67) d_R_doorWanted_110 (by decide) ?_
        refine g_sub [4, 5, 6, 7, 8, 2, 1, 0] rfl ?_
        exact ih v1 v2 v3 v5 v8 x23 (v8 + 1) _ h
      · replace h := (if_neg c24).symm.trans h
        refine g_goto hz (tgt := 107) d_R_doorWanted_96 (by decide) ?_
        refine g_iinc hz (v := v8 + 1) (L' := [(8, .int (v8 + 1)), (9, .int x23), (0, .ref 176), (1, .int v1), (2, .int v2), (3, .int v3), (5, .int v5), (6, .int v6), (7, .int v7)]) 8 d_R_doorWanted_107 rfl (congrArg (fun q => v8 + q) ki_1) (by decide) rfl ?_
        refine g_goto hz (tgt := 67) d_R_doorWanted_110 (by decide) ?_
        refine g_sub [2, 3, 4, 5, 6, 7, 8, 0] rfl ?_
        exact ih v1 v2 v3 v5 v6 v7 (v8 + 1) _ h
def k_R_doorWanted_36 (v1 : Int32) (v2 : Int32) (v3 : Int32) (v4 : Int32) (s : Mm) : Option (Int32 × Mm) :=
  if v4 = 0 then
    gd v1 6 <|
    nm (s 180 v1.toNatClampNeg) fun x11 =>
    k_R_doorWanted_67 KF v1 v2 v3 x11 (-9) (-9) 1 s
  else
    bn (f_R_no s v4) fun x27 s26 =>
    some (x27, s26)
set_option maxRecDepth 20000 in
theorem w_R_doorWanted_36 {l : Launch} {z : Zt} (hz : ZOk z b_R_doorWanted 10 "PassedOnAndBetterModel" 7 155) {r' : Int32} {s' : Mm} (hq : ZR z (some .int) s' (some (.int r'))) (v1 : Int32) (v2 : Int32) (v3 : Int32) (v4 : Int32) (s : Mm) (h : k_R_doorWanted_36 v1 v2 v3 v4 s = some (r', s')) : G l z b_R_doorWanted 10 36 [(0, .ref 176), (1, .int v1), (2, .int v2), (3, .int v3), (4, .int v4)] [] s := by
  unfold k_R_doorWanted_36 at h
  refine g_iload hz 4 d_R_doorWanted_36 rfl ?_
  refine g_if_eq hz (tgt := 48) d_R_doorWanted_38 (by decide) (fun c9 => ?_) (fun c9 => ?_)
  · replace h := (if_pos c9).symm.trans h
    refine g_aload_n hz 0 d_R_doorWanted_48 rfl rfl ?_
    refine gf_R_door hz q_1006 d_R_doorWanted_49 ?_
    refine g_iload_n hz 1 d_R_doorWanted_52 rfl rfl ?_
    obtain ⟨n10, h⟩ := gd_use h
    refine g_iald hz (by decide) n10 d_R_doorWanted_53 ?_
    refine g_nmi (fun x11 e12 => ?_)
    replace h := nm_use h e12
    refine g_istore hz (L' := [(5, .int x11), (0, .ref 176), (1, .int v1), (2, .int v2), (3, .int v3), (4, .int v4)]) d_R_doorWanted_54 (by decide) rfl ?_
    refine g_bipush hz (v := (-9)) d_R_doorWanted_56 (by decide) ?_
    refine g_istore hz (L' := [(6, .int (-9)), (5, .int x11), (0, .ref 176), (1, .int v1), (2, .int v2), (3, .int v3), (4, .int v4)]) d_R_doorWanted_58 (by decide) rfl ?_
    refine g_bipush hz (v := (-9)) d_R_doorWanted_60 (by decide) ?_
    refine g_istore hz (L' := [(7, .int (-9)), (6, .int (-9)), (5, .int x11), (0, .ref 176), (1, .int v1), (2, .int v2), (3, .int v3), (4, .int v4)]) d_R_doorWanted_62 (by decide) rfl ?_
    refine g_iconst hz d_R_doorWanted_64 ki_1 ?_
    refine g_istore hz (L' := [(8, .int 1), (7, .int (-9)), (6, .int (-9)), (5, .int x11), (0, .ref 176), (1, .int v1), (2, .int v2), (3, .int v3), (4, .int v4)]) d_R_doorWanted_65 (by decide) rfl ?_
    refine g_sub [4, 5, 6, 7, 3, 2, 1, 0] rfl ?_
    exact w_R_doorWanted_67 hz hq KF v1 v2 v3 x11 (-9) (-9) 1 _ h
  · replace h := (if_neg c9).symm.trans h
    refine g_aload_n hz 0 d_R_doorWanted_41 rfl rfl ?_
    refine g_iload hz 4 d_R_doorWanted_42 rfl ?_
    refine bn_use h (fun x27 s26 e25 h => ?_)
    refine g_callVi hz (c_R_no l e25) (by decide) rc_R rfl rfl m_R_no mi_R_no ms_R_no q_1107 ⟨Nat.le_of_ble_eq_true rfl, Nat.le_of_ble_eq_true rfl⟩ rfl (st := []) rfl (Nat.le_of_ble_eq_true rfl) d_R_doorWanted_44 ?_
    exact g_iret hz (rti h hq) d_R_doorWanted_47
def k_R_doorWanted_16 (v1 : Int32) (v2 : Int32) (v3 : Int32) (vt0 : Int32) (s : Mm) : Option (Int32 × Mm) :=
  if vt0 = 0 then
    bn (f_R_isIn s v3 0 1) fun x30 s29 =>
    if x30 = 0 then
      k_R_doorWanted_36 v1 v2 v3 (-2) s29
    else
      k_R_doorWanted_36 v1 v2 v3 vt0 s29
  else
    k_R_doorWanted_36 v1 v2 v3 vt0 s
set_option maxRecDepth 20000 in
theorem w_R_doorWanted_16 {l : Launch} {z : Zt} (hz : ZOk z b_R_doorWanted 10 "PassedOnAndBetterModel" 7 155) {r' : Int32} {s' : Mm} (hq : ZR z (some .int) s' (some (.int r'))) (v1 : Int32) (v2 : Int32) (v3 : Int32) (vt0 : Int32) (s : Mm) (h : k_R_doorWanted_16 v1 v2 v3 vt0 s = some (r', s')) : G l z b_R_doorWanted 10 16 [(0, .ref 176), (1, .int v1), (2, .int v2), (3, .int v3)] [.int vt0] s := by
  unfold k_R_doorWanted_16 at h
  refine g_istore hz (L' := [(4, .int vt0), (0, .ref 176), (1, .int v1), (2, .int v2), (3, .int v3)]) d_R_doorWanted_16 (by decide) rfl ?_
  refine g_iload hz 0 d_R_doorWanted_18 rfl ?_
  refine g_if_ne hz (tgt := 36) d_R_doorWanted_20 (by decide) (fun c8 => ?_) (fun c8 => ?_)
  · replace h := (if_neg c8).symm.trans h
    refine g_sub [1, 2, 3, 4, 0] rfl ?_
    exact w_R_doorWanted_36 hz hq v1 v2 v3 vt0 _ h
  · replace h := (if_pos c8).symm.trans h
    refine g_iload_n hz 4 d_R_doorWanted_23 rfl rfl ?_
    refine g_iconst hz d_R_doorWanted_24 ki_0 ?_
    refine g_iconst hz d_R_doorWanted_25 ki_1 ?_
    refine bn_use h (fun x30 s29 e28 h => ?_)
    refine g_callSi hz (c_R_isIn l e28) m_R_isIn mi_R_isIn q_1131 ⟨Nat.le_of_ble_eq_true rfl, Nat.le_of_ble_eq_true rfl⟩ rfl (st := []) rfl (Nat.le_of_ble_eq_true rfl) d_R_doorWanted_26 ?_
    refine g_if_ne hz (tgt := 36) d_R_doorWanted_29 (by decide) (fun c31 => ?_) (fun c31 => ?_)
    · replace h := (if_neg c31).symm.trans h
      refine g_sub [1, 2, 3, 4, 0] rfl ?_
      exact w_R_doorWanted_36 hz hq v1 v2 v3 vt0 _ h
    · replace h := (if_pos c31).symm.trans h
      refine g_bipush hz (v := (-2)) d_R_doorWanted_32 (by decide) ?_
      refine g_istore hz (L' := [(4, .int (-2)), (0, .ref 176), (1, .int v1), (2, .int v2), (3, .int v3)]) d_R_doorWanted_34 (by decide) rfl ?_
      refine g_sub [1, 2, 3, 4, 0] rfl ?_
      exact w_R_doorWanted_36 hz hq v1 v2 v3 (-2) _ h
def f_R_doorWanted (s : Mm) (a1 : Int32) (a2 : Int32) (a3 : Int32) : Option (Int32 × Mm) :=
  bn (f_R_isFriend s a1) fun x3 s2 =>
  if x3 = 0 then
    k_R_doorWanted_16 a1 a2 a3 (-1) s2
  else
    bn (f_R_notMonths s2 a2) fun x7 s6 =>
    k_R_doorWanted_16 a1 a2 a3 x7 s6
set_option maxRecDepth 20000 in
theorem c_R_doorWanted (l : Launch) {s : Mm} {a1 : Int32} {a2 : Int32} {a3 : Int32} {r' : Int32} {s' : Mm}  (h : f_R_doorWanted s a1 a2 a3 = some (r', s')) : Cm l y_R_doorWanted b_R_doorWanted 10 (some .int) 7 155 [.ref 176, .int a1, .int a2, .int a3] s s' (some (.int r')) := by
  refine Cm.of (own := "PassedOnAndBetterModel") (by decide) rfl (fun ad => Nat.le_of_ble_eq_true rfl) ?_
  intro z hz hq
  show G l z b_R_doorWanted 10 0 [(0, .ref 176), (1, .int a1), (2, .int a2), (3, .int a3)] [] s
  unfold f_R_doorWanted at h
  refine g_aload_n hz 0 d_R_doorWanted_0 rfl rfl ?_
  refine g_iload_n hz 1 d_R_doorWanted_1 rfl rfl ?_
  refine bn_use h (fun x3 s2 e1 h => ?_)
  refine g_callVi hz (c_R_isFriend l e1) (by decide) rc_R rfl rfl m_R_isFriend mi_R_isFriend ms_R_isFriend q_1162 ⟨Nat.le_of_ble_eq_true rfl, Nat.le_of_ble_eq_true rfl⟩ rfl (st := []) rfl (Nat.le_of_ble_eq_true rfl) d_R_doorWanted_2 ?_
  refine g_if_ne hz (tgt := 12) d_R_doorWanted_5 (by decide) (fun c4 => ?_) (fun c4 => ?_)
  · replace h := (if_neg c4).symm.trans h
    refine g_iload_n hz 2 d_R_doorWanted_12 rfl rfl ?_
    refine bn_use h (fun x7 s6 e5 h => ?_)
    refine g_callSi hz (c_R_notMonths l e5) m_R_notMonths mi_R_notMonths q_1291 ⟨Nat.le_of_ble_eq_true rfl, Nat.le_of_ble_eq_true rfl⟩ rfl (st := []) rfl (Nat.le_of_ble_eq_true rfl) d_R_doorWanted_13 ?_
    exact w_R_doorWanted_16 hz hq a1 a2 a3 x7 _ h
  · replace h := (if_pos c4).symm.trans h
    refine g_iconst hz d_R_doorWanted_8 ki_m1 ?_
    refine g_goto hz (tgt := 16) d_R_doorWanted_9 (by decide) ?_
    exact w_R_doorWanted_16 hz hq a1 a2 a3 (-1) _ h
def k_R_worthWithout_62 : Nat → Int32 → Int32 → Int32 → Int32 → Mm → Option (Int32 × Mm)
  | 0, _, _, _, _, _ => none
  | n + 1, v1, v2, v3, v4, s => if (s 176 12) ≤ v4 then
      bn (f_R_worthIn s (-9) v2) fun x10 s9 =>
      bv (f_R_changesBack s9) fun s12 =>
      some (x10, s12)
    else
      gd v4 4 <|
      if (s 184 v4.toNatClampNeg) = v1 then
        if v3 < 0 then
          k_R_worthWithout_62 n v1 v2 v3 (v4 + 1) s
        else
          bv (f_R_puts s v4 v3) fun s17 =>
          k_R_worthWithout_62 n v1 v2 v3 (v4 + 1) s17
      else
        k_R_worthWithout_62 n v1 v2 v3 (v4 + 1) s
set_option maxRecDepth 20000 in
theorem w_R_worthWithout_62 {l : Launch} {z : Zt} (hz : ZOk z b_R_worthWithout 5 "PassedOnAndBetterModel" 7 156) {r' : Int32} {s' : Mm} (hq : ZR z (some .int) s' (some (.int r'))) : ∀ (n : Nat) (v1 : Int32) (v2 : Int32) (v3 : Int32) (v4 : Int32) (s : Mm), k_R_worthWithout_62 n v1 v2 v3 v4 s = some (r', s') → G l z b_R_worthWithout 5 62 [(0, .ref 176), (1, .int v1), (2, .int v2), (3, .int v3), (4, .int v4)] [] s := by
  intro n
  induction n with
  | zero => intro v1 v2 v3 v4 s h; unfold k_R_worthWithout_62 at h; cases h
  | succ n ih =>
    intro v1 v2 v3 v4 s h
    unfold k_R_worthWithout_62 at h
    refine g_iload hz 4 d_R_worthWithout_62 rfl ?_
    refine g_aload_n hz 0 d_R_worthWithout_64 rfl rfl ?_
    refine gf_R_gifts hz q_1015 d_R_worthWithout_65 ?_
    refine g_icmp_ge hz (tgt := 99) d_R_worthWithout_68 (by decide) (fun c7 => ?_) (fun c7 => ?_)
    · replace h := (if_pos c7).symm.trans h
      refine g_aload_n hz 0 d_R_worthWithout_99 rfl rfl ?_
      refine g_bipush hz (v := (-9)) d_R_worthWithout_100 (by decide) ?_
      refine g_iload_n hz 2 d_R_worthWithout_102 rfl rfl ?_
      refine bn_use h (fun x10 s9 e8 h => ?_)
      refine g_callVi hz (c_R_worthIn l e8) (by decide) rc_R rfl rfl m_R_worthIn mi_R_worthIn ms_R_worthIn q_1342 ⟨Nat.le_of_ble_eq_true rfl, Nat.le_of_ble_eq_true rfl⟩ rfl (st := []) rfl (Nat.le_of_ble_eq_true rfl) d_R_worthWithout_103 ?_
      refine g_istore hz (L' := [(4, .int x10), (0, .ref 176), (1, .int v1), (2, .int v2), (3, .int v3)]) d_R_worthWithout_106 (by decide) rfl ?_
      refine g_aload_n hz 1 d_R_worthWithout_108 rfl rfl ?_
      refine bv_use h (fun s12 e11 h => ?_)
      refine g_callVv hz (c_R_changesBack l e11) (by decide) rc_R rfl rfl m_R_changesBack mi_R_changesBack ms_R_changesBack q_1346 ⟨Nat.le_of_ble_eq_true rfl, Nat.le_of_ble_eq_true rfl⟩ rfl (st := []) rfl (Nat.le_of_ble_eq_true rfl) d_R_worthWithout_109 ?_
      refine g_iload hz 0 d_R_worthWithout_112 rfl ?_
      exact g_iret hz (rti h hq) d_R_worthWithout_114
    · replace h := (if_neg c7).symm.trans h
      refine g_aload_n hz 0 d_R_worthWithout_71 rfl rfl ?_
      refine gf_R_holder hz q_1010 d_R_worthWithout_72 ?_
      refine g_iload hz 4 d_R_worthWithout_75 rfl ?_
      obtain ⟨n13, h⟩ := gd_use h
      refine g_iald hz (by decide) n13 d_R_worthWithout_77 ?_
      refine g_iload_n hz 1 d_R_worthWithout_78 rfl rfl ?_
      refine g_icmp_ne hz (tgt := 93) d_R_worthWithout_79 (by decide) (fun c14 => ?_) (fun c14 => ?_)
      · replace h := (if_neg c14).symm.trans h
        refine g_iinc hz (v := v4 + 1) (L' := [(4, .int (v4 + 1)), (0, .ref 176), (1, .int v1), (2, .int v2), (3, .int v3)]) 4 d_R_worthWithout_93 rfl (congrArg (fun q => v4 + q) ki_1) (by decide) rfl ?_
        refine g_goto hz (tgt := 62) d_R_worthWithout_96 (by decide) ?_
        refine g_sub [1, 2, 3, 4, 0] rfl ?_
        exact ih v1 v2 v3 (v4 + 1) _ h
      · replace h := (if_pos c14).symm.trans h
        refine g_iload_n hz 3 d_R_worthWithout_82 rfl rfl ?_
        refine g_if_lt hz (tgt := 93) d_R_worthWithout_83 (by decide) (fun c15 => ?_) (fun c15 => ?_)
        · replace h := (if_pos c15).symm.trans h
          refine g_iinc hz (v := v4 + 1) (L' := [(4, .int (v4 + 1)), (0, .ref 176), (1, .int v1), (2, .int v2), (3, .int v3)]) 4 d_R_worthWithout_93 rfl (congrArg (fun q => v4 + q) ki_1) (by decide) rfl ?_
          refine g_goto hz (tgt := 62) d_R_worthWithout_96 (by decide) ?_
          refine g_sub [1, 2, 3, 4, 0] rfl ?_
          exact ih v1 v2 v3 (v4 + 1) _ h
        · replace h := (if_neg c15).symm.trans h
          refine g_aload_n hz 0 d_R_worthWithout_86 rfl rfl ?_
          refine g_iload hz 4 d_R_worthWithout_87 rfl ?_
          refine g_iload_n hz 3 d_R_worthWithout_89 rfl rfl ?_
          refine bv_use h (fun s17 e16 h => ?_)
          refine g_callVv hz (c_R_puts l e16) (by decide) rc_R rfl rfl m_R_puts mi_R_puts ms_R_puts q_1170 ⟨Nat.le_of_ble_eq_true rfl, Nat.le_of_ble_eq_true rfl⟩ rfl (st := []) rfl (Nat.le_of_ble_eq_true rfl) d_R_worthWithout_90 ?_
          refine g_iinc hz (v := v4 + 1) (L' := [(4, .int (v4 + 1)), (0, .ref 176), (1, .int v1), (2, .int v2), (3, .int v3)]) 4 d_R_worthWithout_93 rfl (congrArg (fun q => v4 + q) ki_1) (by decide) rfl ?_
          refine g_goto hz (tgt := 62) d_R_worthWithout_96 (by decide) ?_
          refine g_sub [1, 2, 3, 4, 0] rfl ?_
          exact ih v1 v2 v3 (v4 + 1) _ h
def k_R_worthWithout_14 : Nat → Int32 → Int32 → Int32 → Int32 → Mm → Option (Int32 × Mm)
  | 0, _, _, _, _, _ => none
  | n + 1, v1, v2, v3, v4, s => if (s 176 11) ≤ v4 then
      k_R_worthWithout_62 KF v1 v2 v3 0 s
    else
      gd v4 6 <|
      if (s 181 v4.toNatClampNeg) = v1 then
        if v3 = v4 then
          gd v4 6 <|
          nm (mU s 181 v4.toNatClampNeg (-9)) fun s25 =>
          k_R_worthWithout_14 n v1 v2 v3 (v4 + 1) s25
        else
          gd v4 6 <|
          nm (mU s 181 v4.toNatClampNeg v3) fun s22 =>
          k_R_worthWithout_14 n v1 v2 v3 (v4 + 1) s22
      else
        k_R_worthWithout_14 n v1 v2 v3 (v4 + 1) s
set_option maxRecDepth 20000 in
theorem w_R_worthWithout_14 {l : Launch} {z : Zt} (hz : ZOk z b_R_worthWithout 5 "PassedOnAndBetterModel" 7 156) {r' : Int32} {s' : Mm} (hq : ZR z (some .int) s' (some (.int r'))) : ∀ (n : Nat) (v1 : Int32) (v2 : Int32) (v3 : Int32) (v4 : Int32) (s : Mm), k_R_worthWithout_14 n v1 v2 v3 v4 s = some (r', s') → G l z b_R_worthWithout 5 14 [(0, .ref 176), (1, .int v1), (2, .int v2), (3, .int v3), (4, .int v4)] [] s := by
  intro n
  induction n with
  | zero => intro v1 v2 v3 v4 s h; unfold k_R_worthWithout_14 at h; cases h
  | succ n ih =>
    intro v1 v2 v3 v4 s h
    unfold k_R_worthWithout_14 at h
    refine g_iload hz 4 d_R_worthWithout_14 rfl ?_
    refine g_aload_n hz 0 d_R_worthWithout_16 rfl rfl ?_
    refine gf_R_friends hz q_1014 d_R_worthWithout_17 ?_
    refine g_icmp_ge hz (tgt := 59) d_R_worthWithout_20 (by decide) (fun c6 => ?_) (fun c6 => ?_)
    · replace h := (if_pos c6).symm.trans h
      refine g_iconst hz d_R_worthWithout_59 ki_0 ?_
      refine g_istore hz (L' := [(4, .int 0), (0, .ref 176), (1, .int v1), (2, .int v2), (3, .int v3)]) d_R_worthWithout_60 (by decide) rfl ?_
      refine g_sub [1, 2, 3, 4, 0] rfl ?_
      exact w_R_worthWithout_62 hz hq KF v1 v2 v3 0 _ h
    · replace h := (if_neg c6).symm.trans h
      refine g_aload_n hz 0 d_R_worthWithout_23 rfl rfl ?_
      refine gf_R_next hz q_1007 d_R_worthWithout_24 ?_
      refine g_iload hz 4 d_R_worthWithout_27 rfl ?_
      obtain ⟨n18, h⟩ := gd_use h
      refine g_iald hz (by decide) n18 d_R_worthWithout_29 ?_
      refine g_iload_n hz 1 d_R_worthWithout_30 rfl rfl ?_
      refine g_icmp_ne hz (tgt := 53) d_R_worthWithout_31 (by decide) (fun c19 => ?_) (fun c19 => ?_)
      · replace h := (if_neg c19).symm.trans h
        refine g_iinc hz (v := v4 + 1) (L' := [(4, .int (v4 + 1)), (0, .ref 176), (1, .int v1), (2, .int v2), (3, .int v3)]) 4 d_R_worthWithout_53 rfl (congrArg (fun q => v4 + q) ki_1) (by decide) rfl ?_
        refine g_goto hz (tgt := 14) d_R_worthWithout_56 (by decide) ?_
        refine g_sub [1, 2, 3, 4, 0] rfl ?_
        exact ih v1 v2 v3 (v4 + 1) _ h
      · replace h := (if_pos c19).symm.trans h
        refine g_aload_n hz 0 d_R_worthWithout_34 rfl rfl ?_
        refine gf_R_next hz q_1007 d_R_worthWithout_35 ?_
        refine g_iload hz 4 d_R_worthWithout_38 rfl ?_
        refine g_iload_n hz 3 d_R_worthWithout_40 rfl rfl ?_
        refine g_iload hz 4 d_R_worthWithout_41 rfl ?_
        refine g_icmp_ne hz (tgt := 51) d_R_worthWithout_43 (by decide) (fun c20 => ?_) (fun c20 => ?_)
        · replace h := (if_neg c20).symm.trans h
          refine g_iload_n hz 3 d_R_worthWithout_51 rfl rfl ?_
          obtain ⟨n21, h⟩ := gd_use h
          refine g_iast hz (by decide) n21 d_R_worthWithout_52 (fun s22 e23 => ?_)
          replace h := nm_use h e23
          refine g_iinc hz (v := v4 + 1) (L' := [(4, .int (v4 + 1)), (0, .ref 176), (1, .int v1), (2, .int v2), (3, .int v3)]) 4 d_R_worthWithout_53 rfl (congrArg (fun q => v4 + q) ki_1) (by decide) rfl ?_
          refine g_goto hz (tgt := 14) d_R_worthWithout_56 (by decide) ?_
          refine g_sub [1, 2, 3, 4, 0] rfl ?_
          exact ih v1 v2 v3 (v4 + 1) _ h
        · replace h := (if_pos c20).symm.trans h
          refine g_bipush hz (v := (-9)) d_R_worthWithout_46 (by decide) ?_
          refine g_goto hz (tgt := 52) d_R_worthWithout_48 (by decide) ?_
          obtain ⟨n24, h⟩ := gd_use h
          refine g_iast hz (by decide) n24 d_R_worthWithout_52 (fun s25 e26 => ?_)
          replace h := nm_use h e26
          refine g_iinc hz (v := v4 + 1) (L' := [(4, .int (v4 + 1)), (0, .ref 176), (1, .int v1), (2, .int v2), (3, .int v3)]) 4 d_R_worthWithout_53 rfl (congrArg (fun q => v4 + q) ki_1) (by decide) rfl ?_
          refine g_goto hz (tgt := 14) d_R_worthWithout_56 (by decide) ?_
          refine g_sub [1, 2, 3, 4, 0] rfl ?_
          exact ih v1 v2 v3 (v4 + 1) _ h
def f_R_worthWithout (s : Mm) (a1 : Int32) (a2 : Int32) : Option (Int32 × Mm) :=
  bv (f_R_changes s) fun s2 =>
  gd a1 6 <|
  nm (s2 181 a1.toNatClampNeg) fun x4 =>
  k_R_worthWithout_14 KF a1 a2 x4 0 s2
set_option maxRecDepth 20000 in
theorem c_R_worthWithout (l : Launch) {s : Mm} {a1 : Int32} {a2 : Int32} {r' : Int32} {s' : Mm}  (h : f_R_worthWithout s a1 a2 = some (r', s')) : Cm l y_R_worthWithout b_R_worthWithout 5 (some .int) 7 156 [.ref 176, .int a1, .int a2] s s' (some (.int r')) := by
  refine Cm.of (own := "PassedOnAndBetterModel") (by decide) rfl (fun ad => Nat.le_of_ble_eq_true rfl) ?_
  intro z hz hq
  show G l z b_R_worthWithout 5 0 [(0, .ref 176), (1, .int a1), (2, .int a2)] [] s
  unfold f_R_worthWithout at h
  refine g_aload_n hz 0 d_R_worthWithout_0 rfl rfl ?_
  refine bv_use h (fun s2 e1 h => ?_)
  refine g_callVv hz (c_R_changes l e1) (by decide) rc_R rfl rfl m_R_changes mi_R_changes ms_R_changes q_1338 ⟨Nat.le_of_ble_eq_true rfl, Nat.le_of_ble_eq_true rfl⟩ rfl (st := []) rfl (Nat.le_of_ble_eq_true rfl) d_R_worthWithout_1 ?_
  refine g_aload_n hz 0 d_R_worthWithout_4 rfl rfl ?_
  refine gf_R_next hz q_1007 d_R_worthWithout_5 ?_
  refine g_iload_n hz 1 d_R_worthWithout_8 rfl rfl ?_
  obtain ⟨n3, h⟩ := gd_use h
  refine g_iald hz (by decide) n3 d_R_worthWithout_9 ?_
  refine g_nmi (fun x4 e5 => ?_)
  replace h := nm_use h e5
  refine g_istore_n hz (L' := [(3, .int x4), (0, .ref 176), (1, .int a1), (2, .int a2)]) d_R_worthWithout_10 rfl (by decide) rfl ?_
  refine g_iconst hz d_R_worthWithout_11 ki_0 ?_
  refine g_istore hz (L' := [(4, .int 0), (3, .int x4), (0, .ref 176), (1, .int a1), (2, .int a2)]) d_R_worthWithout_12 (by decide) rfl ?_
  refine g_sub [2, 3, 4, 1, 0] rfl ?_
  exact w_R_worthWithout_14 hz hq KF a1 a2 x4 0 _ h
def k_R_passedOver_25 : Nat → Int32 → Int32 → Int32 → Int32 → Mm → Option (Int32 × Mm)
  | 0, _, _, _, _, _ => none
  | n + 1, v1, v3, v4, v5, s => if (s 176 11) ≤ v5 then
      some (v3, s)
    else
      if (s 176 11) ≤ 1 then
        some (v3, s)
      else
        bn (f_R_worthWithout s v5 v1) fun x9 s8 =>
        if v4 < x9 then
          k_R_passedOver_25 n v1 v5 x9 (v5 + 1) s8
        else
          k_R_passedOver_25 n v1 v3 v4 (v5 + 1) s8
set_option maxRecDepth 20000 in
theorem w_R_passedOver_25 {l : Launch} {z : Zt} (hz : ZOk z b_R_passedOver 7 "PassedOnAndBetterModel" 8 180) {r' : Int32} {s' : Mm} (hq : ZR z (some .int) s' (some (.int r'))) : ∀ (n : Nat) (v1 : Int32) (v3 : Int32) (v4 : Int32) (v5 : Int32) (s : Mm), k_R_passedOver_25 n v1 v3 v4 v5 s = some (r', s') → G l z b_R_passedOver 7 25 [(0, .ref 176), (1, .int v1), (3, .int v3), (4, .int v4), (5, .int v5)] [] s := by
  intro n
  induction n with
  | zero => intro v1 v3 v4 v5 s h; unfold k_R_passedOver_25 at h; cases h
  | succ n ih =>
    intro v1 v3 v4 v5 s h
    unfold k_R_passedOver_25 at h
    refine g_iload hz 4 d_R_passedOver_25 rfl ?_
    refine g_aload_n hz 0 d_R_passedOver_27 rfl rfl ?_
    refine gf_R_friends hz q_1014 d_R_passedOver_28 ?_
    refine g_icmp_ge hz (tgt := 74) d_R_passedOver_31 (by decide) (fun c5 => ?_) (fun c5 => ?_)
    · replace h := (if_pos c5).symm.trans h
      refine g_iload_n hz 2 d_R_passedOver_74 rfl rfl ?_
      exact g_iret hz (rti h hq) d_R_passedOver_75
    · replace h := (if_neg c5).symm.trans h
      refine g_aload_n hz 0 d_R_passedOver_34 rfl rfl ?_
      refine gf_R_friends hz q_1014 d_R_passedOver_35 ?_
      refine g_iconst hz d_R_passedOver_38 ki_1 ?_
      refine g_icmp_le hz (tgt := 74) d_R_passedOver_39 (by decide) (fun c6 => ?_) (fun c6 => ?_)
      · replace h := (if_pos c6).symm.trans h
        refine g_iload_n hz 2 d_R_passedOver_74 rfl rfl ?_
        exact g_iret hz (rti h hq) d_R_passedOver_75
      · replace h := (if_neg c6).symm.trans h
        refine g_aload_n hz 0 d_R_passedOver_42 rfl rfl ?_
        refine g_iload hz 4 d_R_passedOver_43 rfl ?_
        refine g_iload_n hz 1 d_R_passedOver_45 rfl rfl ?_
        refine bn_use h (fun x9 s8 e7 h => ?_)
        refine g_callVi hz (c_R_worthWithout l e7) (by decide) rc_R rfl rfl m_R_worthWithout mi_R_worthWithout ms_R_worthWithout q_1381 ⟨Nat.le_of_ble_eq_true rfl, Nat.le_of_ble_eq_true rfl⟩ rfl (st := []) rfl (Nat.le_of_ble_eq_true rfl) d_R_passedOver_46 ?_
        refine g_istore hz (L' := [(6, .int x9), (0, .ref 176), (1, .int v1), (3, .int v3), (4, .int v4), (5, .int v5)]) d_R_passedOver_49 (by decide) rfl ?_
        refine g_iload hz 0 d_R_passedOver_51 rfl ?_
        refine g_iload hz 4 d_R_passedOver_53 rfl ?_
        refine g_icmp_gt hz (tgt := 61) d_R_passedOver_55 (by decide) (fun c10 => ?_) (fun c10 => ?_)
        · replace h := (if_pos c10).symm.trans h
          refine g_iload hz 5 d_R_passedOver_61 rfl ?_
          refine g_istore_n hz (L' := [(3, .int v5), (6, .int x9), (0, .ref 176), (1, .int v1), (4, .int v4), (5, .int v5)]) d_R_passedOver_63 rfl (by decide) rfl ?_
          refine g_iload hz 1 d_R_passedOver_64 rfl ?_
          refine g_istore hz (L' := [(4, .int x9), (3, .int v5), (6, .int x9), (0, .ref 176), (1, .int v1), (5, .int v5)]) d_R_passedOver_66 (by decide) rfl ?_
          refine g_iinc hz (v := v5 + 1) (L' := [(5, .int (v5 + 1)), (4, .int x9), (3, .int v5), (6, .int x9), (0, .ref 176), (1, .int v1)]) 5 d_R_passedOver_68 rfl (congrArg (fun q => v5 + q) ki_1) (by decide) rfl ?_
          refine g_goto hz (tgt := 25) d_R_passedOver_71 (by decide) ?_
          refine g_sub [4, 5, 2, 1, 0] rfl ?_
          exact ih v1 v5 x9 (v5 + 1) _ h
        · replace h := (if_neg c10).symm.trans h
          refine g_goto hz (tgt := 68) d_R_passedOver_58 (by decide) ?_
          refine g_iinc hz (v := v5 + 1) (L' := [(5, .int (v5 + 1)), (6, .int x9), (0, .ref 176), (1, .int v1), (3, .int v3), (4, .int v4)]) 5 d_R_passedOver_68 rfl (congrArg (fun q => v5 + q) ki_1) (by decide) rfl ?_
          refine g_goto hz (tgt := 25) d_R_passedOver_71 (by decide) ?_
          refine g_sub [2, 3, 4, 5, 0] rfl ?_
          exact ih v1 v3 v4 (v5 + 1) _ h
def f_R_passedOver (s : Mm) (a1 : Int32) : Option (Int32 × Mm) :=
  bn (f_R_notMonths s a1) fun x3 s2 =>
  if x3 = 0 then
    k_R_passedOver_25 KF a1 (-9) (-9) 0 s2
  else
    bn (f_R_no s2 x3) fun x13 s12 =>
    some (x13, s12)
set_option maxRecDepth 20000 in
theorem c_R_passedOver (l : Launch) {s : Mm} {a1 : Int32} {r' : Int32} {s' : Mm}  (h : f_R_passedOver s a1 = some (r', s')) : Cm l y_R_passedOver b_R_passedOver 7 (some .int) 8 180 [.ref 176, .int a1] s s' (some (.int r')) := by
  refine Cm.of (own := "PassedOnAndBetterModel") (by decide) rfl (fun ad => Nat.le_of_ble_eq_true rfl) ?_
  intro z hz hq
  show G l z b_R_passedOver 7 0 [(0, .ref 176), (1, .int a1)] [] s
  unfold f_R_passedOver at h
  refine g_iload_n hz 1 d_R_passedOver_0 rfl rfl ?_
  refine bn_use h (fun x3 s2 e1 h => ?_)
  refine g_callSi hz (c_R_notMonths l e1) m_R_notMonths mi_R_notMonths q_1291 ⟨Nat.le_of_ble_eq_true rfl, Nat.le_of_ble_eq_true rfl⟩ rfl (st := []) rfl (Nat.le_of_ble_eq_true rfl) d_R_passedOver_1 ?_
  refine g_istore_n hz (L' := [(2, .int x3), (0, .ref 176), (1, .int a1)]) d_R_passedOver_4 rfl (by decide) rfl ?_
  refine g_iload_n hz 0 d_R_passedOver_5 rfl rfl ?_
  refine g_if_eq hz (tgt := 15) d_R_passedOver_6 (by decide) (fun c4 => ?_) (fun c4 => ?_)
  · replace h := (if_pos c4).symm.trans h
    refine g_bipush hz (v := (-9)) d_R_passedOver_15 (by decide) ?_
    refine g_istore_n hz (L' := [(3, .int (-9)), (2, .int x3), (0, .ref 176), (1, .int a1)]) d_R_passedOver_17 rfl (by decide) rfl ?_
    refine g_bipush hz (v := (-9)) d_R_passedOver_18 (by decide) ?_
    refine g_istore hz (L' := [(4, .int (-9)), (3, .int (-9)), (2, .int x3), (0, .ref 176), (1, .int a1)]) d_R_passedOver_20 (by decide) rfl ?_
    refine g_iconst hz d_R_passedOver_22 ki_0 ?_
    refine g_istore hz (L' := [(5, .int 0), (4, .int (-9)), (3, .int (-9)), (2, .int x3), (0, .ref 176), (1, .int a1)]) d_R_passedOver_23 (by decide) rfl ?_
    refine g_sub [4, 5, 2, 1, 0] rfl ?_
    exact w_R_passedOver_25 hz hq KF a1 (-9) (-9) 0 _ h
  · replace h := (if_neg c4).symm.trans h
    refine g_aload_n hz 1 d_R_passedOver_9 rfl rfl ?_
    refine g_iload_n hz 0 d_R_passedOver_10 rfl rfl ?_
    refine bn_use h (fun x13 s12 e11 h => ?_)
    refine g_callVi hz (c_R_no l e11) (by decide) rc_R rfl rfl m_R_no mi_R_no ms_R_no q_1107 ⟨Nat.le_of_ble_eq_true rfl, Nat.le_of_ble_eq_true rfl⟩ rfl (st := []) rfl (Nat.le_of_ble_eq_true rfl) d_R_passedOver_11 ?_
    exact g_iret hz (rti h hq) d_R_passedOver_14
def k_R_chained_4 : Nat → Int32 → Int32 → Mm → Option (Int32 × Mm)
  | 0, _, _, _ => none
  | n + 1, v2, v3, s => if v3 < 0 then
      if 0 ≤ v3 then
        some (v2 ||| 512, s)
      else
        some (v2, s)
    else
      bn (f_R_has s v2 v3) fun x5 s4 =>
      if x5 = 0 then
        nm (v2 ||| (1 <<< (v3 &&& 31))) fun x8 =>
        gd v3 6 <|
        nm (s4 181 v3.toNatClampNeg) fun x11 =>
        k_R_chained_4 n x8 x11 s4
      else
        if 0 ≤ v3 then
          some (v2 ||| 512, s4)
        else
          some (v2, s4)
set_option maxRecDepth 20000 in
theorem w_R_chained_4 {l : Launch} {z : Zt} (hz : ZOk z b_R_chained 4 "PassedOnAndBetterModel" 1 21) {r' : Int32} {s' : Mm} (hq : ZR z (some .int) s' (some (.int r'))) : ∀ (n : Nat) (v2 : Int32) (v3 : Int32) (s : Mm), k_R_chained_4 n v2 v3 s = some (r', s') → G l z b_R_chained 4 4 [(0, .ref 176), (2, .int v2), (3, .int v3)] [] s := by
  intro n
  induction n with
  | zero => intro v2 v3 s h; unfold k_R_chained_4 at h; cases h
  | succ n ih =>
    intro v2 v3 s h
    unfold k_R_chained_4 at h
    refine g_iload_n hz 2 d_R_chained_4 rfl rfl ?_
    refine g_if_lt hz (tgt := 32) d_R_chained_5 (by decide) (fun c1 => ?_) (fun c1 => ?_)
    · replace h := (if_pos c1).symm.trans h
      refine g_iload_n hz 2 d_R_chained_32 rfl rfl ?_
      refine g_if_ge hz (tgt := 40) d_R_chained_33 (by decide) (fun c2 => ?_) (fun c2 => ?_)
      · replace h := (if_pos c2).symm.trans h
        refine g_iload_n hz 1 d_R_chained_40 rfl rfl ?_
        refine g_sipush hz (v := 512) d_R_chained_41 (by decide) ?_
        refine g_ior hz d_R_chained_44 ?_
        exact g_iret hz (rti h hq) d_R_chained_45
      · replace h := (if_neg c2).symm.trans h
        refine g_iload_n hz 1 d_R_chained_36 rfl rfl ?_
        refine g_goto hz (tgt := 45) d_R_chained_37 (by decide) ?_
        exact g_iret hz (rti h hq) d_R_chained_45
    · replace h := (if_neg c1).symm.trans h
      refine g_iload_n hz 1 d_R_chained_8 rfl rfl ?_
      refine g_iload_n hz 2 d_R_chained_9 rfl rfl ?_
      refine bn_use h (fun x5 s4 e3 h => ?_)
      refine g_callSi hz (c_R_has l e3) m_R_has mi_R_has q_1221 ⟨Nat.le_of_ble_eq_true rfl, Nat.le_of_ble_eq_true rfl⟩ rfl (st := []) rfl (Nat.le_of_ble_eq_true rfl) d_R_chained_10 ?_
      refine g_if_ne hz (tgt := 32) d_R_chained_13 (by decide) (fun c6 => ?_) (fun c6 => ?_)
      · replace h := (if_neg c6).symm.trans h
        refine g_iload_n hz 2 d_R_chained_32 rfl rfl ?_
        refine g_if_ge hz (tgt := 40) d_R_chained_33 (by decide) (fun c7 => ?_) (fun c7 => ?_)
        · replace h := (if_pos c7).symm.trans h
          refine g_iload_n hz 1 d_R_chained_40 rfl rfl ?_
          refine g_sipush hz (v := 512) d_R_chained_41 (by decide) ?_
          refine g_ior hz d_R_chained_44 ?_
          exact g_iret hz (rti h hq) d_R_chained_45
        · replace h := (if_neg c7).symm.trans h
          refine g_iload_n hz 1 d_R_chained_36 rfl rfl ?_
          refine g_goto hz (tgt := 45) d_R_chained_37 (by decide) ?_
          exact g_iret hz (rti h hq) d_R_chained_45
      · replace h := (if_pos c6).symm.trans h
        refine g_iload_n hz 1 d_R_chained_16 rfl rfl ?_
        refine g_iconst hz d_R_chained_17 ki_1 ?_
        refine g_iload_n hz 2 d_R_chained_18 rfl rfl ?_
        refine g_ishl hz d_R_chained_19 ?_
        refine g_ior hz d_R_chained_20 ?_
        refine g_nmi (fun x8 e9 => ?_)
        replace h := nm_use h e9
        refine g_istore_n hz (L' := [(2, .int x8), (0, .ref 176), (3, .int v3)]) d_R_chained_21 rfl (by decide) rfl ?_
        refine g_aload_n hz 1 d_R_chained_22 rfl rfl ?_
        refine gf_R_next hz q_1007 d_R_chained_23 ?_
        refine g_iload_n hz 2 d_R_chained_26 rfl rfl ?_
        obtain ⟨n10, h⟩ := gd_use h
        refine g_iald hz (by decide) n10 d_R_chained_27 ?_
        refine g_nmi (fun x11 e12 => ?_)
        replace h := nm_use h e12
        refine g_istore_n hz (L' := [(3, .int x11), (2, .int x8), (0, .ref 176)]) d_R_chained_28 rfl (by decide) rfl ?_
        refine g_goto hz (tgt := 4) d_R_chained_29 (by decide) ?_
        refine g_sub [2, 1, 0] rfl ?_
        exact ih x8 x11 _ h
def f_R_chained (s : Mm) (a1 : Int32) : Option (Int32 × Mm) :=
  k_R_chained_4 KF 0 a1 s
set_option maxRecDepth 20000 in
theorem c_R_chained (l : Launch) {s : Mm} {a1 : Int32} {r' : Int32} {s' : Mm}  (h : f_R_chained s a1 = some (r', s')) : Cm l y_R_chained b_R_chained 4 (some .int) 1 21 [.ref 176, .int a1] s s' (some (.int r')) := by
  refine Cm.of (own := "PassedOnAndBetterModel") (by decide) rfl (fun ad => Nat.le_of_ble_eq_true rfl) ?_
  intro z hz hq
  show G l z b_R_chained 4 0 [(0, .ref 176), (1, .int a1)] [] s
  unfold f_R_chained at h
  refine g_iconst hz d_R_chained_0 ki_0 ?_
  refine g_istore_n hz (L' := [(2, .int 0), (0, .ref 176), (1, .int a1)]) d_R_chained_1 rfl (by decide) rfl ?_
  refine g_iload_n hz 2 d_R_chained_2 rfl rfl ?_
  refine g_istore_n hz (L' := [(3, .int a1), (2, .int 0), (0, .ref 176), (1, .int a1)]) d_R_chained_3 rfl (by decide) rfl ?_
  refine g_sub [2, 1, 0] rfl ?_
  exact w_R_chained_4 hz hq KF 0 a1 _ h
def k_R_chain_27 (v1 : Int32) (v2 : Int32) (vt0 : Int32) (s : Mm) : Option (Int32 × Mm) :=
  if vt0 = 0 then
    bn (f_R_chained s v1) fun x12 s11 =>
    if v2 = 0 then
      bn (f_R_bits s11 (x12 &&& 63)) fun x16 s15 =>
      some (x16, s15)
    else
      some (x12 >>> (9 &&& 31), s11)
  else
    bn (f_R_no s vt0) fun x19 s18 =>
    some (x19, s18)
set_option maxRecDepth 20000 in
theorem w_R_chain_27 {l : Launch} {z : Zt} (hz : ZOk z b_R_chain 5 "PassedOnAndBetterModel" 2 44) {r' : Int32} {s' : Mm} (hq : ZR z (some .int) s' (some (.int r'))) (v1 : Int32) (v2 : Int32) (vt0 : Int32) (s : Mm) (h : k_R_chain_27 v1 v2 vt0 s = some (r', s')) : G l z b_R_chain 5 27 [(0, .ref 176), (1, .int v1), (2, .int v2)] [.int vt0] s := by
  unfold k_R_chain_27 at h
  refine g_istore_n hz (L' := [(3, .int vt0), (0, .ref 176), (1, .int v1), (2, .int v2)]) d_R_chain_27 rfl (by decide) rfl ?_
  refine g_iload_n hz 0 d_R_chain_28 rfl rfl ?_
  refine g_if_eq hz (tgt := 38) d_R_chain_29 (by decide) (fun c9 => ?_) (fun c9 => ?_)
  · replace h := (if_pos c9).symm.trans h
    refine g_aload_n hz 1 d_R_chain_38 rfl rfl ?_
    refine g_iload_n hz 2 d_R_chain_39 rfl rfl ?_
    refine bn_use h (fun x12 s11 e10 h => ?_)
    refine g_callVi hz (c_R_chained l e10) (by decide) rc_R rfl rfl m_R_chained mi_R_chained ms_R_chained q_1389 ⟨Nat.le_of_ble_eq_true rfl, Nat.le_of_ble_eq_true rfl⟩ rfl (st := []) rfl (Nat.le_of_ble_eq_true rfl) d_R_chain_40 ?_
    refine g_istore hz (L' := [(4, .int x12), (3, .int vt0), (0, .ref 176), (1, .int v1), (2, .int v2)]) d_R_chain_43 (by decide) rfl ?_
    refine g_iload_n hz 4 d_R_chain_45 rfl rfl ?_
    refine g_if_ne hz (tgt := 60) d_R_chain_46 (by decide) (fun c13 => ?_) (fun c13 => ?_)
    · replace h := (if_neg c13).symm.trans h
      refine g_iload hz 0 d_R_chain_60 rfl ?_
      refine g_bipush hz (v := 9) d_R_chain_62 (by decide) ?_
      refine g_ishr hz d_R_chain_64 ?_
      exact g_iret hz (rti h hq) d_R_chain_65
    · replace h := (if_pos c13).symm.trans h
      refine g_iload hz 0 d_R_chain_49 rfl ?_
      refine g_bipush hz (v := 63) d_R_chain_51 (by decide) ?_
      refine g_iand hz d_R_chain_53 ?_
      refine bn_use h (fun x16 s15 e14 h => ?_)
      refine g_callSi hz (c_R_bits l e14) m_R_bits mi_R_bits q_1362 ⟨Nat.le_of_ble_eq_true rfl, Nat.le_of_ble_eq_true rfl⟩ rfl (st := []) rfl (Nat.le_of_ble_eq_true rfl) d_R_chain_54 ?_
      refine g_goto hz (tgt := 65) d_R_chain_57 (by decide) ?_
      exact g_iret hz (rti h hq) d_R_chain_65
  · replace h := (if_neg c9).symm.trans h
    refine g_aload_n hz 1 d_R_chain_32 rfl rfl ?_
    refine g_iload_n hz 0 d_R_chain_33 rfl rfl ?_
    refine bn_use h (fun x19 s18 e17 h => ?_)
    refine g_callVi hz (c_R_no l e17) (by decide) rc_R rfl rfl m_R_no mi_R_no ms_R_no q_1107 ⟨Nat.le_of_ble_eq_true rfl, Nat.le_of_ble_eq_true rfl⟩ rfl (st := []) rfl (Nat.le_of_ble_eq_true rfl) d_R_chain_34 ?_
    exact g_iret hz (rti h hq) d_R_chain_37
def f_R_chain (s : Mm) (a1 : Int32) (a2 : Int32) : Option (Int32 × Mm) :=
  bn (f_R_isFriend s a1) fun x3 s2 =>
  if x3 = 0 then
    k_R_chain_27 a1 a2 (-1) s2
  else
    bn (f_R_isIn s2 a2 0 1) fun x7 s6 =>
    if x7 = 0 then
      k_R_chain_27 a1 a2 (-2) s6
    else
      k_R_chain_27 a1 a2 0 s6
set_option maxRecDepth 20000 in
theorem c_R_chain (l : Launch) {s : Mm} {a1 : Int32} {a2 : Int32} {r' : Int32} {s' : Mm}  (h : f_R_chain s a1 a2 = some (r', s')) : Cm l y_R_chain b_R_chain 5 (some .int) 2 44 [.ref 176, .int a1, .int a2] s s' (some (.int r')) := by
  refine Cm.of (own := "PassedOnAndBetterModel") (by decide) rfl (fun ad => Nat.le_of_ble_eq_true rfl) ?_
  intro z hz hq
  show G l z b_R_chain 5 0 [(0, .ref 176), (1, .int a1), (2, .int a2)] [] s
  unfold f_R_chain at h
  refine g_aload_n hz 0 d_R_chain_0 rfl rfl ?_
  refine g_iload_n hz 1 d_R_chain_1 rfl rfl ?_
  refine bn_use h (fun x3 s2 e1 h => ?_)
  refine g_callVi hz (c_R_isFriend l e1) (by decide) rc_R rfl rfl m_R_isFriend mi_R_isFriend ms_R_isFriend q_1162 ⟨Nat.le_of_ble_eq_true rfl, Nat.le_of_ble_eq_true rfl⟩ rfl (st := []) rfl (Nat.le_of_ble_eq_true rfl) d_R_chain_2 ?_
  refine g_if_ne hz (tgt := 12) d_R_chain_5 (by decide) (fun c4 => ?_) (fun c4 => ?_)
  · replace h := (if_neg c4).symm.trans h
    refine g_iload_n hz 2 d_R_chain_12 rfl rfl ?_
    refine g_iconst hz d_R_chain_13 ki_0 ?_
    refine g_iconst hz d_R_chain_14 ki_1 ?_
    refine bn_use h (fun x7 s6 e5 h => ?_)
    refine g_callSi hz (c_R_isIn l e5) m_R_isIn mi_R_isIn q_1131 ⟨Nat.le_of_ble_eq_true rfl, Nat.le_of_ble_eq_true rfl⟩ rfl (st := []) rfl (Nat.le_of_ble_eq_true rfl) d_R_chain_15 ?_
    refine g_if_ne hz (tgt := 26) d_R_chain_18 (by decide) (fun c8 => ?_) (fun c8 => ?_)
    · replace h := (if_neg c8).symm.trans h
      refine g_iconst hz d_R_chain_26 ki_0 ?_
      exact w_R_chain_27 hz hq a1 a2 0 _ h
    · replace h := (if_pos c8).symm.trans h
      refine g_bipush hz (v := (-2)) d_R_chain_21 (by decide) ?_
      refine g_goto hz (tgt := 27) d_R_chain_23 (by decide) ?_
      exact w_R_chain_27 hz hq a1 a2 (-2) _ h
  · replace h := (if_pos c4).symm.trans h
    refine g_iconst hz d_R_chain_8 ki_m1 ?_
    refine g_goto hz (tgt := 27) d_R_chain_9 (by decide) ?_
    exact w_R_chain_27 hz hq a1 a2 (-1) _ h
def k_R_wayTo_27 (kc5 : (Int32 → Int32 → Int32 → Mm → Option (Int32 × Mm))) (v2 : Int32) (v4 : Int32) (vt0 : Int32) (s : Mm) : Option (Int32 × Mm) :=
  if vt0 = v2 then
    some (v4, s)
  else
    kc5 v2 vt0 (v4 + 1) s
set_option maxRecDepth 20000 in
theorem w_R_wayTo_27 {l : Launch} {z : Zt} (hz : ZOk z b_R_wayTo 5 "PassedOnAndBetterModel" 0 0) {r' : Int32} {s' : Mm} (hq : ZR z (some .int) s' (some (.int r'))) {kc5 : (Int32 → Int32 → Int32 → Mm → Option (Int32 × Mm))} (hk5 : (∀ (v2 : Int32) (v3 : Int32) (v4 : Int32) (s : Mm), kc5 v2 v3 v4 s = some (r', s') → G l z b_R_wayTo 5 5 [(0, .ref 176), (2, .int v2), (3, .int v3), (4, .int v4)] [] s)) (v2 : Int32) (v4 : Int32) (vt0 : Int32) (s : Mm) (h : k_R_wayTo_27 kc5 v2 v4 vt0 s = some (r', s')) : G l z b_R_wayTo 5 27 [(0, .ref 176), (2, .int v2), (4, .int v4)] [.int vt0] s := by
  unfold k_R_wayTo_27 at h
  refine g_istore_n hz (L' := [(3, .int vt0), (0, .ref 176), (2, .int v2), (4, .int v4)]) d_R_wayTo_27 rfl (by decide) rfl ?_
  refine g_iload_n hz 0 d_R_wayTo_28 rfl rfl ?_
  refine g_iload_n hz 2 d_R_wayTo_29 rfl rfl ?_
  refine g_icmp_ne hz (tgt := 36) d_R_wayTo_30 (by decide) (fun c4 => ?_) (fun c4 => ?_)
  · replace h := (if_neg c4).symm.trans h
    refine g_iinc hz (v := v4 + 1) (L' := [(4, .int (v4 + 1)), (3, .int vt0), (0, .ref 176), (2, .int v2)]) 3 d_R_wayTo_36 rfl (congrArg (fun q => v4 + q) ki_1) (by decide) rfl ?_
    refine g_goto hz (tgt := 5) d_R_wayTo_39 (by decide) ?_
    refine g_sub [2, 3, 1, 0] rfl ?_
    exact hk5 v2 vt0 (v4 + 1) _ h
  · replace h := (if_pos c4).symm.trans h
    refine g_iload hz 3 d_R_wayTo_33 rfl ?_
    exact g_iret hz (rti h hq) d_R_wayTo_35
def k_R_wayTo_5 : Nat → Int32 → Int32 → Int32 → Mm → Option (Int32 × Mm)
  | 0, _, _, _, _ => none
  | n + 1, v2, v3, v4, s => if 6 < v4 then
      some ((-9), s)
    else
      if 0 ≤ v3 then
        gd v3 6 <|
        k_R_wayTo_27 (fun v2 v3 v4 s => k_R_wayTo_5 n v2 v3 v4 s) v2 v4 (s 181 v3.toNatClampNeg) s
      else
        k_R_wayTo_27 (fun v2 v3 v4 s => k_R_wayTo_5 n v2 v3 v4 s) v2 v4 (-9) s
set_option maxRecDepth 20000 in
theorem w_R_wayTo_5 {l : Launch} {z : Zt} (hz : ZOk z b_R_wayTo 5 "PassedOnAndBetterModel" 0 0) {r' : Int32} {s' : Mm} (hq : ZR z (some .int) s' (some (.int r'))) : ∀ (n : Nat) (v2 : Int32) (v3 : Int32) (v4 : Int32) (s : Mm), k_R_wayTo_5 n v2 v3 v4 s = some (r', s') → G l z b_R_wayTo 5 5 [(0, .ref 176), (2, .int v2), (3, .int v3), (4, .int v4)] [] s := by
  intro n
  induction n with
  | zero => intro v2 v3 v4 s h; unfold k_R_wayTo_5 at h; cases h
  | succ n ih =>
    intro v2 v3 v4 s h
    unfold k_R_wayTo_5 at h
    refine g_iload hz 3 d_R_wayTo_5 rfl ?_
    refine g_bipush hz (v := 6) d_R_wayTo_7 (by decide) ?_
    refine g_icmp_gt hz (tgt := 42) d_R_wayTo_9 (by decide) (fun c1 => ?_) (fun c1 => ?_)
    · replace h := (if_pos c1).symm.trans h
      refine g_bipush hz (v := (-9)) d_R_wayTo_42 (by decide) ?_
      exact g_iret hz (rti h hq) d_R_wayTo_44
    · replace h := (if_neg c1).symm.trans h
      refine g_iload_n hz 2 d_R_wayTo_12 rfl rfl ?_
      refine g_if_ge hz (tgt := 21) d_R_wayTo_13 (by decide) (fun c2 => ?_) (fun c2 => ?_)
      · replace h := (if_pos c2).symm.trans h
        refine g_aload_n hz 0 d_R_wayTo_21 rfl rfl ?_
        refine gf_R_next hz q_1007 d_R_wayTo_22 ?_
        refine g_iload_n hz 2 d_R_wayTo_25 rfl rfl ?_
        obtain ⟨n3, h⟩ := gd_use h
        refine g_iald hz (by decide) n3 d_R_wayTo_26 ?_
        refine g_sub [0, 1, 3] rfl ?_
        exact w_R_wayTo_27 hz hq ih v2 v4 (s 181 v3.toNatClampNeg) _ h
      · replace h := (if_neg c2).symm.trans h
        refine g_bipush hz (v := (-9)) d_R_wayTo_16 (by decide) ?_
        refine g_goto hz (tgt := 27) d_R_wayTo_18 (by decide) ?_
        refine g_sub [0, 1, 3] rfl ?_
        exact w_R_wayTo_27 hz hq ih v2 v4 (-9) _ h
def f_R_wayTo (s : Mm) (a1 : Int32) (a2 : Int32) : Option (Int32 × Mm) :=
  k_R_wayTo_5 KF a2 a1 1 s
set_option maxRecDepth 20000 in
theorem c_R_wayTo (l : Launch) {s : Mm} {a1 : Int32} {a2 : Int32} {r' : Int32} {s' : Mm}  (h : f_R_wayTo s a1 a2 = some (r', s')) : Cm l y_R_wayTo b_R_wayTo 5 (some .int) 0 0 [.ref 176, .int a1, .int a2] s s' (some (.int r')) := by
  refine Cm.of (own := "PassedOnAndBetterModel") (by decide) rfl (fun ad => Nat.le_of_ble_eq_true rfl) ?_
  intro z hz hq
  show G l z b_R_wayTo 5 0 [(0, .ref 176), (1, .int a1), (2, .int a2)] [] s
  unfold f_R_wayTo at h
  refine g_iload_n hz 1 d_R_wayTo_0 rfl rfl ?_
  refine g_istore_n hz (L' := [(3, .int a1), (0, .ref 176), (1, .int a1), (2, .int a2)]) d_R_wayTo_1 rfl (by decide) rfl ?_
  refine g_iconst hz d_R_wayTo_2 ki_1 ?_
  refine g_istore hz (L' := [(4, .int 1), (3, .int a1), (0, .ref 176), (1, .int a1), (2, .int a2)]) d_R_wayTo_3 (by decide) rfl ?_
  refine g_sub [2, 4, 1, 0] rfl ?_
  exact w_R_wayTo_5 hz hq KF a2 a1 1 _ h
def k_R_circles_4 : Nat → Int32 → Int32 → Mm → Option (Int32 × Mm)
  | 0, _, _, _ => none
  | n + 1, v1, v2, s => if (s 176 11) ≤ v2 then
      some (v1, s)
    else
      bn (f_R_wayTo s v2 v2) fun x4 s3 =>
      if x4 ≤ 0 then
        nm (v1 + 0) fun x6 =>
        k_R_circles_4 n x6 (v2 + 1) s3
      else
        nm (v1 + 1) fun x8 =>
        k_R_circles_4 n x8 (v2 + 1) s3
set_option maxRecDepth 20000 in
theorem w_R_circles_4 {l : Launch} {z : Zt} (hz : ZOk z b_R_circles 3 "PassedOnAndBetterModel" 1 24) {r' : Int32} {s' : Mm} (hq : ZR z (some .int) s' (some (.int r'))) : ∀ (n : Nat) (v1 : Int32) (v2 : Int32) (s : Mm), k_R_circles_4 n v1 v2 s = some (r', s') → G l z b_R_circles 3 4 [(0, .ref 176), (1, .int v1), (2, .int v2)] [] s := by
  intro n
  induction n with
  | zero => intro v1 v2 s h; unfold k_R_circles_4 at h; cases h
  | succ n ih =>
    intro v1 v2 s h
    unfold k_R_circles_4 at h
    refine g_iload_n hz 2 d_R_circles_4 rfl rfl ?_
    refine g_aload_n hz 0 d_R_circles_5 rfl rfl ?_
    refine gf_R_friends hz q_1014 d_R_circles_6 ?_
    refine g_icmp_ge hz (tgt := 35) d_R_circles_9 (by decide) (fun c1 => ?_) (fun c1 => ?_)
    · replace h := (if_pos c1).symm.trans h
      refine g_iload_n hz 1 d_R_circles_35 rfl rfl ?_
      exact g_iret hz (rti h hq) d_R_circles_36
    · replace h := (if_neg c1).symm.trans h
      refine g_iload_n hz 1 d_R_circles_12 rfl rfl ?_
      refine g_aload_n hz 0 d_R_circles_13 rfl rfl ?_
      refine g_iload_n hz 2 d_R_circles_14 rfl rfl ?_
      refine g_iload_n hz 2 d_R_circles_15 rfl rfl ?_
      refine bn_use h (fun x4 s3 e2 h => ?_)
      refine g_callVi hz (c_R_wayTo l e2) (by decide) rc_R rfl rfl m_R_wayTo mi_R_wayTo ms_R_wayTo q_1397 ⟨Nat.le_of_ble_eq_true rfl, Nat.le_of_ble_eq_true rfl⟩ rfl (st := [.int v1]) rfl (Nat.le_of_ble_eq_true rfl) d_R_circles_16 ?_
      refine g_if_le hz (tgt := 26) d_R_circles_19 (by decide) (fun c5 => ?_) (fun c5 => ?_)
      · replace h := (if_pos c5).symm.trans h
        refine g_iconst hz d_R_circles_26 ki_0 ?_
        refine g_iadd hz d_R_circles_27 ?_
        refine g_nmi (fun x6 e7 => ?_)
        replace h := nm_use h e7
        refine g_istore_n hz (L' := [(1, .int x6), (0, .ref 176), (2, .int v2)]) d_R_circles_28 rfl (by decide) rfl ?_
        refine g_iinc hz (v := v2 + 1) (L' := [(2, .int (v2 + 1)), (1, .int x6), (0, .ref 176)]) 2 d_R_circles_29 rfl (congrArg (fun q => v2 + q) ki_1) (by decide) rfl ?_
        refine g_goto hz (tgt := 4) d_R_circles_32 (by decide) ?_
        refine g_sub [2, 1, 0] rfl ?_
        exact ih x6 (v2 + 1) _ h
      · replace h := (if_neg c5).symm.trans h
        refine g_iconst hz d_R_circles_22 ki_1 ?_
        refine g_goto hz (tgt := 27) d_R_circles_23 (by decide) ?_
        refine g_iadd hz d_R_circles_27 ?_
        refine g_nmi (fun x8 e9 => ?_)
        replace h := nm_use h e9
        refine g_istore_n hz (L' := [(1, .int x8), (0, .ref 176), (2, .int v2)]) d_R_circles_28 rfl (by decide) rfl ?_
        refine g_iinc hz (v := v2 + 1) (L' := [(2, .int (v2 + 1)), (1, .int x8), (0, .ref 176)]) 2 d_R_circles_29 rfl (congrArg (fun q => v2 + q) ki_1) (by decide) rfl ?_
        refine g_goto hz (tgt := 4) d_R_circles_32 (by decide) ?_
        refine g_sub [2, 1, 0] rfl ?_
        exact ih x8 (v2 + 1) _ h
def f_R_circles (s : Mm) : Option (Int32 × Mm) :=
  k_R_circles_4 KF 0 0 s
set_option maxRecDepth 20000 in
theorem c_R_circles (l : Launch) {s : Mm}  {r' : Int32} {s' : Mm}  (h : f_R_circles s = some (r', s')) : Cm l y_R_circles b_R_circles 3 (some .int) 1 24 [.ref 176] s s' (some (.int r')) := by
  refine Cm.of (own := "PassedOnAndBetterModel") (by decide) rfl (fun ad => Nat.le_of_ble_eq_true rfl) ?_
  intro z hz hq
  show G l z b_R_circles 3 0 [(0, .ref 176)] [] s
  unfold f_R_circles at h
  refine g_iconst hz d_R_circles_0 ki_0 ?_
  refine g_istore_n hz (L' := [(1, .int 0), (0, .ref 176)]) d_R_circles_1 rfl (by decide) rfl ?_
  refine g_iconst hz d_R_circles_2 ki_0 ?_
  refine g_istore_n hz (L' := [(2, .int 0), (1, .int 0), (0, .ref 176)]) d_R_circles_3 rfl (by decide) rfl ?_
  refine g_sub [2, 1, 0] rfl ?_
  exact w_R_circles_4 hz hq KF 0 0 _ h
def f_R_way (s : Mm) (a1 : Int32) (a2 : Int32) : Option (Int32 × Mm) :=
  bn (f_R_areTwo s a1 a2) fun x3 s2 =>
  if x3 = 0 then
    bn (f_R_no s2 (-1)) fun x7 s6 =>
    some (x7, s6)
  else
    bn (f_R_wayTo s2 a1 a2) fun x10 s9 =>
    some (x10, s9)
set_option maxRecDepth 20000 in
theorem c_R_way (l : Launch) {s : Mm} {a1 : Int32} {a2 : Int32} {r' : Int32} {s' : Mm}  (h : f_R_way s a1 a2 = some (r', s')) : Cm l y_R_way b_R_way 3 (some .int) 2 43 [.ref 176, .int a1, .int a2] s s' (some (.int r')) := by
  refine Cm.of (own := "PassedOnAndBetterModel") (by decide) rfl (fun ad => Nat.le_of_ble_eq_true rfl) ?_
  intro z hz hq
  show G l z b_R_way 3 0 [(0, .ref 176), (1, .int a1), (2, .int a2)] [] s
  unfold f_R_way at h
  refine g_aload_n hz 0 d_R_way_0 rfl rfl ?_
  refine g_iload_n hz 1 d_R_way_1 rfl rfl ?_
  refine g_iload_n hz 2 d_R_way_2 rfl rfl ?_
  refine bn_use h (fun x3 s2 e1 h => ?_)
  refine g_callVi hz (c_R_areTwo l e1) (by decide) rc_R rfl rfl m_R_areTwo mi_R_areTwo ms_R_areTwo q_1178 ⟨Nat.le_of_ble_eq_true rfl, Nat.le_of_ble_eq_true rfl⟩ rfl (st := []) rfl (Nat.le_of_ble_eq_true rfl) d_R_way_3 ?_
  refine g_if_eq hz (tgt := 18) d_R_way_6 (by decide) (fun c4 => ?_) (fun c4 => ?_)
  · replace h := (if_pos c4).symm.trans h
    refine g_aload_n hz 0 d_R_way_18 rfl rfl ?_
    refine g_iconst hz d_R_way_19 ki_m1 ?_
    refine bn_use h (fun x7 s6 e5 h => ?_)
    refine g_callVi hz (c_R_no l e5) (by decide) rc_R rfl rfl m_R_no mi_R_no ms_R_no q_1107 ⟨Nat.le_of_ble_eq_true rfl, Nat.le_of_ble_eq_true rfl⟩ rfl (st := []) rfl (Nat.le_of_ble_eq_true rfl) d_R_way_20 ?_
    exact g_iret hz (rti h hq) d_R_way_23
  · replace h := (if_neg c4).symm.trans h
    refine g_aload_n hz 0 d_R_way_9 rfl rfl ?_
    refine g_iload_n hz 1 d_R_way_10 rfl rfl ?_
    refine g_iload_n hz 2 d_R_way_11 rfl rfl ?_
    refine bn_use h (fun x10 s9 e8 h => ?_)
    refine g_callVi hz (c_R_wayTo l e8) (by decide) rc_R rfl rfl m_R_wayTo mi_R_wayTo ms_R_wayTo q_1397 ⟨Nat.le_of_ble_eq_true rfl, Nat.le_of_ble_eq_true rfl⟩ rfl (st := []) rfl (Nat.le_of_ble_eq_true rfl) d_R_way_12 ?_
    refine g_goto hz (tgt := 23) d_R_way_15 (by decide) ?_
    exact g_iret hz (rti h hq) d_R_way_23
def k_R_firstOther_43 (kc10 : (Int32 → Nat → Int32 → Int32 → Mm → Option (Int32 × Mm))) (v1 : Int32) (o2 : Nat) (v4 : Int32) (vt0 : Int32) (s : Mm) : Option (Int32 × Mm) :=
  bv (f_R_goesMonth s 0) fun s13 =>
  kc10 v1 o2 vt0 (v4 + 1) s13
set_option maxRecDepth 20000 in
theorem w_R_firstOther_43 {l : Launch} {z : Zt} (hz : ZOk z b_R_firstOther 5 "PassedOnAndBetterModel" 5 111) {r' : Int32} {s' : Mm} (hq : ZR z (some .int) s' (some (.int r'))) {kc10 : (Int32 → Nat → Int32 → Int32 → Mm → Option (Int32 × Mm))} (hk10 : (∀ (v1 : Int32) (o2 : Nat) (v3 : Int32) (v4 : Int32) (ho2 : iA o2) (s : Mm), kc10 v1 o2 v3 v4 s = some (r', s') → G l z b_R_firstOther 5 10 [(0, .ref 176), (1, .int v1), (2, .ref o2), (3, .int v3), (4, .int v4)] [] s)) (v1 : Int32) (o2 : Nat) (v4 : Int32) (vt0 : Int32) (ho2 : iA o2) (s : Mm) (h : k_R_firstOther_43 kc10 v1 o2 v4 vt0 s = some (r', s')) : G l z b_R_firstOther 5 43 [(0, .ref 176), (1, .int v1), (2, .ref o2), (4, .int v4)] [.int vt0] s := by
  unfold k_R_firstOther_43 at h
  refine g_istore_n hz (L' := [(3, .int vt0), (0, .ref 176), (1, .int v1), (2, .ref o2), (4, .int v4)]) d_R_firstOther_43 rfl (by decide) rfl ?_
  refine g_aload_n hz 1 d_R_firstOther_44 rfl rfl ?_
  refine g_iconst hz d_R_firstOther_45 ki_0 ?_
  refine bv_use h (fun s13 e12 h => ?_)
  refine g_callVv hz (c_R_goesMonth l e12) (by decide) rc_R rfl rfl m_R_goesMonth mi_R_goesMonth ms_R_goesMonth q_1198 ⟨Nat.le_of_ble_eq_true rfl, Nat.le_of_ble_eq_true rfl⟩ rfl (st := []) rfl (Nat.le_of_ble_eq_true rfl) d_R_firstOther_46 ?_
  refine g_iinc hz (v := v4 + 1) (L' := [(4, .int (v4 + 1)), (3, .int vt0), (0, .ref 176), (1, .int v1), (2, .ref o2)]) 4 d_R_firstOther_49 rfl (congrArg (fun q => v4 + q) ki_1) (by decide) rfl ?_
  refine g_goto hz (tgt := 10) d_R_firstOther_52 (by decide) ?_
  refine g_sub [2, 3, 4, 1, 0] rfl ?_
  exact hk10 v1 o2 vt0 (v4 + 1) ho2 _ h
def k_R_firstOther_10 : Nat → Int32 → Nat → Int32 → Int32 → Mm → Option (Int32 × Mm)
  | 0, _, _, _, _, _ => none
  | n + 1, v1, o2, v3, v4, s => if (s 176 29) ≤ v4 then
      bv (f_R_forgets s) fun s5 =>
      some (v3, s5)
    else
      if 0 ≤ v3 then
        bv (f_R_forgets s) fun s8 =>
        some (v3, s8)
      else
        gd v1 (aL o2) <|
        gd v4 12 <|
        if (s o2 v1.toNatClampNeg) = (s 194 v4.toNatClampNeg) then
          k_R_firstOther_43 (fun v1 o2 v3 v4 s => k_R_firstOther_10 n v1 o2 v3 v4 s) v1 o2 v4 (-9) s
        else
          k_R_firstOther_43 (fun v1 o2 v3 v4 s => k_R_firstOther_10 n v1 o2 v3 v4 s) v1 o2 v4 v4 s
set_option maxRecDepth 20000 in
theorem w_R_firstOther_10 {l : Launch} {z : Zt} (hz : ZOk z b_R_firstOther 5 "PassedOnAndBetterModel" 5 111) {r' : Int32} {s' : Mm} (hq : ZR z (some .int) s' (some (.int r'))) : ∀ (n : Nat) (v1 : Int32) (o2 : Nat) (v3 : Int32) (v4 : Int32) (ho2 : iA o2) (s : Mm), k_R_firstOther_10 n v1 o2 v3 v4 s = some (r', s') → G l z b_R_firstOther 5 10 [(0, .ref 176), (1, .int v1), (2, .ref o2), (3, .int v3), (4, .int v4)] [] s := by
  intro n
  induction n with
  | zero => intro v1 o2 v3 v4 ho2 s h; unfold k_R_firstOther_10 at h; cases h
  | succ n ih =>
    intro v1 o2 v3 v4 ho2 s h
    unfold k_R_firstOther_10 at h
    refine g_iload hz 4 d_R_firstOther_10 rfl ?_
    refine g_aload_n hz 0 d_R_firstOther_12 rfl rfl ?_
    refine gf_R_rowMany hz q_1032 d_R_firstOther_13 ?_
    refine g_icmp_ge hz (tgt := 55) d_R_firstOther_16 (by decide) (fun c3 => ?_) (fun c3 => ?_)
    · replace h := (if_pos c3).symm.trans h
      refine g_aload_n hz 0 d_R_firstOther_55 rfl rfl ?_
      refine bv_use h (fun s5 e4 h => ?_)
      refine g_callVv hz (c_R_forgets l e4) (by decide) rc_R rfl rfl m_R_forgets mi_R_forgets ms_R_forgets q_1298 ⟨Nat.le_of_ble_eq_true rfl, Nat.le_of_ble_eq_true rfl⟩ rfl (st := []) rfl (Nat.le_of_ble_eq_true rfl) d_R_firstOther_56 ?_
      refine g_iload_n hz 3 d_R_firstOther_59 rfl rfl ?_
      exact g_iret hz (rti h hq) d_R_firstOther_60
    · replace h := (if_neg c3).symm.trans h
      refine g_iload_n hz 3 d_R_firstOther_19 rfl rfl ?_
      refine g_if_ge hz (tgt := 55) d_R_firstOther_20 (by decide) (fun c6 => ?_) (fun c6 => ?_)
      · replace h := (if_pos c6).symm.trans h
        refine g_aload_n hz 0 d_R_firstOther_55 rfl rfl ?_
        refine bv_use h (fun s8 e7 h => ?_)
        refine g_callVv hz (c_R_forgets l e7) (by decide) rc_R rfl rfl m_R_forgets mi_R_forgets ms_R_forgets q_1298 ⟨Nat.le_of_ble_eq_true rfl, Nat.le_of_ble_eq_true rfl⟩ rfl (st := []) rfl (Nat.le_of_ble_eq_true rfl) d_R_firstOther_56 ?_
        refine g_iload_n hz 3 d_R_firstOther_59 rfl rfl ?_
        exact g_iret hz (rti h hq) d_R_firstOther_60
      · replace h := (if_neg c6).symm.trans h
        refine g_aload_n hz 2 d_R_firstOther_23 rfl rfl ?_
        refine g_iload_n hz 1 d_R_firstOther_24 rfl rfl ?_
        obtain ⟨n9, h⟩ := gd_use h
        refine g_iald hz ho2 n9 d_R_firstOther_25 ?_
        refine g_aload_n hz 0 d_R_firstOther_26 rfl rfl ?_
        refine gf_R_row hz q_1031 d_R_firstOther_27 ?_
        refine g_iload hz 4 d_R_firstOther_30 rfl ?_
        obtain ⟨n10, h⟩ := gd_use h
        refine g_iald hz (by decide) n10 d_R_firstOther_32 ?_
        refine g_icmp_ne hz (tgt := 41) d_R_firstOther_33 (by decide) (fun c11 => ?_) (fun c11 => ?_)
        · replace h := (if_neg c11).symm.trans h
          refine g_iload hz 4 d_R_firstOther_41 rfl ?_
          refine g_sub [0, 1, 2, 4] rfl ?_
          exact w_R_firstOther_43 hz hq ih v1 o2 v4 v4 ho2 _ h
        · replace h := (if_pos c11).symm.trans h
          refine g_bipush hz (v := (-9)) d_R_firstOther_36 (by decide) ?_
          refine g_goto hz (tgt := 43) d_R_firstOther_38 (by decide) ?_
          refine g_sub [0, 1, 2, 4] rfl ?_
          exact w_R_firstOther_43 hz hq ih v1 o2 v4 (-9) ho2 _ h
def f_R_firstOther (s : Mm) (a1 : Int32) (o2 : Nat) : Option (Int32 × Mm) :=
  bv (f_R_thinks s) fun s2 =>
  k_R_firstOther_10 KF a1 o2 (-9) 0 s2
set_option maxRecDepth 20000 in
theorem c_R_firstOther (l : Launch) {s : Mm} {a1 : Int32} {o2 : Nat} {r' : Int32} {s' : Mm} (ho2 : iA o2) (h : f_R_firstOther s a1 o2 = some (r', s')) : Cm l y_R_firstOther b_R_firstOther 5 (some .int) 5 111 [.ref 176, .int a1, .ref o2] s s' (some (.int r')) := by
  refine Cm.of (own := "PassedOnAndBetterModel") (by decide) rfl (fun ad => Nat.le_of_ble_eq_true rfl) ?_
  intro z hz hq
  show G l z b_R_firstOther 5 0 [(0, .ref 176), (1, .int a1), (2, .ref o2)] [] s
  unfold f_R_firstOther at h
  refine g_aload_n hz 0 d_R_firstOther_0 rfl rfl ?_
  refine bv_use h (fun s2 e1 h => ?_)
  refine g_callVv hz (c_R_thinks l e1) (by decide) rc_R rfl rfl m_R_thinks mi_R_thinks ms_R_thinks q_1294 ⟨Nat.le_of_ble_eq_true rfl, Nat.le_of_ble_eq_true rfl⟩ rfl (st := []) rfl (Nat.le_of_ble_eq_true rfl) d_R_firstOther_1 ?_
  refine g_bipush hz (v := (-9)) d_R_firstOther_4 (by decide) ?_
  refine g_istore_n hz (L' := [(3, .int (-9)), (0, .ref 176), (1, .int a1), (2, .ref o2)]) d_R_firstOther_6 rfl (by decide) rfl ?_
  refine g_iconst hz d_R_firstOther_7 ki_0 ?_
  refine g_istore hz (L' := [(4, .int 0), (3, .int (-9)), (0, .ref 176), (1, .int a1), (2, .ref o2)]) d_R_firstOther_8 (by decide) rfl ?_
  refine g_sub [2, 3, 4, 1, 0] rfl ?_
  exact w_R_firstOther_10 hz hq KF a1 o2 (-9) 0 ho2 _ h
def k_R_bitsFor_11 : Nat → Nat → Int32 → Int32 → Int32 → Int32 → Int32 → Int32 → Mm → Option (Int32 × Mm)
  | 0, _, _, _, _, _, _, _, _ => none
  | n + 1, o1, v2, v3, v4, v5, v6, v7, s => if v3 ≤ v7 then
      gd v2 (aL o1) <|
      nm (mU s o1 v2.toNatClampNeg v5) fun s6 =>
      some (v6, s6)
    else
      gd v2 (aL o1) <|
      nm (mU s o1 v2.toNatClampNeg v7) fun s9 =>
      bn (f_R_firstOther s9 v4 182) fun x13 s12 =>
      if 0 ≤ x13 then
        nm (v6 ||| 0) fun x15 =>
        k_R_bitsFor_11 n o1 v2 v3 v4 v5 x15 (v7 + 1) s12
      else
        nm (v6 ||| (1 <<< (v7 &&& 31))) fun x17 =>
        k_R_bitsFor_11 n o1 v2 v3 v4 v5 x17 (v7 + 1) s12
set_option maxRecDepth 20000 in
theorem w_R_bitsFor_11 {l : Launch} {z : Zt} (hz : ZOk z b_R_bitsFor 8 "PassedOnAndBetterModel" 6 135) {r' : Int32} {s' : Mm} (hq : ZR z (some .int) s' (some (.int r'))) : ∀ (n : Nat) (o1 : Nat) (v2 : Int32) (v3 : Int32) (v4 : Int32) (v5 : Int32) (v6 : Int32) (v7 : Int32) (ho1 : iA o1) (s : Mm), k_R_bitsFor_11 n o1 v2 v3 v4 v5 v6 v7 s = some (r', s') → G l z b_R_bitsFor 8 11 [(0, .ref 176), (1, .ref o1), (2, .int v2), (3, .int v3), (4, .int v4), (5, .int v5), (6, .int v6), (7, .int v7)] [] s := by
  intro n
  induction n with
  | zero => intro o1 v2 v3 v4 v5 v6 v7 ho1 s h; unfold k_R_bitsFor_11 at h; cases h
  | succ n ih =>
    intro o1 v2 v3 v4 v5 v6 v7 ho1 s h
    unfold k_R_bitsFor_11 at h
    refine g_iload hz 7 d_R_bitsFor_11 rfl ?_
    refine g_iload_n hz 3 d_R_bitsFor_13 rfl rfl ?_
    refine g_icmp_ge hz (tgt := 54) d_R_bitsFor_14 (by decide) (fun c4 => ?_) (fun c4 => ?_)
    · replace h := (if_pos c4).symm.trans h
      refine g_aload_n hz 1 d_R_bitsFor_54 rfl rfl ?_
      refine g_iload_n hz 2 d_R_bitsFor_55 rfl rfl ?_
      refine g_iload hz 5 d_R_bitsFor_56 rfl ?_
      obtain ⟨n5, h⟩ := gd_use h
      refine g_iast hz ho1 n5 d_R_bitsFor_58 (fun s6 e7 => ?_)
      replace h := nm_use h e7
      refine g_iload hz 6 d_R_bitsFor_59 rfl ?_
      exact g_iret hz (rti h hq) d_R_bitsFor_61
    · replace h := (if_neg c4).symm.trans h
      refine g_aload_n hz 1 d_R_bitsFor_17 rfl rfl ?_
      refine g_iload_n hz 2 d_R_bitsFor_18 rfl rfl ?_
      refine g_iload hz 7 d_R_bitsFor_19 rfl ?_
      obtain ⟨n8, h⟩ := gd_use h
      refine g_iast hz ho1 n8 d_R_bitsFor_21 (fun s9 e10 => ?_)
      replace h := nm_use h e10
      refine g_iload hz 6 d_R_bitsFor_22 rfl ?_
      refine g_aload_n hz 0 d_R_bitsFor_24 rfl rfl ?_
      refine g_iload hz 4 d_R_bitsFor_25 rfl ?_
      refine g_aload_n hz 0 d_R_bitsFor_27 rfl rfl ?_
      refine gf_R_worth hz q_1008 d_R_bitsFor_28 ?_
      refine bn_use h (fun x13 s12 e11 h => ?_)
      refine g_callVi hz (c_R_firstOther l (by decide) e11) (by decide) rc_R rfl rfl m_R_firstOther mi_R_firstOther ms_R_firstOther q_1413 ⟨Nat.le_of_ble_eq_true rfl, Nat.le_of_ble_eq_true rfl⟩ rfl (st := [.int v6]) rfl (Nat.le_of_ble_eq_true rfl) d_R_bitsFor_31 ?_
      refine g_if_ge hz (tgt := 44) d_R_bitsFor_34 (by decide) (fun c14 => ?_) (fun c14 => ?_)
      · replace h := (if_pos c14).symm.trans h
        refine g_iconst hz d_R_bitsFor_44 ki_0 ?_
        refine g_ior hz d_R_bitsFor_45 ?_
        refine g_nmi (fun x15 e16 => ?_)
        replace h := nm_use h e16
        refine g_istore hz (L' := [(6, .int x15), (0, .ref 176), (1, .ref o1), (2, .int v2), (3, .int v3), (4, .int v4), (5, .int v5), (7, .int v7)]) d_R_bitsFor_46 (by decide) rfl ?_
        refine g_iinc hz (v := v7 + 1) (L' := [(7, .int (v7 + 1)), (6, .int x15), (0, .ref 176), (1, .ref o1), (2, .int v2), (3, .int v3), (4, .int v4), (5, .int v5)]) 7 d_R_bitsFor_48 rfl (congrArg (fun q => v7 + q) ki_1) (by decide) rfl ?_
        refine g_goto hz (tgt := 11) d_R_bitsFor_51 (by decide) ?_
        refine g_sub [2, 3, 4, 5, 6, 7, 1, 0] rfl ?_
        exact ih o1 v2 v3 v4 v5 x15 (v7 + 1) ho1 _ h
      · replace h := (if_neg c14).symm.trans h
        refine g_iconst hz d_R_bitsFor_37 ki_1 ?_
        refine g_iload hz 7 d_R_bitsFor_38 rfl ?_
        refine g_ishl hz d_R_bitsFor_40 ?_
        refine g_goto hz (tgt := 45) d_R_bitsFor_41 (by decide) ?_
        refine g_ior hz d_R_bitsFor_45 ?_
        refine g_nmi (fun x17 e18 => ?_)
        replace h := nm_use h e18
        refine g_istore hz (L' := [(6, .int x17), (0, .ref 176), (1, .ref o1), (2, .int v2), (3, .int v3), (4, .int v4), (5, .int v5), (7, .int v7)]) d_R_bitsFor_46 (by decide) rfl ?_
        refine g_iinc hz (v := v7 + 1) (L' := [(7, .int (v7 + 1)), (6, .int x17), (0, .ref 176), (1, .ref o1), (2, .int v2), (3, .int v3), (4, .int v4), (5, .int v5)]) 7 d_R_bitsFor_48 rfl (congrArg (fun q => v7 + q) ki_1) (by decide) rfl ?_
        refine g_goto hz (tgt := 11) d_R_bitsFor_51 (by decide) ?_
        refine g_sub [2, 3, 4, 5, 6, 7, 1, 0] rfl ?_
        exact ih o1 v2 v3 v4 v5 x17 (v7 + 1) ho1 _ h
def f_R_bitsFor (s : Mm) (o1 : Nat) (a2 : Int32) (a3 : Int32) (a4 : Int32) : Option (Int32 × Mm) :=
  gd a2 (aL o1) <|
  nm (s o1 a2.toNatClampNeg) fun x2 =>
  k_R_bitsFor_11 KF o1 a2 a3 a4 x2 0 0 s
set_option maxRecDepth 20000 in
theorem c_R_bitsFor (l : Launch) {s : Mm} {o1 : Nat} {a2 : Int32} {a3 : Int32} {a4 : Int32} {r' : Int32} {s' : Mm} (ho1 : iA o1) (h : f_R_bitsFor s o1 a2 a3 a4 = some (r', s')) : Cm l y_R_bitsFor b_R_bitsFor 8 (some .int) 6 135 [.ref 176, .ref o1, .int a2, .int a3, .int a4] s s' (some (.int r')) := by
  refine Cm.of (own := "PassedOnAndBetterModel") (by decide) rfl (fun ad => Nat.le_of_ble_eq_true rfl) ?_
  intro z hz hq
  show G l z b_R_bitsFor 8 0 [(0, .ref 176), (1, .ref o1), (2, .int a2), (3, .int a3), (4, .int a4)] [] s
  unfold f_R_bitsFor at h
  refine g_aload_n hz 1 d_R_bitsFor_0 rfl rfl ?_
  refine g_iload_n hz 2 d_R_bitsFor_1 rfl rfl ?_
  obtain ⟨n1, h⟩ := gd_use h
  refine g_iald hz ho1 n1 d_R_bitsFor_2 ?_
  refine g_nmi (fun x2 e3 => ?_)
  replace h := nm_use h e3
  refine g_istore hz (L' := [(5, .int x2), (0, .ref 176), (1, .ref o1), (2, .int a2), (3, .int a3), (4, .int a4)]) d_R_bitsFor_3 (by decide) rfl ?_
  refine g_iconst hz d_R_bitsFor_5 ki_0 ?_
  refine g_istore hz (L' := [(6, .int 0), (5, .int x2), (0, .ref 176), (1, .ref o1), (2, .int a2), (3, .int a3), (4, .int a4)]) d_R_bitsFor_6 (by decide) rfl ?_
  refine g_iconst hz d_R_bitsFor_8 ki_0 ?_
  refine g_istore hz (L' := [(7, .int 0), (6, .int 0), (5, .int x2), (0, .ref 176), (1, .ref o1), (2, .int a2), (3, .int a3), (4, .int a4)]) d_R_bitsFor_9 (by decide) rfl ?_
  refine g_sub [3, 4, 5, 6, 7, 2, 1, 0] rfl ?_
  exact w_R_bitsFor_11 hz hq KF o1 a2 a3 a4 x2 0 0 ho1 _ h
def k_R_whatItWas_27 (v1 : Int32) (v2 : Int32) (vt0 : Int32) (s : Mm) : Option (Int32 × Mm) :=
  if vt0 = 0 then
    gd v1 4 <|
    nm (s 184 v1.toNatClampNeg) fun x11 =>
    if v2 = 0 then
      bn (f_R_bitsFor s 178 x11 6 v1) fun x26 s25 =>
      some (x26, s25)
    else
      if v2 = 1 then
        bn (f_R_bitsFor s 179 x11 10 v1) fun x23 s22 =>
        some (x23, s22)
      else
        bn (f_R_bitsFor s 185 v1 13 v1) fun x17 s16 =>
        bn (f_R_bits s16 x17) fun x20 s19 =>
        some (x20, s19)
  else
    bn (f_R_no s vt0) fun x29 s28 =>
    some (x29, s28)
set_option maxRecDepth 20000 in
theorem w_R_whatItWas_27 {l : Launch} {z : Zt} (hz : ZOk z b_R_whatItWas 5 "PassedOnAndBetterModel" 7 162) {r' : Int32} {s' : Mm} (hq : ZR z (some .int) s' (some (.int r'))) (v1 : Int32) (v2 : Int32) (vt0 : Int32) (s : Mm) (h : k_R_whatItWas_27 v1 v2 vt0 s = some (r', s')) : G l z b_R_whatItWas 5 27 [(0, .ref 176), (1, .int v1), (2, .int v2)] [.int vt0] s := by
  unfold k_R_whatItWas_27 at h
  refine g_istore_n hz (L' := [(3, .int vt0), (0, .ref 176), (1, .int v1), (2, .int v2)]) d_R_whatItWas_27 rfl (by decide) rfl ?_
  refine g_iload_n hz 0 d_R_whatItWas_28 rfl rfl ?_
  refine g_if_eq hz (tgt := 38) d_R_whatItWas_29 (by decide) (fun c9 => ?_) (fun c9 => ?_)
  · replace h := (if_pos c9).symm.trans h
    refine g_aload_n hz 1 d_R_whatItWas_38 rfl rfl ?_
    refine gf_R_holder hz q_1010 d_R_whatItWas_39 ?_
    refine g_iload_n hz 2 d_R_whatItWas_42 rfl rfl ?_
    obtain ⟨n10, h⟩ := gd_use h
    refine g_iald hz (by decide) n10 d_R_whatItWas_43 ?_
    refine g_nmi (fun x11 e12 => ?_)
    replace h := nm_use h e12
    refine g_istore hz (L' := [(4, .int x11), (3, .int vt0), (0, .ref 176), (1, .int v1), (2, .int v2)]) d_R_whatItWas_44 (by decide) rfl ?_
    refine g_iload_n hz 4 d_R_whatItWas_46 rfl rfl ?_
    refine g_if_ne hz (tgt := 66) d_R_whatItWas_47 (by decide) (fun c13 => ?_) (fun c13 => ?_)
    · replace h := (if_neg c13).symm.trans h
      refine g_iload_n hz 4 d_R_whatItWas_66 rfl rfl ?_
      refine g_iconst hz d_R_whatItWas_67 ki_1 ?_
      refine g_icmp_ne hz (tgt := 87) d_R_whatItWas_68 (by decide) (fun c14 => ?_) (fun c14 => ?_)
      · replace h := (if_neg c14).symm.trans h
        refine g_aload_n hz 2 d_R_whatItWas_87 rfl rfl ?_
        refine g_aload_n hz 2 d_R_whatItWas_88 rfl rfl ?_
        refine gf_R_kept hz q_1011 d_R_whatItWas_89 ?_
        refine g_iload_n hz 3 d_R_whatItWas_92 rfl rfl ?_
        refine g_bipush hz (v := 13) d_R_whatItWas_93 (by decide) ?_
        refine g_iload_n hz 3 d_R_whatItWas_95 rfl rfl ?_
        refine bn_use h (fun x17 s16 e15 h => ?_)
        refine g_callVi hz (c_R_bitsFor l (by decide) e15) (by decide) rc_R rfl rfl m_R_bitsFor mi_R_bitsFor ms_R_bitsFor q_1409 ⟨Nat.le_of_ble_eq_true rfl, Nat.le_of_ble_eq_true rfl⟩ rfl (st := []) rfl (Nat.le_of_ble_eq_true rfl) d_R_whatItWas_96 ?_
        refine bn_use h (fun x20 s19 e18 h => ?_)
        refine g_callSi hz (c_R_bits l e18) m_R_bits mi_R_bits q_1362 ⟨Nat.le_of_ble_eq_true rfl, Nat.le_of_ble_eq_true rfl⟩ rfl (st := []) rfl (Nat.le_of_ble_eq_true rfl) d_R_whatItWas_99 ?_
        exact g_iret hz (rti h hq) d_R_whatItWas_102
      · replace h := (if_pos c14).symm.trans h
        refine g_aload_n hz 2 d_R_whatItWas_71 rfl rfl ?_
        refine g_aload_n hz 2 d_R_whatItWas_72 rfl rfl ?_
        refine gf_R_figure hz q_1005 d_R_whatItWas_73 ?_
        refine g_iload hz 0 d_R_whatItWas_76 rfl ?_
        refine g_bipush hz (v := 10) d_R_whatItWas_78 (by decide) ?_
        refine g_iload_n hz 3 d_R_whatItWas_80 rfl rfl ?_
        refine bn_use h (fun x23 s22 e21 h => ?_)
        refine g_callVi hz (c_R_bitsFor l (by decide) e21) (by decide) rc_R rfl rfl m_R_bitsFor mi_R_bitsFor ms_R_bitsFor q_1409 ⟨Nat.le_of_ble_eq_true rfl, Nat.le_of_ble_eq_true rfl⟩ rfl (st := []) rfl (Nat.le_of_ble_eq_true rfl) d_R_whatItWas_81 ?_
        refine g_goto hz (tgt := 102) d_R_whatItWas_84 (by decide) ?_
        exact g_iret hz (rti h hq) d_R_whatItWas_102
    · replace h := (if_pos c13).symm.trans h
      refine g_aload_n hz 2 d_R_whatItWas_50 rfl rfl ?_
      refine g_aload_n hz 2 d_R_whatItWas_51 rfl rfl ?_
      refine gf_R_kind hz q_1004 d_R_whatItWas_52 ?_
      refine g_iload hz 0 d_R_whatItWas_55 rfl ?_
      refine g_bipush hz (v := 6) d_R_whatItWas_57 (by decide) ?_
      refine g_iload_n hz 3 d_R_whatItWas_59 rfl rfl ?_
      refine bn_use h (fun x26 s25 e24 h => ?_)
      refine g_callVi hz (c_R_bitsFor l (by decide) e24) (by decide) rc_R rfl rfl m_R_bitsFor mi_R_bitsFor ms_R_bitsFor q_1409 ⟨Nat.le_of_ble_eq_true rfl, Nat.le_of_ble_eq_true rfl⟩ rfl (st := []) rfl (Nat.le_of_ble_eq_true rfl) d_R_whatItWas_60 ?_
      refine g_goto hz (tgt := 102) d_R_whatItWas_63 (by decide) ?_
      exact g_iret hz (rti h hq) d_R_whatItWas_102
  · replace h := (if_neg c9).symm.trans h
    refine g_aload_n hz 1 d_R_whatItWas_32 rfl rfl ?_
    refine g_iload_n hz 0 d_R_whatItWas_33 rfl rfl ?_
    refine bn_use h (fun x29 s28 e27 h => ?_)
    refine g_callVi hz (c_R_no l e27) (by decide) rc_R rfl rfl m_R_no mi_R_no ms_R_no q_1107 ⟨Nat.le_of_ble_eq_true rfl, Nat.le_of_ble_eq_true rfl⟩ rfl (st := []) rfl (Nat.le_of_ble_eq_true rfl) d_R_whatItWas_34 ?_
    exact g_iret hz (rti h hq) d_R_whatItWas_37
def f_R_whatItWas (s : Mm) (a1 : Int32) (a2 : Int32) : Option (Int32 × Mm) :=
  bn (f_R_isGift s a1) fun x3 s2 =>
  if x3 = 0 then
    k_R_whatItWas_27 a1 a2 (-1) s2
  else
    bn (f_R_isIn s2 a2 0 2) fun x7 s6 =>
    if x7 = 0 then
      k_R_whatItWas_27 a1 a2 (-2) s6
    else
      k_R_whatItWas_27 a1 a2 0 s6
set_option maxRecDepth 20000 in
theorem c_R_whatItWas (l : Launch) {s : Mm} {a1 : Int32} {a2 : Int32} {r' : Int32} {s' : Mm}  (h : f_R_whatItWas s a1 a2 = some (r', s')) : Cm l y_R_whatItWas b_R_whatItWas 5 (some .int) 7 162 [.ref 176, .int a1, .int a2] s s' (some (.int r')) := by
  refine Cm.of (own := "PassedOnAndBetterModel") (by decide) rfl (fun ad => Nat.le_of_ble_eq_true rfl) ?_
  intro z hz hq
  show G l z b_R_whatItWas 5 0 [(0, .ref 176), (1, .int a1), (2, .int a2)] [] s
  unfold f_R_whatItWas at h
  refine g_aload_n hz 0 d_R_whatItWas_0 rfl rfl ?_
  refine g_iload_n hz 1 d_R_whatItWas_1 rfl rfl ?_
  refine bn_use h (fun x3 s2 e1 h => ?_)
  refine g_callVi hz (c_R_isGift l e1) (by decide) rc_R rfl rfl m_R_isGift mi_R_isGift ms_R_isGift q_1186 ⟨Nat.le_of_ble_eq_true rfl, Nat.le_of_ble_eq_true rfl⟩ rfl (st := []) rfl (Nat.le_of_ble_eq_true rfl) d_R_whatItWas_2 ?_
  refine g_if_ne hz (tgt := 12) d_R_whatItWas_5 (by decide) (fun c4 => ?_) (fun c4 => ?_)
  · replace h := (if_neg c4).symm.trans h
    refine g_iload_n hz 2 d_R_whatItWas_12 rfl rfl ?_
    refine g_iconst hz d_R_whatItWas_13 ki_0 ?_
    refine g_iconst hz d_R_whatItWas_14 ki_2 ?_
    refine bn_use h (fun x7 s6 e5 h => ?_)
    refine g_callSi hz (c_R_isIn l e5) m_R_isIn mi_R_isIn q_1131 ⟨Nat.le_of_ble_eq_true rfl, Nat.le_of_ble_eq_true rfl⟩ rfl (st := []) rfl (Nat.le_of_ble_eq_true rfl) d_R_whatItWas_15 ?_
    refine g_if_ne hz (tgt := 26) d_R_whatItWas_18 (by decide) (fun c8 => ?_) (fun c8 => ?_)
    · replace h := (if_neg c8).symm.trans h
      refine g_iconst hz d_R_whatItWas_26 ki_0 ?_
      exact w_R_whatItWas_27 hz hq a1 a2 0 _ h
    · replace h := (if_pos c8).symm.trans h
      refine g_bipush hz (v := (-2)) d_R_whatItWas_21 (by decide) ?_
      refine g_goto hz (tgt := 27) d_R_whatItWas_23 (by decide) ?_
      exact w_R_whatItWas_27 hz hq a1 a2 (-2) _ h
  · replace h := (if_pos c4).symm.trans h
    refine g_iconst hz d_R_whatItWas_8 ki_m1 ?_
    refine g_goto hz (tgt := 27) d_R_whatItWas_9 (by decide) ?_
    exact w_R_whatItWas_27 hz hq a1 a2 (-1) _ h
def k_R_startsOf_42 (kc4 : (Int32 → Int32 → Int32 → Mm → Option (Int32 × Mm))) (v1 : Int32) (v3 : Int32) (vt0 : Int32) (vt1 : Int32) (s : Mm) : Option (Int32 × Mm) :=
  nm (vt1 ||| vt0) fun x10 =>
  bv (f_R_changesBack s) fun s13 =>
  kc4 v1 x10 (v3 + 1) s13
set_option maxRecDepth 20000 in
theorem w_R_startsOf_42 {l : Launch} {z : Zt} (hz : ZOk z b_R_startsOf 4 "PassedOnAndBetterModel" 6 135) {r' : Int32} {s' : Mm} (hq : ZR z (some .int) s' (some (.int r'))) {kc4 : (Int32 → Int32 → Int32 → Mm → Option (Int32 × Mm))} (hk4 : (∀ (v1 : Int32) (v2 : Int32) (v3 : Int32) (s : Mm), kc4 v1 v2 v3 s = some (r', s') → G l z b_R_startsOf 4 4 [(0, .ref 176), (1, .int v1), (2, .int v2), (3, .int v3)] [] s)) (v1 : Int32) (v3 : Int32) (vt0 : Int32) (vt1 : Int32) (s : Mm) (h : k_R_startsOf_42 kc4 v1 v3 vt0 vt1 s = some (r', s')) : G l z b_R_startsOf 4 42 [(0, .ref 176), (1, .int v1), (3, .int v3)] [.int vt0, .int vt1] s := by
  unfold k_R_startsOf_42 at h
  refine g_ior hz d_R_startsOf_42 ?_
  refine g_nmi (fun x10 e11 => ?_)
  replace h := nm_use h e11
  refine g_istore_n hz (L' := [(2, .int x10), (0, .ref 176), (1, .int v1), (3, .int v3)]) d_R_startsOf_43 rfl (by decide) rfl ?_
  refine g_aload_n hz 1 d_R_startsOf_44 rfl rfl ?_
  refine bv_use h (fun s13 e12 h => ?_)
  refine g_callVv hz (c_R_changesBack l e12) (by decide) rc_R rfl rfl m_R_changesBack mi_R_changesBack ms_R_changesBack q_1346 ⟨Nat.le_of_ble_eq_true rfl, Nat.le_of_ble_eq_true rfl⟩ rfl (st := []) rfl (Nat.le_of_ble_eq_true rfl) d_R_startsOf_45 ?_
  refine g_iinc hz (v := v3 + 1) (L' := [(3, .int (v3 + 1)), (2, .int x10), (0, .ref 176), (1, .int v1)]) 3 d_R_startsOf_48 rfl (congrArg (fun q => v3 + q) ki_1) (by decide) rfl ?_
  refine g_goto hz (tgt := 4) d_R_startsOf_51 (by decide) ?_
  refine g_sub [2, 3, 1, 0] rfl ?_
  exact hk4 v1 x10 (v3 + 1) _ h
def k_R_startsOf_4 : Nat → Int32 → Int32 → Int32 → Mm → Option (Int32 × Mm)
  | 0, _, _, _, _ => none
  | n + 1, v1, v2, v3, s => if (s 176 11) ≤ v3 then
      some (v2, s)
    else
      bv (f_R_changes s) fun s3 =>
      bv (f_R_puts s3 v1 v3) fun s5 =>
      bn (f_R_firstOther s5 v1 184) fun x8 s7 =>
      if 0 ≤ x8 then
        k_R_startsOf_42 (fun v1 v2 v3 s => k_R_startsOf_4 n v1 v2 v3 s) v1 v3 0 v2 s7
      else
        k_R_startsOf_42 (fun v1 v2 v3 s => k_R_startsOf_4 n v1 v2 v3 s) v1 v3 (1 <<< (v3 &&& 31)) v2 s7
set_option maxRecDepth 20000 in
theorem w_R_startsOf_4 {l : Launch} {z : Zt} (hz : ZOk z b_R_startsOf 4 "PassedOnAndBetterModel" 6 135) {r' : Int32} {s' : Mm} (hq : ZR z (some .int) s' (some (.int r'))) : ∀ (n : Nat) (v1 : Int32) (v2 : Int32) (v3 : Int32) (s : Mm), k_R_startsOf_4 n v1 v2 v3 s = some (r', s') → G l z b_R_startsOf 4 4 [(0, .ref 176), (1, .int v1), (2, .int v2), (3, .int v3)] [] s := by
  intro n
  induction n with
  | zero => intro v1 v2 v3 s h; unfold k_R_startsOf_4 at h; cases h
  | succ n ih =>
    intro v1 v2 v3 s h
    unfold k_R_startsOf_4 at h
    refine g_iload_n hz 3 d_R_startsOf_4 rfl rfl ?_
    refine g_aload_n hz 0 d_R_startsOf_5 rfl rfl ?_
    refine gf_R_friends hz q_1014 d_R_startsOf_6 ?_
    refine g_icmp_ge hz (tgt := 54) d_R_startsOf_9 (by decide) (fun c1 => ?_) (fun c1 => ?_)
    · replace h := (if_pos c1).symm.trans h
      refine g_iload_n hz 2 d_R_startsOf_54 rfl rfl ?_
      exact g_iret hz (rti h hq) d_R_startsOf_55
    · replace h := (if_neg c1).symm.trans h
      refine g_aload_n hz 0 d_R_startsOf_12 rfl rfl ?_
      refine bv_use h (fun s3 e2 h => ?_)
      refine g_callVv hz (c_R_changes l e2) (by decide) rc_R rfl rfl m_R_changes mi_R_changes ms_R_changes q_1338 ⟨Nat.le_of_ble_eq_true rfl, Nat.le_of_ble_eq_true rfl⟩ rfl (st := []) rfl (Nat.le_of_ble_eq_true rfl) d_R_startsOf_13 ?_
      refine g_aload_n hz 0 d_R_startsOf_16 rfl rfl ?_
      refine g_iload_n hz 1 d_R_startsOf_17 rfl rfl ?_
      refine g_iload_n hz 3 d_R_startsOf_18 rfl rfl ?_
      refine bv_use h (fun s5 e4 h => ?_)
      refine g_callVv hz (c_R_puts l e4) (by decide) rc_R rfl rfl m_R_puts mi_R_puts ms_R_puts q_1170 ⟨Nat.le_of_ble_eq_true rfl, Nat.le_of_ble_eq_true rfl⟩ rfl (st := []) rfl (Nat.le_of_ble_eq_true rfl) d_R_startsOf_19 ?_
      refine g_iload_n hz 2 d_R_startsOf_22 rfl rfl ?_
      refine g_aload_n hz 0 d_R_startsOf_23 rfl rfl ?_
      refine g_iload_n hz 1 d_R_startsOf_24 rfl rfl ?_
      refine g_aload_n hz 0 d_R_startsOf_25 rfl rfl ?_
      refine gf_R_holder hz q_1010 d_R_startsOf_26 ?_
      refine bn_use h (fun x8 s7 e6 h => ?_)
      refine g_callVi hz (c_R_firstOther l (by decide) e6) (by decide) rc_R rfl rfl m_R_firstOther mi_R_firstOther ms_R_firstOther q_1413 ⟨Nat.le_of_ble_eq_true rfl, Nat.le_of_ble_eq_true rfl⟩ rfl (st := [.int v2]) rfl (Nat.le_of_ble_eq_true rfl) d_R_startsOf_29 ?_
      refine g_if_ge hz (tgt := 41) d_R_startsOf_32 (by decide) (fun c9 => ?_) (fun c9 => ?_)
      · replace h := (if_pos c9).symm.trans h
        refine g_iconst hz d_R_startsOf_41 ki_0 ?_
        refine g_sub [0, 1, 3] rfl ?_
        exact w_R_startsOf_42 hz hq ih v1 v3 0 v2 _ h
      · replace h := (if_neg c9).symm.trans h
        refine g_iconst hz d_R_startsOf_35 ki_1 ?_
        refine g_iload_n hz 3 d_R_startsOf_36 rfl rfl ?_
        refine g_ishl hz d_R_startsOf_37 ?_
        refine g_goto hz (tgt := 42) d_R_startsOf_38 (by decide) ?_
        refine g_sub [0, 1, 3] rfl ?_
        exact w_R_startsOf_42 hz hq ih v1 v3 (1 <<< (v3 &&& 31)) v2 _ h
def f_R_startsOf (s : Mm) (a1 : Int32) : Option (Int32 × Mm) :=
  k_R_startsOf_4 KF a1 0 0 s
set_option maxRecDepth 20000 in
theorem c_R_startsOf (l : Launch) {s : Mm} {a1 : Int32} {r' : Int32} {s' : Mm}  (h : f_R_startsOf s a1 = some (r', s')) : Cm l y_R_startsOf b_R_startsOf 4 (some .int) 6 135 [.ref 176, .int a1] s s' (some (.int r')) := by
  refine Cm.of (own := "PassedOnAndBetterModel") (by decide) rfl (fun ad => Nat.le_of_ble_eq_true rfl) ?_
  intro z hz hq
  show G l z b_R_startsOf 4 0 [(0, .ref 176), (1, .int a1)] [] s
  unfold f_R_startsOf at h
  refine g_iconst hz d_R_startsOf_0 ki_0 ?_
  refine g_istore_n hz (L' := [(2, .int 0), (0, .ref 176), (1, .int a1)]) d_R_startsOf_1 rfl (by decide) rfl ?_
  refine g_iconst hz d_R_startsOf_2 ki_0 ?_
  refine g_istore_n hz (L' := [(3, .int 0), (2, .int 0), (0, .ref 176), (1, .int a1)]) d_R_startsOf_3 rfl (by decide) rfl ?_
  refine g_sub [2, 3, 1, 0] rfl ?_
  exact w_R_startsOf_4 hz hq KF a1 0 0 _ h
