def k_R_goes_2 : Nat → Int32 → Int32 → Mm → Option Mm
  | 0, _, _, _ => none
  | n + 1, v1, v2, s => if v1 ≤ v2 then
      some s
    else
      bv (f_R_goesMonth s 0) fun s3 =>
      k_R_goes_2 n v1 (v2 + 1) s3
set_option maxRecDepth 20000 in
theorem w_R_goes_2 {l : Launch} {z : Zt} (hz : ZOk z b_R_goes 3 "PassedOnAndBetterModel" 5 111) {s' : Mm} (hq : ZR z none s' none) : ∀ (n : Nat) (v1 : Int32) (v2 : Int32) (s : Mm), k_R_goes_2 n v1 v2 s = some s' → G l z b_R_goes 3 2 [(0, .ref 176), (1, .int v1), (2, .int v2)] [] s := by
  intro n
  induction n with
  | zero => intro v1 v2 s h; unfold k_R_goes_2 at h; cases h
  | succ n ih =>
    intro v1 v2 s h
    unfold k_R_goes_2 at h
    refine g_iload_n hz 2 d_R_goes_2 rfl rfl ?_
    refine g_iload_n hz 1 d_R_goes_3 rfl rfl ?_
    refine g_icmp_ge hz (tgt := 18) d_R_goes_4 (by decide) (fun c1 => ?_) (fun c1 => ?_)
    · replace h := (if_pos c1).symm.trans h
      exact g_vret hz (rtv h hq) d_R_goes_18
    · replace h := (if_neg c1).symm.trans h
      refine g_aload_n hz 0 d_R_goes_7 rfl rfl ?_
      refine g_iconst hz d_R_goes_8 ki_0 ?_
      refine bv_use h (fun s3 e2 h => ?_)
      refine g_callVv hz (c_R_goesMonth l e2) (by decide) rc_R rfl rfl m_R_goesMonth mi_R_goesMonth ms_R_goesMonth q_1198 ⟨Nat.le_of_ble_eq_true rfl, Nat.le_of_ble_eq_true rfl⟩ rfl (st := []) rfl (Nat.le_of_ble_eq_true rfl) d_R_goes_9 ?_
      refine g_iinc hz (v := v2 + 1) (L' := [(2, .int (v2 + 1)), (0, .ref 176), (1, .int v1)]) 2 d_R_goes_12 rfl (congrArg (fun q => v2 + q) ki_1) (by decide) rfl ?_
      refine g_goto hz (tgt := 2) d_R_goes_15 (by decide) ?_
      refine g_sub [1, 2, 0] rfl ?_
      exact ih v1 (v2 + 1) _ h
def f_R_goes (s : Mm) (a1 : Int32) : Option Mm :=
  k_R_goes_2 KF a1 0 s
set_option maxRecDepth 20000 in
theorem c_R_goes (l : Launch) {s : Mm} {a1 : Int32} {s' : Mm}  (h : f_R_goes s a1 = some s') : Cm l y_R_goes b_R_goes 3 none 5 111 [.ref 176, .int a1] s s' none := by
  refine Cm.of (own := "PassedOnAndBetterModel") (by decide) rfl (fun ad => Nat.le_of_ble_eq_true rfl) ?_
  intro z hz hq
  show G l z b_R_goes 3 0 [(0, .ref 176), (1, .int a1)] [] s
  unfold f_R_goes at h
  refine g_iconst hz d_R_goes_0 ki_0 ?_
  refine g_istore_n hz (L' := [(2, .int 0), (0, .ref 176), (1, .int a1)]) d_R_goes_1 rfl (by decide) rfl ?_
  refine g_sub [1, 2, 0] rfl ?_
  exact w_R_goes_2 hz hq KF a1 0 _ h
def f_R_comesMonths (s : Mm) (a1 : Int32) : Option (Int32 × Mm) :=
  bn (f_R_isIn s a1 1 60) fun x3 s2 =>
  if x3 = 0 then
    some (0, s2)
  else
    if ((s2 176 13) + a1) ≤ 999 then
      bv (f_R_goes s2 a1) fun s7 =>
      some (1, s7)
    else
      some (0, s2)
set_option maxRecDepth 20000 in
theorem c_R_comesMonths (l : Launch) {s : Mm} {a1 : Int32} {r' : Int32} {s' : Mm}  (h : f_R_comesMonths s a1 = some (r', s')) : Cm l y_R_comesMonths b_R_comesMonths 2 (some .boolean) 6 133 [.ref 176, .int a1] s s' (some (.int r')) := by
  refine Cm.of (own := "PassedOnAndBetterModel") (by decide) rfl (fun ad => Nat.le_of_ble_eq_true rfl) ?_
  intro z hz hq
  show G l z b_R_comesMonths 2 0 [(0, .ref 176), (1, .int a1)] [] s
  unfold f_R_comesMonths at h
  refine g_iload_n hz 1 d_R_comesMonths_0 rfl rfl ?_
  refine g_iconst hz d_R_comesMonths_1 ki_1 ?_
  refine g_bipush hz (v := 60) d_R_comesMonths_2 (by decide) ?_
  refine bn_use h (fun x3 s2 e1 h => ?_)
  refine g_callSi hz (c_R_isIn l e1) m_R_isIn mi_R_isIn q_1131 ⟨Nat.le_of_ble_eq_true rfl, Nat.le_of_ble_eq_true rfl⟩ rfl (st := []) rfl (Nat.le_of_ble_eq_true rfl) d_R_comesMonths_4 ?_
  refine g_if_eq hz (tgt := 22) d_R_comesMonths_7 (by decide) (fun c4 => ?_) (fun c4 => ?_)
  · replace h := (if_pos c4).symm.trans h
    refine g_iconst hz d_R_comesMonths_22 ki_0 ?_
    exact g_zret hz (rti h hq) (Or.inl rfl) d_R_comesMonths_23
  · replace h := (if_neg c4).symm.trans h
    refine g_aload_n hz 0 d_R_comesMonths_10 rfl rfl ?_
    refine gf_R_month hz q_1016 d_R_comesMonths_11 ?_
    refine g_iload_n hz 1 d_R_comesMonths_14 rfl rfl ?_
    refine g_iadd hz d_R_comesMonths_15 ?_
    refine g_sipush hz (v := 999) d_R_comesMonths_16 (by decide) ?_
    refine g_icmp_le hz (tgt := 24) d_R_comesMonths_19 (by decide) (fun c5 => ?_) (fun c5 => ?_)
    · replace h := (if_pos c5).symm.trans h
      refine g_aload_n hz 0 d_R_comesMonths_24 rfl rfl ?_
      refine g_iload_n hz 1 d_R_comesMonths_25 rfl rfl ?_
      refine bv_use h (fun s7 e6 h => ?_)
      refine g_callVv hz (c_R_goes l e6) (by decide) rc_R rfl rfl m_R_goes mi_R_goes ms_R_goes q_1194 ⟨Nat.le_of_ble_eq_true rfl, Nat.le_of_ble_eq_true rfl⟩ rfl (st := []) rfl (Nat.le_of_ble_eq_true rfl) d_R_comesMonths_26 ?_
      refine g_iconst hz d_R_comesMonths_29 ki_1 ?_
      exact g_zret hz (rti h hq) (Or.inr rfl) d_R_comesMonths_30
    · replace h := (if_neg c5).symm.trans h
      refine g_iconst hz d_R_comesMonths_22 ki_0 ?_
      exact g_zret hz (rti h hq) (Or.inl rfl) d_R_comesMonths_23
def f_R_comes1 (s : Mm) (a1 : Int32) : Option (Int32 × Mm) :=
  nm (3 * a1) fun x1 =>
  gd a1 48 <|
  if (s 190 a1.toNatClampNeg) = 100 then
    gd x1 144 <|
    bn (f_R_isFriend s (s 192 x1.toNatClampNeg)) fun x8 s7 =>
    if x8 = 0 then
      some (0, s7)
    else
      gd (x1 + 1) 144 <|
      if (s7 192 (x1 + 1).toNatClampNeg) = 0 then
        some (0, s7)
      else
        gd x1 144 <|
        gd (x1 + 1) 144 <|
        gd (s7 192 x1.toNatClampNeg) 6 <|
        nm (mU s7 180 (s7 192 x1.toNatClampNeg).toNatClampNeg (s7 192 (x1 + 1).toNatClampNeg)) fun s15 =>
        some (1, s15)
  else if (s 190 a1.toNatClampNeg) = 102 then
    gd x1 144 <|
    gd (x1 + 1) 144 <|
    gd (x1 + 2) 144 <|
    bn (f_R_comesFriend s (s 192 x1.toNatClampNeg) (s 192 (x1 + 1).toNatClampNeg) (s 192 (x1 + 2).toNatClampNeg)) fun x23 s22 =>
    gb x23 <|
    some (x23, s22)
  else if (s 190 a1.toNatClampNeg) = 103 then
    gd x1 144 <|
    gd (x1 + 1) 144 <|
    gd (x1 + 2) 144 <|
    bn (f_R_comesGift s (s 192 x1.toNatClampNeg) (s 192 (x1 + 1).toNatClampNeg) (s 192 (x1 + 2).toNatClampNeg)) fun x31 s30 =>
    gb x31 <|
    some (x31, s30)
  else if (s 190 a1.toNatClampNeg) = 104 then
    gd x1 144 <|
    bn (f_R_isGift s (s 192 x1.toNatClampNeg)) fun x37 s36 =>
    if x37 = 0 then
      some (0, s36)
    else
      gd (x1 + 1) 144 <|
      bn (f_R_isFriend s36 (s36 192 (x1 + 1).toNatClampNeg)) fun x42 s41 =>
      if x42 = 0 then
        some (0, s41)
      else
        gd x1 144 <|
        gd (x1 + 1) 144 <|
        bv (f_R_puts s41 (s41 192 x1.toNatClampNeg) (s41 192 (x1 + 1).toNatClampNeg)) fun s47 =>
        some (1, s47)
  else if (s 190 a1.toNatClampNeg) = 110 then
    gd x1 144 <|
    gd (x1 + 1) 144 <|
    bn (f_R_comesNext s (s 192 x1.toNatClampNeg) (s 192 (x1 + 1).toNatClampNeg)) fun x53 s52 =>
    gb x53 <|
    some (x53, s52)
  else
    gd x1 144 <|
    bn (f_R_comesMonths s (s 192 x1.toNatClampNeg)) fun x58 s57 =>
    gb x58 <|
    some (x58, s57)
set_option maxRecDepth 20000 in
theorem c_R_comes1 (l : Launch) {s : Mm} {a1 : Int32} {r' : Int32} {s' : Mm}  (h : f_R_comes1 s a1 = some (r', s')) : Cm l y_R_comes1 b_R_comes1 3 (some .boolean) 7 154 [.ref 176, .int a1] s s' (some (.int r')) := by
  refine Cm.of (own := "PassedOnAndBetterModel") (by decide) rfl (fun ad => Nat.le_of_ble_eq_true rfl) ?_
  intro z hz hq
  show G l z b_R_comes1 3 0 [(0, .ref 176), (1, .int a1)] [] s
  unfold f_R_comes1 at h
  refine g_iconst hz d_R_comes1_0 ki_3 ?_
  refine g_iload_n hz 1 d_R_comes1_1 rfl rfl ?_
  refine g_imul hz d_R_comes1_2 ?_
  refine g_nmi (fun x1 e2 => ?_)
  replace h := nm_use h e2
  refine g_istore_n hz (L' := [(2, .int x1), (0, .ref 176), (1, .int a1)]) d_R_comes1_3 rfl (by decide) rfl ?_
  refine g_aload_n hz 1 d_R_comes1_4 rfl rfl ?_
  refine gf_R_letter hz q_1020 d_R_comes1_5 ?_
  refine g_iload_n hz 2 d_R_comes1_8 rfl rfl ?_
  obtain ⟨n3, h⟩ := gd_use h
  refine g_iald hz (by decide) n3 d_R_comes1_9 ?_
  by_cases c4 : (s 190 a1.toNatClampNeg) = 100
  · replace h := (if_pos c4).symm.trans h
    refine g_tin hz (off := 131) (tgt := 141) d_R_comes1_10 c4 (by decide) (by decide) (by decide) (by decide) ?_
    refine g_aload_n hz 1 d_R_comes1_141 rfl rfl ?_
    refine g_aload_n hz 1 d_R_comes1_142 rfl rfl ?_
    refine gf_R_told hz q_1022 d_R_comes1_143 ?_
    refine g_iload_n hz 0 d_R_comes1_146 rfl rfl ?_
    obtain ⟨n5, h⟩ := gd_use h
    refine g_iald hz (by decide) n5 d_R_comes1_147 ?_
    refine bn_use h (fun x8 s7 e6 h => ?_)
    refine g_callVi hz (c_R_isFriend l e6) (by decide) rc_R rfl rfl m_R_isFriend mi_R_isFriend ms_R_isFriend q_1162 ⟨Nat.le_of_ble_eq_true rfl, Nat.le_of_ble_eq_true rfl⟩ rfl (st := []) rfl (Nat.le_of_ble_eq_true rfl) d_R_comes1_148 ?_
    refine g_if_eq hz (tgt := 165) d_R_comes1_151 (by decide) (fun c9 => ?_) (fun c9 => ?_)
    · replace h := (if_pos c9).symm.trans h
      refine g_iconst hz d_R_comes1_165 ki_0 ?_
      exact g_zret hz (rti h hq) (Or.inl rfl) d_R_comes1_166
    · replace h := (if_neg c9).symm.trans h
      refine g_aload_n hz 1 d_R_comes1_154 rfl rfl ?_
      refine gf_R_told hz q_1022 d_R_comes1_155 ?_
      refine g_iload_n hz 0 d_R_comes1_158 rfl rfl ?_
      refine g_iconst hz d_R_comes1_159 ki_1 ?_
      refine g_iadd hz d_R_comes1_160 ?_
      obtain ⟨n10, h⟩ := gd_use h
      refine g_iald hz (by decide) n10 d_R_comes1_161 ?_
      refine g_if_ne hz (tgt := 167) d_R_comes1_162 (by decide) (fun c11 => ?_) (fun c11 => ?_)
      · replace h := (if_neg c11).symm.trans h
        refine g_aload_n hz 1 d_R_comes1_167 rfl rfl ?_
        refine gf_R_door hz q_1006 d_R_comes1_168 ?_
        refine g_aload_n hz 1 d_R_comes1_171 rfl rfl ?_
        refine gf_R_told hz q_1022 d_R_comes1_172 ?_
        refine g_iload_n hz 0 d_R_comes1_175 rfl rfl ?_
        obtain ⟨n12, h⟩ := gd_use h
        refine g_iald hz (by decide) n12 d_R_comes1_176 ?_
        refine g_aload_n hz 1 d_R_comes1_177 rfl rfl ?_
        refine gf_R_told hz q_1022 d_R_comes1_178 ?_
        refine g_iload_n hz 0 d_R_comes1_181 rfl rfl ?_
        refine g_iconst hz d_R_comes1_182 ki_1 ?_
        refine g_iadd hz d_R_comes1_183 ?_
        obtain ⟨n13, h⟩ := gd_use h
        refine g_iald hz (by decide) n13 d_R_comes1_184 ?_
        obtain ⟨n14, h⟩ := gd_use h
        refine g_iast hz (by decide) n14 d_R_comes1_185 (fun s15 e16 => ?_)
        replace h := nm_use h e16
        refine g_iconst hz d_R_comes1_186 ki_1 ?_
        exact g_zret hz (rti h hq) (Or.inr rfl) d_R_comes1_187
      · replace h := (if_pos c11).symm.trans h
        refine g_iconst hz d_R_comes1_165 ki_0 ?_
        exact g_zret hz (rti h hq) (Or.inl rfl) d_R_comes1_166
  · replace h := (if_neg c4).symm.trans h
    by_cases c17 : (s 190 a1.toNatClampNeg) = 102
    · replace h := (if_pos c17).symm.trans h
      refine g_tin hz (off := 58) (tgt := 68) d_R_comes1_10 c17 (by decide) (by decide) (by decide) (by decide) ?_
      refine g_aload_n hz 1 d_R_comes1_68 rfl rfl ?_
      refine g_aload_n hz 1 d_R_comes1_69 rfl rfl ?_
      refine gf_R_told hz q_1022 d_R_comes1_70 ?_
      refine g_iload_n hz 0 d_R_comes1_73 rfl rfl ?_
      obtain ⟨n18, h⟩ := gd_use h
      refine g_iald hz (by decide) n18 d_R_comes1_74 ?_
      refine g_aload_n hz 1 d_R_comes1_75 rfl rfl ?_
      refine gf_R_told hz q_1022 d_R_comes1_76 ?_
      refine g_iload_n hz 0 d_R_comes1_79 rfl rfl ?_
      refine g_iconst hz d_R_comes1_80 ki_1 ?_
      refine g_iadd hz d_R_comes1_81 ?_
      obtain ⟨n19, h⟩ := gd_use h
      refine g_iald hz (by decide) n19 d_R_comes1_82 ?_
      refine g_aload_n hz 1 d_R_comes1_83 rfl rfl ?_
      refine gf_R_told hz q_1022 d_R_comes1_84 ?_
      refine g_iload_n hz 0 d_R_comes1_87 rfl rfl ?_
      refine g_iconst hz d_R_comes1_88 ki_2 ?_
      refine g_iadd hz d_R_comes1_89 ?_
      obtain ⟨n20, h⟩ := gd_use h
      refine g_iald hz (by decide) n20 d_R_comes1_90 ?_
      refine bn_use h (fun x23 s22 e21 h => ?_)
      refine g_callVi hz (c_R_comesFriend l e21) (by decide) rc_R rfl rfl m_R_comesFriend mi_R_comesFriend ms_R_comesFriend q_1150 ⟨Nat.le_of_ble_eq_true rfl, Nat.le_of_ble_eq_true rfl⟩ rfl (st := []) rfl (Nat.le_of_ble_eq_true rfl) d_R_comes1_91 ?_
      obtain ⟨n24, h⟩ := gb_use h
      exact g_zret hz (rti h hq) n24 d_R_comes1_94
    · replace h := (if_neg c17).symm.trans h
      by_cases c25 : (s 190 a1.toNatClampNeg) = 103
      · replace h := (if_pos c25).symm.trans h
        refine g_tin hz (off := 85) (tgt := 95) d_R_comes1_10 c25 (by decide) (by decide) (by decide) (by decide) ?_
        refine g_aload_n hz 1 d_R_comes1_95 rfl rfl ?_
        refine g_aload_n hz 1 d_R_comes1_96 rfl rfl ?_
        refine gf_R_told hz q_1022 d_R_comes1_97 ?_
        refine g_iload_n hz 0 d_R_comes1_100 rfl rfl ?_
        obtain ⟨n26, h⟩ := gd_use h
        refine g_iald hz (by decide) n26 d_R_comes1_101 ?_
        refine g_aload_n hz 1 d_R_comes1_102 rfl rfl ?_
        refine gf_R_told hz q_1022 d_R_comes1_103 ?_
        refine g_iload_n hz 0 d_R_comes1_106 rfl rfl ?_
        refine g_iconst hz d_R_comes1_107 ki_1 ?_
        refine g_iadd hz d_R_comes1_108 ?_
        obtain ⟨n27, h⟩ := gd_use h
        refine g_iald hz (by decide) n27 d_R_comes1_109 ?_
        refine g_aload_n hz 1 d_R_comes1_110 rfl rfl ?_
        refine gf_R_told hz q_1022 d_R_comes1_111 ?_
        refine g_iload_n hz 0 d_R_comes1_114 rfl rfl ?_
        refine g_iconst hz d_R_comes1_115 ki_2 ?_
        refine g_iadd hz d_R_comes1_116 ?_
        obtain ⟨n28, h⟩ := gd_use h
        refine g_iald hz (by decide) n28 d_R_comes1_117 ?_
        refine bn_use h (fun x31 s30 e29 h => ?_)
        refine g_callVi hz (c_R_comesGift l e29) (by decide) rc_R rfl rfl m_R_comesGift mi_R_comesGift ms_R_comesGift q_1158 ⟨Nat.le_of_ble_eq_true rfl, Nat.le_of_ble_eq_true rfl⟩ rfl (st := []) rfl (Nat.le_of_ble_eq_true rfl) d_R_comes1_118 ?_
        obtain ⟨n32, h⟩ := gb_use h
        exact g_zret hz (rti h hq) n32 d_R_comes1_121
      · replace h := (if_neg c25).symm.trans h
        by_cases c33 : (s 190 a1.toNatClampNeg) = 104
        · replace h := (if_pos c33).symm.trans h
          refine g_tin hz (off := 178) (tgt := 188) d_R_comes1_10 c33 (by decide) (by decide) (by decide) (by decide) ?_
          refine g_aload_n hz 1 d_R_comes1_188 rfl rfl ?_
          refine g_aload_n hz 1 d_R_comes1_189 rfl rfl ?_
          refine gf_R_told hz q_1022 d_R_comes1_190 ?_
          refine g_iload_n hz 0 d_R_comes1_193 rfl rfl ?_
          obtain ⟨n34, h⟩ := gd_use h
          refine g_iald hz (by decide) n34 d_R_comes1_194 ?_
          refine bn_use h (fun x37 s36 e35 h => ?_)
          refine g_callVi hz (c_R_isGift l e35) (by decide) rc_R rfl rfl m_R_isGift mi_R_isGift ms_R_isGift q_1186 ⟨Nat.le_of_ble_eq_true rfl, Nat.le_of_ble_eq_true rfl⟩ rfl (st := []) rfl (Nat.le_of_ble_eq_true rfl) d_R_comes1_195 ?_
          refine g_if_eq hz (tgt := 216) d_R_comes1_198 (by decide) (fun c38 => ?_) (fun c38 => ?_)
          · replace h := (if_pos c38).symm.trans h
            refine g_iconst hz d_R_comes1_216 ki_0 ?_
            exact g_zret hz (rti h hq) (Or.inl rfl) d_R_comes1_217
          · replace h := (if_neg c38).symm.trans h
            refine g_aload_n hz 1 d_R_comes1_201 rfl rfl ?_
            refine g_aload_n hz 1 d_R_comes1_202 rfl rfl ?_
            refine gf_R_told hz q_1022 d_R_comes1_203 ?_
            refine g_iload_n hz 0 d_R_comes1_206 rfl rfl ?_
            refine g_iconst hz d_R_comes1_207 ki_1 ?_
            refine g_iadd hz d_R_comes1_208 ?_
            obtain ⟨n39, h⟩ := gd_use h
            refine g_iald hz (by decide) n39 d_R_comes1_209 ?_
            refine bn_use h (fun x42 s41 e40 h => ?_)
            refine g_callVi hz (c_R_isFriend l e40) (by decide) rc_R rfl rfl m_R_isFriend mi_R_isFriend ms_R_isFriend q_1162 ⟨Nat.le_of_ble_eq_true rfl, Nat.le_of_ble_eq_true rfl⟩ rfl (st := []) rfl (Nat.le_of_ble_eq_true rfl) d_R_comes1_210 ?_
            refine g_if_ne hz (tgt := 218) d_R_comes1_213 (by decide) (fun c43 => ?_) (fun c43 => ?_)
            · replace h := (if_neg c43).symm.trans h
              refine g_aload_n hz 1 d_R_comes1_218 rfl rfl ?_
              refine g_aload_n hz 1 d_R_comes1_219 rfl rfl ?_
              refine gf_R_told hz q_1022 d_R_comes1_220 ?_
              refine g_iload_n hz 0 d_R_comes1_223 rfl rfl ?_
              obtain ⟨n44, h⟩ := gd_use h
              refine g_iald hz (by decide) n44 d_R_comes1_224 ?_
              refine g_aload_n hz 1 d_R_comes1_225 rfl rfl ?_
              refine gf_R_told hz q_1022 d_R_comes1_226 ?_
              refine g_iload_n hz 0 d_R_comes1_229 rfl rfl ?_
              refine g_iconst hz d_R_comes1_230 ki_1 ?_
              refine g_iadd hz d_R_comes1_231 ?_
              obtain ⟨n45, h⟩ := gd_use h
              refine g_iald hz (by decide) n45 d_R_comes1_232 ?_
              refine bv_use h (fun s47 e46 h => ?_)
              refine g_callVv hz (c_R_puts l e46) (by decide) rc_R rfl rfl m_R_puts mi_R_puts ms_R_puts q_1170 ⟨Nat.le_of_ble_eq_true rfl, Nat.le_of_ble_eq_true rfl⟩ rfl (st := []) rfl (Nat.le_of_ble_eq_true rfl) d_R_comes1_233 ?_
              refine g_iconst hz d_R_comes1_236 ki_1 ?_
              exact g_zret hz (rti h hq) (Or.inr rfl) d_R_comes1_237
            · replace h := (if_pos c43).symm.trans h
              refine g_iconst hz d_R_comes1_216 ki_0 ?_
              exact g_zret hz (rti h hq) (Or.inl rfl) d_R_comes1_217
        · replace h := (if_neg c33).symm.trans h
          by_cases c48 : (s 190 a1.toNatClampNeg) = 110
          · replace h := (if_pos c48).symm.trans h
            refine g_tin hz (off := 112) (tgt := 122) d_R_comes1_10 c48 (by decide) (by decide) (by decide) (by decide) ?_
            refine g_aload_n hz 1 d_R_comes1_122 rfl rfl ?_
            refine g_aload_n hz 1 d_R_comes1_123 rfl rfl ?_
            refine gf_R_told hz q_1022 d_R_comes1_124 ?_
            refine g_iload_n hz 0 d_R_comes1_127 rfl rfl ?_
            obtain ⟨n49, h⟩ := gd_use h
            refine g_iald hz (by decide) n49 d_R_comes1_128 ?_
            refine g_aload_n hz 1 d_R_comes1_129 rfl rfl ?_
            refine gf_R_told hz q_1022 d_R_comes1_130 ?_
            refine g_iload_n hz 0 d_R_comes1_133 rfl rfl ?_
            refine g_iconst hz d_R_comes1_134 ki_1 ?_
            refine g_iadd hz d_R_comes1_135 ?_
            obtain ⟨n50, h⟩ := gd_use h
            refine g_iald hz (by decide) n50 d_R_comes1_136 ?_
            refine bn_use h (fun x53 s52 e51 h => ?_)
            refine g_callVi hz (c_R_comesNext l e51) (by decide) rc_R rfl rfl m_R_comesNext mi_R_comesNext ms_R_comesNext q_1174 ⟨Nat.le_of_ble_eq_true rfl, Nat.le_of_ble_eq_true rfl⟩ rfl (st := []) rfl (Nat.le_of_ble_eq_true rfl) d_R_comes1_137 ?_
            obtain ⟨n54, h⟩ := gb_use h
            exact g_zret hz (rti h hq) n54 d_R_comes1_140
          · replace h := (if_neg c48).symm.trans h
            refine g_tdf hz (tgt := 238) d_R_comes1_10 (fun i hi hx => ?_) (by decide) ?_
            · match i, hi, hx with
              | 0, _, hx => exact absurd hx (lv_neT c4 (by decide))
              | 1, _, _ => rfl
              | 2, _, hx => exact absurd hx (lv_neT c17 (by decide))
              | 3, _, hx => exact absurd hx (lv_neT c25 (by decide))
              | 4, _, hx => exact absurd hx (lv_neT c33 (by decide))
              | 5, _, _ => rfl
              | 6, _, _ => rfl
              | 7, _, _ => rfl
              | 8, _, _ => rfl
              | 9, _, _ => rfl
              | 10, _, hx => exact absurd hx (lv_neT c48 (by decide))
              | q + 11, hi, _ => exact absurd hi (by omega)
            · refine g_aload_n hz 1 d_R_comes1_238 rfl rfl ?_
              refine g_aload_n hz 1 d_R_comes1_239 rfl rfl ?_
              refine gf_R_told hz q_1022 d_R_comes1_240 ?_
              refine g_iload_n hz 0 d_R_comes1_243 rfl rfl ?_
              obtain ⟨n55, h⟩ := gd_use h
              refine g_iald hz (by decide) n55 d_R_comes1_244 ?_
              refine bn_use h (fun x58 s57 e56 h => ?_)
              refine g_callVi hz (c_R_comesMonths l e56) (by decide) rc_R rfl rfl m_R_comesMonths mi_R_comesMonths ms_R_comesMonths q_1190 ⟨Nat.le_of_ble_eq_true rfl, Nat.le_of_ble_eq_true rfl⟩ rfl (st := []) rfl (Nat.le_of_ble_eq_true rfl) d_R_comes1_245 ?_
              obtain ⟨n59, h⟩ := gb_use h
              exact g_zret hz (rti h hq) n59 d_R_comes1_248
def k_R_circle_86 : Nat → Int32 → Mm → Option (Int32 × Mm)
  | 0, _, _ => none
  | n + 1, v2, s => if (s 176 22) ≤ v2 then
      nm (mU s 176 27 0) fun s12 =>
      some (s12 176 22, s12)
    else
      bn (f_R_comes1 s v2) fun x16 s15 =>
      if x16 = 0 then
        bv (f_R_passesAll s15 1 0) fun s19 =>
        gd v2 48 <|
        some ((-2000) - (s19 191 v2.toNatClampNeg), s19)
      else
        k_R_circle_86 n (v2 + 1) s15
set_option maxRecDepth 20000 in
theorem w_R_circle_86 {l : Launch} {z : Zt} (hz : ZOk z b_R_circle 3 "PassedOnAndBetterModel" 8 176) {r' : Int32} {s' : Mm} (hq : ZR z (some .int) s' (some (.int r'))) : ∀ (n : Nat) (v2 : Int32) (s : Mm), k_R_circle_86 n v2 s = some (r', s') → G l z b_R_circle 3 86 [(0, .ref 176), (2, .int v2)] [] s := by
  intro n
  induction n with
  | zero => intro v2 s h; unfold k_R_circle_86 at h; cases h
  | succ n ih =>
    intro v2 s h
    unfold k_R_circle_86 at h
    refine g_iload_n hz 1 d_R_circle_86 rfl rfl ?_
    refine g_aload_n hz 0 d_R_circle_87 rfl rfl ?_
    refine gf_R_statements hz q_1025 d_R_circle_88 ?_
    refine g_icmp_ge hz (tgt := 128) d_R_circle_91 (by decide) (fun c11 => ?_) (fun c11 => ?_)
    · replace h := (if_pos c11).symm.trans h
      refine g_aload_n hz 0 d_R_circle_128 rfl rfl ?_
      refine g_iconst hz d_R_circle_129 ki_0 ?_
      refine pf_R_backs hz q_1030 d_R_circle_130 (fun s12 e13 => ?_)
      replace h := nm_use h e13
      refine g_aload_n hz 0 d_R_circle_133 rfl rfl ?_
      refine gf_R_statements hz q_1025 d_R_circle_134 ?_
      exact g_iret hz (rti h hq) d_R_circle_137
    · replace h := (if_neg c11).symm.trans h
      refine g_aload_n hz 0 d_R_circle_94 rfl rfl ?_
      refine g_iload_n hz 1 d_R_circle_95 rfl rfl ?_
      refine bn_use h (fun x16 s15 e14 h => ?_)
      refine g_callVi hz (c_R_comes1 l e14) (by decide) rc_R rfl rfl m_R_comes1 mi_R_comes1 ms_R_comes1 q_1146 ⟨Nat.le_of_ble_eq_true rfl, Nat.le_of_ble_eq_true rfl⟩ rfl (st := []) rfl (Nat.le_of_ble_eq_true rfl) d_R_circle_96 ?_
      refine g_if_eq hz (tgt := 105) d_R_circle_99 (by decide) (fun c17 => ?_) (fun c17 => ?_)
      · replace h := (if_pos c17).symm.trans h
        refine g_aload_n hz 0 d_R_circle_105 rfl rfl ?_
        refine g_iconst hz d_R_circle_106 ki_1 ?_
        refine g_iconst hz d_R_circle_107 ki_0 ?_
        refine bv_use h (fun s19 e18 h => ?_)
        refine g_callVv hz (c_R_passesAll l e18) (by decide) rc_R rfl rfl m_R_passesAll mi_R_passesAll ms_R_passesAll q_1134 ⟨Nat.le_of_ble_eq_true rfl, Nat.le_of_ble_eq_true rfl⟩ rfl (st := []) rfl (Nat.le_of_ble_eq_true rfl) d_R_circle_108 ?_
        refine g_sipush hz (v := (-2000)) d_R_circle_111 (by decide) ?_
        refine g_aload_n hz 0 d_R_circle_114 rfl rfl ?_
        refine gf_R_letterAt hz q_1021 d_R_circle_115 ?_
        refine g_iload_n hz 1 d_R_circle_118 rfl rfl ?_
        obtain ⟨n20, h⟩ := gd_use h
        refine g_iald hz (by decide) n20 d_R_circle_119 ?_
        refine g_isub hz d_R_circle_120 ?_
        exact g_iret hz (rti h hq) d_R_circle_121
      · replace h := (if_neg c17).symm.trans h
        refine g_goto hz (tgt := 122) d_R_circle_102 (by decide) ?_
        refine g_iinc hz (v := v2 + 1) (L' := [(2, .int (v2 + 1)), (0, .ref 176)]) 1 d_R_circle_122 rfl (congrArg (fun q => v2 + q) ki_1) (by decide) rfl ?_
        refine g_goto hz (tgt := 86) d_R_circle_125 (by decide) ?_
        refine g_sub [1, 0] rfl ?_
        exact ih (v2 + 1) _ h
def k_R_circle_60 (v1 : Int32) (s : Mm) : Option (Int32 × Mm) :=
  nm (mU s 176 20 0) fun s6 =>
  if v1 = 0 then
    some ((-1000) - (s6 176 21), s6)
  else
    bv (f_R_passesAll s6 1 1) fun s10 =>
    k_R_circle_86 KF 0 s10
set_option maxRecDepth 20000 in
theorem w_R_circle_60 {l : Launch} {z : Zt} (hz : ZOk z b_R_circle 3 "PassedOnAndBetterModel" 8 176) {r' : Int32} {s' : Mm} (hq : ZR z (some .int) s' (some (.int r'))) (v1 : Int32) (s : Mm) (h : k_R_circle_60 v1 s = some (r', s')) : G l z b_R_circle 3 60 [(0, .ref 176), (1, .int v1)] [] s := by
  unfold k_R_circle_60 at h
  refine g_aload_n hz 0 d_R_circle_60 rfl rfl ?_
  refine g_iconst hz d_R_circle_61 ki_0 ?_
  refine pf_R_taped hz q_1023 d_R_circle_62 (fun s6 e7 => ?_)
  replace h := nm_use h e7
  refine g_iload_n hz 1 d_R_circle_65 rfl rfl ?_
  refine g_if_ne hz (tgt := 78) d_R_circle_66 (by decide) (fun c8 => ?_) (fun c8 => ?_)
  · replace h := (if_neg c8).symm.trans h
    refine g_aload_n hz 0 d_R_circle_78 rfl rfl ?_
    refine g_iconst hz d_R_circle_79 ki_1 ?_
    refine g_iconst hz d_R_circle_80 ki_1 ?_
    refine bv_use h (fun s10 e9 h => ?_)
    refine g_callVv hz (c_R_passesAll l e9) (by decide) rc_R rfl rfl m_R_passesAll mi_R_passesAll ms_R_passesAll q_1134 ⟨Nat.le_of_ble_eq_true rfl, Nat.le_of_ble_eq_true rfl⟩ rfl (st := []) rfl (Nat.le_of_ble_eq_true rfl) d_R_circle_81 ?_
    refine g_iconst hz d_R_circle_84 ki_0 ?_
    refine g_istore_n hz (L' := [(2, .int 0), (0, .ref 176), (1, .int v1)]) d_R_circle_85 rfl (by decide) rfl ?_
    refine g_sub [1, 0] rfl ?_
    exact w_R_circle_86 hz hq KF 0 _ h
  · replace h := (if_pos c8).symm.trans h
    refine g_sipush hz (v := (-1000)) d_R_circle_69 (by decide) ?_
    refine g_aload_n hz 0 d_R_circle_72 rfl rfl ?_
    refine gf_R_reading hz q_1024 d_R_circle_73 ?_
    refine g_isub hz d_R_circle_76 ?_
    exact g_iret hz (rti h hq) d_R_circle_77
def k_R_circle_34 (kc12 : (Int32 → Mm → Option (Int32 × Mm))) (s : Mm) : Option (Int32 × Mm) :=
  bn (f_R_statement s) fun x24 s23 =>
  if x24 = 0 then
    nm (mU s23 176 22 ((s23 176 22) + 0)) fun s26 =>
    kc12 x24 s26
  else
    nm (mU s23 176 22 ((s23 176 22) + 1)) fun s28 =>
    kc12 x24 s28
set_option maxRecDepth 20000 in
theorem w_R_circle_34 {l : Launch} {z : Zt} (hz : ZOk z b_R_circle 3 "PassedOnAndBetterModel" 8 176) {r' : Int32} {s' : Mm} (hq : ZR z (some .int) s' (some (.int r'))) {kc12 : (Int32 → Mm → Option (Int32 × Mm))} (hk12 : (∀ (v1 : Int32) (s : Mm), kc12 v1 s = some (r', s') → G l z b_R_circle 3 12 [(0, .ref 176), (1, .int v1)] [] s))  (s : Mm) (h : k_R_circle_34 kc12 s = some (r', s')) : G l z b_R_circle 3 34 [(0, .ref 176)] [] s := by
  unfold k_R_circle_34 at h
  refine g_aload_n hz 0 d_R_circle_34 rfl rfl ?_
  refine bn_use h (fun x24 s23 e22 h => ?_)
  refine g_callVi hz (c_R_statement l e22) (by decide) rc_R rfl rfl m_R_statement mi_R_statement ms_R_statement q_1115 ⟨Nat.le_of_ble_eq_true rfl, Nat.le_of_ble_eq_true rfl⟩ rfl (st := []) rfl (Nat.le_of_ble_eq_true rfl) d_R_circle_35 ?_
  refine g_istore_n hz (L' := [(1, .int x24), (0, .ref 176)]) d_R_circle_38 rfl (by decide) rfl ?_
  refine g_aload_n hz 1 d_R_circle_39 rfl rfl ?_
  refine g_dup hz d_R_circle_40 rfl ?_
  refine gf_R_statements hz q_1025 d_R_circle_41 ?_
  refine g_iload_n hz 0 d_R_circle_44 rfl rfl ?_
  refine g_if_eq hz (tgt := 52) d_R_circle_45 (by decide) (fun c25 => ?_) (fun c25 => ?_)
  · replace h := (if_pos c25).symm.trans h
    refine g_iconst hz d_R_circle_52 ki_0 ?_
    refine g_iadd hz d_R_circle_53 ?_
    refine pf_R_statements hz q_1025 d_R_circle_54 (fun s26 e27 => ?_)
    replace h := nm_use h e27
    refine g_goto hz (tgt := 12) d_R_circle_57 (by decide) ?_
    refine g_sub [1, 0] rfl ?_
    exact hk12 x24 _ h
  · replace h := (if_neg c25).symm.trans h
    refine g_iconst hz d_R_circle_48 ki_1 ?_
    refine g_goto hz (tgt := 53) d_R_circle_49 (by decide) ?_
    refine g_iadd hz d_R_circle_53 ?_
    refine pf_R_statements hz q_1025 d_R_circle_54 (fun s28 e29 => ?_)
    replace h := nm_use h e29
    refine g_goto hz (tgt := 12) d_R_circle_57 (by decide) ?_
    refine g_sub [1, 0] rfl ?_
    exact hk12 x24 _ h
def k_R_circle_12 : Nat → Int32 → Mm → Option (Int32 × Mm)
  | 0, _, _ => none
  | n + 1, v1, s => if v1 = 0 then
      k_R_circle_60 v1 s
    else
      if (s 176 21) < (s 176 20) then
        k_R_circle_34 (fun v1 s => k_R_circle_12 n v1 s) s
      else
        if (s 176 22) = 0 then
          k_R_circle_34 (fun v1 s => k_R_circle_12 n v1 s) s
        else
          k_R_circle_60 v1 s
set_option maxRecDepth 20000 in
theorem w_R_circle_12 {l : Launch} {z : Zt} (hz : ZOk z b_R_circle 3 "PassedOnAndBetterModel" 8 176) {r' : Int32} {s' : Mm} (hq : ZR z (some .int) s' (some (.int r'))) : ∀ (n : Nat) (v1 : Int32) (s : Mm), k_R_circle_12 n v1 s = some (r', s') → G l z b_R_circle 3 12 [(0, .ref 176), (1, .int v1)] [] s := by
  intro n
  induction n with
  | zero => intro v1 s h; unfold k_R_circle_12 at h; cases h
  | succ n ih =>
    intro v1 s h
    unfold k_R_circle_12 at h
    refine g_iload_n hz 1 d_R_circle_12 rfl rfl ?_
    refine g_if_eq hz (tgt := 60) d_R_circle_13 (by decide) (fun c5 => ?_) (fun c5 => ?_)
    · replace h := (if_pos c5).symm.trans h
      exact w_R_circle_60 hz hq v1 _ h
    · replace h := (if_neg c5).symm.trans h
      refine g_aload_n hz 0 d_R_circle_16 rfl rfl ?_
      refine gf_R_reading hz q_1024 d_R_circle_17 ?_
      refine g_aload_n hz 0 d_R_circle_20 rfl rfl ?_
      refine gf_R_taped hz q_1023 d_R_circle_21 ?_
      refine g_icmp_lt hz (tgt := 34) d_R_circle_24 (by decide) (fun c21 => ?_) (fun c21 => ?_)
      · replace h := (if_pos c21).symm.trans h
        refine g_sub [0] rfl ?_
        exact w_R_circle_34 hz hq ih _ h
      · replace h := (if_neg c21).symm.trans h
        refine g_aload_n hz 0 d_R_circle_27 rfl rfl ?_
        refine gf_R_statements hz q_1025 d_R_circle_28 ?_
        refine g_if_ne hz (tgt := 60) d_R_circle_31 (by decide) (fun c30 => ?_) (fun c30 => ?_)
        · replace h := (if_neg c30).symm.trans h
          exact w_R_circle_60 hz hq v1 _ h
        · replace h := (if_pos c30).symm.trans h
          refine g_sub [0] rfl ?_
          exact w_R_circle_34 hz hq ih _ h
def f_R_circle (s : Mm) : Option (Int32 × Mm) :=
  nm (mU s 176 21 0) fun s1 =>
  nm (mU s1 176 22 0) fun s3 =>
  k_R_circle_12 KF 1 s3
set_option maxRecDepth 20000 in
theorem c_R_circle (l : Launch) {s : Mm}  {r' : Int32} {s' : Mm}  (h : f_R_circle s = some (r', s')) : Cm l y_R_circle b_R_circle 3 (some .int) 8 176 [.ref 176] s s' (some (.int r')) := by
  refine Cm.of (own := "PassedOnAndBetterModel") (by decide) rfl (fun ad => Nat.le_of_ble_eq_true rfl) ?_
  intro z hz hq
  show G l z b_R_circle 3 0 [(0, .ref 176)] [] s
  unfold f_R_circle at h
  refine g_aload_n hz 0 d_R_circle_0 rfl rfl ?_
  refine g_iconst hz d_R_circle_1 ki_0 ?_
  refine pf_R_reading hz q_1024 d_R_circle_2 (fun s1 e2 => ?_)
  replace h := nm_use h e2
  refine g_aload_n hz 0 d_R_circle_5 rfl rfl ?_
  refine g_iconst hz d_R_circle_6 ki_0 ?_
  refine pf_R_statements hz q_1025 d_R_circle_7 (fun s3 e4 => ?_)
  replace h := nm_use h e4
  refine g_iconst hz d_R_circle_10 ki_1 ?_
  refine g_istore_n hz (L' := [(1, .int 1), (0, .ref 176)]) d_R_circle_11 rfl (by decide) rfl ?_
  refine g_sub [1, 0] rfl ?_
  exact w_R_circle_12 hz hq KF 1 _ h
def f_R_back (s : Mm) : Option (Int32 × Mm) :=
  if (s 176 27) = 0 then
    bn (f_R_no s (-3)) fun x8 s7 =>
    some (x8, s7)
  else
    nm (mU s 176 27 ((s 176 27) - 1)) fun s2 =>
    bv (f_R_passesAll s2 (3 + (s2 176 27)) 0) fun s5 =>
    some (s5 176 27, s5)
set_option maxRecDepth 20000 in
theorem c_R_back (l : Launch) {s : Mm}  {r' : Int32} {s' : Mm}  (h : f_R_back s = some (r', s')) : Cm l y_R_back b_R_back 1 (some .int) 2 44 [.ref 176] s s' (some (.int r')) := by
  refine Cm.of (own := "PassedOnAndBetterModel") (by decide) rfl (fun ad => Nat.le_of_ble_eq_true rfl) ?_
  intro z hz hq
  show G l z b_R_back 1 0 [(0, .ref 176)] [] s
  unfold f_R_back at h
  refine g_aload_n hz 0 d_R_back_0 rfl rfl ?_
  refine gf_R_backs hz q_1030 d_R_back_1 ?_
  refine g_if_ne hz (tgt := 14) d_R_back_4 (by decide) (fun c1 => ?_) (fun c1 => ?_)
  · replace h := (if_neg c1).symm.trans h
    refine g_aload_n hz 0 d_R_back_14 rfl rfl ?_
    refine g_dup hz d_R_back_15 rfl ?_
    refine gf_R_backs hz q_1030 d_R_back_16 ?_
    refine g_iconst hz d_R_back_19 ki_1 ?_
    refine g_isub hz d_R_back_20 ?_
    refine pf_R_backs hz q_1030 d_R_back_21 (fun s2 e3 => ?_)
    replace h := nm_use h e3
    refine g_aload_n hz 0 d_R_back_24 rfl rfl ?_
    refine g_iconst hz d_R_back_25 ki_3 ?_
    refine g_aload_n hz 0 d_R_back_26 rfl rfl ?_
    refine gf_R_backs hz q_1030 d_R_back_27 ?_
    refine g_iadd hz d_R_back_30 ?_
    refine g_iconst hz d_R_back_31 ki_0 ?_
    refine bv_use h (fun s5 e4 h => ?_)
    refine g_callVv hz (c_R_passesAll l e4) (by decide) rc_R rfl rfl m_R_passesAll mi_R_passesAll ms_R_passesAll q_1134 ⟨Nat.le_of_ble_eq_true rfl, Nat.le_of_ble_eq_true rfl⟩ rfl (st := []) rfl (Nat.le_of_ble_eq_true rfl) d_R_back_32 ?_
    refine g_aload_n hz 0 d_R_back_35 rfl rfl ?_
    refine gf_R_backs hz q_1030 d_R_back_36 ?_
    exact g_iret hz (rti h hq) d_R_back_39
  · replace h := (if_pos c1).symm.trans h
    refine g_aload_n hz 0 d_R_back_7 rfl rfl ?_
    refine g_bipush hz (v := (-3)) d_R_back_8 (by decide) ?_
    refine bn_use h (fun x8 s7 e6 h => ?_)
    refine g_callVi hz (c_R_no l e6) (by decide) rc_R rfl rfl m_R_no mi_R_no ms_R_no q_1107 ⟨Nat.le_of_ble_eq_true rfl, Nat.le_of_ble_eq_true rfl⟩ rfl (st := []) rfl (Nat.le_of_ble_eq_true rfl) d_R_back_10 ?_
    exact g_iret hz (rti h hq) d_R_back_13
def f_R_image (s : Mm) : Option (Int32 × Mm) :=
  nm (mU s 176 24 1) fun s1 =>
  bv (f_R_passesAll s1 0 1) fun s4 =>
  some (s4 176 13, s4)
set_option maxRecDepth 20000 in
theorem c_R_image (l : Launch) {s : Mm}  {r' : Int32} {s' : Mm}  (h : f_R_image s = some (r', s')) : Cm l y_R_image b_R_image 1 (some .int) 2 44 [.ref 176] s s' (some (.int r')) := by
  refine Cm.of (own := "PassedOnAndBetterModel") (by decide) rfl (fun ad => Nat.le_of_ble_eq_true rfl) ?_
  intro z hz hq
  show G l z b_R_image 1 0 [(0, .ref 176)] [] s
  unfold f_R_image at h
  refine g_aload_n hz 0 d_R_image_0 rfl rfl ?_
  refine g_iconst hz d_R_image_1 ki_1 ?_
  refine pf_R_hasImage hz (Or.inr rfl) q_1027 d_R_image_2 (fun s1 e2 => ?_)
  replace h := nm_use h e2
  refine g_aload_n hz 0 d_R_image_5 rfl rfl ?_
  refine g_iconst hz d_R_image_6 ki_0 ?_
  refine g_iconst hz d_R_image_7 ki_1 ?_
  refine bv_use h (fun s4 e3 h => ?_)
  refine g_callVv hz (c_R_passesAll l e3) (by decide) rc_R rfl rfl m_R_passesAll mi_R_passesAll ms_R_passesAll q_1134 ⟨Nat.le_of_ble_eq_true rfl, Nat.le_of_ble_eq_true rfl⟩ rfl (st := []) rfl (Nat.le_of_ble_eq_true rfl) d_R_image_8 ?_
  refine g_aload_n hz 0 d_R_image_11 rfl rfl ?_
  refine gf_R_month hz q_1016 d_R_image_12 ?_
  exact g_iret hz (rti h hq) d_R_image_15
def f_R_restore (s : Mm) : Option (Int32 × Mm) :=
  if (s 176 24) = 0 then
    bn (f_R_no s (-3)) fun x8 s7 =>
    some (x8, s7)
  else
    bv (f_R_passesAll s 0 0) fun s3 =>
    nm (mU s3 176 27 0) fun s4 =>
    some (s4 176 13, s4)
set_option maxRecDepth 20000 in
theorem c_R_restore (l : Launch) {s : Mm}  {r' : Int32} {s' : Mm}  (h : f_R_restore s = some (r', s')) : Cm l y_R_restore b_R_restore 1 (some .int) 2 44 [.ref 176] s s' (some (.int r')) := by
  refine Cm.of (own := "PassedOnAndBetterModel") (by decide) rfl (fun ad => Nat.le_of_ble_eq_true rfl) ?_
  intro z hz hq
  show G l z b_R_restore 1 0 [(0, .ref 176)] [] s
  unfold f_R_restore at h
  refine g_aload_n hz 0 d_R_restore_0 rfl rfl ?_
  refine gf_R_hasImage hz q_1027 d_R_restore_1 ?_
  refine g_if_ne hz (tgt := 14) d_R_restore_4 (by decide) (fun c1 => ?_) (fun c1 => ?_)
  · replace h := (if_neg c1).symm.trans h
    refine g_aload_n hz 0 d_R_restore_14 rfl rfl ?_
    refine g_iconst hz d_R_restore_15 ki_0 ?_
    refine g_iconst hz d_R_restore_16 ki_0 ?_
    refine bv_use h (fun s3 e2 h => ?_)
    refine g_callVv hz (c_R_passesAll l e2) (by decide) rc_R rfl rfl m_R_passesAll mi_R_passesAll ms_R_passesAll q_1134 ⟨Nat.le_of_ble_eq_true rfl, Nat.le_of_ble_eq_true rfl⟩ rfl (st := []) rfl (Nat.le_of_ble_eq_true rfl) d_R_restore_17 ?_
    refine g_aload_n hz 0 d_R_restore_20 rfl rfl ?_
    refine g_iconst hz d_R_restore_21 ki_0 ?_
    refine pf_R_backs hz q_1030 d_R_restore_22 (fun s4 e5 => ?_)
    replace h := nm_use h e5
    refine g_aload_n hz 0 d_R_restore_25 rfl rfl ?_
    refine gf_R_month hz q_1016 d_R_restore_26 ?_
    exact g_iret hz (rti h hq) d_R_restore_29
  · replace h := (if_pos c1).symm.trans h
    refine g_aload_n hz 0 d_R_restore_7 rfl rfl ?_
    refine g_bipush hz (v := (-3)) d_R_restore_8 (by decide) ?_
    refine bn_use h (fun x8 s7 e6 h => ?_)
    refine g_callVi hz (c_R_no l e6) (by decide) rc_R rfl rfl m_R_no mi_R_no ms_R_no q_1107 ⟨Nat.le_of_ble_eq_true rfl, Nat.le_of_ble_eq_true rfl⟩ rfl (st := []) rfl (Nat.le_of_ble_eq_true rfl) d_R_restore_10 ?_
    exact g_iret hz (rti h hq) d_R_restore_13
def k_R_holds_4 : Nat → Int32 → Int32 → Int32 → Mm → Option (Int32 × Mm)
  | 0, _, _, _, _ => none
  | n + 1, v1, v2, v3, s => if (s 176 12) ≤ v3 then
      some (v2, s)
    else
      gd v3 4 <|
      if (s 184 v3.toNatClampNeg) = v1 then
        nm (v2 + 1) fun x6 =>
        k_R_holds_4 n v1 x6 (v3 + 1) s
      else
        nm (v2 + 0) fun x4 =>
        k_R_holds_4 n v1 x4 (v3 + 1) s
set_option maxRecDepth 20000 in
theorem w_R_holds_4 {l : Launch} {z : Zt} (hz : ZOk z b_R_holds 4 "PassedOnAndBetterModel" 0 0) {r' : Int32} {s' : Mm} (hq : ZR z (some .int) s' (some (.int r'))) : ∀ (n : Nat) (v1 : Int32) (v2 : Int32) (v3 : Int32) (s : Mm), k_R_holds_4 n v1 v2 v3 s = some (r', s') → G l z b_R_holds 4 4 [(0, .ref 176), (1, .int v1), (2, .int v2), (3, .int v3)] [] s := by
  intro n
  induction n with
  | zero => intro v1 v2 v3 s h; unfold k_R_holds_4 at h; cases h
  | succ n ih =>
    intro v1 v2 v3 s h
    unfold k_R_holds_4 at h
    refine g_iload_n hz 3 d_R_holds_4 rfl rfl ?_
    refine g_aload_n hz 0 d_R_holds_5 rfl rfl ?_
    refine gf_R_gifts hz q_1015 d_R_holds_6 ?_
    refine g_icmp_ge hz (tgt := 36) d_R_holds_9 (by decide) (fun c1 => ?_) (fun c1 => ?_)
    · replace h := (if_pos c1).symm.trans h
      refine g_iload_n hz 2 d_R_holds_36 rfl rfl ?_
      exact g_iret hz (rti h hq) d_R_holds_37
    · replace h := (if_neg c1).symm.trans h
      refine g_iload_n hz 2 d_R_holds_12 rfl rfl ?_
      refine g_aload_n hz 0 d_R_holds_13 rfl rfl ?_
      refine gf_R_holder hz q_1010 d_R_holds_14 ?_
      refine g_iload_n hz 3 d_R_holds_17 rfl rfl ?_
      obtain ⟨n2, h⟩ := gd_use h
      refine g_iald hz (by decide) n2 d_R_holds_18 ?_
      refine g_iload_n hz 1 d_R_holds_19 rfl rfl ?_
      refine g_icmp_ne hz (tgt := 27) d_R_holds_20 (by decide) (fun c3 => ?_) (fun c3 => ?_)
      · replace h := (if_neg c3).symm.trans h
        refine g_iconst hz d_R_holds_27 ki_0 ?_
        refine g_iadd hz d_R_holds_28 ?_
        refine g_nmi (fun x4 e5 => ?_)
        replace h := nm_use h e5
        refine g_istore_n hz (L' := [(2, .int x4), (0, .ref 176), (1, .int v1), (3, .int v3)]) d_R_holds_29 rfl (by decide) rfl ?_
        refine g_iinc hz (v := v3 + 1) (L' := [(3, .int (v3 + 1)), (2, .int x4), (0, .ref 176), (1, .int v1)]) 3 d_R_holds_30 rfl (congrArg (fun q => v3 + q) ki_1) (by decide) rfl ?_
        refine g_goto hz (tgt := 4) d_R_holds_33 (by decide) ?_
        refine g_sub [2, 3, 1, 0] rfl ?_
        exact ih v1 x4 (v3 + 1) _ h
      · replace h := (if_pos c3).symm.trans h
        refine g_iconst hz d_R_holds_23 ki_1 ?_
        refine g_goto hz (tgt := 28) d_R_holds_24 (by decide) ?_
        refine g_iadd hz d_R_holds_28 ?_
        refine g_nmi (fun x6 e7 => ?_)
        replace h := nm_use h e7
        refine g_istore_n hz (L' := [(2, .int x6), (0, .ref 176), (1, .int v1), (3, .int v3)]) d_R_holds_29 rfl (by decide) rfl ?_
        refine g_iinc hz (v := v3 + 1) (L' := [(3, .int (v3 + 1)), (2, .int x6), (0, .ref 176), (1, .int v1)]) 3 d_R_holds_30 rfl (congrArg (fun q => v3 + q) ki_1) (by decide) rfl ?_
        refine g_goto hz (tgt := 4) d_R_holds_33 (by decide) ?_
        refine g_sub [2, 3, 1, 0] rfl ?_
        exact ih v1 x6 (v3 + 1) _ h
def f_R_holds (s : Mm) (a1 : Int32) : Option (Int32 × Mm) :=
  k_R_holds_4 KF a1 0 0 s
set_option maxRecDepth 20000 in
theorem c_R_holds (l : Launch) {s : Mm} {a1 : Int32} {r' : Int32} {s' : Mm}  (h : f_R_holds s a1 = some (r', s')) : Cm l y_R_holds b_R_holds 4 (some .int) 0 0 [.ref 176, .int a1] s s' (some (.int r')) := by
  refine Cm.of (own := "PassedOnAndBetterModel") (by decide) rfl (fun ad => Nat.le_of_ble_eq_true rfl) ?_
  intro z hz hq
  show G l z b_R_holds 4 0 [(0, .ref 176), (1, .int a1)] [] s
  unfold f_R_holds at h
  refine g_iconst hz d_R_holds_0 ki_0 ?_
  refine g_istore_n hz (L' := [(2, .int 0), (0, .ref 176), (1, .int a1)]) d_R_holds_1 rfl (by decide) rfl ?_
  refine g_iconst hz d_R_holds_2 ki_0 ?_
  refine g_istore_n hz (L' := [(3, .int 0), (2, .int 0), (0, .ref 176), (1, .int a1)]) d_R_holds_3 rfl (by decide) rfl ?_
  refine g_sub [2, 3, 1, 0] rfl ?_
  exact w_R_holds_4 hz hq KF a1 0 0 _ h
def f_R_friendOf (s : Mm) (a1 : Int32) (a2 : Int32) : Option (Int32 × Mm) :=
  bn (f_R_isFriend s a1) fun x3 s2 =>
  if x3 = 0 then
    bn (f_R_no s2 (-1)) fun x37 s36 =>
    some (x37, s36)
  else
    if a2 = 0 then
      gd a1 6 <|
      some (s2 178 a1.toNatClampNeg, s2)
    else if a2 = 1 then
      gd a1 6 <|
      some (s2 179 a1.toNatClampNeg, s2)
    else if a2 = 2 then
      gd a1 6 <|
      some (s2 180 a1.toNatClampNeg, s2)
    else if a2 = 3 then
      gd a1 6 <|
      some (s2 181 a1.toNatClampNeg, s2)
    else if a2 = 4 then
      bn (f_R_waitsOf s2 a1) fun x16 s15 =>
      some (x16, s15)
    else if a2 = 5 then
      bn (f_R_addsOf s2 a1) fun x20 s19 =>
      some (x20, s19)
    else if a2 = 6 then
      bn (f_R_swellsOf s2 a1) fun x24 s23 =>
      bn (f_R_held s23 x24 0 99) fun x27 s26 =>
      some (x27, s26)
    else if a2 = 7 then
      bn (f_R_holds s2 a1) fun x31 s30 =>
      some (x31, s30)
    else
      bn (f_R_no s2 (-2)) fun x34 s33 =>
      some (x34, s33)
set_option maxRecDepth 20000 in
theorem c_R_friendOf (l : Launch) {s : Mm} {a1 : Int32} {a2 : Int32} {r' : Int32} {s' : Mm}  (h : f_R_friendOf s a1 a2 = some (r', s')) : Cm l y_R_friendOf b_R_friendOf 3 (some .int) 1 23 [.ref 176, .int a1, .int a2] s s' (some (.int r')) := by
  refine Cm.of (own := "PassedOnAndBetterModel") (by decide) rfl (fun ad => Nat.le_of_ble_eq_true rfl) ?_
  intro z hz hq
  show G l z b_R_friendOf 3 0 [(0, .ref 176), (1, .int a1), (2, .int a2)] [] s
  unfold f_R_friendOf at h
  refine g_aload_n hz 0 d_R_friendOf_0 rfl rfl ?_
  refine g_iload_n hz 1 d_R_friendOf_1 rfl rfl ?_
  refine bn_use h (fun x3 s2 e1 h => ?_)
  refine g_callVi hz (c_R_isFriend l e1) (by decide) rc_R rfl rfl m_R_isFriend mi_R_isFriend ms_R_isFriend q_1162 ⟨Nat.le_of_ble_eq_true rfl, Nat.le_of_ble_eq_true rfl⟩ rfl (st := []) rfl (Nat.le_of_ble_eq_true rfl) d_R_friendOf_2 ?_
  refine g_if_ne hz (tgt := 14) d_R_friendOf_5 (by decide) (fun c4 => ?_) (fun c4 => ?_)
  · replace h := (if_neg c4).symm.trans h
    refine g_iload_n hz 2 d_R_friendOf_14 rfl rfl ?_
    by_cases c5 : a2 = 0
    · replace h := (if_pos c5).symm.trans h
      refine g_tin hz (off := 45) (tgt := 60) d_R_friendOf_15 c5 (by decide) (by decide) (by decide) (by decide) ?_
      refine g_aload_n hz 0 d_R_friendOf_60 rfl rfl ?_
      refine gf_R_kind hz q_1004 d_R_friendOf_61 ?_
      refine g_iload_n hz 1 d_R_friendOf_64 rfl rfl ?_
      obtain ⟨n6, h⟩ := gd_use h
      refine g_iald hz (by decide) n6 d_R_friendOf_65 ?_
      exact g_iret hz (rti h hq) d_R_friendOf_66
    · replace h := (if_neg c5).symm.trans h
      by_cases c7 : a2 = 1
      · replace h := (if_pos c7).symm.trans h
        refine g_tin hz (off := 52) (tgt := 67) d_R_friendOf_15 c7 (by decide) (by decide) (by decide) (by decide) ?_
        refine g_aload_n hz 0 d_R_friendOf_67 rfl rfl ?_
        refine gf_R_figure hz q_1005 d_R_friendOf_68 ?_
        refine g_iload_n hz 1 d_R_friendOf_71 rfl rfl ?_
        obtain ⟨n8, h⟩ := gd_use h
        refine g_iald hz (by decide) n8 d_R_friendOf_72 ?_
        exact g_iret hz (rti h hq) d_R_friendOf_73
      · replace h := (if_neg c7).symm.trans h
        by_cases c9 : a2 = 2
        · replace h := (if_pos c9).symm.trans h
          refine g_tin hz (off := 59) (tgt := 74) d_R_friendOf_15 c9 (by decide) (by decide) (by decide) (by decide) ?_
          refine g_aload_n hz 0 d_R_friendOf_74 rfl rfl ?_
          refine gf_R_door hz q_1006 d_R_friendOf_75 ?_
          refine g_iload_n hz 1 d_R_friendOf_78 rfl rfl ?_
          obtain ⟨n10, h⟩ := gd_use h
          refine g_iald hz (by decide) n10 d_R_friendOf_79 ?_
          exact g_iret hz (rti h hq) d_R_friendOf_80
        · replace h := (if_neg c9).symm.trans h
          by_cases c11 : a2 = 3
          · replace h := (if_pos c11).symm.trans h
            refine g_tin hz (off := 66) (tgt := 81) d_R_friendOf_15 c11 (by decide) (by decide) (by decide) (by decide) ?_
            refine g_aload_n hz 0 d_R_friendOf_81 rfl rfl ?_
            refine gf_R_next hz q_1007 d_R_friendOf_82 ?_
            refine g_iload_n hz 1 d_R_friendOf_85 rfl rfl ?_
            obtain ⟨n12, h⟩ := gd_use h
            refine g_iald hz (by decide) n12 d_R_friendOf_86 ?_
            exact g_iret hz (rti h hq) d_R_friendOf_87
          · replace h := (if_neg c11).symm.trans h
            by_cases c13 : a2 = 4
            · replace h := (if_pos c13).symm.trans h
              refine g_tin hz (off := 73) (tgt := 88) d_R_friendOf_15 c13 (by decide) (by decide) (by decide) (by decide) ?_
              refine g_aload_n hz 0 d_R_friendOf_88 rfl rfl ?_
              refine g_iload_n hz 1 d_R_friendOf_89 rfl rfl ?_
              refine bn_use h (fun x16 s15 e14 h => ?_)
              refine g_callVi hz (c_R_waitsOf l e14) (by decide) rc_R rfl rfl m_R_waitsOf mi_R_waitsOf ms_R_waitsOf q_1209 ⟨Nat.le_of_ble_eq_true rfl, Nat.le_of_ble_eq_true rfl⟩ rfl (st := []) rfl (Nat.le_of_ble_eq_true rfl) d_R_friendOf_90 ?_
              exact g_iret hz (rti h hq) d_R_friendOf_93
            · replace h := (if_neg c13).symm.trans h
              by_cases c17 : a2 = 5
              · replace h := (if_pos c17).symm.trans h
                refine g_tin hz (off := 79) (tgt := 94) d_R_friendOf_15 c17 (by decide) (by decide) (by decide) (by decide) ?_
                refine g_aload_n hz 0 d_R_friendOf_94 rfl rfl ?_
                refine g_iload_n hz 1 d_R_friendOf_95 rfl rfl ?_
                refine bn_use h (fun x20 s19 e18 h => ?_)
                refine g_callVi hz (c_R_addsOf l e18) (by decide) rc_R rfl rfl m_R_addsOf mi_R_addsOf ms_R_addsOf q_1217 ⟨Nat.le_of_ble_eq_true rfl, Nat.le_of_ble_eq_true rfl⟩ rfl (st := []) rfl (Nat.le_of_ble_eq_true rfl) d_R_friendOf_96 ?_
                exact g_iret hz (rti h hq) d_R_friendOf_99
              · replace h := (if_neg c17).symm.trans h
                by_cases c21 : a2 = 6
                · replace h := (if_pos c21).symm.trans h
                  refine g_tin hz (off := 85) (tgt := 100) d_R_friendOf_15 c21 (by decide) (by decide) (by decide) (by decide) ?_
                  refine g_aload_n hz 0 d_R_friendOf_100 rfl rfl ?_
                  refine g_iload_n hz 1 d_R_friendOf_101 rfl rfl ?_
                  refine bn_use h (fun x24 s23 e22 h => ?_)
                  refine g_callVi hz (c_R_swellsOf l e22) (by decide) rc_R rfl rfl m_R_swellsOf mi_R_swellsOf ms_R_swellsOf q_1228 ⟨Nat.le_of_ble_eq_true rfl, Nat.le_of_ble_eq_true rfl⟩ rfl (st := []) rfl (Nat.le_of_ble_eq_true rfl) d_R_friendOf_102 ?_
                  refine g_iconst hz d_R_friendOf_105 ki_0 ?_
                  refine g_bipush hz (v := 99) d_R_friendOf_106 (by decide) ?_
                  refine bn_use h (fun x27 s26 e25 h => ?_)
                  refine g_callSi hz (c_R_held l e25) m_R_held mi_R_held q_1206 ⟨Nat.le_of_ble_eq_true rfl, Nat.le_of_ble_eq_true rfl⟩ rfl (st := []) rfl (Nat.le_of_ble_eq_true rfl) d_R_friendOf_108 ?_
                  exact g_iret hz (rti h hq) d_R_friendOf_111
                · replace h := (if_neg c21).symm.trans h
                  by_cases c28 : a2 = 7
                  · replace h := (if_pos c28).symm.trans h
                    refine g_tin hz (off := 97) (tgt := 112) d_R_friendOf_15 c28 (by decide) (by decide) (by decide) (by decide) ?_
                    refine g_aload_n hz 0 d_R_friendOf_112 rfl rfl ?_
                    refine g_iload_n hz 1 d_R_friendOf_113 rfl rfl ?_
                    refine bn_use h (fun x31 s30 e29 h => ?_)
                    refine g_callVi hz (c_R_holds l e29) (by decide) rc_R rfl rfl m_R_holds mi_R_holds ms_R_holds q_1248 ⟨Nat.le_of_ble_eq_true rfl, Nat.le_of_ble_eq_true rfl⟩ rfl (st := []) rfl (Nat.le_of_ble_eq_true rfl) d_R_friendOf_114 ?_
                    exact g_iret hz (rti h hq) d_R_friendOf_117
                  · replace h := (if_neg c28).symm.trans h
                    refine g_tdf hz (tgt := 118) d_R_friendOf_15 (fun i hi hx => ?_) (by decide) ?_
                    · match i, hi, hx with
                      | 0, _, hx => exact absurd hx (lv_neT c5 (by decide))
                      | 1, _, hx => exact absurd hx (lv_neT c7 (by decide))
                      | 2, _, hx => exact absurd hx (lv_neT c9 (by decide))
                      | 3, _, hx => exact absurd hx (lv_neT c11 (by decide))
                      | 4, _, hx => exact absurd hx (lv_neT c13 (by decide))
                      | 5, _, hx => exact absurd hx (lv_neT c17 (by decide))
                      | 6, _, hx => exact absurd hx (lv_neT c21 (by decide))
                      | 7, _, hx => exact absurd hx (lv_neT c28 (by decide))
                      | q + 8, hi, _ => exact absurd hi (by omega)
                    · refine g_aload_n hz 0 d_R_friendOf_118 rfl rfl ?_
                      refine g_bipush hz (v := (-2)) d_R_friendOf_119 (by decide) ?_
                      refine bn_use h (fun x34 s33 e32 h => ?_)
                      refine g_callVi hz (c_R_no l e32) (by decide) rc_R rfl rfl m_R_no mi_R_no ms_R_no q_1107 ⟨Nat.le_of_ble_eq_true rfl, Nat.le_of_ble_eq_true rfl⟩ rfl (st := []) rfl (Nat.le_of_ble_eq_true rfl) d_R_friendOf_121 ?_
                      exact g_iret hz (rti h hq) d_R_friendOf_124
  · replace h := (if_pos c4).symm.trans h
    refine g_aload_n hz 0 d_R_friendOf_8 rfl rfl ?_
    refine g_iconst hz d_R_friendOf_9 ki_m1 ?_
    refine bn_use h (fun x37 s36 e35 h => ?_)
    refine g_callVi hz (c_R_no l e35) (by decide) rc_R rfl rfl m_R_no mi_R_no ms_R_no q_1107 ⟨Nat.le_of_ble_eq_true rfl, Nat.le_of_ble_eq_true rfl⟩ rfl (st := []) rfl (Nat.le_of_ble_eq_true rfl) d_R_friendOf_10 ?_
    exact g_iret hz (rti h hq) d_R_friendOf_13
def f_R_giftOf (s : Mm) (a1 : Int32) (a2 : Int32) : Option (Int32 × Mm) :=
  bn (f_R_isGift s a1) fun x3 s2 =>
  if x3 = 0 then
    bn (f_R_no s2 (-1)) fun x22 s21 =>
    some (x22, s21)
  else
    if a2 = 0 then
      gd a1 4 <|
      some (s2 182 a1.toNatClampNeg, s2)
    else if a2 = 1 then
      gd a1 4 <|
      some (s2 183 a1.toNatClampNeg, s2)
    else if a2 = 2 then
      gd a1 4 <|
      some (s2 184 a1.toNatClampNeg, s2)
    else if a2 = 3 then
      gd a1 4 <|
      some (s2 185 a1.toNatClampNeg, s2)
    else if a2 = 4 then
      gd a1 4 <|
      some (s2 186 a1.toNatClampNeg, s2)
    else if a2 = 5 then
      gd a1 4 <|
      some (s2 187 a1.toNatClampNeg, s2)
    else
      bn (f_R_no s2 (-2)) fun x19 s18 =>
      some (x19, s18)
set_option maxRecDepth 20000 in
theorem c_R_giftOf (l : Launch) {s : Mm} {a1 : Int32} {a2 : Int32} {r' : Int32} {s' : Mm}  (h : f_R_giftOf s a1 a2 = some (r', s')) : Cm l y_R_giftOf b_R_giftOf 3 (some .int) 1 21 [.ref 176, .int a1, .int a2] s s' (some (.int r')) := by
  refine Cm.of (own := "PassedOnAndBetterModel") (by decide) rfl (fun ad => Nat.le_of_ble_eq_true rfl) ?_
  intro z hz hq
  show G l z b_R_giftOf 3 0 [(0, .ref 176), (1, .int a1), (2, .int a2)] [] s
  unfold f_R_giftOf at h
  refine g_aload_n hz 0 d_R_giftOf_0 rfl rfl ?_
  refine g_iload_n hz 1 d_R_giftOf_1 rfl rfl ?_
  refine bn_use h (fun x3 s2 e1 h => ?_)
  refine g_callVi hz (c_R_isGift l e1) (by decide) rc_R rfl rfl m_R_isGift mi_R_isGift ms_R_isGift q_1186 ⟨Nat.le_of_ble_eq_true rfl, Nat.le_of_ble_eq_true rfl⟩ rfl (st := []) rfl (Nat.le_of_ble_eq_true rfl) d_R_giftOf_2 ?_
  refine g_if_ne hz (tgt := 14) d_R_giftOf_5 (by decide) (fun c4 => ?_) (fun c4 => ?_)
  · replace h := (if_neg c4).symm.trans h
    refine g_iload_n hz 2 d_R_giftOf_14 rfl rfl ?_
    by_cases c5 : a2 = 0
    · replace h := (if_pos c5).symm.trans h
      refine g_tin hz (off := 37) (tgt := 52) d_R_giftOf_15 c5 (by decide) (by decide) (by decide) (by decide) ?_
      refine g_aload_n hz 0 d_R_giftOf_52 rfl rfl ?_
      refine gf_R_worth hz q_1008 d_R_giftOf_53 ?_
      refine g_iload_n hz 1 d_R_giftOf_56 rfl rfl ?_
      obtain ⟨n6, h⟩ := gd_use h
      refine g_iald hz (by decide) n6 d_R_giftOf_57 ?_
      exact g_iret hz (rti h hq) d_R_giftOf_58
    · replace h := (if_neg c5).symm.trans h
      by_cases c7 : a2 = 1
      · replace h := (if_pos c7).symm.trans h
        refine g_tin hz (off := 44) (tgt := 59) d_R_giftOf_15 c7 (by decide) (by decide) (by decide) (by decide) ?_
        refine g_aload_n hz 0 d_R_giftOf_59 rfl rfl ?_
        refine gf_R_size hz q_1009 d_R_giftOf_60 ?_
        refine g_iload_n hz 1 d_R_giftOf_63 rfl rfl ?_
        obtain ⟨n8, h⟩ := gd_use h
        refine g_iald hz (by decide) n8 d_R_giftOf_64 ?_
        exact g_iret hz (rti h hq) d_R_giftOf_65
      · replace h := (if_neg c7).symm.trans h
        by_cases c9 : a2 = 2
        · replace h := (if_pos c9).symm.trans h
          refine g_tin hz (off := 51) (tgt := 66) d_R_giftOf_15 c9 (by decide) (by decide) (by decide) (by decide) ?_
          refine g_aload_n hz 0 d_R_giftOf_66 rfl rfl ?_
          refine gf_R_holder hz q_1010 d_R_giftOf_67 ?_
          refine g_iload_n hz 1 d_R_giftOf_70 rfl rfl ?_
          obtain ⟨n10, h⟩ := gd_use h
          refine g_iald hz (by decide) n10 d_R_giftOf_71 ?_
          exact g_iret hz (rti h hq) d_R_giftOf_72
        · replace h := (if_neg c9).symm.trans h
          by_cases c11 : a2 = 3
          · replace h := (if_pos c11).symm.trans h
            refine g_tin hz (off := 58) (tgt := 73) d_R_giftOf_15 c11 (by decide) (by decide) (by decide) (by decide) ?_
            refine g_aload_n hz 0 d_R_giftOf_73 rfl rfl ?_
            refine gf_R_kept hz q_1011 d_R_giftOf_74 ?_
            refine g_iload_n hz 1 d_R_giftOf_77 rfl rfl ?_
            obtain ⟨n12, h⟩ := gd_use h
            refine g_iald hz (by decide) n12 d_R_giftOf_78 ?_
            exact g_iret hz (rti h hq) d_R_giftOf_79
          · replace h := (if_neg c11).symm.trans h
            by_cases c13 : a2 = 4
            · replace h := (if_pos c13).symm.trans h
              refine g_tin hz (off := 65) (tgt := 80) d_R_giftOf_15 c13 (by decide) (by decide) (by decide) (by decide) ?_
              refine g_aload_n hz 0 d_R_giftOf_80 rfl rfl ?_
              refine gf_R_bettered hz q_1012 d_R_giftOf_81 ?_
              refine g_iload_n hz 1 d_R_giftOf_84 rfl rfl ?_
              obtain ⟨n14, h⟩ := gd_use h
              refine g_iald hz (by decide) n14 d_R_giftOf_85 ?_
              exact g_iret hz (rti h hq) d_R_giftOf_86
            · replace h := (if_neg c13).symm.trans h
              by_cases c15 : a2 = 5
              · replace h := (if_pos c15).symm.trans h
                refine g_tin hz (off := 72) (tgt := 87) d_R_giftOf_15 c15 (by decide) (by decide) (by decide) (by decide) ?_
                refine g_aload_n hz 0 d_R_giftOf_87 rfl rfl ?_
                refine gf_R_given hz q_1013 d_R_giftOf_88 ?_
                refine g_iload_n hz 1 d_R_giftOf_91 rfl rfl ?_
                obtain ⟨n16, h⟩ := gd_use h
                refine g_iald hz (by decide) n16 d_R_giftOf_92 ?_
                exact g_iret hz (rti h hq) d_R_giftOf_93
              · replace h := (if_neg c15).symm.trans h
                refine g_tdf hz (tgt := 94) d_R_giftOf_15 (fun i hi hx => ?_) (by decide) ?_
                · match i, hi, hx with
                  | 0, _, hx => exact absurd hx (lv_neT c5 (by decide))
                  | 1, _, hx => exact absurd hx (lv_neT c7 (by decide))
                  | 2, _, hx => exact absurd hx (lv_neT c9 (by decide))
                  | 3, _, hx => exact absurd hx (lv_neT c11 (by decide))
                  | 4, _, hx => exact absurd hx (lv_neT c13 (by decide))
                  | 5, _, hx => exact absurd hx (lv_neT c15 (by decide))
                  | q + 6, hi, _ => exact absurd hi (by omega)
                · refine g_aload_n hz 0 d_R_giftOf_94 rfl rfl ?_
                  refine g_bipush hz (v := (-2)) d_R_giftOf_95 (by decide) ?_
                  refine bn_use h (fun x19 s18 e17 h => ?_)
                  refine g_callVi hz (c_R_no l e17) (by decide) rc_R rfl rfl m_R_no mi_R_no ms_R_no q_1107 ⟨Nat.le_of_ble_eq_true rfl, Nat.le_of_ble_eq_true rfl⟩ rfl (st := []) rfl (Nat.le_of_ble_eq_true rfl) d_R_giftOf_97 ?_
                  exact g_iret hz (rti h hq) d_R_giftOf_100
  · replace h := (if_pos c4).symm.trans h
    refine g_aload_n hz 0 d_R_giftOf_8 rfl rfl ?_
    refine g_iconst hz d_R_giftOf_9 ki_m1 ?_
    refine bn_use h (fun x22 s21 e20 h => ?_)
    refine g_callVi hz (c_R_no l e20) (by decide) rc_R rfl rfl m_R_no mi_R_no ms_R_no q_1107 ⟨Nat.le_of_ble_eq_true rfl, Nat.le_of_ble_eq_true rfl⟩ rfl (st := []) rfl (Nat.le_of_ble_eq_true rfl) d_R_giftOf_10 ?_
    exact g_iret hz (rti h hq) d_R_giftOf_13
def k_R_friend_55 (v1 : Int32) (v2 : Int32) (v3 : Int32) (vt0 : Int32) (s : Mm) : Option (Int32 × Mm) :=
  if vt0 = 0 then
    nm (mU s 176 27 0) fun s7 =>
    bv (f_R_addsFriend s7 v1 v2 v3) fun s10 =>
    some ((s10 176 11) - 1, s10)
  else
    bn (f_R_no s vt0) fun x13 s12 =>
    some (x13, s12)
set_option maxRecDepth 20000 in
theorem w_R_friend_55 {l : Launch} {z : Zt} (hz : ZOk z b_R_friend 5 "PassedOnAndBetterModel" 1 23) {r' : Int32} {s' : Mm} (hq : ZR z (some .int) s' (some (.int r'))) (v1 : Int32) (v2 : Int32) (v3 : Int32) (vt0 : Int32) (s : Mm) (h : k_R_friend_55 v1 v2 v3 vt0 s = some (r', s')) : G l z b_R_friend 5 55 [(0, .ref 176), (1, .int v1), (2, .int v2), (3, .int v3)] [.int vt0] s := by
  unfold k_R_friend_55 at h
  refine g_istore hz (L' := [(4, .int vt0), (0, .ref 176), (1, .int v1), (2, .int v2), (3, .int v3)]) d_R_friend_55 (by decide) rfl ?_
  refine g_iload hz 0 d_R_friend_57 rfl ?_
  refine g_if_eq hz (tgt := 69) d_R_friend_59 (by decide) (fun c6 => ?_) (fun c6 => ?_)
  · replace h := (if_pos c6).symm.trans h
    refine g_aload_n hz 1 d_R_friend_69 rfl rfl ?_
    refine g_iconst hz d_R_friend_70 ki_0 ?_
    refine pf_R_backs hz q_1030 d_R_friend_71 (fun s7 e8 => ?_)
    replace h := nm_use h e8
    refine g_aload_n hz 1 d_R_friend_74 rfl rfl ?_
    refine g_iload_n hz 2 d_R_friend_75 rfl rfl ?_
    refine g_iload_n hz 3 d_R_friend_76 rfl rfl ?_
    refine g_iload_n hz 4 d_R_friend_77 rfl rfl ?_
    refine bv_use h (fun s10 e9 h => ?_)
    refine g_callVv hz (c_R_addsFriend l e9) (by decide) rc_R rfl rfl m_R_addsFriend mi_R_addsFriend ms_R_addsFriend q_1154 ⟨Nat.le_of_ble_eq_true rfl, Nat.le_of_ble_eq_true rfl⟩ rfl (st := []) rfl (Nat.le_of_ble_eq_true rfl) d_R_friend_78 ?_
    refine g_aload_n hz 1 d_R_friend_81 rfl rfl ?_
    refine gf_R_friends hz q_1014 d_R_friend_82 ?_
    refine g_iconst hz d_R_friend_85 ki_1 ?_
    refine g_isub hz d_R_friend_86 ?_
    exact g_iret hz (rti h hq) d_R_friend_87
  · replace h := (if_neg c6).symm.trans h
    refine g_aload_n hz 1 d_R_friend_62 rfl rfl ?_
    refine g_iload hz 0 d_R_friend_63 rfl ?_
    refine bn_use h (fun x13 s12 e11 h => ?_)
    refine g_callVi hz (c_R_no l e11) (by decide) rc_R rfl rfl m_R_no mi_R_no ms_R_no q_1107 ⟨Nat.le_of_ble_eq_true rfl, Nat.le_of_ble_eq_true rfl⟩ rfl (st := []) rfl (Nat.le_of_ble_eq_true rfl) d_R_friend_65 ?_
    exact g_iret hz (rti h hq) d_R_friend_68
def f_R_friend (s : Mm) (a1 : Int32) (a2 : Int32) (a3 : Int32) : Option (Int32 × Mm) :=
  bn (f_R_isIn s a1 0 5) fun x3 s2 =>
  if x3 = 0 then
    k_R_friend_55 a1 a2 a3 (-2) s2
  else
    if a2 < 0 then
      k_R_friend_55 a1 a2 a3 (-4) s2
    else
      if 1 ≤ a3 then
        if 9 < a2 then
          k_R_friend_55 a1 a2 a3 (-6) s2
        else
          if 99 < a3 then
            k_R_friend_55 a1 a2 a3 (-6) s2
          else
            if (s2 176 11) = 6 then
              k_R_friend_55 a1 a2 a3 (-6) s2
            else
              k_R_friend_55 a1 a2 a3 0 s2
      else
        k_R_friend_55 a1 a2 a3 (-4) s2
set_option maxRecDepth 20000 in
theorem c_R_friend (l : Launch) {s : Mm} {a1 : Int32} {a2 : Int32} {a3 : Int32} {r' : Int32} {s' : Mm}  (h : f_R_friend s a1 a2 a3 = some (r', s')) : Cm l y_R_friend b_R_friend 5 (some .int) 1 23 [.ref 176, .int a1, .int a2, .int a3] s s' (some (.int r')) := by
  refine Cm.of (own := "PassedOnAndBetterModel") (by decide) rfl (fun ad => Nat.le_of_ble_eq_true rfl) ?_
  intro z hz hq
  show G l z b_R_friend 5 0 [(0, .ref 176), (1, .int a1), (2, .int a2), (3, .int a3)] [] s
  unfold f_R_friend at h
  refine g_iload_n hz 1 d_R_friend_0 rfl rfl ?_
  refine g_iconst hz d_R_friend_1 ki_0 ?_
  refine g_iconst hz d_R_friend_2 ki_5 ?_
  refine bn_use h (fun x3 s2 e1 h => ?_)
  refine g_callSi hz (c_R_isIn l e1) m_R_isIn mi_R_isIn q_1131 ⟨Nat.le_of_ble_eq_true rfl, Nat.le_of_ble_eq_true rfl⟩ rfl (st := []) rfl (Nat.le_of_ble_eq_true rfl) d_R_friend_3 ?_
  refine g_if_ne hz (tgt := 14) d_R_friend_6 (by decide) (fun c4 => ?_) (fun c4 => ?_)
  · replace h := (if_neg c4).symm.trans h
    refine g_iload_n hz 2 d_R_friend_14 rfl rfl ?_
    refine g_if_lt hz (tgt := 23) d_R_friend_15 (by decide) (fun c5 => ?_) (fun c5 => ?_)
    · replace h := (if_pos c5).symm.trans h
      refine g_bipush hz (v := (-4)) d_R_friend_23 (by decide) ?_
      refine g_goto hz (tgt := 55) d_R_friend_25 (by decide) ?_
      exact w_R_friend_55 hz hq a1 a2 a3 (-4) _ h
    · replace h := (if_neg c5).symm.trans h
      refine g_iload_n hz 3 d_R_friend_18 rfl rfl ?_
      refine g_iconst hz d_R_friend_19 ki_1 ?_
      refine g_icmp_ge hz (tgt := 28) d_R_friend_20 (by decide) (fun c14 => ?_) (fun c14 => ?_)
      · replace h := (if_pos c14).symm.trans h
        refine g_iload_n hz 2 d_R_friend_28 rfl rfl ?_
        refine g_bipush hz (v := 9) d_R_friend_29 (by decide) ?_
        refine g_icmp_gt hz (tgt := 49) d_R_friend_31 (by decide) (fun c15 => ?_) (fun c15 => ?_)
        · replace h := (if_pos c15).symm.trans h
          refine g_bipush hz (v := (-6)) d_R_friend_49 (by decide) ?_
          refine g_goto hz (tgt := 55) d_R_friend_51 (by decide) ?_
          exact w_R_friend_55 hz hq a1 a2 a3 (-6) _ h
        · replace h := (if_neg c15).symm.trans h
          refine g_iload_n hz 3 d_R_friend_34 rfl rfl ?_
          refine g_bipush hz (v := 99) d_R_friend_35 (by decide) ?_
          refine g_icmp_gt hz (tgt := 49) d_R_friend_37 (by decide) (fun c16 => ?_) (fun c16 => ?_)
          · replace h := (if_pos c16).symm.trans h
            refine g_bipush hz (v := (-6)) d_R_friend_49 (by decide) ?_
            refine g_goto hz (tgt := 55) d_R_friend_51 (by decide) ?_
            exact w_R_friend_55 hz hq a1 a2 a3 (-6) _ h
          · replace h := (if_neg c16).symm.trans h
            refine g_aload_n hz 0 d_R_friend_40 rfl rfl ?_
            refine gf_R_friends hz q_1014 d_R_friend_41 ?_
            refine g_bipush hz (v := 6) d_R_friend_44 (by decide) ?_
            refine g_icmp_ne hz (tgt := 54) d_R_friend_46 (by decide) (fun c17 => ?_) (fun c17 => ?_)
            · replace h := (if_neg c17).symm.trans h
              refine g_iconst hz d_R_friend_54 ki_0 ?_
              exact w_R_friend_55 hz hq a1 a2 a3 0 _ h
            · replace h := (if_pos c17).symm.trans h
              refine g_bipush hz (v := (-6)) d_R_friend_49 (by decide) ?_
              refine g_goto hz (tgt := 55) d_R_friend_51 (by decide) ?_
              exact w_R_friend_55 hz hq a1 a2 a3 (-6) _ h
      · replace h := (if_neg c14).symm.trans h
        refine g_bipush hz (v := (-4)) d_R_friend_23 (by decide) ?_
        refine g_goto hz (tgt := 55) d_R_friend_25 (by decide) ?_
        exact w_R_friend_55 hz hq a1 a2 a3 (-4) _ h
  · replace h := (if_pos c4).symm.trans h
    refine g_bipush hz (v := (-2)) d_R_friend_9 (by decide) ?_
    refine g_goto hz (tgt := 55) d_R_friend_11 (by decide) ?_
    exact w_R_friend_55 hz hq a1 a2 a3 (-2) _ h
def k_R_gift_52 (v1 : Int32) (v2 : Int32) (v3 : Int32) (vt0 : Int32) (s : Mm) : Option (Int32 × Mm) :=
  if vt0 = 0 then
    nm (mU s 176 27 0) fun s7 =>
    bv (f_R_addsGift s7 v2 v3 v1) fun s10 =>
    some ((s10 176 12) - 1, s10)
  else
    bn (f_R_no s vt0) fun x13 s12 =>
    some (x13, s12)
set_option maxRecDepth 20000 in
theorem w_R_gift_52 {l : Launch} {z : Zt} (hz : ZOk z b_R_gift 5 "PassedOnAndBetterModel" 2 45) {r' : Int32} {s' : Mm} (hq : ZR z (some .int) s' (some (.int r'))) (v1 : Int32) (v2 : Int32) (v3 : Int32) (vt0 : Int32) (s : Mm) (h : k_R_gift_52 v1 v2 v3 vt0 s = some (r', s')) : G l z b_R_gift 5 52 [(0, .ref 176), (1, .int v1), (2, .int v2), (3, .int v3)] [.int vt0] s := by
  unfold k_R_gift_52 at h
  refine g_istore hz (L' := [(4, .int vt0), (0, .ref 176), (1, .int v1), (2, .int v2), (3, .int v3)]) d_R_gift_52 (by decide) rfl ?_
  refine g_iload hz 0 d_R_gift_54 rfl ?_
  refine g_if_eq hz (tgt := 66) d_R_gift_56 (by decide) (fun c6 => ?_) (fun c6 => ?_)
  · replace h := (if_pos c6).symm.trans h
    refine g_aload_n hz 1 d_R_gift_66 rfl rfl ?_
    refine g_iconst hz d_R_gift_67 ki_0 ?_
    refine pf_R_backs hz q_1030 d_R_gift_68 (fun s7 e8 => ?_)
    replace h := nm_use h e8
    refine g_aload_n hz 1 d_R_gift_71 rfl rfl ?_
    refine g_iload_n hz 3 d_R_gift_72 rfl rfl ?_
    refine g_iload_n hz 4 d_R_gift_73 rfl rfl ?_
    refine g_iload_n hz 2 d_R_gift_74 rfl rfl ?_
    refine bv_use h (fun s10 e9 h => ?_)
    refine g_callVv hz (c_R_addsGift l e9) (by decide) rc_R rfl rfl m_R_addsGift mi_R_addsGift ms_R_addsGift q_1166 ⟨Nat.le_of_ble_eq_true rfl, Nat.le_of_ble_eq_true rfl⟩ rfl (st := []) rfl (Nat.le_of_ble_eq_true rfl) d_R_gift_75 ?_
    refine g_aload_n hz 1 d_R_gift_78 rfl rfl ?_
    refine gf_R_gifts hz q_1015 d_R_gift_79 ?_
    refine g_iconst hz d_R_gift_82 ki_1 ?_
    refine g_isub hz d_R_gift_83 ?_
    exact g_iret hz (rti h hq) d_R_gift_84
  · replace h := (if_neg c6).symm.trans h
    refine g_aload_n hz 1 d_R_gift_59 rfl rfl ?_
    refine g_iload hz 0 d_R_gift_60 rfl ?_
    refine bn_use h (fun x13 s12 e11 h => ?_)
    refine g_callVi hz (c_R_no l e11) (by decide) rc_R rfl rfl m_R_no mi_R_no ms_R_no q_1107 ⟨Nat.le_of_ble_eq_true rfl, Nat.le_of_ble_eq_true rfl⟩ rfl (st := []) rfl (Nat.le_of_ble_eq_true rfl) d_R_gift_62 ?_
    exact g_iret hz (rti h hq) d_R_gift_65
def f_R_gift (s : Mm) (a1 : Int32) (a2 : Int32) (a3 : Int32) : Option (Int32 × Mm) :=
  bn (f_R_isFriend s a1) fun x3 s2 =>
  if x3 = 0 then
    k_R_gift_52 a1 a2 a3 (-1) s2
  else
    if a2 < 0 then
      k_R_gift_52 a1 a2 a3 (-4) s2
    else
      if 1 ≤ a3 then
        if 99 < a2 then
          k_R_gift_52 a1 a2 a3 (-6) s2
        else
          if 99 < a3 then
            k_R_gift_52 a1 a2 a3 (-6) s2
          else
            if (s2 176 12) = 4 then
              k_R_gift_52 a1 a2 a3 (-6) s2
            else
              k_R_gift_52 a1 a2 a3 0 s2
      else
        k_R_gift_52 a1 a2 a3 (-4) s2
set_option maxRecDepth 20000 in
theorem c_R_gift (l : Launch) {s : Mm} {a1 : Int32} {a2 : Int32} {a3 : Int32} {r' : Int32} {s' : Mm}  (h : f_R_gift s a1 a2 a3 = some (r', s')) : Cm l y_R_gift b_R_gift 5 (some .int) 2 45 [.ref 176, .int a1, .int a2, .int a3] s s' (some (.int r')) := by
  refine Cm.of (own := "PassedOnAndBetterModel") (by decide) rfl (fun ad => Nat.le_of_ble_eq_true rfl) ?_
  intro z hz hq
  show G l z b_R_gift 5 0 [(0, .ref 176), (1, .int a1), (2, .int a2), (3, .int a3)] [] s
  unfold f_R_gift at h
  refine g_aload_n hz 0 d_R_gift_0 rfl rfl ?_
  refine g_iload_n hz 1 d_R_gift_1 rfl rfl ?_
  refine bn_use h (fun x3 s2 e1 h => ?_)
  refine g_callVi hz (c_R_isFriend l e1) (by decide) rc_R rfl rfl m_R_isFriend mi_R_isFriend ms_R_isFriend q_1162 ⟨Nat.le_of_ble_eq_true rfl, Nat.le_of_ble_eq_true rfl⟩ rfl (st := []) rfl (Nat.le_of_ble_eq_true rfl) d_R_gift_2 ?_
  refine g_if_ne hz (tgt := 12) d_R_gift_5 (by decide) (fun c4 => ?_) (fun c4 => ?_)
  · replace h := (if_neg c4).symm.trans h
    refine g_iload_n hz 2 d_R_gift_12 rfl rfl ?_
    refine g_if_lt hz (tgt := 21) d_R_gift_13 (by decide) (fun c5 => ?_) (fun c5 => ?_)
    · replace h := (if_pos c5).symm.trans h
      refine g_bipush hz (v := (-4)) d_R_gift_21 (by decide) ?_
      refine g_goto hz (tgt := 52) d_R_gift_23 (by decide) ?_
      exact w_R_gift_52 hz hq a1 a2 a3 (-4) _ h
    · replace h := (if_neg c5).symm.trans h
      refine g_iload_n hz 3 d_R_gift_16 rfl rfl ?_
      refine g_iconst hz d_R_gift_17 ki_1 ?_
      refine g_icmp_ge hz (tgt := 26) d_R_gift_18 (by decide) (fun c14 => ?_) (fun c14 => ?_)
      · replace h := (if_pos c14).symm.trans h
        refine g_iload_n hz 2 d_R_gift_26 rfl rfl ?_
        refine g_bipush hz (v := 99) d_R_gift_27 (by decide) ?_
        refine g_icmp_gt hz (tgt := 46) d_R_gift_29 (by decide) (fun c15 => ?_) (fun c15 => ?_)
        · replace h := (if_pos c15).symm.trans h
          refine g_bipush hz (v := (-6)) d_R_gift_46 (by decide) ?_
          refine g_goto hz (tgt := 52) d_R_gift_48 (by decide) ?_
          exact w_R_gift_52 hz hq a1 a2 a3 (-6) _ h
        · replace h := (if_neg c15).symm.trans h
          refine g_iload_n hz 3 d_R_gift_32 rfl rfl ?_
          refine g_bipush hz (v := 99) d_R_gift_33 (by decide) ?_
          refine g_icmp_gt hz (tgt := 46) d_R_gift_35 (by decide) (fun c16 => ?_) (fun c16 => ?_)
          · replace h := (if_pos c16).symm.trans h
            refine g_bipush hz (v := (-6)) d_R_gift_46 (by decide) ?_
            refine g_goto hz (tgt := 52) d_R_gift_48 (by decide) ?_
            exact w_R_gift_52 hz hq a1 a2 a3 (-6) _ h
          · replace h := (if_neg c16).symm.trans h
            refine g_aload_n hz 0 d_R_gift_38 rfl rfl ?_
            refine gf_R_gifts hz q_1015 d_R_gift_39 ?_
            refine g_iconst hz d_R_gift_42 ki_4 ?_
            refine g_icmp_ne hz (tgt := 51) d_R_gift_43 (by decide) (fun c17 => ?_) (fun c17 => ?_)
            · replace h := (if_neg c17).symm.trans h
              refine g_iconst hz d_R_gift_51 ki_0 ?_
              exact w_R_gift_52 hz hq a1 a2 a3 0 _ h
            · replace h := (if_pos c17).symm.trans h
              refine g_bipush hz (v := (-6)) d_R_gift_46 (by decide) ?_
              refine g_goto hz (tgt := 52) d_R_gift_48 (by decide) ?_
              exact w_R_gift_52 hz hq a1 a2 a3 (-6) _ h
      · replace h := (if_neg c14).symm.trans h
        refine g_bipush hz (v := (-4)) d_R_gift_21 (by decide) ?_
        refine g_goto hz (tgt := 52) d_R_gift_23 (by decide) ?_
        exact w_R_gift_52 hz hq a1 a2 a3 (-4) _ h
  · replace h := (if_pos c4).symm.trans h
    refine g_iconst hz d_R_gift_8 ki_m1 ?_
    refine g_goto hz (tgt := 52) d_R_gift_9 (by decide) ?_
    exact w_R_gift_52 hz hq a1 a2 a3 (-1) _ h
def k_R_keepsBack_51 (s : Mm) : Option Mm :=
  bv (f_R_passesAll s (3 + (s 176 27)) 1) fun s3 =>
  nm (mU s3 176 27 ((s3 176 27) + 1)) fun s4 =>
  some s4
set_option maxRecDepth 20000 in
theorem w_R_keepsBack_51 {l : Launch} {z : Zt} (hz : ZOk z b_R_keepsBack 2 "PassedOnAndBetterModel" 2 44) {s' : Mm} (hq : ZR z none s' none)  (s : Mm) (h : k_R_keepsBack_51 s = some s') : G l z b_R_keepsBack 2 51 [(0, .ref 176)] [] s := by
  unfold k_R_keepsBack_51 at h
  refine g_aload_n hz 0 d_R_keepsBack_51 rfl rfl ?_
  refine g_iconst hz d_R_keepsBack_52 ki_3 ?_
  refine g_aload_n hz 0 d_R_keepsBack_53 rfl rfl ?_
  refine gf_R_backs hz q_1030 d_R_keepsBack_54 ?_
  refine g_iadd hz d_R_keepsBack_57 ?_
  refine g_iconst hz d_R_keepsBack_58 ki_1 ?_
  refine bv_use h (fun s3 e2 h => ?_)
  refine g_callVv hz (c_R_passesAll l e2) (by decide) rc_R rfl rfl m_R_passesAll mi_R_passesAll ms_R_passesAll q_1134 ⟨Nat.le_of_ble_eq_true rfl, Nat.le_of_ble_eq_true rfl⟩ rfl (st := []) rfl (Nat.le_of_ble_eq_true rfl) d_R_keepsBack_59 ?_
  refine g_aload_n hz 0 d_R_keepsBack_62 rfl rfl ?_
  refine g_dup hz d_R_keepsBack_63 rfl ?_
  refine gf_R_backs hz q_1030 d_R_keepsBack_64 ?_
  refine g_iconst hz d_R_keepsBack_67 ki_1 ?_
  refine g_iadd hz d_R_keepsBack_68 ?_
  refine pf_R_backs hz q_1030 d_R_keepsBack_69 (fun s4 e5 => ?_)
  replace h := nm_use h e5
  exact g_vret hz (rtv h hq) d_R_keepsBack_72
def k_R_keepsBack_13 : Nat → Int32 → Mm → Option Mm
  | 0, _, _ => none
  | n + 1, v1, s => if 510 ≤ v1 then
      nm (mU s 176 27 ((s 176 27) - 1)) fun s7 =>
      k_R_keepsBack_51 s7
    else
      gd (v1 + 51) 561 <|
      gd v1 561 <|
      nm (mU s 193 v1.toNatClampNeg (s 193 (v1 + 51).toNatClampNeg)) fun s11 =>
      k_R_keepsBack_13 n (v1 + 1) s11
set_option maxRecDepth 20000 in
theorem w_R_keepsBack_13 {l : Launch} {z : Zt} (hz : ZOk z b_R_keepsBack 2 "PassedOnAndBetterModel" 2 44) {s' : Mm} (hq : ZR z none s' none) : ∀ (n : Nat) (v1 : Int32) (s : Mm), k_R_keepsBack_13 n v1 s = some s' → G l z b_R_keepsBack 2 13 [(0, .ref 176), (1, .int v1)] [] s := by
  intro n
  induction n with
  | zero => intro v1 s h; unfold k_R_keepsBack_13 at h; cases h
  | succ n ih =>
    intro v1 s h
    unfold k_R_keepsBack_13 at h
    refine g_iload_n hz 1 d_R_keepsBack_13 rfl rfl ?_
    refine g_sipush hz (v := 510) d_R_keepsBack_14 (by decide) ?_
    refine g_icmp_ge hz (tgt := 41) d_R_keepsBack_17 (by decide) (fun c6 => ?_) (fun c6 => ?_)
    · replace h := (if_pos c6).symm.trans h
      refine g_aload_n hz 0 d_R_keepsBack_41 rfl rfl ?_
      refine g_dup hz d_R_keepsBack_42 rfl ?_
      refine gf_R_backs hz q_1030 d_R_keepsBack_43 ?_
      refine g_iconst hz d_R_keepsBack_46 ki_1 ?_
      refine g_isub hz d_R_keepsBack_47 ?_
      refine pf_R_backs hz q_1030 d_R_keepsBack_48 (fun s7 e8 => ?_)
      replace h := nm_use h e8
      refine g_sub [0] rfl ?_
      exact w_R_keepsBack_51 hz hq _ h
    · replace h := (if_neg c6).symm.trans h
      refine g_aload_n hz 0 d_R_keepsBack_20 rfl rfl ?_
      refine gf_R_store hz q_1026 d_R_keepsBack_21 ?_
      refine g_iload_n hz 1 d_R_keepsBack_24 rfl rfl ?_
      refine g_aload_n hz 0 d_R_keepsBack_25 rfl rfl ?_
      refine gf_R_store hz q_1026 d_R_keepsBack_26 ?_
      refine g_iload_n hz 1 d_R_keepsBack_29 rfl rfl ?_
      refine g_bipush hz (v := 51) d_R_keepsBack_30 (by decide) ?_
      refine g_iadd hz d_R_keepsBack_32 ?_
      obtain ⟨n9, h⟩ := gd_use h
      refine g_iald hz (by decide) n9 d_R_keepsBack_33 ?_
      obtain ⟨n10, h⟩ := gd_use h
      refine g_iast hz (by decide) n10 d_R_keepsBack_34 (fun s11 e12 => ?_)
      replace h := nm_use h e12
      refine g_iinc hz (v := v1 + 1) (L' := [(1, .int (v1 + 1)), (0, .ref 176)]) 1 d_R_keepsBack_35 rfl (congrArg (fun q => v1 + q) ki_1) (by decide) rfl ?_
      refine g_goto hz (tgt := 13) d_R_keepsBack_38 (by decide) ?_
      refine g_sub [1, 0] rfl ?_
      exact ih (v1 + 1) _ h
def f_R_keepsBack (s : Mm) : Option Mm :=
  if (s 176 27) = 8 then
    k_R_keepsBack_13 KF 153 s
  else
    k_R_keepsBack_51 s
set_option maxRecDepth 20000 in
theorem c_R_keepsBack (l : Launch) {s : Mm}  {s' : Mm}  (h : f_R_keepsBack s = some s') : Cm l y_R_keepsBack b_R_keepsBack 2 none 2 44 [.ref 176] s s' none := by
  refine Cm.of (own := "PassedOnAndBetterModel") (by decide) rfl (fun ad => Nat.le_of_ble_eq_true rfl) ?_
  intro z hz hq
  show G l z b_R_keepsBack 2 0 [(0, .ref 176)] [] s
  unfold f_R_keepsBack at h
  refine g_aload_n hz 0 d_R_keepsBack_0 rfl rfl ?_
  refine gf_R_backs hz q_1030 d_R_keepsBack_1 ?_
  refine g_bipush hz (v := 8) d_R_keepsBack_4 (by decide) ?_
  refine g_icmp_ne hz (tgt := 51) d_R_keepsBack_6 (by decide) (fun c1 => ?_) (fun c1 => ?_)
  · replace h := (if_neg c1).symm.trans h
    exact w_R_keepsBack_51 hz hq _ h
  · replace h := (if_pos c1).symm.trans h
    refine g_sipush hz (v := 153) d_R_keepsBack_9 (by decide) ?_
    refine g_istore_n hz (L' := [(1, .int 153), (0, .ref 176)]) d_R_keepsBack_12 rfl (by decide) rfl ?_
    refine g_sub [1, 0] rfl ?_
    exact w_R_keepsBack_13 hz hq KF 153 _ h
def f_R_nexts (s : Mm) (a1 : Int32) (a2 : Int32) : Option (Int32 × Mm) :=
  bn (f_R_areTwo s a1 a2) fun x3 s2 =>
  if x3 = 0 then
    bn (f_R_no s2 (-1)) fun x13 s12 =>
    some (x13, s12)
  else
    bv (f_R_keepsBack s2) fun s6 =>
    bv (f_R_turnsNext s6 a1 a2) fun s8 =>
    gd a1 6 <|
    if (s8 181 a1.toNatClampNeg) = a2 then
      some (1, s8)
    else
      some (0, s8)
set_option maxRecDepth 20000 in
theorem c_R_nexts (l : Launch) {s : Mm} {a1 : Int32} {a2 : Int32} {r' : Int32} {s' : Mm}  (h : f_R_nexts s a1 a2 = some (r', s')) : Cm l y_R_nexts b_R_nexts 3 (some .int) 3 65 [.ref 176, .int a1, .int a2] s s' (some (.int r')) := by
  refine Cm.of (own := "PassedOnAndBetterModel") (by decide) rfl (fun ad => Nat.le_of_ble_eq_true rfl) ?_
  intro z hz hq
  show G l z b_R_nexts 3 0 [(0, .ref 176), (1, .int a1), (2, .int a2)] [] s
  unfold f_R_nexts at h
  refine g_aload_n hz 0 d_R_nexts_0 rfl rfl ?_
  refine g_iload_n hz 1 d_R_nexts_1 rfl rfl ?_
  refine g_iload_n hz 2 d_R_nexts_2 rfl rfl ?_
  refine bn_use h (fun x3 s2 e1 h => ?_)
  refine g_callVi hz (c_R_areTwo l e1) (by decide) rc_R rfl rfl m_R_areTwo mi_R_areTwo ms_R_areTwo q_1178 ⟨Nat.le_of_ble_eq_true rfl, Nat.le_of_ble_eq_true rfl⟩ rfl (st := []) rfl (Nat.le_of_ble_eq_true rfl) d_R_nexts_3 ?_
  refine g_if_ne hz (tgt := 15) d_R_nexts_6 (by decide) (fun c4 => ?_) (fun c4 => ?_)
  · replace h := (if_neg c4).symm.trans h
    refine g_aload_n hz 0 d_R_nexts_15 rfl rfl ?_
    refine bv_use h (fun s6 e5 h => ?_)
    refine g_callVv hz (c_R_keepsBack l e5) (by decide) rc_R rfl rfl m_R_keepsBack mi_R_keepsBack ms_R_keepsBack q_1268 ⟨Nat.le_of_ble_eq_true rfl, Nat.le_of_ble_eq_true rfl⟩ rfl (st := []) rfl (Nat.le_of_ble_eq_true rfl) d_R_nexts_16 ?_
    refine g_aload_n hz 0 d_R_nexts_19 rfl rfl ?_
    refine g_iload_n hz 1 d_R_nexts_20 rfl rfl ?_
    refine g_iload_n hz 2 d_R_nexts_21 rfl rfl ?_
    refine bv_use h (fun s8 e7 h => ?_)
    refine g_callVv hz (c_R_turnsNext l e7) (by decide) rc_R rfl rfl m_R_turnsNext mi_R_turnsNext ms_R_turnsNext q_1182 ⟨Nat.le_of_ble_eq_true rfl, Nat.le_of_ble_eq_true rfl⟩ rfl (st := []) rfl (Nat.le_of_ble_eq_true rfl) d_R_nexts_22 ?_
    refine g_aload_n hz 0 d_R_nexts_25 rfl rfl ?_
    refine gf_R_next hz q_1007 d_R_nexts_26 ?_
    refine g_iload_n hz 1 d_R_nexts_29 rfl rfl ?_
    obtain ⟨n9, h⟩ := gd_use h
    refine g_iald hz (by decide) n9 d_R_nexts_30 ?_
    refine g_iload_n hz 2 d_R_nexts_31 rfl rfl ?_
    refine g_icmp_ne hz (tgt := 39) d_R_nexts_32 (by decide) (fun c10 => ?_) (fun c10 => ?_)
    · replace h := (if_neg c10).symm.trans h
      refine g_iconst hz d_R_nexts_39 ki_0 ?_
      exact g_iret hz (rti h hq) d_R_nexts_40
    · replace h := (if_pos c10).symm.trans h
      refine g_iconst hz d_R_nexts_35 ki_1 ?_
      refine g_goto hz (tgt := 40) d_R_nexts_36 (by decide) ?_
      exact g_iret hz (rti h hq) d_R_nexts_40
  · replace h := (if_pos c4).symm.trans h
    refine g_aload_n hz 0 d_R_nexts_9 rfl rfl ?_
    refine g_iconst hz d_R_nexts_10 ki_m1 ?_
    refine bn_use h (fun x13 s12 e11 h => ?_)
    refine g_callVi hz (c_R_no l e11) (by decide) rc_R rfl rfl m_R_no mi_R_no ms_R_no q_1107 ⟨Nat.le_of_ble_eq_true rfl, Nat.le_of_ble_eq_true rfl⟩ rfl (st := []) rfl (Nat.le_of_ble_eq_true rfl) d_R_nexts_11 ?_
    exact g_iret hz (rti h hq) d_R_nexts_14
def k_R_doors_19 (v1 : Int32) (v2 : Int32) (vt0 : Int32) (s : Mm) : Option (Int32 × Mm) :=
  if vt0 = 0 then
    bv (f_R_keepsBack s) fun s10 =>
    gd v1 6 <|
    nm (s10 180 v1.toNatClampNeg) fun x12 =>
    gd v1 6 <|
    nm (mU s10 180 v1.toNatClampNeg v2) fun s15 =>
    some (x12, s15)
  else
    bn (f_R_no s vt0) fun x19 s18 =>
    some (x19, s18)
set_option maxRecDepth 20000 in
theorem w_R_doors_19 {l : Launch} {z : Zt} (hz : ZOk z b_R_doors 5 "PassedOnAndBetterModel" 3 65) {r' : Int32} {s' : Mm} (hq : ZR z (some .int) s' (some (.int r'))) (v1 : Int32) (v2 : Int32) (vt0 : Int32) (s : Mm) (h : k_R_doors_19 v1 v2 vt0 s = some (r', s')) : G l z b_R_doors 5 19 [(0, .ref 176), (1, .int v1), (2, .int v2)] [.int vt0] s := by
  unfold k_R_doors_19 at h
  refine g_istore_n hz (L' := [(3, .int vt0), (0, .ref 176), (1, .int v1), (2, .int v2)]) d_R_doors_19 rfl (by decide) rfl ?_
  refine g_iload_n hz 0 d_R_doors_20 rfl rfl ?_
  refine g_if_eq hz (tgt := 30) d_R_doors_21 (by decide) (fun c8 => ?_) (fun c8 => ?_)
  · replace h := (if_pos c8).symm.trans h
    refine g_aload_n hz 1 d_R_doors_30 rfl rfl ?_
    refine bv_use h (fun s10 e9 h => ?_)
    refine g_callVv hz (c_R_keepsBack l e9) (by decide) rc_R rfl rfl m_R_keepsBack mi_R_keepsBack ms_R_keepsBack q_1268 ⟨Nat.le_of_ble_eq_true rfl, Nat.le_of_ble_eq_true rfl⟩ rfl (st := []) rfl (Nat.le_of_ble_eq_true rfl) d_R_doors_31 ?_
    refine g_aload_n hz 1 d_R_doors_34 rfl rfl ?_
    refine gf_R_door hz q_1006 d_R_doors_35 ?_
    refine g_iload_n hz 2 d_R_doors_38 rfl rfl ?_
    obtain ⟨n11, h⟩ := gd_use h
    refine g_iald hz (by decide) n11 d_R_doors_39 ?_
    refine g_nmi (fun x12 e13 => ?_)
    replace h := nm_use h e13
    refine g_istore hz (L' := [(4, .int x12), (3, .int vt0), (0, .ref 176), (1, .int v1), (2, .int v2)]) d_R_doors_40 (by decide) rfl ?_
    refine g_aload_n hz 2 d_R_doors_42 rfl rfl ?_
    refine gf_R_door hz q_1006 d_R_doors_43 ?_
    refine g_iload_n hz 3 d_R_doors_46 rfl rfl ?_
    refine g_iload_n hz 4 d_R_doors_47 rfl rfl ?_
    obtain ⟨n14, h⟩ := gd_use h
    refine g_iast hz (by decide) n14 d_R_doors_48 (fun s15 e16 => ?_)
    replace h := nm_use h e16
    refine g_iload hz 0 d_R_doors_49 rfl ?_
    exact g_iret hz (rti h hq) d_R_doors_51
  · replace h := (if_neg c8).symm.trans h
    refine g_aload_n hz 1 d_R_doors_24 rfl rfl ?_
    refine g_iload_n hz 0 d_R_doors_25 rfl rfl ?_
    refine bn_use h (fun x19 s18 e17 h => ?_)
    refine g_callVi hz (c_R_no l e17) (by decide) rc_R rfl rfl m_R_no mi_R_no ms_R_no q_1107 ⟨Nat.le_of_ble_eq_true rfl, Nat.le_of_ble_eq_true rfl⟩ rfl (st := []) rfl (Nat.le_of_ble_eq_true rfl) d_R_doors_26 ?_
    exact g_iret hz (rti h hq) d_R_doors_29
def f_R_doors (s : Mm) (a1 : Int32) (a2 : Int32) : Option (Int32 × Mm) :=
  bn (f_R_isFriend s a1) fun x3 s2 =>
  if x3 = 0 then
    k_R_doors_19 a1 a2 (-1) s2
  else
    bn (f_R_bound s2 a2 1 99) fun x7 s6 =>
    k_R_doors_19 a1 a2 x7 s6
set_option maxRecDepth 20000 in
theorem c_R_doors (l : Launch) {s : Mm} {a1 : Int32} {a2 : Int32} {r' : Int32} {s' : Mm}  (h : f_R_doors s a1 a2 = some (r', s')) : Cm l y_R_doors b_R_doors 5 (some .int) 3 65 [.ref 176, .int a1, .int a2] s s' (some (.int r')) := by
  refine Cm.of (own := "PassedOnAndBetterModel") (by decide) rfl (fun ad => Nat.le_of_ble_eq_true rfl) ?_
  intro z hz hq
  show G l z b_R_doors 5 0 [(0, .ref 176), (1, .int a1), (2, .int a2)] [] s
  unfold f_R_doors at h
  refine g_aload_n hz 0 d_R_doors_0 rfl rfl ?_
  refine g_iload_n hz 1 d_R_doors_1 rfl rfl ?_
  refine bn_use h (fun x3 s2 e1 h => ?_)
  refine g_callVi hz (c_R_isFriend l e1) (by decide) rc_R rfl rfl m_R_isFriend mi_R_isFriend ms_R_isFriend q_1162 ⟨Nat.le_of_ble_eq_true rfl, Nat.le_of_ble_eq_true rfl⟩ rfl (st := []) rfl (Nat.le_of_ble_eq_true rfl) d_R_doors_2 ?_
  refine g_if_ne hz (tgt := 12) d_R_doors_5 (by decide) (fun c4 => ?_) (fun c4 => ?_)
  · replace h := (if_neg c4).symm.trans h
    refine g_iload_n hz 2 d_R_doors_12 rfl rfl ?_
    refine g_iconst hz d_R_doors_13 ki_1 ?_
    refine g_bipush hz (v := 99) d_R_doors_14 (by decide) ?_
    refine bn_use h (fun x7 s6 e5 h => ?_)
    refine g_callSi hz (c_R_bound l e5) m_R_bound mi_R_bound q_1104 ⟨Nat.le_of_ble_eq_true rfl, Nat.le_of_ble_eq_true rfl⟩ rfl (st := []) rfl (Nat.le_of_ble_eq_true rfl) d_R_doors_16 ?_
    exact w_R_doors_19 hz hq a1 a2 x7 _ h
  · replace h := (if_pos c4).symm.trans h
    refine g_iconst hz d_R_doors_8 ki_m1 ?_
    refine g_goto hz (tgt := 19) d_R_doors_9 (by decide) ?_
    exact w_R_doors_19 hz hq a1 a2 (-1) _ h
def f_R_hands (s : Mm) (a1 : Int32) (a2 : Int32) : Option (Int32 × Mm) :=
  bn (f_R_isGift s a1) fun x3 s2 =>
  if x3 = 0 then
    bn (f_R_no s2 (-1)) fun x7 s6 =>
    some (x7, s6)
  else
    bn (f_R_isFriend s2 a2) fun x10 s9 =>
    if x10 = 0 then
      bn (f_R_no s9 (-1)) fun x21 s20 =>
      some (x21, s20)
    else
      bv (f_R_keepsBack s9) fun s13 =>
      gd a1 4 <|
      nm (s13 184 a1.toNatClampNeg) fun x15 =>
      bv (f_R_puts s13 a1 a2) fun s18 =>
      some (x15, s18)
set_option maxRecDepth 20000 in
theorem c_R_hands (l : Launch) {s : Mm} {a1 : Int32} {a2 : Int32} {r' : Int32} {s' : Mm}  (h : f_R_hands s a1 a2 = some (r', s')) : Cm l y_R_hands b_R_hands 4 (some .int) 3 65 [.ref 176, .int a1, .int a2] s s' (some (.int r')) := by
  refine Cm.of (own := "PassedOnAndBetterModel") (by decide) rfl (fun ad => Nat.le_of_ble_eq_true rfl) ?_
  intro z hz hq
  show G l z b_R_hands 4 0 [(0, .ref 176), (1, .int a1), (2, .int a2)] [] s
  unfold f_R_hands at h
  refine g_aload_n hz 0 d_R_hands_0 rfl rfl ?_
  refine g_iload_n hz 1 d_R_hands_1 rfl rfl ?_
  refine bn_use h (fun x3 s2 e1 h => ?_)
  refine g_callVi hz (c_R_isGift l e1) (by decide) rc_R rfl rfl m_R_isGift mi_R_isGift ms_R_isGift q_1186 ⟨Nat.le_of_ble_eq_true rfl, Nat.le_of_ble_eq_true rfl⟩ rfl (st := []) rfl (Nat.le_of_ble_eq_true rfl) d_R_hands_2 ?_
  refine g_if_eq hz (tgt := 16) d_R_hands_5 (by decide) (fun c4 => ?_) (fun c4 => ?_)
  · replace h := (if_pos c4).symm.trans h
    refine g_aload_n hz 0 d_R_hands_16 rfl rfl ?_
    refine g_iconst hz d_R_hands_17 ki_m1 ?_
    refine bn_use h (fun x7 s6 e5 h => ?_)
    refine g_callVi hz (c_R_no l e5) (by decide) rc_R rfl rfl m_R_no mi_R_no ms_R_no q_1107 ⟨Nat.le_of_ble_eq_true rfl, Nat.le_of_ble_eq_true rfl⟩ rfl (st := []) rfl (Nat.le_of_ble_eq_true rfl) d_R_hands_18 ?_
    exact g_iret hz (rti h hq) d_R_hands_21
  · replace h := (if_neg c4).symm.trans h
    refine g_aload_n hz 0 d_R_hands_8 rfl rfl ?_
    refine g_iload_n hz 2 d_R_hands_9 rfl rfl ?_
    refine bn_use h (fun x10 s9 e8 h => ?_)
    refine g_callVi hz (c_R_isFriend l e8) (by decide) rc_R rfl rfl m_R_isFriend mi_R_isFriend ms_R_isFriend q_1162 ⟨Nat.le_of_ble_eq_true rfl, Nat.le_of_ble_eq_true rfl⟩ rfl (st := []) rfl (Nat.le_of_ble_eq_true rfl) d_R_hands_10 ?_
    refine g_if_ne hz (tgt := 22) d_R_hands_13 (by decide) (fun c11 => ?_) (fun c11 => ?_)
    · replace h := (if_neg c11).symm.trans h
      refine g_aload_n hz 0 d_R_hands_22 rfl rfl ?_
      refine bv_use h (fun s13 e12 h => ?_)
      refine g_callVv hz (c_R_keepsBack l e12) (by decide) rc_R rfl rfl m_R_keepsBack mi_R_keepsBack ms_R_keepsBack q_1268 ⟨Nat.le_of_ble_eq_true rfl, Nat.le_of_ble_eq_true rfl⟩ rfl (st := []) rfl (Nat.le_of_ble_eq_true rfl) d_R_hands_23 ?_
      refine g_aload_n hz 0 d_R_hands_26 rfl rfl ?_
      refine gf_R_holder hz q_1010 d_R_hands_27 ?_
      refine g_iload_n hz 1 d_R_hands_30 rfl rfl ?_
      obtain ⟨n14, h⟩ := gd_use h
      refine g_iald hz (by decide) n14 d_R_hands_31 ?_
      refine g_nmi (fun x15 e16 => ?_)
      replace h := nm_use h e16
      refine g_istore_n hz (L' := [(3, .int x15), (0, .ref 176), (1, .int a1), (2, .int a2)]) d_R_hands_32 rfl (by decide) rfl ?_
      refine g_aload_n hz 1 d_R_hands_33 rfl rfl ?_
      refine g_iload_n hz 2 d_R_hands_34 rfl rfl ?_
      refine g_iload_n hz 3 d_R_hands_35 rfl rfl ?_
      refine bv_use h (fun s18 e17 h => ?_)
      refine g_callVv hz (c_R_puts l e17) (by decide) rc_R rfl rfl m_R_puts mi_R_puts ms_R_puts q_1170 ⟨Nat.le_of_ble_eq_true rfl, Nat.le_of_ble_eq_true rfl⟩ rfl (st := []) rfl (Nat.le_of_ble_eq_true rfl) d_R_hands_36 ?_
      refine g_iload_n hz 0 d_R_hands_39 rfl rfl ?_
      exact g_iret hz (rti h hq) d_R_hands_40
    · replace h := (if_pos c11).symm.trans h
      refine g_aload_n hz 0 d_R_hands_16 rfl rfl ?_
      refine g_iconst hz d_R_hands_17 ki_m1 ?_
      refine bn_use h (fun x21 s20 e19 h => ?_)
      refine g_callVi hz (c_R_no l e19) (by decide) rc_R rfl rfl m_R_no mi_R_no ms_R_no q_1107 ⟨Nat.le_of_ble_eq_true rfl, Nat.le_of_ble_eq_true rfl⟩ rfl (st := []) rfl (Nat.le_of_ble_eq_true rfl) d_R_hands_18 ?_
      exact g_iret hz (rti h hq) d_R_hands_21
