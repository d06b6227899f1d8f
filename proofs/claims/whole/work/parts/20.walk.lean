def f_G_begin (s : Mm) (o : Nat) (a1 : Int32) (a2 : Int32) (a3 : Int32) : Option Mm :=
  nm (mU s o 0 a2) fun s1 =>
  nm (mU s1 o 1 a3) fun s3 =>
  nm (mU s3 o 2 a1) fun s5 =>
  nm (mU s5 o 3 0) fun s7 =>
  nm (mU s7 o 4 0) fun s9 =>
  nm (mU s9 o 5 0) fun s11 =>
  some s11
set_option maxRecDepth 20000 in
theorem c_G_begin (l : Launch) {s : Mm} {o : Nat} {a1 : Int32} {a2 : Int32} {a3 : Int32} {s' : Mm} (ho : iG o) (h : f_G_begin s o a1 a2 a3 = some s') : Cm l y_G_begin b_G_begin 4 none 0 0 [.ref o, .int a1, .int a2, .int a3] s s' none := by
  refine Cm.of (own := "PassedOnAndBetter$Gift") (by decide) rfl (fun ad => Nat.le_of_ble_eq_true rfl) ?_
  intro z hz hq
  show G l z b_G_begin 4 0 [(0, .ref o), (1, .int a1), (2, .int a2), (3, .int a3)] [] s
  unfold f_G_begin at h
  refine g_aload_n hz 0 d_G_begin_0 rfl rfl ?_
  refine g_iload_n hz 2 d_G_begin_1 rfl rfl ?_
  refine pf_G_worth hz ho q_174 d_G_begin_2 (fun s1 e2 => ?_)
  replace h := nm_use h e2
  refine g_aload_n hz 0 d_G_begin_5 rfl rfl ?_
  refine g_iload_n hz 3 d_G_begin_6 rfl rfl ?_
  refine pf_G_size hz ho q_177 d_G_begin_7 (fun s3 e4 => ?_)
  replace h := nm_use h e4
  refine g_aload_n hz 0 d_G_begin_10 rfl rfl ?_
  refine g_iload_n hz 1 d_G_begin_11 rfl rfl ?_
  refine pf_G_with hz ho q_180 d_G_begin_12 (fun s5 e6 => ?_)
  replace h := nm_use h e6
  refine g_aload_n hz 0 d_G_begin_15 rfl rfl ?_
  refine g_iconst hz d_G_begin_16 ki_0 ?_
  refine pf_G_kept hz ho q_184 d_G_begin_17 (fun s7 e8 => ?_)
  replace h := nm_use h e8
  refine g_aload_n hz 0 d_G_begin_20 rfl rfl ?_
  refine g_iconst hz d_G_begin_21 ki_0 ?_
  refine pf_G_bettered hz ho (Or.inl rfl) q_186 d_G_begin_22 (fun s9 e10 => ?_)
  replace h := nm_use h e10
  refine g_aload_n hz 0 d_G_begin_25 rfl rfl ?_
  refine g_iconst hz d_G_begin_26 ki_0 ?_
  refine pf_G_passed hz ho q_187 d_G_begin_27 (fun s11 e12 => ?_)
  replace h := nm_use h e12
  exact g_vret hz (rtv h hq) d_G_begin_30
def f_X_between (s : Mm) (a0 : Int32) (a1 : Int32) (a2 : Int32) : Option (Int32 × Mm) :=
  if a1 ≤ a0 then
    if a0 ≤ a2 then
      some (0, s)
    else
      some ((-6), s)
  else
    some ((-4), s)
set_option maxRecDepth 20000 in
theorem c_X_between (l : Launch) {s : Mm} {a0 : Int32} {a1 : Int32} {a2 : Int32} {r' : Int32} {s' : Mm}  (h : f_X_between s a0 a1 a2 = some (r', s')) : Cm l y_X_between b_X_between 3 (some .int) 0 0 [.int a0, .int a1, .int a2] s s' (some (.int r')) := by
  refine Cm.of (own := "PassedOnAndBetter") (by decide) rfl (fun ad => Nat.le_of_ble_eq_true rfl) ?_
  intro z hz hq
  show G l z b_X_between 3 0 [(0, .int a0), (1, .int a1), (2, .int a2)] [] s
  unfold f_X_between at h
  refine g_iload_n hz 0 d_X_between_0 rfl rfl ?_
  refine g_iload_n hz 1 d_X_between_1 rfl rfl ?_
  refine g_icmp_ge hz (tgt := 8) d_X_between_2 (by decide) (fun c1 => ?_) (fun c1 => ?_)
  · replace h := (if_pos c1).symm.trans h
    refine g_iload_n hz 0 d_X_between_8 rfl rfl ?_
    refine g_iload_n hz 2 d_X_between_9 rfl rfl ?_
    refine g_icmp_le hz (tgt := 18) d_X_between_10 (by decide) (fun c2 => ?_) (fun c2 => ?_)
    · replace h := (if_pos c2).symm.trans h
      refine g_iconst hz d_X_between_18 ki_0 ?_
      exact g_iret hz (rti h hq) d_X_between_19
    · replace h := (if_neg c2).symm.trans h
      refine g_bipush hz (v := (-6)) d_X_between_13 (by decide) ?_
      refine g_goto hz (tgt := 19) d_X_between_15 (by decide) ?_
      exact g_iret hz (rti h hq) d_X_between_19
  · replace h := (if_neg c1).symm.trans h
    refine g_bipush hz (v := (-4)) d_X_between_5 (by decide) ?_
    exact g_iret hz (rti h hq) d_X_between_7
def f_L_isFull (s : Mm) : Option (Int32 × Mm) :=
  if (s 169 1) < 96 then
    some (0, s)
  else
    some (1, s)
set_option maxRecDepth 20000 in
theorem c_L_isFull (l : Launch) {s : Mm}  {r' : Int32} {s' : Mm}  (h : f_L_isFull s = some (r', s')) : Cm l y_L_isFull b_L_isFull 1 (some .boolean) 0 0 [.ref 169] s s' (some (.int r')) := by
  refine Cm.of (own := "PassedOnAndBetter$Letters") (by decide) rfl (fun ad => Nat.le_of_ble_eq_true rfl) ?_
  intro z hz hq
  show G l z b_L_isFull 1 0 [(0, .ref 169)] [] s
  unfold f_L_isFull at h
  refine g_aload_n hz 0 d_L_isFull_0 rfl rfl ?_
  refine gf_L_told hz q_258 d_L_isFull_1 ?_
  refine g_bipush hz (v := 96) d_L_isFull_4 (by decide) ?_
  refine g_icmp_lt hz (tgt := 13) d_L_isFull_6 (by decide) (fun c1 => ?_) (fun c1 => ?_)
  · replace h := (if_pos c1).symm.trans h
    refine g_iconst hz d_L_isFull_13 ki_0 ?_
    exact g_zret hz (rti h hq) (Or.inl rfl) d_L_isFull_14
  · replace h := (if_neg c1).symm.trans h
    refine g_iconst hz d_L_isFull_9 ki_1 ?_
    refine g_goto hz (tgt := 14) d_L_isFull_10 (by decide) ?_
    exact g_zret hz (rti h hq) (Or.inr rfl) d_L_isFull_14
def f_X_setCell (s : Mm) (o0 : Nat) (a1 : Int32) (a2 : Int32) : Option Mm :=
  if a1 < 0 then
    some s
  else
    if (Int32.ofNat (aL o0)) ≤ a1 then
      some s
    else
      gd a1 (aL o0) <|
      nm (mU s o0 a1.toNatClampNeg a2) fun s4 =>
      some s4
set_option maxRecDepth 20000 in
theorem c_X_setCell (l : Launch) {s : Mm} {o0 : Nat} {a1 : Int32} {a2 : Int32} {s' : Mm} (ho0 : iA o0) (h : f_X_setCell s o0 a1 a2 = some s') : Cm l y_X_setCell b_X_setCell 3 none 0 0 [.ref o0, .int a1, .int a2] s s' none := by
  refine Cm.of (own := "PassedOnAndBetter") (by decide) rfl (fun ad => Nat.le_of_ble_eq_true rfl) ?_
  intro z hz hq
  show G l z b_X_setCell 3 0 [(0, .ref o0), (1, .int a1), (2, .int a2)] [] s
  unfold f_X_setCell at h
  refine g_aload_n hz 0 d_X_setCell_0 rfl rfl ?_
  refine g_ifnull hz d_X_setCell_1 ?_
  refine g_iload_n hz 1 d_X_setCell_4 rfl rfl ?_
  refine g_if_lt hz (tgt := 18) d_X_setCell_5 (by decide) (fun c1 => ?_) (fun c1 => ?_)
  · replace h := (if_pos c1).symm.trans h
    exact g_vret hz (rtv h hq) d_X_setCell_18
  · replace h := (if_neg c1).symm.trans h
    refine g_iload_n hz 1 d_X_setCell_8 rfl rfl ?_
    refine g_aload_n hz 0 d_X_setCell_9 rfl rfl ?_
    refine g_alen hz (v := Int32.ofNat (aL o0)) ho0 rfl d_X_setCell_10 ?_
    refine g_icmp_ge hz (tgt := 18) d_X_setCell_11 (by decide) (fun c2 => ?_) (fun c2 => ?_)
    · replace h := (if_pos c2).symm.trans h
      exact g_vret hz (rtv h hq) d_X_setCell_18
    · replace h := (if_neg c2).symm.trans h
      refine g_aload_n hz 0 d_X_setCell_14 rfl rfl ?_
      refine g_iload_n hz 1 d_X_setCell_15 rfl rfl ?_
      refine g_iload_n hz 2 d_X_setCell_16 rfl rfl ?_
      obtain ⟨n3, h⟩ := gd_use h
      refine g_iast hz ho0 n3 d_X_setCell_17 (fun s4 e5 => ?_)
      replace h := nm_use h e5
      exact g_vret hz (rtv h hq) d_X_setCell_18
def f_L_put (s : Mm) (a1 : Int32) : Option (Int32 × Mm) :=
  bv (f_X_setCell s 170 (s 169 1) a1) fun s2 =>
  nm (mU s2 169 1 ((s2 169 1) + 1)) fun s3 =>
  some (s3 169 1, s3)
set_option maxRecDepth 20000 in
theorem c_L_put (l : Launch) {s : Mm} {a1 : Int32} {r' : Int32} {s' : Mm}  (h : f_L_put s a1 = some (r', s')) : Cm l y_L_put b_L_put 2 (some .int) 1 22 [.ref 169, .int a1] s s' (some (.int r')) := by
  refine Cm.of (own := "PassedOnAndBetter$Letters") (by decide) rfl (fun ad => Nat.le_of_ble_eq_true rfl) ?_
  intro z hz hq
  show G l z b_L_put 2 0 [(0, .ref 169), (1, .int a1)] [] s
  unfold f_L_put at h
  refine g_aload_n hz 0 d_L_put_0 rfl rfl ?_
  refine gf_L_cells hz q_257 d_L_put_1 ?_
  refine g_aload_n hz 0 d_L_put_4 rfl rfl ?_
  refine gf_L_told hz q_258 d_L_put_5 ?_
  refine g_iload_n hz 1 d_L_put_8 rfl rfl ?_
  refine bv_use h (fun s2 e1 h => ?_)
  refine g_callSNv hz (c_X_setCell l (by decide) e1) m_X_setCell mi_X_setCell (fun D cy s h => h.2.1) ⟨Nat.le_of_ble_eq_true rfl, Nat.le_of_ble_eq_true rfl⟩ rfl (st := []) rfl (Nat.le_of_ble_eq_true rfl) d_L_put_9 ?_
  refine g_aload_n hz 0 d_L_put_12 rfl rfl ?_
  refine g_dup hz d_L_put_13 rfl ?_
  refine gf_L_told hz q_258 d_L_put_14 ?_
  refine g_iconst hz d_L_put_17 ki_1 ?_
  refine g_iadd hz d_L_put_18 ?_
  refine pf_L_told hz q_258 d_L_put_19 (fun s3 e4 => ?_)
  replace h := nm_use h e4
  refine g_aload_n hz 0 d_L_put_22 rfl rfl ?_
  refine gf_L_told hz q_258 d_L_put_23 ?_
  exact g_iret hz (rti h hq) d_L_put_26
def f_X_cellOf (s : Mm) (o0 : Nat) (a1 : Int32) : Option (Int32 × Mm) :=
  if a1 < 0 then
    some (0, s)
  else
    if (Int32.ofNat (aL o0)) ≤ a1 then
      some (0, s)
    else
      gd a1 (aL o0) <|
      some (s o0 a1.toNatClampNeg, s)
set_option maxRecDepth 20000 in
theorem c_X_cellOf (l : Launch) {s : Mm} {o0 : Nat} {a1 : Int32} {r' : Int32} {s' : Mm} (ho0 : iA o0) (h : f_X_cellOf s o0 a1 = some (r', s')) : Cm l y_X_cellOf b_X_cellOf 2 (some .int) 0 0 [.ref o0, .int a1] s s' (some (.int r')) := by
  refine Cm.of (own := "PassedOnAndBetter") (by decide) rfl (fun ad => Nat.le_of_ble_eq_true rfl) ?_
  intro z hz hq
  show G l z b_X_cellOf 2 0 [(0, .ref o0), (1, .int a1)] [] s
  unfold f_X_cellOf at h
  refine g_aload_n hz 0 d_X_cellOf_0 rfl rfl ?_
  refine g_ifnull hz d_X_cellOf_1 ?_
  refine g_iload_n hz 1 d_X_cellOf_4 rfl rfl ?_
  refine g_if_lt hz (tgt := 20) d_X_cellOf_5 (by decide) (fun c1 => ?_) (fun c1 => ?_)
  · replace h := (if_pos c1).symm.trans h
    refine g_iconst hz d_X_cellOf_20 ki_0 ?_
    exact g_iret hz (rti h hq) d_X_cellOf_21
  · replace h := (if_neg c1).symm.trans h
    refine g_iload_n hz 1 d_X_cellOf_8 rfl rfl ?_
    refine g_aload_n hz 0 d_X_cellOf_9 rfl rfl ?_
    refine g_alen hz (v := Int32.ofNat (aL o0)) ho0 rfl d_X_cellOf_10 ?_
    refine g_icmp_ge hz (tgt := 20) d_X_cellOf_11 (by decide) (fun c2 => ?_) (fun c2 => ?_)
    · replace h := (if_pos c2).symm.trans h
      refine g_iconst hz d_X_cellOf_20 ki_0 ?_
      exact g_iret hz (rti h hq) d_X_cellOf_21
    · replace h := (if_neg c2).symm.trans h
      refine g_aload_n hz 0 d_X_cellOf_14 rfl rfl ?_
      refine g_iload_n hz 1 d_X_cellOf_15 rfl rfl ?_
      obtain ⟨n3, h⟩ := gd_use h
      refine g_iald hz ho0 n3 d_X_cellOf_16 ?_
      refine g_goto hz (tgt := 21) d_X_cellOf_17 (by decide) ?_
      exact g_iret hz (rti h hq) d_X_cellOf_21
def f_X_refuse (s : Mm) (a1 : Int32) : Option (Int32 × Mm) :=
  bn (f_X_cellOf s 166 (-a1)) fun x3 s2 =>
  bv (f_X_setCell s2 166 (-a1) (x3 + 1)) fun s5 =>
  some (a1, s5)
set_option maxRecDepth 20000 in
theorem c_X_refuse (l : Launch) {s : Mm} {a1 : Int32} {r' : Int32} {s' : Mm}  (h : f_X_refuse s a1 = some (r', s')) : Cm l y_X_refuse b_X_refuse 2 (some .int) 1 22 [.ref 165, .int a1] s s' (some (.int r')) := by
  refine Cm.of (own := "PassedOnAndBetter") (by decide) rfl (fun ad => Nat.le_of_ble_eq_true rfl) ?_
  intro z hz hq
  show G l z b_X_refuse 2 0 [(0, .ref 165), (1, .int a1)] [] s
  unfold f_X_refuse at h
  refine g_aload_n hz 0 d_X_refuse_0 rfl rfl ?_
  refine gf_X_refusals hz q_312 d_X_refuse_1 ?_
  refine g_iload_n hz 1 d_X_refuse_4 rfl rfl ?_
  refine g_ineg hz d_X_refuse_5 ?_
  refine g_aload_n hz 0 d_X_refuse_6 rfl rfl ?_
  refine gf_X_refusals hz q_312 d_X_refuse_7 ?_
  refine g_iload_n hz 1 d_X_refuse_10 rfl rfl ?_
  refine g_ineg hz d_X_refuse_11 ?_
  refine bn_use h (fun x3 s2 e1 h => ?_)
  refine g_callSi hz (c_X_cellOf l (by decide) e1) m_X_cellOf mi_X_cellOf q_353 ⟨Nat.le_of_ble_eq_true rfl, Nat.le_of_ble_eq_true rfl⟩ rfl (st := [.int (-a1), .ref 166]) rfl (Nat.le_of_ble_eq_true rfl) d_X_refuse_12 ?_
  refine g_iconst hz d_X_refuse_15 ki_1 ?_
  refine g_iadd hz d_X_refuse_16 ?_
  refine bv_use h (fun s5 e4 h => ?_)
  refine g_callSv hz (c_X_setCell l (by decide) e4) m_X_setCell mi_X_setCell q_356 ⟨Nat.le_of_ble_eq_true rfl, Nat.le_of_ble_eq_true rfl⟩ rfl (st := []) rfl (Nat.le_of_ble_eq_true rfl) d_X_refuse_17 ?_
  refine g_iload_n hz 1 d_X_refuse_20 rfl rfl ?_
  exact g_iret hz (rti h hq) d_X_refuse_21
def k_X_feed_26 (v1 : Int32) (v2 : Int32) (s : Mm) : Option (Int32 × Mm) :=
  if v2 = 0 then
    bn (f_L_put s v1) fun x11 s10 =>
    some (x11, s10)
  else
    bn (f_X_refuse s v2) fun x8 s7 =>
    some (x8, s7)
set_option maxRecDepth 20000 in
theorem w_X_feed_26 {l : Launch} {z : Zt} (hz : ZOk z b_X_feed 3 "PassedOnAndBetter" 2 43) {r' : Int32} {s' : Mm} (hq : ZR z (some .int) s' (some (.int r'))) (v1 : Int32) (v2 : Int32) (s : Mm) (h : k_X_feed_26 v1 v2 s = some (r', s')) : G l z b_X_feed 3 26 [(0, .ref 165), (1, .int v1), (2, .int v2)] [] s := by
  unfold k_X_feed_26 at h
  refine g_iload_n hz 2 d_X_feed_26 rfl rfl ?_
  refine g_if_ne hz (tgt := 41) d_X_feed_27 (by decide) (fun c5 => ?_) (fun c5 => ?_)
  · replace h := (if_neg c5).symm.trans h
    refine g_aload_n hz 0 d_X_feed_41 rfl rfl ?_
    refine g_iload_n hz 2 d_X_feed_42 rfl rfl ?_
    refine bn_use h (fun x8 s7 e6 h => ?_)
    refine g_callVi hz (c_X_refuse l e6) (by decide) rc_X rfl rfl m_X_refuse mi_X_refuse ms_X_refuse q_349 ⟨Nat.le_of_ble_eq_true rfl, Nat.le_of_ble_eq_true rfl⟩ rfl (st := []) rfl (Nat.le_of_ble_eq_true rfl) d_X_feed_43 ?_
    exact g_iret hz (rti h hq) d_X_feed_46
  · replace h := (if_pos c5).symm.trans h
    refine g_aload_n hz 0 d_X_feed_30 rfl rfl ?_
    refine gf_X_letters hz q_309 d_X_feed_31 ?_
    refine g_iload_n hz 1 d_X_feed_34 rfl rfl ?_
    refine bn_use h (fun x11 s10 e9 h => ?_)
    refine g_callVi hz (c_L_put l e9) (by decide) rc_L rfl rfl m_L_put mi_L_put ms_L_put q_342 ⟨Nat.le_of_ble_eq_true rfl, Nat.le_of_ble_eq_true rfl⟩ rfl (st := []) rfl (Nat.le_of_ble_eq_true rfl) d_X_feed_35 ?_
    refine g_goto hz (tgt := 46) d_X_feed_38 (by decide) ?_
    exact g_iret hz (rti h hq) d_X_feed_46
def f_X_feed (s : Mm) (a1 : Int32) : Option (Int32 × Mm) :=
  bn (f_X_between s a1 0 255) fun x3 s2 =>
  if x3 = 0 then
    bn (f_L_isFull s2) fun x14 s13 =>
    if x14 = 0 then
      k_X_feed_26 a1 x3 s13
    else
      k_X_feed_26 a1 (-6) s13
  else
    k_X_feed_26 a1 x3 s2
set_option maxRecDepth 20000 in
theorem c_X_feed (l : Launch) {s : Mm} {a1 : Int32} {r' : Int32} {s' : Mm}  (h : f_X_feed s a1 = some (r', s')) : Cm l y_X_feed b_X_feed 3 (some .int) 2 43 [.ref 165, .int a1] s s' (some (.int r')) := by
  refine Cm.of (own := "PassedOnAndBetter") (by decide) rfl (fun ad => Nat.le_of_ble_eq_true rfl) ?_
  intro z hz hq
  show G l z b_X_feed 3 0 [(0, .ref 165), (1, .int a1)] [] s
  unfold f_X_feed at h
  refine g_iload_n hz 1 d_X_feed_0 rfl rfl ?_
  refine g_iconst hz d_X_feed_1 ki_0 ?_
  refine g_sipush hz (v := 255) d_X_feed_2 (by decide) ?_
  refine bn_use h (fun x3 s2 e1 h => ?_)
  refine g_callSi hz (c_X_between l e1) m_X_between mi_X_between q_335 ⟨Nat.le_of_ble_eq_true rfl, Nat.le_of_ble_eq_true rfl⟩ rfl (st := []) rfl (Nat.le_of_ble_eq_true rfl) d_X_feed_5 ?_
  refine g_istore_n hz (L' := [(2, .int x3), (0, .ref 165), (1, .int a1)]) d_X_feed_8 rfl (by decide) rfl ?_
  refine g_iload_n hz 0 d_X_feed_9 rfl rfl ?_
  refine g_if_ne hz (tgt := 26) d_X_feed_10 (by decide) (fun c4 => ?_) (fun c4 => ?_)
  · replace h := (if_neg c4).symm.trans h
    refine g_sub [1, 2, 0] rfl ?_
    exact w_X_feed_26 hz hq a1 x3 _ h
  · replace h := (if_pos c4).symm.trans h
    refine g_aload_n hz 1 d_X_feed_13 rfl rfl ?_
    refine gf_X_letters hz q_309 d_X_feed_14 ?_
    refine bn_use h (fun x14 s13 e12 h => ?_)
    refine g_callVi hz (c_L_isFull l e12) (by decide) rc_L rfl rfl m_L_isFull mi_L_isFull ms_L_isFull q_338 ⟨Nat.le_of_ble_eq_true rfl, Nat.le_of_ble_eq_true rfl⟩ rfl (st := []) rfl (Nat.le_of_ble_eq_true rfl) d_X_feed_17 ?_
    refine g_if_eq hz (tgt := 26) d_X_feed_20 (by decide) (fun c15 => ?_) (fun c15 => ?_)
    · replace h := (if_pos c15).symm.trans h
      refine g_sub [1, 2, 0] rfl ?_
      exact w_X_feed_26 hz hq a1 x3 _ h
    · replace h := (if_neg c15).symm.trans h
      refine g_bipush hz (v := (-6)) d_X_feed_23 (by decide) ?_
      refine g_istore_n hz (L' := [(2, .int (-6)), (0, .ref 165), (1, .int a1)]) d_X_feed_25 rfl (by decide) rfl ?_
      refine g_sub [1, 2, 0] rfl ?_
      exact w_X_feed_26 hz hq a1 (-6) _ h
def f_C_friendAt (s : Mm) (o : Nat) (a1 : Int32) : Option (Nat × Mm) :=
  if a1 < 0 then
    some (39 + 7 * o, s)
  else
    if a1 < 6 then
      gd a1 6 <|
      some (33 + 7 * o + a1.toNatClampNeg, s)
    else
      some (39 + 7 * o, s)
set_option maxRecDepth 20000 in
theorem c_C_friendAt (l : Launch) {s : Mm} {o : Nat} {a1 : Int32} {r' : Nat} {s' : Mm} (ho : iC o) (h : f_C_friendAt s o a1 = some (r', s')) : Cm l y_C_friendAt b_C_friendAt 3 (some (.object "PassedOnAndBetter$Friend")) 0 0 [.ref o, .int a1] s s' (some (.ref r')) := by
  refine Cm.of (own := "PassedOnAndBetter$Company") (by decide) rfl (fun ad => Nat.le_of_ble_eq_true rfl) ?_
  intro z hz hq
  show G l z b_C_friendAt 3 0 [(0, .ref o), (1, .int a1)] [] s
  unfold f_C_friendAt at h
  refine g_iload_n hz 1 d_C_friendAt_0 rfl rfl ?_
  refine g_if_lt hz (tgt := 13) d_C_friendAt_1 (by decide) (fun c1 => ?_) (fun c1 => ?_)
  · replace h := (if_pos c1).symm.trans h
    refine g_aload_n hz 0 d_C_friendAt_13 rfl rfl ?_
    refine gf_C_noFriend hz ho q_205 d_C_friendAt_14 ?_
    exact g_aret hz (rtr h hq) d_C_friendAt_17
  · replace h := (if_neg c1).symm.trans h
    refine g_iload_n hz 1 d_C_friendAt_4 rfl rfl ?_
    refine g_aload_n hz 0 d_C_friendAt_5 rfl rfl ?_
    refine gf_C_friendRow hz ho q_203 d_C_friendAt_6 ?_
    refine g_alenF hz ho d_C_friendAt_9 ?_
    refine g_icmp_lt hz (tgt := 18) d_C_friendAt_10 (by decide) (fun c2 => ?_) (fun c2 => ?_)
    · replace h := (if_pos c2).symm.trans h
      refine g_aload_n hz 0 d_C_friendAt_18 rfl rfl ?_
      refine gf_C_friendRow hz ho q_203 d_C_friendAt_19 ?_
      refine g_iload_n hz 1 d_C_friendAt_22 rfl rfl ?_
      obtain ⟨n3, h⟩ := gd_use h
      refine g_aaldF hz ho n3 d_C_friendAt_23 ?_
      refine g_astore_n hz (L' := [(2, .ref (33 + 7 * o + a1.toNatClampNeg)), (0, .ref o), (1, .int a1)]) d_C_friendAt_24 rfl (by decide) rfl ?_
      refine g_aload_n hz 0 d_C_friendAt_25 rfl rfl ?_
      refine g_ifnonnull hz (tgt := 36) d_C_friendAt_26 (by decide) ?_
      refine g_aload_n hz 0 d_C_friendAt_36 rfl rfl ?_
      exact g_aret hz (rtr h hq) d_C_friendAt_37
    · replace h := (if_neg c2).symm.trans h
      refine g_aload_n hz 0 d_C_friendAt_13 rfl rfl ?_
      refine gf_C_noFriend hz ho q_205 d_C_friendAt_14 ?_
      exact g_aret hz (rtr h hq) d_C_friendAt_17
theorem rr_C_friendAt {s s' : Mm} {o : Nat} {a1 : Int32} {r' : Nat} (ho : iC o) (h : f_C_friendAt s o a1 = some (r', s')) : iF r' := by
  unfold f_C_friendAt at h
  split at h
  · cases h; exact rg_nF ho
  · split at h
    · obtain ⟨hi, h⟩ := gd_use h
      cases h
      exact rg_F ho hi
    · cases h; exact rg_nF ho
def f_F_copyFrom (s : Mm) (o : Nat) (o1 : Nat) : Option Mm :=
  nm (mU s o 0 (s o1 0)) fun s1 =>
  nm (mU s1 o 1 (s1 o1 1)) fun s3 =>
  nm (mU s3 o 2 (s3 o1 2)) fun s5 =>
  nm (mU s5 o 3 (s5 o1 3)) fun s7 =>
  nm (mU s7 o 4 (s7 o1 4)) fun s9 =>
  nm (mU s9 o 5 (s9 o1 5)) fun s11 =>
  nm (mU s11 o 6 (s11 o1 6)) fun s13 =>
  nm (mU s13 o 7 1) fun s15 =>
  nm (mU s15 o 8 0) fun s17 =>
  some s17
set_option maxRecDepth 20000 in
theorem c_F_copyFrom (l : Launch) {s : Mm} {o : Nat} {o1 : Nat} {s' : Mm} (ho : iF o) (ho1 : iF o1) (h : f_F_copyFrom s o o1 = some s') : Cm l y_F_copyFrom b_F_copyFrom 2 none 0 0 [.ref o, .ref o1] s s' none := by
  refine Cm.of (own := "PassedOnAndBetter$Friend") (by decide) rfl (fun ad => Nat.le_of_ble_eq_true rfl) ?_
  intro z hz hq
  show G l z b_F_copyFrom 2 0 [(0, .ref o), (1, .ref o1)] [] s
  unfold f_F_copyFrom at h
  refine g_aload_n hz 1 d_F_copyFrom_0 rfl rfl ?_
  refine g_ifnonnull hz (tgt := 5) d_F_copyFrom_1 (by decide) ?_
  refine g_aload_n hz 0 d_F_copyFrom_5 rfl rfl ?_
  refine g_aload_n hz 1 d_F_copyFrom_6 rfl rfl ?_
  refine gf_F_kind hz ho1 q_118 d_F_copyFrom_7 ?_
  refine pf_F_kind hz ho q_118 d_F_copyFrom_10 (fun s1 e2 => ?_)
  replace h := nm_use h e2
  refine g_aload_n hz 0 d_F_copyFrom_13 rfl rfl ?_
  refine g_aload_n hz 1 d_F_copyFrom_14 rfl rfl ?_
  refine gf_F_figure hz ho1 q_120 d_F_copyFrom_15 ?_
  refine pf_F_figure hz ho q_120 d_F_copyFrom_18 (fun s3 e4 => ?_)
  replace h := nm_use h e4
  refine g_aload_n hz 0 d_F_copyFrom_21 rfl rfl ?_
  refine g_aload_n hz 1 d_F_copyFrom_22 rfl rfl ?_
  refine gf_F_door hz ho1 q_122 d_F_copyFrom_23 ?_
  refine pf_F_door hz ho q_122 d_F_copyFrom_26 (fun s5 e6 => ?_)
  replace h := nm_use h e6
  refine g_aload_n hz 0 d_F_copyFrom_29 rfl rfl ?_
  refine g_aload_n hz 1 d_F_copyFrom_30 rfl rfl ?_
  refine gf_F_next hz ho1 q_128 d_F_copyFrom_31 ?_
  refine pf_F_next hz ho q_128 d_F_copyFrom_34 (fun s7 e8 => ?_)
  replace h := nm_use h e8
  refine g_aload_n hz 0 d_F_copyFrom_37 rfl rfl ?_
  refine g_aload_n hz 1 d_F_copyFrom_38 rfl rfl ?_
  refine gf_F_waits hz ho1 q_132 d_F_copyFrom_39 ?_
  refine pf_F_waits hz ho q_132 d_F_copyFrom_42 (fun s9 e10 => ?_)
  replace h := nm_use h e10
  refine g_aload_n hz 0 d_F_copyFrom_45 rfl rfl ?_
  refine g_aload_n hz 1 d_F_copyFrom_46 rfl rfl ?_
  refine gf_F_adds hz ho1 q_136 d_F_copyFrom_47 ?_
  refine pf_F_adds hz ho q_136 d_F_copyFrom_50 (fun s11 e12 => ?_)
  replace h := nm_use h e12
  refine g_aload_n hz 0 d_F_copyFrom_53 rfl rfl ?_
  refine g_aload_n hz 1 d_F_copyFrom_54 rfl rfl ?_
  refine gf_F_swells hz ho1 q_138 d_F_copyFrom_55 ?_
  refine pf_F_swells hz ho q_138 d_F_copyFrom_58 (fun s13 e14 => ?_)
  replace h := nm_use h e14
  refine g_aload_n hz 0 d_F_copyFrom_61 rfl rfl ?_
  refine g_iconst hz d_F_copyFrom_62 ki_1 ?_
  refine pf_F_times hz ho q_140 d_F_copyFrom_63 (fun s15 e16 => ?_)
  replace h := nm_use h e16
  refine g_aload_n hz 0 d_F_copyFrom_66 rfl rfl ?_
  refine g_iconst hz d_F_copyFrom_67 ki_0 ?_
  refine pf_F_brought hz ho q_143 d_F_copyFrom_68 (fun s17 e18 => ?_)
  replace h := nm_use h e18
  exact g_vret hz (rtv h hq) d_F_copyFrom_71
def f_C_giftAt (s : Mm) (o : Nat) (a1 : Int32) : Option (Nat × Mm) :=
  if a1 < 0 then
    some (114 + 5 * o, s)
  else
    if a1 < 4 then
      gd a1 4 <|
      some (110 + 5 * o + a1.toNatClampNeg, s)
    else
      some (114 + 5 * o, s)
set_option maxRecDepth 20000 in
theorem c_C_giftAt (l : Launch) {s : Mm} {o : Nat} {a1 : Int32} {r' : Nat} {s' : Mm} (ho : iC o) (h : f_C_giftAt s o a1 = some (r', s')) : Cm l y_C_giftAt b_C_giftAt 3 (some (.object "PassedOnAndBetter$Gift")) 0 0 [.ref o, .int a1] s s' (some (.ref r')) := by
  refine Cm.of (own := "PassedOnAndBetter$Company") (by decide) rfl (fun ad => Nat.le_of_ble_eq_true rfl) ?_
  intro z hz hq
  show G l z b_C_giftAt 3 0 [(0, .ref o), (1, .int a1)] [] s
  unfold f_C_giftAt at h
  refine g_iload_n hz 1 d_C_giftAt_0 rfl rfl ?_
  refine g_if_lt hz (tgt := 13) d_C_giftAt_1 (by decide) (fun c1 => ?_) (fun c1 => ?_)
  · replace h := (if_pos c1).symm.trans h
    refine g_aload_n hz 0 d_C_giftAt_13 rfl rfl ?_
    refine gf_C_noGift hz ho q_206 d_C_giftAt_14 ?_
    exact g_aret hz (rtr h hq) d_C_giftAt_17
  · replace h := (if_neg c1).symm.trans h
    refine g_iload_n hz 1 d_C_giftAt_4 rfl rfl ?_
    refine g_aload_n hz 0 d_C_giftAt_5 rfl rfl ?_
    refine gf_C_giftRow hz ho q_204 d_C_giftAt_6 ?_
    refine g_alenG hz ho d_C_giftAt_9 ?_
    refine g_icmp_lt hz (tgt := 18) d_C_giftAt_10 (by decide) (fun c2 => ?_) (fun c2 => ?_)
    · replace h := (if_pos c2).symm.trans h
      refine g_aload_n hz 0 d_C_giftAt_18 rfl rfl ?_
      refine gf_C_giftRow hz ho q_204 d_C_giftAt_19 ?_
      refine g_iload_n hz 1 d_C_giftAt_22 rfl rfl ?_
      obtain ⟨n3, h⟩ := gd_use h
      refine g_aaldG hz ho n3 d_C_giftAt_23 ?_
      refine g_astore_n hz (L' := [(2, .ref (110 + 5 * o + a1.toNatClampNeg)), (0, .ref o), (1, .int a1)]) d_C_giftAt_24 rfl (by decide) rfl ?_
      refine g_aload_n hz 0 d_C_giftAt_25 rfl rfl ?_
      refine g_ifnonnull hz (tgt := 36) d_C_giftAt_26 (by decide) ?_
      refine g_aload_n hz 0 d_C_giftAt_36 rfl rfl ?_
      exact g_aret hz (rtr h hq) d_C_giftAt_37
    · replace h := (if_neg c2).symm.trans h
      refine g_aload_n hz 0 d_C_giftAt_13 rfl rfl ?_
      refine gf_C_noGift hz ho q_206 d_C_giftAt_14 ?_
      exact g_aret hz (rtr h hq) d_C_giftAt_17
theorem rr_C_giftAt {s s' : Mm} {o : Nat} {a1 : Int32} {r' : Nat} (ho : iC o) (h : f_C_giftAt s o a1 = some (r', s')) : iG r' := by
  unfold f_C_giftAt at h
  split at h
  · cases h; exact rg_nG ho
  · split at h
    · obtain ⟨hi, h⟩ := gd_use h
      cases h
      exact rg_G ho hi
    · cases h; exact rg_nG ho
def f_G_copyFrom (s : Mm) (o : Nat) (o1 : Nat) : Option Mm :=
  nm (mU s o 0 (s o1 0)) fun s1 =>
  nm (mU s1 o 1 (s1 o1 1)) fun s3 =>
  nm (mU s3 o 2 (s3 o1 2)) fun s5 =>
  nm (mU s5 o 3 (s5 o1 3)) fun s7 =>
  gb (s7 o1 4) <|
  nm (mU s7 o 4 (s7 o1 4)) fun s10 =>
  nm (mU s10 o 5 (s10 o1 5)) fun s12 =>
  some s12
set_option maxRecDepth 20000 in
theorem c_G_copyFrom (l : Launch) {s : Mm} {o : Nat} {o1 : Nat} {s' : Mm} (ho : iG o) (ho1 : iG o1) (h : f_G_copyFrom s o o1 = some s') : Cm l y_G_copyFrom b_G_copyFrom 2 none 0 0 [.ref o, .ref o1] s s' none := by
  refine Cm.of (own := "PassedOnAndBetter$Gift") (by decide) rfl (fun ad => Nat.le_of_ble_eq_true rfl) ?_
  intro z hz hq
  show G l z b_G_copyFrom 2 0 [(0, .ref o), (1, .ref o1)] [] s
  unfold f_G_copyFrom at h
  refine g_aload_n hz 1 d_G_copyFrom_0 rfl rfl ?_
  refine g_ifnonnull hz (tgt := 5) d_G_copyFrom_1 (by decide) ?_
  refine g_aload_n hz 0 d_G_copyFrom_5 rfl rfl ?_
  refine g_aload_n hz 1 d_G_copyFrom_6 rfl rfl ?_
  refine gf_G_worth hz ho1 q_174 d_G_copyFrom_7 ?_
  refine pf_G_worth hz ho q_174 d_G_copyFrom_10 (fun s1 e2 => ?_)
  replace h := nm_use h e2
  refine g_aload_n hz 0 d_G_copyFrom_13 rfl rfl ?_
  refine g_aload_n hz 1 d_G_copyFrom_14 rfl rfl ?_
  refine gf_G_size hz ho1 q_177 d_G_copyFrom_15 ?_
  refine pf_G_size hz ho q_177 d_G_copyFrom_18 (fun s3 e4 => ?_)
  replace h := nm_use h e4
  refine g_aload_n hz 0 d_G_copyFrom_21 rfl rfl ?_
  refine g_aload_n hz 1 d_G_copyFrom_22 rfl rfl ?_
  refine gf_G_with hz ho1 q_180 d_G_copyFrom_23 ?_
  refine pf_G_with hz ho q_180 d_G_copyFrom_26 (fun s5 e6 => ?_)
  replace h := nm_use h e6
  refine g_aload_n hz 0 d_G_copyFrom_29 rfl rfl ?_
  refine g_aload_n hz 1 d_G_copyFrom_30 rfl rfl ?_
  refine gf_G_kept hz ho1 q_184 d_G_copyFrom_31 ?_
  refine pf_G_kept hz ho q_184 d_G_copyFrom_34 (fun s7 e8 => ?_)
  replace h := nm_use h e8
  refine g_aload_n hz 0 d_G_copyFrom_37 rfl rfl ?_
  refine g_aload_n hz 1 d_G_copyFrom_38 rfl rfl ?_
  refine gf_G_bettered hz ho1 q_186 d_G_copyFrom_39 ?_
  obtain ⟨n9, h⟩ := gb_use h
  refine pf_G_bettered hz ho n9 q_186 d_G_copyFrom_42 (fun s10 e11 => ?_)
  replace h := nm_use h e11
  refine g_aload_n hz 0 d_G_copyFrom_45 rfl rfl ?_
  refine g_aload_n hz 1 d_G_copyFrom_46 rfl rfl ?_
  refine gf_G_passed hz ho1 q_187 d_G_copyFrom_47 ?_
  refine pf_G_passed hz ho q_187 d_G_copyFrom_50 (fun s12 e13 => ?_)
  replace h := nm_use h e13
  exact g_vret hz (rtv h hq) d_G_copyFrom_53
def k_C_copyFrom_60 : Nat → Nat → Nat → Int32 → Mm → Option Mm
  | 0, _, _, _, _ => none
  | n + 1, o, o1, v2, s => if (s o 5) ≤ v2 then
      some s
    else
      bn (f_C_giftAt s o v2) fun x11 s10 =>
      bn (f_C_giftAt s10 o1 v2) fun x14 s13 =>
      bv (f_G_copyFrom s13 x11 x14) fun s16 =>
      k_C_copyFrom_60 n o o1 (v2 + 1) s16
set_option maxRecDepth 20000 in
theorem w_C_copyFrom_60 {l : Launch} {z : Zt} (hz : ZOk z b_C_copyFrom 3 "PassedOnAndBetter$Company" 1 22) {s' : Mm} (hq : ZR z none s' none) : ∀ (n : Nat) (o : Nat) (o1 : Nat) (v2 : Int32) (ho : iC o) (ho1 : iC o1) (s : Mm), k_C_copyFrom_60 n o o1 v2 s = some s' → G l z b_C_copyFrom 3 60 [(0, .ref o), (1, .ref o1), (2, .int v2)] [] s := by
  intro n
  induction n with
  | zero => intro o o1 v2 ho ho1 s h; unfold k_C_copyFrom_60 at h; cases h
  | succ n ih =>
    intro o o1 v2 ho ho1 s h
    unfold k_C_copyFrom_60 at h
    refine g_iload_n hz 2 d_C_copyFrom_60 rfl rfl ?_
    refine g_aload_n hz 0 d_C_copyFrom_61 rfl rfl ?_
    refine gf_C_gifts hz ho q_210 d_C_copyFrom_62 ?_
    refine g_icmp_ge hz (tgt := 87) d_C_copyFrom_65 (by decide) (fun c8 => ?_) (fun c8 => ?_)
    · replace h := (if_pos c8).symm.trans h
      exact g_vret hz (rtv h hq) d_C_copyFrom_87
    · replace h := (if_neg c8).symm.trans h
      refine g_aload_n hz 0 d_C_copyFrom_68 rfl rfl ?_
      refine g_iload_n hz 2 d_C_copyFrom_69 rfl rfl ?_
      refine bn_use h (fun x11 s10 e9 h => ?_)
      have hx11 := rr_C_giftAt ho e9
      refine g_callVr hz (c_C_giftAt l ho e9) (iC_lt ho) (rc_C ho) rfl rfl m_C_giftAt mi_C_giftAt ms_C_giftAt q_377 ⟨Nat.le_of_ble_eq_true rfl, Nat.le_of_ble_eq_true rfl⟩ rfl (st := []) rfl (Nat.le_of_ble_eq_true rfl) d_C_copyFrom_70 ?_
      refine g_aload_n hz 1 d_C_copyFrom_73 rfl rfl ?_
      refine g_iload_n hz 2 d_C_copyFrom_74 rfl rfl ?_
      refine bn_use h (fun x14 s13 e12 h => ?_)
      have hx14 := rr_C_giftAt ho1 e12
      refine g_callVr hz (c_C_giftAt l ho1 e12) (iC_lt ho1) (rc_C ho1) rfl rfl m_C_giftAt mi_C_giftAt ms_C_giftAt q_377 ⟨Nat.le_of_ble_eq_true rfl, Nat.le_of_ble_eq_true rfl⟩ rfl (st := [.ref x11]) rfl (Nat.le_of_ble_eq_true rfl) d_C_copyFrom_75 ?_
      refine bv_use h (fun s16 e15 h => ?_)
      refine g_callVv hz (c_G_copyFrom l hx11 hx14 e15) (iG_lt hx11) (rc_G hx11) rfl rfl m_G_copyFrom mi_G_copyFrom ms_G_copyFrom q_381 ⟨Nat.le_of_ble_eq_true rfl, Nat.le_of_ble_eq_true rfl⟩ rfl (st := []) rfl (Nat.le_of_ble_eq_true rfl) d_C_copyFrom_78 ?_
      refine g_iinc hz (v := v2 + 1) (L' := [(2, .int (v2 + 1)), (0, .ref o), (1, .ref o1)]) 2 d_C_copyFrom_81 rfl (congrArg (fun q => v2 + q) ki_1) (by decide) rfl ?_
      refine g_goto hz (tgt := 60) d_C_copyFrom_84 (by decide) ?_
      refine g_sub [1, 2, 0] rfl ?_
      exact ih o o1 (v2 + 1) ho ho1 _ h
def k_C_copyFrom_31 : Nat → Nat → Nat → Int32 → Mm → Option Mm
  | 0, _, _, _, _ => none
  | n + 1, o, o1, v2, s => if (s o 4) ≤ v2 then
      k_C_copyFrom_60 KF o o1 0 s
    else
      bn (f_C_friendAt s o v2) fun x19 s18 =>
      bn (f_C_friendAt s18 o1 v2) fun x22 s21 =>
      bv (f_F_copyFrom s21 x19 x22) fun s24 =>
      k_C_copyFrom_31 n o o1 (v2 + 1) s24
set_option maxRecDepth 20000 in
theorem w_C_copyFrom_31 {l : Launch} {z : Zt} (hz : ZOk z b_C_copyFrom 3 "PassedOnAndBetter$Company" 1 22) {s' : Mm} (hq : ZR z none s' none) : ∀ (n : Nat) (o : Nat) (o1 : Nat) (v2 : Int32) (ho : iC o) (ho1 : iC o1) (s : Mm), k_C_copyFrom_31 n o o1 v2 s = some s' → G l z b_C_copyFrom 3 31 [(0, .ref o), (1, .ref o1), (2, .int v2)] [] s := by
  intro n
  induction n with
  | zero => intro o o1 v2 ho ho1 s h; unfold k_C_copyFrom_31 at h; cases h
  | succ n ih =>
    intro o o1 v2 ho ho1 s h
    unfold k_C_copyFrom_31 at h
    refine g_iload_n hz 2 d_C_copyFrom_31 rfl rfl ?_
    refine g_aload_n hz 0 d_C_copyFrom_32 rfl rfl ?_
    refine gf_C_friends hz ho q_207 d_C_copyFrom_33 ?_
    refine g_icmp_ge hz (tgt := 58) d_C_copyFrom_36 (by decide) (fun c7 => ?_) (fun c7 => ?_)
    · replace h := (if_pos c7).symm.trans h
      refine g_iconst hz d_C_copyFrom_58 ki_0 ?_
      refine g_istore_n hz (L' := [(2, .int 0), (0, .ref o), (1, .ref o1)]) d_C_copyFrom_59 rfl (by decide) rfl ?_
      refine g_sub [1, 2, 0] rfl ?_
      exact w_C_copyFrom_60 hz hq KF o o1 0 ho ho1 _ h
    · replace h := (if_neg c7).symm.trans h
      refine g_aload_n hz 0 d_C_copyFrom_39 rfl rfl ?_
      refine g_iload_n hz 2 d_C_copyFrom_40 rfl rfl ?_
      refine bn_use h (fun x19 s18 e17 h => ?_)
      have hx19 := rr_C_friendAt ho e17
      refine g_callVr hz (c_C_friendAt l ho e17) (iC_lt ho) (rc_C ho) rfl rfl m_C_friendAt mi_C_friendAt ms_C_friendAt q_369 ⟨Nat.le_of_ble_eq_true rfl, Nat.le_of_ble_eq_true rfl⟩ rfl (st := []) rfl (Nat.le_of_ble_eq_true rfl) d_C_copyFrom_41 ?_
      refine g_aload_n hz 1 d_C_copyFrom_44 rfl rfl ?_
      refine g_iload_n hz 2 d_C_copyFrom_45 rfl rfl ?_
      refine bn_use h (fun x22 s21 e20 h => ?_)
      have hx22 := rr_C_friendAt ho1 e20
      refine g_callVr hz (c_C_friendAt l ho1 e20) (iC_lt ho1) (rc_C ho1) rfl rfl m_C_friendAt mi_C_friendAt ms_C_friendAt q_369 ⟨Nat.le_of_ble_eq_true rfl, Nat.le_of_ble_eq_true rfl⟩ rfl (st := [.ref x19]) rfl (Nat.le_of_ble_eq_true rfl) d_C_copyFrom_46 ?_
      refine bv_use h (fun s24 e23 h => ?_)
      refine g_callVv hz (c_F_copyFrom l hx19 hx22 e23) (iF_lt hx19) (rc_F hx19) rfl rfl m_F_copyFrom mi_F_copyFrom ms_F_copyFrom q_373 ⟨Nat.le_of_ble_eq_true rfl, Nat.le_of_ble_eq_true rfl⟩ rfl (st := []) rfl (Nat.le_of_ble_eq_true rfl) d_C_copyFrom_49 ?_
      refine g_iinc hz (v := v2 + 1) (L' := [(2, .int (v2 + 1)), (0, .ref o), (1, .ref o1)]) 2 d_C_copyFrom_52 rfl (congrArg (fun q => v2 + q) ki_1) (by decide) rfl ?_
      refine g_goto hz (tgt := 31) d_C_copyFrom_55 (by decide) ?_
      refine g_sub [1, 2, 0] rfl ?_
      exact ih o o1 (v2 + 1) ho ho1 _ h
def f_C_copyFrom (s : Mm) (o : Nat) (o1 : Nat) : Option Mm :=
  nm (mU s o 4 (s o1 4)) fun s1 =>
  nm (mU s1 o 5 (s1 o1 5)) fun s3 =>
  nm (mU s3 o 6 (s3 o1 6)) fun s5 =>
  k_C_copyFrom_31 KF o o1 0 s5
set_option maxRecDepth 20000 in
theorem c_C_copyFrom (l : Launch) {s : Mm} {o : Nat} {o1 : Nat} {s' : Mm} (ho : iC o) (ho1 : iC o1) (h : f_C_copyFrom s o o1 = some s') : Cm l y_C_copyFrom b_C_copyFrom 3 none 1 22 [.ref o, .ref o1] s s' none := by
  refine Cm.of (own := "PassedOnAndBetter$Company") (by decide) rfl (fun ad => Nat.le_of_ble_eq_true rfl) ?_
  intro z hz hq
  show G l z b_C_copyFrom 3 0 [(0, .ref o), (1, .ref o1)] [] s
  unfold f_C_copyFrom at h
  refine g_aload_n hz 1 d_C_copyFrom_0 rfl rfl ?_
  refine g_ifnonnull hz (tgt := 5) d_C_copyFrom_1 (by decide) ?_
  refine g_aload_n hz 0 d_C_copyFrom_5 rfl rfl ?_
  refine g_aload_n hz 1 d_C_copyFrom_6 rfl rfl ?_
  refine gf_C_friends hz ho1 q_207 d_C_copyFrom_7 ?_
  refine pf_C_friends hz ho q_207 d_C_copyFrom_10 (fun s1 e2 => ?_)
  replace h := nm_use h e2
  refine g_aload_n hz 0 d_C_copyFrom_13 rfl rfl ?_
  refine g_aload_n hz 1 d_C_copyFrom_14 rfl rfl ?_
  refine gf_C_gifts hz ho1 q_210 d_C_copyFrom_15 ?_
  refine pf_C_gifts hz ho q_210 d_C_copyFrom_18 (fun s3 e4 => ?_)
  replace h := nm_use h e4
  refine g_aload_n hz 0 d_C_copyFrom_21 rfl rfl ?_
  refine g_aload_n hz 1 d_C_copyFrom_22 rfl rfl ?_
  refine gf_C_month hz ho1 q_213 d_C_copyFrom_23 ?_
  refine pf_C_month hz ho q_213 d_C_copyFrom_26 (fun s5 e6 => ?_)
  replace h := nm_use h e6
  refine g_iconst hz d_C_copyFrom_29 ki_0 ?_
  refine g_istore_n hz (L' := [(2, .int 0), (0, .ref o), (1, .ref o1)]) d_C_copyFrom_30 rfl (by decide) rfl ?_
  refine g_sub [1, 2, 0] rfl ?_
  exact w_C_copyFrom_31 hz hq KF o o1 0 ho ho1 _ h
def f_M_recall (s : Mm) : Option (Nat × Mm) :=
  bv (f_C_copyFrom s 2 0) fun s2 =>
  some (2, s2)
set_option maxRecDepth 20000 in
theorem c_M_recall (l : Launch) {s : Mm}  {r' : Nat} {s' : Mm}  (h : f_M_recall s = some (r', s')) : Cm l y_M_recall b_M_recall 1 (some (.object "PassedOnAndBetter$Company")) 2 44 [.ref 173] s s' (some (.ref r')) := by
  refine Cm.of (own := "PassedOnAndBetter$Mind") (by decide) rfl (fun ad => Nat.le_of_ble_eq_true rfl) ?_
  intro z hz hq
  show G l z b_M_recall 1 0 [(0, .ref 173)] [] s
  unfold f_M_recall at h
  refine g_aload_n hz 0 d_M_recall_0 rfl rfl ?_
  refine gf_M_thought hz q_292 d_M_recall_1 ?_
  refine g_aload_n hz 0 d_M_recall_4 rfl rfl ?_
  refine gf_M_now hz q_290 d_M_recall_5 ?_
  refine bv_use h (fun s2 e1 h => ?_)
  refine g_callVv hz (c_C_copyFrom l (by decide) (by decide) e1) (iC_lt (by decide)) (rc_C (by decide)) rfl rfl m_C_copyFrom mi_C_copyFrom ms_C_copyFrom q_365 ⟨Nat.le_of_ble_eq_true rfl, Nat.le_of_ble_eq_true rfl⟩ rfl (st := []) rfl (Nat.le_of_ble_eq_true rfl) d_M_recall_8 ?_
  refine g_aload_n hz 0 d_M_recall_11 rfl rfl ?_
  refine gf_M_thought hz q_292 d_M_recall_12 ?_
  exact g_aret hz (rtr h hq) d_M_recall_15
theorem rr_M_recall {s s' : Mm} {r' : Nat} (h : f_M_recall s = some (r', s')) : iC r' := by
  unfold f_M_recall at h
  refine bv_use h (fun s1 e1 h => ?_)
  cases h
  decide
def f_L_letterAt (s : Mm) (a1 : Int32) : Option (Int32 × Mm) :=
  if (s 169 1) ≤ a1 then
    some ((-1), s)
  else
    bn (f_X_cellOf s 170 a1) fun x4 s3 =>
    some (x4, s3)
set_option maxRecDepth 20000 in
theorem c_L_letterAt (l : Launch) {s : Mm} {a1 : Int32} {r' : Int32} {s' : Mm}  (h : f_L_letterAt s a1 = some (r', s')) : Cm l y_L_letterAt b_L_letterAt 2 (some .int) 1 21 [.ref 169, .int a1] s s' (some (.int r')) := by
  refine Cm.of (own := "PassedOnAndBetter$Letters") (by decide) rfl (fun ad => Nat.le_of_ble_eq_true rfl) ?_
  intro z hz hq
  show G l z b_L_letterAt 2 0 [(0, .ref 169), (1, .int a1)] [] s
  unfold f_L_letterAt at h
  refine g_iload_n hz 1 d_L_letterAt_0 rfl rfl ?_
  refine g_aload_n hz 0 d_L_letterAt_1 rfl rfl ?_
  refine gf_L_told hz q_258 d_L_letterAt_2 ?_
  refine g_icmp_ge hz (tgt := 19) d_L_letterAt_5 (by decide) (fun c1 => ?_) (fun c1 => ?_)
  · replace h := (if_pos c1).symm.trans h
    refine g_iconst hz d_L_letterAt_19 ki_m1 ?_
    exact g_iret hz (rti h hq) d_L_letterAt_20
  · replace h := (if_neg c1).symm.trans h
    refine g_aload_n hz 0 d_L_letterAt_8 rfl rfl ?_
    refine gf_L_cells hz q_257 d_L_letterAt_9 ?_
    refine g_iload_n hz 1 d_L_letterAt_12 rfl rfl ?_
    refine bn_use h (fun x4 s3 e2 h => ?_)
    refine g_callSNi hz (c_X_cellOf l (by decide) e2) m_X_cellOf mi_X_cellOf (fun D cy s h => h.2.2.1) ⟨Nat.le_of_ble_eq_true rfl, Nat.le_of_ble_eq_true rfl⟩ rfl (st := []) rfl (Nat.le_of_ble_eq_true rfl) d_L_letterAt_13 ?_
    refine g_goto hz (tgt := 20) d_L_letterAt_16 (by decide) ?_
    exact g_iret hz (rti h hq) d_L_letterAt_20
def f_L_digitsBehind (s : Mm) (a0 : Int32) : Option (Int32 × Mm) :=
  if a0 = 100 then
    some (3, s)
  else if a0 = 102 then
    some (4, s)
  else if a0 = 103 then
    some (5, s)
  else if a0 = 104 then
    some (2, s)
  else if a0 = 109 then
    some (2, s)
  else if a0 = 110 then
    some (2, s)
  else
    some (0, s)
set_option maxRecDepth 20000 in
theorem c_L_digitsBehind (l : Launch) {s : Mm} {a0 : Int32} {r' : Int32} {s' : Mm}  (h : f_L_digitsBehind s a0 = some (r', s')) : Cm l y_L_digitsBehind b_L_digitsBehind 1 (some .int) 0 0 [.int a0] s s' (some (.int r')) := by
  refine Cm.of (own := "PassedOnAndBetter$Letters") (by decide) rfl (fun ad => Nat.le_of_ble_eq_true rfl) ?_
  intro z hz hq
  show G l z b_L_digitsBehind 1 0 [(0, .int a0)] [] s
  unfold f_L_digitsBehind at h
  refine g_iload_n hz 0 d_L_digitsBehind_0 rfl rfl ?_
  by_cases c1 : a0 = 100
  · replace h := (if_pos c1).symm.trans h
    refine g_tin hz (off := 63) (tgt := 64) d_L_digitsBehind_1 c1 (by decide) (by decide) (by decide) (by decide) ?_
    refine g_iconst hz d_L_digitsBehind_64 ki_3 ?_
    exact g_iret hz (rti h hq) d_L_digitsBehind_65
  · replace h := (if_neg c1).symm.trans h
    by_cases c2 : a0 = 102
    · replace h := (if_pos c2).symm.trans h
      refine g_tin hz (off := 59) (tgt := 60) d_L_digitsBehind_1 c2 (by decide) (by decide) (by decide) (by decide) ?_
      refine g_iconst hz d_L_digitsBehind_60 ki_4 ?_
      exact g_iret hz (rti h hq) d_L_digitsBehind_61
    · replace h := (if_neg c2).symm.trans h
      by_cases c3 : a0 = 103
      · replace h := (if_pos c3).symm.trans h
        refine g_tin hz (off := 65) (tgt := 66) d_L_digitsBehind_1 c3 (by decide) (by decide) (by decide) (by decide) ?_
        refine g_iconst hz d_L_digitsBehind_66 ki_5 ?_
        exact g_iret hz (rti h hq) d_L_digitsBehind_67
      · replace h := (if_neg c3).symm.trans h
        by_cases c4 : a0 = 104
        · replace h := (if_pos c4).symm.trans h
          refine g_tin hz (off := 67) (tgt := 68) d_L_digitsBehind_1 c4 (by decide) (by decide) (by decide) (by decide) ?_
          refine g_iconst hz d_L_digitsBehind_68 ki_2 ?_
          exact g_iret hz (rti h hq) d_L_digitsBehind_69
        · replace h := (if_neg c4).symm.trans h
          by_cases c5 : a0 = 109
          · replace h := (if_pos c5).symm.trans h
            refine g_tin hz (off := 69) (tgt := 70) d_L_digitsBehind_1 c5 (by decide) (by decide) (by decide) (by decide) ?_
            refine g_iconst hz d_L_digitsBehind_70 ki_2 ?_
            exact g_iret hz (rti h hq) d_L_digitsBehind_71
          · replace h := (if_neg c5).symm.trans h
            by_cases c6 : a0 = 110
            · replace h := (if_pos c6).symm.trans h
              refine g_tin hz (off := 61) (tgt := 62) d_L_digitsBehind_1 c6 (by decide) (by decide) (by decide) (by decide) ?_
              refine g_iconst hz d_L_digitsBehind_62 ki_2 ?_
              exact g_iret hz (rti h hq) d_L_digitsBehind_63
            · replace h := (if_neg c6).symm.trans h
              refine g_tdf hz (tgt := 72) d_L_digitsBehind_1 (fun i hi hx => ?_) (by decide) ?_
              · match i, hi, hx with
                | 0, _, hx => exact absurd hx (lv_neT c1 (by decide))
                | 1, _, _ => rfl
                | 2, _, hx => exact absurd hx (lv_neT c2 (by decide))
                | 3, _, hx => exact absurd hx (lv_neT c3 (by decide))
                | 4, _, hx => exact absurd hx (lv_neT c4 (by decide))
                | 5, _, _ => rfl
                | 6, _, _ => rfl
                | 7, _, _ => rfl
                | 8, _, _ => rfl
                | 9, _, hx => exact absurd hx (lv_neT c5 (by decide))
                | 10, _, hx => exact absurd hx (lv_neT c6 (by decide))
                | q + 11, hi, _ => exact absurd hi (by omega)
              · refine g_iconst hz d_L_digitsBehind_72 ki_0 ?_
                exact g_iret hz (rti h hq) d_L_digitsBehind_73
def f_L_isDigit (s : Mm) (a1 : Int32) : Option (Int32 × Mm) :=
  bn (f_L_letterAt s a1) fun x3 s2 =>
  if x3 < 48 then
    some (0, s2)
  else
    if 57 < x3 then
      some (0, s2)
    else
      some (1, s2)
set_option maxRecDepth 20000 in
theorem c_L_isDigit (l : Launch) {s : Mm} {a1 : Int32} {r' : Int32} {s' : Mm}  (h : f_L_isDigit s a1 = some (r', s')) : Cm l y_L_isDigit b_L_isDigit 3 (some .boolean) 2 42 [.ref 169, .int a1] s s' (some (.int r')) := by
  refine Cm.of (own := "PassedOnAndBetter$Letters") (by decide) rfl (fun ad => Nat.le_of_ble_eq_true rfl) ?_
  intro z hz hq
  show G l z b_L_isDigit 3 0 [(0, .ref 169), (1, .int a1)] [] s
  unfold f_L_isDigit at h
  refine g_aload_n hz 0 d_L_isDigit_0 rfl rfl ?_
  refine g_iload_n hz 1 d_L_isDigit_1 rfl rfl ?_
  refine bn_use h (fun x3 s2 e1 h => ?_)
  refine g_callVi hz (c_L_letterAt l e1) (by decide) rc_L rfl rfl m_L_letterAt mi_L_letterAt ms_L_letterAt q_393 ⟨Nat.le_of_ble_eq_true rfl, Nat.le_of_ble_eq_true rfl⟩ rfl (st := []) rfl (Nat.le_of_ble_eq_true rfl) d_L_isDigit_2 ?_
  refine g_istore_n hz (L' := [(2, .int x3), (0, .ref 169), (1, .int a1)]) d_L_isDigit_5 rfl (by decide) rfl ?_
  refine g_iload_n hz 0 d_L_isDigit_6 rfl rfl ?_
  refine g_bipush hz (v := 48) d_L_isDigit_7 (by decide) ?_
  refine g_icmp_lt hz (tgt := 22) d_L_isDigit_9 (by decide) (fun c4 => ?_) (fun c4 => ?_)
  · replace h := (if_pos c4).symm.trans h
    refine g_iconst hz d_L_isDigit_22 ki_0 ?_
    exact g_zret hz (rti h hq) (Or.inl rfl) d_L_isDigit_23
  · replace h := (if_neg c4).symm.trans h
    refine g_iload_n hz 0 d_L_isDigit_12 rfl rfl ?_
    refine g_bipush hz (v := 57) d_L_isDigit_13 (by decide) ?_
    refine g_icmp_gt hz (tgt := 22) d_L_isDigit_15 (by decide) (fun c5 => ?_) (fun c5 => ?_)
    · replace h := (if_pos c5).symm.trans h
      refine g_iconst hz d_L_isDigit_22 ki_0 ?_
      exact g_zret hz (rti h hq) (Or.inl rfl) d_L_isDigit_23
    · replace h := (if_neg c5).symm.trans h
      refine g_iconst hz d_L_isDigit_18 ki_1 ?_
      refine g_goto hz (tgt := 23) d_L_isDigit_19 (by decide) ?_
      exact g_zret hz (rti h hq) (Or.inr rfl) d_L_isDigit_23
def k_L_placeOfFormFault_36 (kc11 : (Int32 → Mm → Option (Int32 × Mm))) : Nat → Int32 → Int32 → Int32 → Mm → Option (Int32 × Mm)
  | 0, _, _, _, _ => none
  | n + 1, v1, v2, v3, s => if v2 ≤ v3 then
      bn (f_L_letterAt s (v1 + 1)) fun x13 s12 =>
      if x13 = 59 then
        kc11 ((v1 + 1) + 1) s12
      else
        some (v1 + 1, s12)
    else
      bn (f_L_isDigit s (v1 + 1)) fun x17 s16 =>
      if x17 = 0 then
        some (v1 + 1, s16)
      else
        k_L_placeOfFormFault_36 kc11 n (v1 + 1) v2 (v3 + 1) s16
set_option maxRecDepth 20000 in
theorem w_L_placeOfFormFault_36 {l : Launch} {z : Zt} (hz : ZOk z b_L_placeOfFormFault 4 "PassedOnAndBetter$Letters" 3 64) {r' : Int32} {s' : Mm} (hq : ZR z (some .int) s' (some (.int r'))) {kc11 : (Int32 → Mm → Option (Int32 × Mm))} (hk11 : (∀ (v1 : Int32) (s : Mm), kc11 v1 s = some (r', s') → G l z b_L_placeOfFormFault 4 11 [(0, .ref 169), (1, .int v1)] [] s)) : ∀ (n : Nat) (v1 : Int32) (v2 : Int32) (v3 : Int32) (s : Mm), k_L_placeOfFormFault_36 kc11 n v1 v2 v3 s = some (r', s') → G l z b_L_placeOfFormFault 4 36 [(0, .ref 169), (1, .int v1), (2, .int v2), (3, .int v3)] [] s := by
  intro n
  induction n with
  | zero => intro v1 v2 v3 s h; unfold k_L_placeOfFormFault_36 at h; cases h
  | succ n ih =>
    intro v1 v2 v3 s h
    unfold k_L_placeOfFormFault_36 at h
    refine g_iload_n hz 3 d_L_placeOfFormFault_36 rfl rfl ?_
    refine g_iload_n hz 2 d_L_placeOfFormFault_37 rfl rfl ?_
    refine g_icmp_ge hz (tgt := 60) d_L_placeOfFormFault_38 (by decide) (fun c10 => ?_) (fun c10 => ?_)
    · replace h := (if_pos c10).symm.trans h
      refine g_iinc hz (v := v1 + 1) (L' := [(1, .int (v1 + 1)), (0, .ref 169), (2, .int v2), (3, .int v3)]) 1 d_L_placeOfFormFault_60 rfl (congrArg (fun q => v1 + q) ki_1) (by decide) rfl ?_
      refine g_aload_n hz 1 d_L_placeOfFormFault_63 rfl rfl ?_
      refine g_iload_n hz 0 d_L_placeOfFormFault_64 rfl rfl ?_
      refine bn_use h (fun x13 s12 e11 h => ?_)
      refine g_callVi hz (c_L_letterAt l e11) (by decide) rc_L rfl rfl m_L_letterAt mi_L_letterAt ms_L_letterAt q_393 ⟨Nat.le_of_ble_eq_true rfl, Nat.le_of_ble_eq_true rfl⟩ rfl (st := []) rfl (Nat.le_of_ble_eq_true rfl) d_L_placeOfFormFault_65 ?_
      refine g_bipush hz (v := 59) d_L_placeOfFormFault_68 (by decide) ?_
      refine g_icmp_eq hz (tgt := 75) d_L_placeOfFormFault_70 (by decide) (fun c14 => ?_) (fun c14 => ?_)
      · replace h := (if_pos c14).symm.trans h
        refine g_iinc hz (v := (v1 + 1) + 1) (L' := [(1, .int ((v1 + 1) + 1)), (0, .ref 169), (2, .int v2), (3, .int v3)]) 0 d_L_placeOfFormFault_75 rfl (congrArg (fun q => (v1 + 1) + q) ki_1) (by decide) rfl ?_
        refine g_goto hz (tgt := 11) d_L_placeOfFormFault_78 (by decide) ?_
        refine g_sub [1, 0] rfl ?_
        exact hk11 ((v1 + 1) + 1) _ h
      · replace h := (if_neg c14).symm.trans h
        refine g_iload_n hz 0 d_L_placeOfFormFault_73 rfl rfl ?_
        exact g_iret hz (rti h hq) d_L_placeOfFormFault_74
    · replace h := (if_neg c10).symm.trans h
      refine g_iinc hz (v := v1 + 1) (L' := [(1, .int (v1 + 1)), (0, .ref 169), (2, .int v2), (3, .int v3)]) 1 d_L_placeOfFormFault_41 rfl (congrArg (fun q => v1 + q) ki_1) (by decide) rfl ?_
      refine g_aload_n hz 1 d_L_placeOfFormFault_44 rfl rfl ?_
      refine g_iload_n hz 0 d_L_placeOfFormFault_45 rfl rfl ?_
      refine bn_use h (fun x17 s16 e15 h => ?_)
      refine g_callVi hz (c_L_isDigit l e15) (by decide) rc_L rfl rfl m_L_isDigit mi_L_isDigit ms_L_isDigit q_401 ⟨Nat.le_of_ble_eq_true rfl, Nat.le_of_ble_eq_true rfl⟩ rfl (st := []) rfl (Nat.le_of_ble_eq_true rfl) d_L_placeOfFormFault_46 ?_
      refine g_if_ne hz (tgt := 54) d_L_placeOfFormFault_49 (by decide) (fun c18 => ?_) (fun c18 => ?_)
      · replace h := (if_neg c18).symm.trans h
        refine g_iinc hz (v := v3 + 1) (L' := [(3, .int (v3 + 1)), (1, .int (v1 + 1)), (0, .ref 169), (2, .int v2)]) 3 d_L_placeOfFormFault_54 rfl (congrArg (fun q => v3 + q) ki_1) (by decide) rfl ?_
        refine g_goto hz (tgt := 36) d_L_placeOfFormFault_57 (by decide) ?_
        refine g_sub [2, 1, 3, 0] rfl ?_
        exact ih (v1 + 1) v2 (v3 + 1) _ h
      · replace h := (if_pos c18).symm.trans h
        refine g_iload_n hz 0 d_L_placeOfFormFault_52 rfl rfl ?_
        exact g_iret hz (rti h hq) d_L_placeOfFormFault_53
def k_L_placeOfFormFault_11 : Nat → Int32 → Mm → Option (Int32 × Mm)
  | 0, _, _ => none
  | n + 1, v1, s => if (s 169 1) ≤ v1 then
      some ((-1), s)
    else
      bn (f_L_letterAt s v1) fun x5 s4 =>
      bn (f_L_digitsBehind s4 x5) fun x8 s7 =>
      if x8 = 0 then
        some (v1, s7)
      else
        k_L_placeOfFormFault_36 (fun v1 s => k_L_placeOfFormFault_11 n v1 s) KF v1 x8 0 s7
set_option maxRecDepth 20000 in
theorem w_L_placeOfFormFault_11 {l : Launch} {z : Zt} (hz : ZOk z b_L_placeOfFormFault 4 "PassedOnAndBetter$Letters" 3 64) {r' : Int32} {s' : Mm} (hq : ZR z (some .int) s' (some (.int r'))) : ∀ (n : Nat) (v1 : Int32) (s : Mm), k_L_placeOfFormFault_11 n v1 s = some (r', s') → G l z b_L_placeOfFormFault 4 11 [(0, .ref 169), (1, .int v1)] [] s := by
  intro n
  induction n with
  | zero => intro v1 s h; unfold k_L_placeOfFormFault_11 at h; cases h
  | succ n ih =>
    intro v1 s h
    unfold k_L_placeOfFormFault_11 at h
    refine g_iload_n hz 1 d_L_placeOfFormFault_11 rfl rfl ?_
    refine g_aload_n hz 0 d_L_placeOfFormFault_12 rfl rfl ?_
    refine gf_L_told hz q_258 d_L_placeOfFormFault_13 ?_
    refine g_icmp_ge hz (tgt := 81) d_L_placeOfFormFault_16 (by decide) (fun c2 => ?_) (fun c2 => ?_)
    · replace h := (if_pos c2).symm.trans h
      refine g_iconst hz d_L_placeOfFormFault_81 ki_m1 ?_
      exact g_iret hz (rti h hq) d_L_placeOfFormFault_82
    · replace h := (if_neg c2).symm.trans h
      refine g_aload_n hz 0 d_L_placeOfFormFault_19 rfl rfl ?_
      refine g_iload_n hz 1 d_L_placeOfFormFault_20 rfl rfl ?_
      refine bn_use h (fun x5 s4 e3 h => ?_)
      refine g_callVi hz (c_L_letterAt l e3) (by decide) rc_L rfl rfl m_L_letterAt mi_L_letterAt ms_L_letterAt q_393 ⟨Nat.le_of_ble_eq_true rfl, Nat.le_of_ble_eq_true rfl⟩ rfl (st := []) rfl (Nat.le_of_ble_eq_true rfl) d_L_placeOfFormFault_21 ?_
      refine bn_use h (fun x8 s7 e6 h => ?_)
      refine g_callSi hz (c_L_digitsBehind l e6) m_L_digitsBehind mi_L_digitsBehind q_398 ⟨Nat.le_of_ble_eq_true rfl, Nat.le_of_ble_eq_true rfl⟩ rfl (st := []) rfl (Nat.le_of_ble_eq_true rfl) d_L_placeOfFormFault_24 ?_
      refine g_istore_n hz (L' := [(2, .int x8), (0, .ref 169), (1, .int v1)]) d_L_placeOfFormFault_27 rfl (by decide) rfl ?_
      refine g_iload_n hz 0 d_L_placeOfFormFault_28 rfl rfl ?_
      refine g_if_ne hz (tgt := 34) d_L_placeOfFormFault_29 (by decide) (fun c9 => ?_) (fun c9 => ?_)
      · replace h := (if_neg c9).symm.trans h
        refine g_iconst hz d_L_placeOfFormFault_34 ki_0 ?_
        refine g_istore_n hz (L' := [(3, .int 0), (2, .int x8), (0, .ref 169), (1, .int v1)]) d_L_placeOfFormFault_35 rfl (by decide) rfl ?_
        refine g_sub [2, 3, 1, 0] rfl ?_
        exact w_L_placeOfFormFault_36 hz hq ih KF v1 x8 0 _ h
      · replace h := (if_pos c9).symm.trans h
        refine g_iload_n hz 2 d_L_placeOfFormFault_32 rfl rfl ?_
        exact g_iret hz (rti h hq) d_L_placeOfFormFault_33
def f_L_placeOfFormFault (s : Mm) : Option (Int32 × Mm) :=
  if (s 169 1) = 0 then
    some (0, s)
  else
    k_L_placeOfFormFault_11 KF 0 s
set_option maxRecDepth 20000 in
theorem c_L_placeOfFormFault (l : Launch) {s : Mm}  {r' : Int32} {s' : Mm}  (h : f_L_placeOfFormFault s = some (r', s')) : Cm l y_L_placeOfFormFault b_L_placeOfFormFault 4 (some .int) 3 64 [.ref 169] s s' (some (.int r')) := by
  refine Cm.of (own := "PassedOnAndBetter$Letters") (by decide) rfl (fun ad => Nat.le_of_ble_eq_true rfl) ?_
  intro z hz hq
  show G l z b_L_placeOfFormFault 4 0 [(0, .ref 169)] [] s
  unfold f_L_placeOfFormFault at h
  refine g_aload_n hz 0 d_L_placeOfFormFault_0 rfl rfl ?_
  refine gf_L_told hz q_258 d_L_placeOfFormFault_1 ?_
  refine g_if_ne hz (tgt := 9) d_L_placeOfFormFault_4 (by decide) (fun c1 => ?_) (fun c1 => ?_)
  · replace h := (if_neg c1).symm.trans h
    refine g_iconst hz d_L_placeOfFormFault_9 ki_0 ?_
    refine g_istore_n hz (L' := [(1, .int 0), (0, .ref 169)]) d_L_placeOfFormFault_10 rfl (by decide) rfl ?_
    refine g_sub [1, 0] rfl ?_
    exact w_L_placeOfFormFault_11 hz hq KF 0 _ h
  · replace h := (if_pos c1).symm.trans h
    refine g_iconst hz d_L_placeOfFormFault_7 ki_0 ?_
    exact g_iret hz (rti h hq) d_L_placeOfFormFault_8
def f_L_digitAt (s : Mm) (a1 : Int32) : Option (Int32 × Mm) :=
  bn (f_L_letterAt s a1) fun x3 s2 =>
  some (x3 - 48, s2)
set_option maxRecDepth 20000 in
theorem c_L_digitAt (l : Launch) {s : Mm} {a1 : Int32} {r' : Int32} {s' : Mm}  (h : f_L_digitAt s a1 = some (r', s')) : Cm l y_L_digitAt b_L_digitAt 2 (some .int) 2 42 [.ref 169, .int a1] s s' (some (.int r')) := by
  refine Cm.of (own := "PassedOnAndBetter$Letters") (by decide) rfl (fun ad => Nat.le_of_ble_eq_true rfl) ?_
  intro z hz hq
  show G l z b_L_digitAt 2 0 [(0, .ref 169), (1, .int a1)] [] s
  unfold f_L_digitAt at h
  refine g_aload_n hz 0 d_L_digitAt_0 rfl rfl ?_
  refine g_iload_n hz 1 d_L_digitAt_1 rfl rfl ?_
  refine bn_use h (fun x3 s2 e1 h => ?_)
  refine g_callVi hz (c_L_letterAt l e1) (by decide) rc_L rfl rfl m_L_letterAt mi_L_letterAt ms_L_letterAt q_393 ⟨Nat.le_of_ble_eq_true rfl, Nat.le_of_ble_eq_true rfl⟩ rfl (st := []) rfl (Nat.le_of_ble_eq_true rfl) d_L_digitAt_2 ?_
  refine g_bipush hz (v := 48) d_L_digitAt_5 (by decide) ?_
  refine g_isub hz d_L_digitAt_7 ?_
  exact g_iret hz (rti h hq) d_L_digitAt_8
def f_L_twoDigitsAt (s : Mm) (a1 : Int32) : Option (Int32 × Mm) :=
  bn (f_L_digitAt s a1) fun x3 s2 =>
  bn (f_L_digitAt s2 (a1 + 1)) fun x6 s5 =>
  some ((10 * x3) + x6, s5)
set_option maxRecDepth 20000 in
theorem c_L_twoDigitsAt (l : Launch) {s : Mm} {a1 : Int32} {r' : Int32} {s' : Mm}  (h : f_L_twoDigitsAt s a1 = some (r', s')) : Cm l y_L_twoDigitsAt b_L_twoDigitsAt 2 (some .int) 3 63 [.ref 169, .int a1] s s' (some (.int r')) := by
  refine Cm.of (own := "PassedOnAndBetter$Letters") (by decide) rfl (fun ad => Nat.le_of_ble_eq_true rfl) ?_
  intro z hz hq
  show G l z b_L_twoDigitsAt 2 0 [(0, .ref 169), (1, .int a1)] [] s
  unfold f_L_twoDigitsAt at h
  refine g_bipush hz (v := 10) d_L_twoDigitsAt_0 (by decide) ?_
  refine g_aload_n hz 0 d_L_twoDigitsAt_2 rfl rfl ?_
  refine g_iload_n hz 1 d_L_twoDigitsAt_3 rfl rfl ?_
  refine bn_use h (fun x3 s2 e1 h => ?_)
  refine g_callVi hz (c_L_digitAt l e1) (by decide) rc_L rfl rfl m_L_digitAt mi_L_digitAt ms_L_digitAt q_413 ⟨Nat.le_of_ble_eq_true rfl, Nat.le_of_ble_eq_true rfl⟩ rfl (st := [.int 10]) rfl (Nat.le_of_ble_eq_true rfl) d_L_twoDigitsAt_4 ?_
  refine g_imul hz d_L_twoDigitsAt_7 ?_
  refine g_aload_n hz 0 d_L_twoDigitsAt_8 rfl rfl ?_
  refine g_iload_n hz 1 d_L_twoDigitsAt_9 rfl rfl ?_
  refine g_iconst hz d_L_twoDigitsAt_10 ki_1 ?_
  refine g_iadd hz d_L_twoDigitsAt_11 ?_
  refine bn_use h (fun x6 s5 e4 h => ?_)
  refine g_callVi hz (c_L_digitAt l e4) (by decide) rc_L rfl rfl m_L_digitAt mi_L_digitAt ms_L_digitAt q_413 ⟨Nat.le_of_ble_eq_true rfl, Nat.le_of_ble_eq_true rfl⟩ rfl (st := [.int (10 * x3)]) rfl (Nat.le_of_ble_eq_true rfl) d_L_twoDigitsAt_12 ?_
  refine g_iadd hz d_L_twoDigitsAt_15 ?_
  exact g_iret hz (rti h hq) d_L_twoDigitsAt_16
def f_C_friendsAreFull (s : Mm) (o : Nat) : Option (Int32 × Mm) :=
  if (s o 4) < 6 then
    some (0, s)
  else
    some (1, s)
set_option maxRecDepth 20000 in
theorem c_C_friendsAreFull (l : Launch) {s : Mm} {o : Nat} {r' : Int32} {s' : Mm} (ho : iC o) (h : f_C_friendsAreFull s o = some (r', s')) : Cm l y_C_friendsAreFull b_C_friendsAreFull 1 (some .boolean) 0 0 [.ref o] s s' (some (.int r')) := by
  refine Cm.of (own := "PassedOnAndBetter$Company") (by decide) rfl (fun ad => Nat.le_of_ble_eq_true rfl) ?_
  intro z hz hq
  show G l z b_C_friendsAreFull 1 0 [(0, .ref o)] [] s
  unfold f_C_friendsAreFull at h
  refine g_aload_n hz 0 d_C_friendsAreFull_0 rfl rfl ?_
  refine gf_C_friends hz ho q_207 d_C_friendsAreFull_1 ?_
  refine g_bipush hz (v := 6) d_C_friendsAreFull_4 (by decide) ?_
  refine g_icmp_lt hz (tgt := 13) d_C_friendsAreFull_6 (by decide) (fun c1 => ?_) (fun c1 => ?_)
  · replace h := (if_pos c1).symm.trans h
    refine g_iconst hz d_C_friendsAreFull_13 ki_0 ?_
    exact g_zret hz (rti h hq) (Or.inl rfl) d_C_friendsAreFull_14
  · replace h := (if_neg c1).symm.trans h
    refine g_iconst hz d_C_friendsAreFull_9 ki_1 ?_
    refine g_goto hz (tgt := 14) d_C_friendsAreFull_10 (by decide) ?_
    exact g_zret hz (rti h hq) (Or.inr rfl) d_C_friendsAreFull_14
def f_K_waitsOf (s : Mm) (a0 : Int32) (a1 : Int32) : Option (Int32 × Mm) :=
  if a0 = 1 then
    some (12, s)
  else if a0 = 2 then
    some (6, s)
  else if a0 = 3 then
    some (3, s)
  else if a0 = 4 then
    some (11, s)
  else if a0 = 5 then
    some (1, s)
  else
    some (12 - a1, s)
set_option maxRecDepth 20000 in
theorem c_K_waitsOf (l : Launch) {s : Mm} {a0 : Int32} {a1 : Int32} {r' : Int32} {s' : Mm}  (h : f_K_waitsOf s a0 a1 = some (r', s')) : Cm l y_K_waitsOf b_K_waitsOf 2 (some .int) 0 0 [.int a0, .int a1] s s' (some (.int r')) := by
  refine Cm.of (own := "PassedOnAndBetter$Kinds") (by decide) rfl (fun ad => Nat.le_of_ble_eq_true rfl) ?_
  intro z hz hq
  show G l z b_K_waitsOf 2 0 [(0, .int a0), (1, .int a1)] [] s
  unfold f_K_waitsOf at h
  refine g_iload_n hz 0 d_K_waitsOf_0 rfl rfl ?_
  by_cases c1 : a0 = 1
  · replace h := (if_pos c1).symm.trans h
    refine g_tin hz (off := 35) (tgt := 36) d_K_waitsOf_1 c1 (by decide) (by decide) (by decide) (by decide) ?_
    refine g_bipush hz (v := 12) d_K_waitsOf_36 (by decide) ?_
    exact g_iret hz (rti h hq) d_K_waitsOf_38
  · replace h := (if_neg c1).symm.trans h
    by_cases c2 : a0 = 2
    · replace h := (if_pos c2).symm.trans h
      refine g_tin hz (off := 38) (tgt := 39) d_K_waitsOf_1 c2 (by decide) (by decide) (by decide) (by decide) ?_
      refine g_bipush hz (v := 6) d_K_waitsOf_39 (by decide) ?_
      exact g_iret hz (rti h hq) d_K_waitsOf_41
    · replace h := (if_neg c2).symm.trans h
      by_cases c3 : a0 = 3
      · replace h := (if_pos c3).symm.trans h
        refine g_tin hz (off := 41) (tgt := 42) d_K_waitsOf_1 c3 (by decide) (by decide) (by decide) (by decide) ?_
        refine g_iconst hz d_K_waitsOf_42 ki_3 ?_
        exact g_iret hz (rti h hq) d_K_waitsOf_43
      · replace h := (if_neg c3).symm.trans h
        by_cases c4 : a0 = 4
        · replace h := (if_pos c4).symm.trans h
          refine g_tin hz (off := 43) (tgt := 44) d_K_waitsOf_1 c4 (by decide) (by decide) (by decide) (by decide) ?_
          refine g_bipush hz (v := 11) d_K_waitsOf_44 (by decide) ?_
          exact g_iret hz (rti h hq) d_K_waitsOf_46
        · replace h := (if_neg c4).symm.trans h
          by_cases c5 : a0 = 5
          · replace h := (if_pos c5).symm.trans h
            refine g_tin hz (off := 46) (tgt := 47) d_K_waitsOf_1 c5 (by decide) (by decide) (by decide) (by decide) ?_
            refine g_iconst hz d_K_waitsOf_47 ki_1 ?_
            exact g_iret hz (rti h hq) d_K_waitsOf_48
          · replace h := (if_neg c5).symm.trans h
            refine g_tdf hz (tgt := 49) d_K_waitsOf_1 (fun i hi hx => ?_) (by decide) ?_
            · match i, hi, hx with
              | 0, _, hx => exact absurd hx (lv_neT c1 (by decide))
              | 1, _, hx => exact absurd hx (lv_neT c2 (by decide))
              | 2, _, hx => exact absurd hx (lv_neT c3 (by decide))
              | 3, _, hx => exact absurd hx (lv_neT c4 (by decide))
              | 4, _, hx => exact absurd hx (lv_neT c5 (by decide))
              | q + 5, hi, _ => exact absurd hi (by omega)
            · refine g_bipush hz (v := 12) d_K_waitsOf_49 (by decide) ?_
              refine g_iload_n hz 1 d_K_waitsOf_51 rfl rfl ?_
              refine g_isub hz d_K_waitsOf_52 ?_
              exact g_iret hz (rti h hq) d_K_waitsOf_53
def f_K_addsOf (s : Mm) (a0 : Int32) (a1 : Int32) : Option (Int32 × Mm) :=
  nm (a1 + 1) fun x1 =>
  if a0 = 1 then
    some (1, s)
  else if a0 = 2 then
    some (5, s)
  else if a0 = 3 then
    some (2, s)
  else if a0 = 4 then
    some (1 + a1, s)
  else if a0 = 5 then
    some (x1 / 2, s)
  else
    some (x1, s)
set_option maxRecDepth 20000 in
theorem c_K_addsOf (l : Launch) {s : Mm} {a0 : Int32} {a1 : Int32} {r' : Int32} {s' : Mm}  (h : f_K_addsOf s a0 a1 = some (r', s')) : Cm l y_K_addsOf b_K_addsOf 3 (some .int) 0 0 [.int a0, .int a1] s s' (some (.int r')) := by
  refine Cm.of (own := "PassedOnAndBetter$Kinds") (by decide) rfl (fun ad => Nat.le_of_ble_eq_true rfl) ?_
  intro z hz hq
  show G l z b_K_addsOf 3 0 [(0, .int a0), (1, .int a1)] [] s
  unfold f_K_addsOf at h
  refine g_iload_n hz 1 d_K_addsOf_0 rfl rfl ?_
  refine g_iconst hz d_K_addsOf_1 ki_1 ?_
  refine g_iadd hz d_K_addsOf_2 ?_
  refine g_nmi (fun x1 e2 => ?_)
  replace h := nm_use h e2
  refine g_istore_n hz (L' := [(2, .int x1), (0, .int a0), (1, .int a1)]) d_K_addsOf_3 rfl (by decide) rfl ?_
  refine g_iload_n hz 1 d_K_addsOf_4 rfl rfl ?_
  by_cases c3 : a0 = 1
  · replace h := (if_pos c3).symm.trans h
    refine g_tin hz (off := 35) (tgt := 40) d_K_addsOf_5 c3 (by decide) (by decide) (by decide) (by decide) ?_
    refine g_iconst hz d_K_addsOf_40 ki_1 ?_
    exact g_iret hz (rti h hq) d_K_addsOf_41
  · replace h := (if_neg c3).symm.trans h
    by_cases c4 : a0 = 2
    · replace h := (if_pos c4).symm.trans h
      refine g_tin hz (off := 37) (tgt := 42) d_K_addsOf_5 c4 (by decide) (by decide) (by decide) (by decide) ?_
      refine g_iconst hz d_K_addsOf_42 ki_5 ?_
      exact g_iret hz (rti h hq) d_K_addsOf_43
    · replace h := (if_neg c4).symm.trans h
      by_cases c5 : a0 = 3
      · replace h := (if_pos c5).symm.trans h
        refine g_tin hz (off := 39) (tgt := 44) d_K_addsOf_5 c5 (by decide) (by decide) (by decide) (by decide) ?_
        refine g_iconst hz d_K_addsOf_44 ki_2 ?_
        exact g_iret hz (rti h hq) d_K_addsOf_45
      · replace h := (if_neg c5).symm.trans h
        by_cases c6 : a0 = 4
        · replace h := (if_pos c6).symm.trans h
          refine g_tin hz (off := 41) (tgt := 46) d_K_addsOf_5 c6 (by decide) (by decide) (by decide) (by decide) ?_
          refine g_iconst hz d_K_addsOf_46 ki_1 ?_
          refine g_iload_n hz 2 d_K_addsOf_47 rfl rfl ?_
          refine g_iadd hz d_K_addsOf_48 ?_
          exact g_iret hz (rti h hq) d_K_addsOf_49
        · replace h := (if_neg c6).symm.trans h
          by_cases c7 : a0 = 5
          · replace h := (if_pos c7).symm.trans h
            refine g_tin hz (off := 45) (tgt := 50) d_K_addsOf_5 c7 (by decide) (by decide) (by decide) (by decide) ?_
            refine g_iload_n hz 0 d_K_addsOf_50 rfl rfl ?_
            refine g_iconst hz d_K_addsOf_51 ki_2 ?_
            refine g_idiv hz d_K_addsOf_52 (by decide) ?_
            exact g_iret hz (rti h hq) d_K_addsOf_53
          · replace h := (if_neg c7).symm.trans h
            refine g_tdf hz (tgt := 54) d_K_addsOf_5 (fun i hi hx => ?_) (by decide) ?_
            · match i, hi, hx with
              | 0, _, hx => exact absurd hx (lv_neT c3 (by decide))
              | 1, _, hx => exact absurd hx (lv_neT c4 (by decide))
              | 2, _, hx => exact absurd hx (lv_neT c5 (by decide))
              | 3, _, hx => exact absurd hx (lv_neT c6 (by decide))
              | 4, _, hx => exact absurd hx (lv_neT c7 (by decide))
              | q + 5, hi, _ => exact absurd hi (by omega)
            · refine g_iload_n hz 0 d_K_addsOf_54 rfl rfl ?_
              exact g_iret hz (rti h hq) d_K_addsOf_55
def f_K_swellsOf (s : Mm) (a0 : Int32) (a1 : Int32) : Option (Int32 × Mm) :=
  nm (a1 / 2) fun x1 =>
  if a0 = 1 then
    some (0, s)
  else if a0 = 2 then
    some (a1, s)
  else if a0 = 3 then
    some ((-3), s)
  else if a0 = 4 then
    some (4, s)
  else if a0 = 5 then
    if 2 ≤ x1 then
      some (2, s)
    else
      some (x1, s)
  else
    some (x1, s)
set_option maxRecDepth 20000 in
theorem c_K_swellsOf (l : Launch) {s : Mm} {a0 : Int32} {a1 : Int32} {r' : Int32} {s' : Mm}  (h : f_K_swellsOf s a0 a1 = some (r', s')) : Cm l y_K_swellsOf b_K_swellsOf 3 (some .int) 0 0 [.int a0, .int a1] s s' (some (.int r')) := by
  refine Cm.of (own := "PassedOnAndBetter$Kinds") (by decide) rfl (fun ad => Nat.le_of_ble_eq_true rfl) ?_
  intro z hz hq
  show G l z b_K_swellsOf 3 0 [(0, .int a0), (1, .int a1)] [] s
  unfold f_K_swellsOf at h
  refine g_iload_n hz 1 d_K_swellsOf_0 rfl rfl ?_
  refine g_iconst hz d_K_swellsOf_1 ki_2 ?_
  refine g_idiv hz d_K_swellsOf_2 (by decide) ?_
  refine g_nmi (fun x1 e2 => ?_)
  replace h := nm_use h e2
  refine g_istore_n hz (L' := [(2, .int x1), (0, .int a0), (1, .int a1)]) d_K_swellsOf_3 rfl (by decide) rfl ?_
  refine g_iload_n hz 1 d_K_swellsOf_4 rfl rfl ?_
  by_cases c3 : a0 = 1
  · replace h := (if_pos c3).symm.trans h
    refine g_tin hz (off := 35) (tgt := 40) d_K_swellsOf_5 c3 (by decide) (by decide) (by decide) (by decide) ?_
    refine g_iconst hz d_K_swellsOf_40 ki_0 ?_
    exact g_iret hz (rti h hq) d_K_swellsOf_41
  · replace h := (if_neg c3).symm.trans h
    by_cases c4 : a0 = 2
    · replace h := (if_pos c4).symm.trans h
      refine g_tin hz (off := 37) (tgt := 42) d_K_swellsOf_5 c4 (by decide) (by decide) (by decide) (by decide) ?_
      refine g_iload_n hz 2 d_K_swellsOf_42 rfl rfl ?_
      exact g_iret hz (rti h hq) d_K_swellsOf_43
    · replace h := (if_neg c4).symm.trans h
      by_cases c5 : a0 = 3
      · replace h := (if_pos c5).symm.trans h
        refine g_tin hz (off := 39) (tgt := 44) d_K_swellsOf_5 c5 (by decide) (by decide) (by decide) (by decide) ?_
        refine g_bipush hz (v := (-3)) d_K_swellsOf_44 (by decide) ?_
        exact g_iret hz (rti h hq) d_K_swellsOf_46
      · replace h := (if_neg c5).symm.trans h
        by_cases c6 : a0 = 4
        · replace h := (if_pos c6).symm.trans h
          refine g_tin hz (off := 42) (tgt := 47) d_K_swellsOf_5 c6 (by decide) (by decide) (by decide) (by decide) ?_
          refine g_iconst hz d_K_swellsOf_47 ki_4 ?_
          exact g_iret hz (rti h hq) d_K_swellsOf_48
        · replace h := (if_neg c6).symm.trans h
          by_cases c7 : a0 = 5
          · replace h := (if_pos c7).symm.trans h
            refine g_tin hz (off := 44) (tgt := 49) d_K_swellsOf_5 c7 (by decide) (by decide) (by decide) (by decide) ?_
            refine g_iload_n hz 0 d_K_swellsOf_49 rfl rfl ?_
            refine g_iconst hz d_K_swellsOf_50 ki_2 ?_
            refine g_icmp_ge hz (tgt := 58) d_K_swellsOf_51 (by decide) (fun c8 => ?_) (fun c8 => ?_)
            · replace h := (if_pos c8).symm.trans h
              refine g_iconst hz d_K_swellsOf_58 ki_2 ?_
              exact g_iret hz (rti h hq) d_K_swellsOf_59
            · replace h := (if_neg c8).symm.trans h
              refine g_iload_n hz 0 d_K_swellsOf_54 rfl rfl ?_
              refine g_goto hz (tgt := 59) d_K_swellsOf_55 (by decide) ?_
              exact g_iret hz (rti h hq) d_K_swellsOf_59
          · replace h := (if_neg c7).symm.trans h
            refine g_tdf hz (tgt := 60) d_K_swellsOf_5 (fun i hi hx => ?_) (by decide) ?_
            · match i, hi, hx with
              | 0, _, hx => exact absurd hx (lv_neT c3 (by decide))
              | 1, _, hx => exact absurd hx (lv_neT c4 (by decide))
              | 2, _, hx => exact absurd hx (lv_neT c5 (by decide))
              | 3, _, hx => exact absurd hx (lv_neT c6 (by decide))
              | 4, _, hx => exact absurd hx (lv_neT c7 (by decide))
              | q + 5, hi, _ => exact absurd hi (by omega)
            · refine g_iload_n hz 0 d_K_swellsOf_60 rfl rfl ?_
              exact g_iret hz (rti h hq) d_K_swellsOf_61
def f_F_become (s : Mm) (o : Nat) (a1 : Int32) (a2 : Int32) : Option Mm :=
  nm (mU s o 0 a1) fun s1 =>
  nm (mU s1 o 1 a2) fun s3 =>
  bn (f_K_waitsOf s3 (s3 o 0) (s3 o 1)) fun x7 s6 =>
  nm (mU s6 o 4 x7) fun s8 =>
  bn (f_K_addsOf s8 (s8 o 0) (s8 o 1)) fun x12 s11 =>
  nm (mU s11 o 5 x12) fun s13 =>
  bn (f_K_swellsOf s13 (s13 o 0) (s13 o 1)) fun x17 s16 =>
  nm (mU s16 o 6 x17) fun s18 =>
  some s18
set_option maxRecDepth 20000 in
theorem c_F_become (l : Launch) {s : Mm} {o : Nat} {a1 : Int32} {a2 : Int32} {s' : Mm} (ho : iF o) (h : f_F_become s o a1 a2 = some s') : Cm l y_F_become b_F_become 3 none 1 22 [.ref o, .int a1, .int a2] s s' none := by
  refine Cm.of (own := "PassedOnAndBetter$Friend") (by decide) rfl (fun ad => Nat.le_of_ble_eq_true rfl) ?_
  intro z hz hq
  show G l z b_F_become 3 0 [(0, .ref o), (1, .int a1), (2, .int a2)] [] s
  unfold f_F_become at h
  refine g_aload_n hz 0 d_F_become_0 rfl rfl ?_
  refine g_iload_n hz 1 d_F_become_1 rfl rfl ?_
  refine pf_F_kind hz ho q_118 d_F_become_2 (fun s1 e2 => ?_)
  replace h := nm_use h e2
  refine g_aload_n hz 0 d_F_become_5 rfl rfl ?_
  refine g_iload_n hz 2 d_F_become_6 rfl rfl ?_
  refine pf_F_figure hz ho q_120 d_F_become_7 (fun s3 e4 => ?_)
  replace h := nm_use h e4
  refine g_aload_n hz 0 d_F_become_10 rfl rfl ?_
  refine g_aload_n hz 0 d_F_become_11 rfl rfl ?_
  refine gf_F_kind hz ho q_118 d_F_become_12 ?_
  refine g_aload_n hz 0 d_F_become_15 rfl rfl ?_
  refine gf_F_figure hz ho q_120 d_F_become_16 ?_
  refine bn_use h (fun x7 s6 e5 h => ?_)
  refine g_callSi hz (c_K_waitsOf l e5) m_K_waitsOf mi_K_waitsOf q_437 ⟨Nat.le_of_ble_eq_true rfl, Nat.le_of_ble_eq_true rfl⟩ rfl (st := [.ref o]) rfl (Nat.le_of_ble_eq_true rfl) d_F_become_19 ?_
  refine pf_F_waits hz ho q_132 d_F_become_22 (fun s8 e9 => ?_)
  replace h := nm_use h e9
  refine g_aload_n hz 0 d_F_become_25 rfl rfl ?_
  refine g_aload_n hz 0 d_F_become_26 rfl rfl ?_
  refine gf_F_kind hz ho q_118 d_F_become_27 ?_
  refine g_aload_n hz 0 d_F_become_30 rfl rfl ?_
  refine gf_F_figure hz ho q_120 d_F_become_31 ?_
  refine bn_use h (fun x12 s11 e10 h => ?_)
  refine g_callSi hz (c_K_addsOf l e10) m_K_addsOf mi_K_addsOf q_440 ⟨Nat.le_of_ble_eq_true rfl, Nat.le_of_ble_eq_true rfl⟩ rfl (st := [.ref o]) rfl (Nat.le_of_ble_eq_true rfl) d_F_become_34 ?_
  refine pf_F_adds hz ho q_136 d_F_become_37 (fun s13 e14 => ?_)
  replace h := nm_use h e14
  refine g_aload_n hz 0 d_F_become_40 rfl rfl ?_
  refine g_aload_n hz 0 d_F_become_41 rfl rfl ?_
  refine gf_F_kind hz ho q_118 d_F_become_42 ?_
  refine g_aload_n hz 0 d_F_become_45 rfl rfl ?_
  refine gf_F_figure hz ho q_120 d_F_become_46 ?_
  refine bn_use h (fun x17 s16 e15 h => ?_)
  refine g_callSi hz (c_K_swellsOf l e15) m_K_swellsOf mi_K_swellsOf q_443 ⟨Nat.le_of_ble_eq_true rfl, Nat.le_of_ble_eq_true rfl⟩ rfl (st := [.ref o]) rfl (Nat.le_of_ble_eq_true rfl) d_F_become_49 ?_
  refine pf_F_swells hz ho q_138 d_F_become_52 (fun s18 e19 => ?_)
  replace h := nm_use h e19
  exact g_vret hz (rtv h hq) d_F_become_55
def f_F_begin (s : Mm) (o : Nat) (a1 : Int32) (a2 : Int32) (a3 : Int32) : Option Mm :=
  bv (f_F_become s o a1 a2) fun s2 =>
  nm (mU s2 o 2 a3) fun s3 =>
  nm (mU s3 o 3 (-1)) fun s5 =>
  nm (mU s5 o 7 1) fun s7 =>
  nm (mU s7 o 8 0) fun s9 =>
  some s9
set_option maxRecDepth 20000 in
theorem c_F_begin (l : Launch) {s : Mm} {o : Nat} {a1 : Int32} {a2 : Int32} {a3 : Int32} {s' : Mm} (ho : iF o) (h : f_F_begin s o a1 a2 a3 = some s') : Cm l y_F_begin b_F_begin 4 none 2 44 [.ref o, .int a1, .int a2, .int a3] s s' none := by
  refine Cm.of (own := "PassedOnAndBetter$Friend") (by decide) rfl (fun ad => Nat.le_of_ble_eq_true rfl) ?_
  intro z hz hq
  show G l z b_F_begin 4 0 [(0, .ref o), (1, .int a1), (2, .int a2), (3, .int a3)] [] s
  unfold f_F_begin at h
  refine g_aload_n hz 0 d_F_begin_0 rfl rfl ?_
  refine g_iload_n hz 1 d_F_begin_1 rfl rfl ?_
  refine g_iload_n hz 2 d_F_begin_2 rfl rfl ?_
  refine bv_use h (fun s2 e1 h => ?_)
  refine g_callVv hz (c_F_become l ho e1) (iF_lt ho) (rc_F ho) rfl rfl m_F_become mi_F_become ms_F_become q_433 ⟨Nat.le_of_ble_eq_true rfl, Nat.le_of_ble_eq_true rfl⟩ rfl (st := []) rfl (Nat.le_of_ble_eq_true rfl) d_F_begin_3 ?_
  refine g_aload_n hz 0 d_F_begin_6 rfl rfl ?_
  refine g_iload_n hz 3 d_F_begin_7 rfl rfl ?_
  refine pf_F_door hz ho q_122 d_F_begin_8 (fun s3 e4 => ?_)
  replace h := nm_use h e4
  refine g_aload_n hz 0 d_F_begin_11 rfl rfl ?_
  refine g_iconst hz d_F_begin_12 ki_m1 ?_
  refine pf_F_next hz ho q_128 d_F_begin_13 (fun s5 e6 => ?_)
  replace h := nm_use h e6
  refine g_aload_n hz 0 d_F_begin_16 rfl rfl ?_
  refine g_iconst hz d_F_begin_17 ki_1 ?_
  refine pf_F_times hz ho q_140 d_F_begin_18 (fun s7 e8 => ?_)
  replace h := nm_use h e8
  refine g_aload_n hz 0 d_F_begin_21 rfl rfl ?_
  refine g_iconst hz d_F_begin_22 ki_0 ?_
  refine pf_F_brought hz ho q_143 d_F_begin_23 (fun s9 e10 => ?_)
  replace h := nm_use h e10
  exact g_vret hz (rtv h hq) d_F_begin_26
def f_C_addFriend (s : Mm) (o : Nat) (a1 : Int32) (a2 : Int32) (a3 : Int32) : Option (Int32 × Mm) :=
  nm (s o 4) fun x1 =>
  bn (f_C_friendAt s o x1) fun x5 s4 =>
  bv (f_F_begin s4 x5 a1 a2 a3) fun s7 =>
  nm (mU s7 o 4 ((s7 o 4) + 1)) fun s8 =>
  some (x1, s8)
set_option maxRecDepth 20000 in
theorem c_C_addFriend (l : Launch) {s : Mm} {o : Nat} {a1 : Int32} {a2 : Int32} {a3 : Int32} {r' : Int32} {s' : Mm} (ho : iC o) (h : f_C_addFriend s o a1 a2 a3 = some (r', s')) : Cm l y_C_addFriend b_C_addFriend 5 (some .int) 3 67 [.ref o, .int a1, .int a2, .int a3] s s' (some (.int r')) := by
  refine Cm.of (own := "PassedOnAndBetter$Company") (by decide) rfl (fun ad => Nat.le_of_ble_eq_true rfl) ?_
  intro z hz hq
  show G l z b_C_addFriend 5 0 [(0, .ref o), (1, .int a1), (2, .int a2), (3, .int a3)] [] s
  unfold f_C_addFriend at h
  refine g_aload_n hz 0 d_C_addFriend_0 rfl rfl ?_
  refine gf_C_friends hz ho q_207 d_C_addFriend_1 ?_
  refine g_nmi (fun x1 e2 => ?_)
  replace h := nm_use h e2
  refine g_istore hz (L' := [(4, .int x1), (0, .ref o), (1, .int a1), (2, .int a2), (3, .int a3)]) d_C_addFriend_4 (by decide) rfl ?_
  refine g_aload_n hz 1 d_C_addFriend_6 rfl rfl ?_
  refine g_iload hz 0 d_C_addFriend_7 rfl ?_
  refine bn_use h (fun x5 s4 e3 h => ?_)
  have hx5 := rr_C_friendAt ho e3
  refine g_callVr hz (c_C_friendAt l ho e3) (iC_lt ho) (rc_C ho) rfl rfl m_C_friendAt mi_C_friendAt ms_C_friendAt q_369 ⟨Nat.le_of_ble_eq_true rfl, Nat.le_of_ble_eq_true rfl⟩ rfl (st := []) rfl (Nat.le_of_ble_eq_true rfl) d_C_addFriend_9 ?_
  refine g_iload_n hz 2 d_C_addFriend_12 rfl rfl ?_
  refine g_iload_n hz 3 d_C_addFriend_13 rfl rfl ?_
  refine g_iload_n hz 4 d_C_addFriend_14 rfl rfl ?_
  refine bv_use h (fun s7 e6 h => ?_)
  refine g_callVv hz (c_F_begin l hx5 e6) (iF_lt hx5) (rc_F hx5) rfl rfl m_F_begin mi_F_begin ms_F_begin q_429 ⟨Nat.le_of_ble_eq_true rfl, Nat.le_of_ble_eq_true rfl⟩ rfl (st := []) rfl (Nat.le_of_ble_eq_true rfl) d_C_addFriend_15 ?_
  refine g_aload_n hz 1 d_C_addFriend_18 rfl rfl ?_
  refine g_dup hz d_C_addFriend_19 rfl ?_
  refine gf_C_friends hz ho q_207 d_C_addFriend_20 ?_
  refine g_iconst hz d_C_addFriend_23 ki_1 ?_
  refine g_iadd hz d_C_addFriend_24 ?_
  refine pf_C_friends hz ho q_207 d_C_addFriend_25 (fun s8 e9 => ?_)
  replace h := nm_use h e9
  refine g_iload hz 0 d_C_addFriend_28 rfl ?_
  exact g_iret hz (rti h hq) d_C_addFriend_30
def f_L_tellFriend (s : Mm) (o1 : Nat) (a2 : Int32) : Option (Int32 × Mm) :=
  bn (f_L_digitAt s a2) fun x3 s2 =>
  bn (f_L_twoDigitsAt s2 (a2 + 2)) fun x6 s5 =>
  if 5 < x3 then
    some (0, s5)
  else
    if x6 < 1 then
      some (0, s5)
    else
      bn (f_C_friendsAreFull s5 o1) fun x11 s10 =>
      if x11 = 0 then
        bn (f_L_digitAt s10 (a2 + 1)) fun x15 s14 =>
        bn (f_C_addFriend s14 o1 x3 x15 x6) fun x18 s17 =>
        some (1, s17)
      else
        some (0, s10)
set_option maxRecDepth 20000 in
theorem c_L_tellFriend (l : Launch) {s : Mm} {o1 : Nat} {a2 : Int32} {r' : Int32} {s' : Mm} (ho1 : iC o1) (h : f_L_tellFriend s o1 a2 = some (r', s')) : Cm l y_L_tellFriend b_L_tellFriend 5 (some .boolean) 4 91 [.ref 169, .ref o1, .int a2] s s' (some (.int r')) := by
  refine Cm.of (own := "PassedOnAndBetter$Letters") (by decide) rfl (fun ad => Nat.le_of_ble_eq_true rfl) ?_
  intro z hz hq
  show G l z b_L_tellFriend 5 0 [(0, .ref 169), (1, .ref o1), (2, .int a2)] [] s
  unfold f_L_tellFriend at h
  refine g_aload_n hz 0 d_L_tellFriend_0 rfl rfl ?_
  refine g_iload_n hz 2 d_L_tellFriend_1 rfl rfl ?_
  refine bn_use h (fun x3 s2 e1 h => ?_)
  refine g_callVi hz (c_L_digitAt l e1) (by decide) rc_L rfl rfl m_L_digitAt mi_L_digitAt ms_L_digitAt q_413 ⟨Nat.le_of_ble_eq_true rfl, Nat.le_of_ble_eq_true rfl⟩ rfl (st := []) rfl (Nat.le_of_ble_eq_true rfl) d_L_tellFriend_2 ?_
  refine g_istore_n hz (L' := [(3, .int x3), (0, .ref 169), (1, .ref o1), (2, .int a2)]) d_L_tellFriend_5 rfl (by decide) rfl ?_
  refine g_aload_n hz 1 d_L_tellFriend_6 rfl rfl ?_
  refine g_iload_n hz 3 d_L_tellFriend_7 rfl rfl ?_
  refine g_iconst hz d_L_tellFriend_8 ki_2 ?_
  refine g_iadd hz d_L_tellFriend_9 ?_
  refine bn_use h (fun x6 s5 e4 h => ?_)
  refine g_callVi hz (c_L_twoDigitsAt l e4) (by decide) rc_L rfl rfl m_L_twoDigitsAt mi_L_twoDigitsAt ms_L_twoDigitsAt q_417 ⟨Nat.le_of_ble_eq_true rfl, Nat.le_of_ble_eq_true rfl⟩ rfl (st := []) rfl (Nat.le_of_ble_eq_true rfl) d_L_tellFriend_10 ?_
  refine g_istore hz (L' := [(4, .int x6), (3, .int x3), (0, .ref 169), (1, .ref o1), (2, .int a2)]) d_L_tellFriend_13 (by decide) rfl ?_
  refine g_iload_n hz 1 d_L_tellFriend_15 rfl rfl ?_
  refine g_iconst hz d_L_tellFriend_16 ki_5 ?_
  refine g_icmp_gt hz (tgt := 33) d_L_tellFriend_17 (by decide) (fun c7 => ?_) (fun c7 => ?_)
  · replace h := (if_pos c7).symm.trans h
    refine g_iconst hz d_L_tellFriend_33 ki_0 ?_
    exact g_zret hz (rti h hq) (Or.inl rfl) d_L_tellFriend_34
  · replace h := (if_neg c7).symm.trans h
    refine g_iload hz 0 d_L_tellFriend_20 rfl ?_
    refine g_iconst hz d_L_tellFriend_22 ki_1 ?_
    refine g_icmp_lt hz (tgt := 33) d_L_tellFriend_23 (by decide) (fun c8 => ?_) (fun c8 => ?_)
    · replace h := (if_pos c8).symm.trans h
      refine g_iconst hz d_L_tellFriend_33 ki_0 ?_
      exact g_zret hz (rti h hq) (Or.inl rfl) d_L_tellFriend_34
    · replace h := (if_neg c8).symm.trans h
      refine g_aload_n hz 3 d_L_tellFriend_26 rfl rfl ?_
      refine bn_use h (fun x11 s10 e9 h => ?_)
      refine g_callVi hz (c_C_friendsAreFull l ho1 e9) (iC_lt ho1) (rc_C ho1) rfl rfl m_C_friendsAreFull mi_C_friendsAreFull ms_C_friendsAreFull q_421 ⟨Nat.le_of_ble_eq_true rfl, Nat.le_of_ble_eq_true rfl⟩ rfl (st := []) rfl (Nat.le_of_ble_eq_true rfl) d_L_tellFriend_27 ?_
      refine g_if_eq hz (tgt := 35) d_L_tellFriend_30 (by decide) (fun c12 => ?_) (fun c12 => ?_)
      · replace h := (if_pos c12).symm.trans h
        refine g_aload_n hz 3 d_L_tellFriend_35 rfl rfl ?_
        refine g_iload_n hz 1 d_L_tellFriend_36 rfl rfl ?_
        refine g_aload_n hz 2 d_L_tellFriend_37 rfl rfl ?_
        refine g_iload_n hz 4 d_L_tellFriend_38 rfl rfl ?_
        refine g_iconst hz d_L_tellFriend_39 ki_1 ?_
        refine g_iadd hz d_L_tellFriend_40 ?_
        refine bn_use h (fun x15 s14 e13 h => ?_)
        refine g_callVi hz (c_L_digitAt l e13) (by decide) rc_L rfl rfl m_L_digitAt mi_L_digitAt ms_L_digitAt q_413 ⟨Nat.le_of_ble_eq_true rfl, Nat.le_of_ble_eq_true rfl⟩ rfl (st := [.int x3, .ref o1]) rfl (Nat.le_of_ble_eq_true rfl) d_L_tellFriend_41 ?_
        refine g_iload hz 0 d_L_tellFriend_44 rfl ?_
        refine bn_use h (fun x18 s17 e16 h => ?_)
        refine g_callVi hz (c_C_addFriend l ho1 e16) (iC_lt ho1) (rc_C ho1) rfl rfl m_C_addFriend mi_C_addFriend ms_C_addFriend q_425 ⟨Nat.le_of_ble_eq_true rfl, Nat.le_of_ble_eq_true rfl⟩ rfl (st := []) rfl (Nat.le_of_ble_eq_true rfl) d_L_tellFriend_46 ?_
        refine g_pop hz d_L_tellFriend_49 rfl ?_
        refine g_iconst hz d_L_tellFriend_50 ki_1 ?_
        exact g_zret hz (rti h hq) (Or.inr rfl) d_L_tellFriend_51
      · replace h := (if_neg c12).symm.trans h
        refine g_iconst hz d_L_tellFriend_33 ki_0 ?_
        exact g_zret hz (rti h hq) (Or.inl rfl) d_L_tellFriend_34
def f_C_hasFriend (s : Mm) (o : Nat) (a1 : Int32) : Option (Int32 × Mm) :=
  if a1 < 0 then
    some (0, s)
  else
    if (s o 4) ≤ a1 then
      some (0, s)
    else
      some (1, s)
set_option maxRecDepth 20000 in
theorem c_C_hasFriend (l : Launch) {s : Mm} {o : Nat} {a1 : Int32} {r' : Int32} {s' : Mm} (ho : iC o) (h : f_C_hasFriend s o a1 = some (r', s')) : Cm l y_C_hasFriend b_C_hasFriend 2 (some .boolean) 0 0 [.ref o, .int a1] s s' (some (.int r')) := by
  refine Cm.of (own := "PassedOnAndBetter$Company") (by decide) rfl (fun ad => Nat.le_of_ble_eq_true rfl) ?_
  intro z hz hq
  show G l z b_C_hasFriend 2 0 [(0, .ref o), (1, .int a1)] [] s
  unfold f_C_hasFriend at h
  refine g_iload_n hz 1 d_C_hasFriend_0 rfl rfl ?_
  refine g_if_lt hz (tgt := 16) d_C_hasFriend_1 (by decide) (fun c1 => ?_) (fun c1 => ?_)
  · replace h := (if_pos c1).symm.trans h
    refine g_iconst hz d_C_hasFriend_16 ki_0 ?_
    exact g_zret hz (rti h hq) (Or.inl rfl) d_C_hasFriend_17
  · replace h := (if_neg c1).symm.trans h
    refine g_iload_n hz 1 d_C_hasFriend_4 rfl rfl ?_
    refine g_aload_n hz 0 d_C_hasFriend_5 rfl rfl ?_
    refine gf_C_friends hz ho q_207 d_C_hasFriend_6 ?_
    refine g_icmp_ge hz (tgt := 16) d_C_hasFriend_9 (by decide) (fun c2 => ?_) (fun c2 => ?_)
    · replace h := (if_pos c2).symm.trans h
      refine g_iconst hz d_C_hasFriend_16 ki_0 ?_
      exact g_zret hz (rti h hq) (Or.inl rfl) d_C_hasFriend_17
    · replace h := (if_neg c2).symm.trans h
      refine g_iconst hz d_C_hasFriend_12 ki_1 ?_
      refine g_goto hz (tgt := 17) d_C_hasFriend_13 (by decide) ?_
      exact g_zret hz (rti h hq) (Or.inr rfl) d_C_hasFriend_17
def k_C_turnNext_19 (v2 : Int32) (o3 : Nat) (vt0 : Int32) (s : Mm) : Option (Int32 × Mm) :=
  if vt0 = 0 then
    nm (mU s o3 3 v2) fun s6 =>
    if vt0 = 0 then
      some (1, s6)
    else
      some (0, s6)
  else
    nm (mU s o3 3 (-1)) fun s9 =>
    if vt0 = 0 then
      some (1, s9)
    else
      some (0, s9)
set_option maxRecDepth 20000 in
theorem w_C_turnNext_19 {l : Launch} {z : Zt} (hz : ZOk z b_C_turnNext 5 "PassedOnAndBetter$Company" 1 22) {r' : Int32} {s' : Mm} (hq : ZR z (some .int) s' (some (.int r'))) (v2 : Int32) (o3 : Nat) (vt0 : Int32) (ho3 : iF o3) (s : Mm) (h : k_C_turnNext_19 v2 o3 vt0 s = some (r', s')) : G l z b_C_turnNext 5 19 [(2, .int v2), (3, .ref o3)] [.int vt0] s := by
  unfold k_C_turnNext_19 at h
  refine g_istore hz (L' := [(4, .int vt0), (2, .int v2), (3, .ref o3)]) d_C_turnNext_19 (by decide) rfl ?_
  refine g_aload_n hz 2 d_C_turnNext_21 rfl rfl ?_
  refine g_iload hz 0 d_C_turnNext_22 rfl ?_
  refine g_if_eq hz (tgt := 31) d_C_turnNext_24 (by decide) (fun c5 => ?_) (fun c5 => ?_)
  · replace h := (if_pos c5).symm.trans h
    refine g_iload_n hz 1 d_C_turnNext_31 rfl rfl ?_
    refine pf_F_next hz ho3 q_130 d_C_turnNext_32 (fun s6 e7 => ?_)
    replace h := nm_use h e7
    refine g_iload hz 0 d_C_turnNext_35 rfl ?_
    refine g_if_eq hz (tgt := 44) d_C_turnNext_37 (by decide) (fun c8 => ?_) (fun c8 => ?_)
    · replace h := (if_pos c8).symm.trans h
      refine g_iconst hz d_C_turnNext_44 ki_1 ?_
      exact g_iret hz (rti h hq) d_C_turnNext_45
    · replace h := (if_neg c8).symm.trans h
      refine g_iconst hz d_C_turnNext_40 ki_0 ?_
      refine g_goto hz (tgt := 45) d_C_turnNext_41 (by decide) ?_
      exact g_iret hz (rti h hq) d_C_turnNext_45
  · replace h := (if_neg c5).symm.trans h
    refine g_iconst hz d_C_turnNext_27 ki_m1 ?_
    refine g_goto hz (tgt := 32) d_C_turnNext_28 (by decide) ?_
    refine pf_F_next hz ho3 q_130 d_C_turnNext_32 (fun s9 e10 => ?_)
    replace h := nm_use h e10
    refine g_iload hz 0 d_C_turnNext_35 rfl ?_
    refine g_if_eq hz (tgt := 44) d_C_turnNext_37 (by decide) (fun c11 => ?_) (fun c11 => ?_)
    · replace h := (if_pos c11).symm.trans h
      refine g_iconst hz d_C_turnNext_44 ki_1 ?_
      exact g_iret hz (rti h hq) d_C_turnNext_45
    · replace h := (if_neg c11).symm.trans h
      refine g_iconst hz d_C_turnNext_40 ki_0 ?_
      refine g_goto hz (tgt := 45) d_C_turnNext_41 (by decide) ?_
      exact g_iret hz (rti h hq) d_C_turnNext_45
def f_C_turnNext (s : Mm) (o : Nat) (a1 : Int32) (a2 : Int32) : Option (Int32 × Mm) :=
  bn (f_C_friendAt s o a1) fun x3 s2 =>
  if (s2 x3 3) = a2 then
    k_C_turnNext_19 a2 x3 1 s2
  else
    k_C_turnNext_19 a2 x3 0 s2
set_option maxRecDepth 20000 in
theorem c_C_turnNext (l : Launch) {s : Mm} {o : Nat} {a1 : Int32} {a2 : Int32} {r' : Int32} {s' : Mm} (ho : iC o) (h : f_C_turnNext s o a1 a2 = some (r', s')) : Cm l y_C_turnNext b_C_turnNext 5 (some .int) 1 22 [.ref o, .int a1, .int a2] s s' (some (.int r')) := by
  refine Cm.of (own := "PassedOnAndBetter$Company") (by decide) rfl (fun ad => Nat.le_of_ble_eq_true rfl) ?_
  intro z hz hq
  show G l z b_C_turnNext 5 0 [(0, .ref o), (1, .int a1), (2, .int a2)] [] s
  unfold f_C_turnNext at h
  refine g_aload_n hz 0 d_C_turnNext_0 rfl rfl ?_
  refine g_iload_n hz 1 d_C_turnNext_1 rfl rfl ?_
  refine bn_use h (fun x3 s2 e1 h => ?_)
  have hx3 := rr_C_friendAt ho e1
  refine g_callVr hz (c_C_friendAt l ho e1) (iC_lt ho) (rc_C ho) rfl rfl m_C_friendAt mi_C_friendAt ms_C_friendAt q_369 ⟨Nat.le_of_ble_eq_true rfl, Nat.le_of_ble_eq_true rfl⟩ rfl (st := []) rfl (Nat.le_of_ble_eq_true rfl) d_C_turnNext_2 ?_
  refine g_astore_n hz (L' := [(3, .ref x3), (0, .ref o), (1, .int a1), (2, .int a2)]) d_C_turnNext_5 rfl (by decide) rfl ?_
  refine g_aload_n hz 0 d_C_turnNext_6 rfl rfl ?_
  refine gf_F_next hz hx3 q_130 d_C_turnNext_7 ?_
  refine g_iload_n hz 3 d_C_turnNext_10 rfl rfl ?_
  refine g_icmp_ne hz (tgt := 18) d_C_turnNext_11 (by decide) (fun c4 => ?_) (fun c4 => ?_)
  · replace h := (if_neg c4).symm.trans h
    refine g_iconst hz d_C_turnNext_18 ki_0 ?_
    refine g_sub [3, 0] rfl ?_
    exact w_C_turnNext_19 hz hq a2 x3 0 hx3 _ h
  · replace h := (if_pos c4).symm.trans h
    refine g_iconst hz d_C_turnNext_14 ki_1 ?_
    refine g_goto hz (tgt := 19) d_C_turnNext_15 (by decide) ?_
    refine g_sub [3, 0] rfl ?_
    exact w_C_turnNext_19 hz hq a2 x3 1 hx3 _ h
def f_L_tellNext (s : Mm) (o1 : Nat) (a2 : Int32) : Option (Int32 × Mm) :=
  bn (f_L_digitAt s a2) fun x3 s2 =>
  bn (f_L_digitAt s2 (a2 + 1)) fun x6 s5 =>
  bn (f_C_hasFriend s5 o1 x3) fun x9 s8 =>
  if x9 = 0 then
    some (0, s8)
  else
    bn (f_C_hasFriend s8 o1 x6) fun x13 s12 =>
    if x13 = 0 then
      some (0, s12)
    else
      if x3 = x6 then
        some (0, s12)
      else
        bn (f_C_turnNext s12 o1 x3 x6) fun x18 s17 =>
        some (1, s17)
set_option maxRecDepth 20000 in
theorem c_L_tellNext (l : Launch) {s : Mm} {o1 : Nat} {a2 : Int32} {r' : Int32} {s' : Mm} (ho1 : iC o1) (h : f_L_tellNext s o1 a2 = some (r', s')) : Cm l y_L_tellNext b_L_tellNext 5 (some .boolean) 3 63 [.ref 169, .ref o1, .int a2] s s' (some (.int r')) := by
  refine Cm.of (own := "PassedOnAndBetter$Letters") (by decide) rfl (fun ad => Nat.le_of_ble_eq_true rfl) ?_
  intro z hz hq
  show G l z b_L_tellNext 5 0 [(0, .ref 169), (1, .ref o1), (2, .int a2)] [] s
  unfold f_L_tellNext at h
  refine g_aload_n hz 0 d_L_tellNext_0 rfl rfl ?_
  refine g_iload_n hz 2 d_L_tellNext_1 rfl rfl ?_
  refine bn_use h (fun x3 s2 e1 h => ?_)
  refine g_callVi hz (c_L_digitAt l e1) (by decide) rc_L rfl rfl m_L_digitAt mi_L_digitAt ms_L_digitAt q_413 ⟨Nat.le_of_ble_eq_true rfl, Nat.le_of_ble_eq_true rfl⟩ rfl (st := []) rfl (Nat.le_of_ble_eq_true rfl) d_L_tellNext_2 ?_
  refine g_istore_n hz (L' := [(3, .int x3), (0, .ref 169), (1, .ref o1), (2, .int a2)]) d_L_tellNext_5 rfl (by decide) rfl ?_
  refine g_aload_n hz 1 d_L_tellNext_6 rfl rfl ?_
  refine g_iload_n hz 3 d_L_tellNext_7 rfl rfl ?_
  refine g_iconst hz d_L_tellNext_8 ki_1 ?_
  refine g_iadd hz d_L_tellNext_9 ?_
  refine bn_use h (fun x6 s5 e4 h => ?_)
  refine g_callVi hz (c_L_digitAt l e4) (by decide) rc_L rfl rfl m_L_digitAt mi_L_digitAt ms_L_digitAt q_413 ⟨Nat.le_of_ble_eq_true rfl, Nat.le_of_ble_eq_true rfl⟩ rfl (st := []) rfl (Nat.le_of_ble_eq_true rfl) d_L_tellNext_10 ?_
  refine g_istore hz (L' := [(4, .int x6), (3, .int x3), (0, .ref 169), (1, .ref o1), (2, .int a2)]) d_L_tellNext_13 (by decide) rfl ?_
  refine g_aload_n hz 3 d_L_tellNext_15 rfl rfl ?_
  refine g_iload_n hz 1 d_L_tellNext_16 rfl rfl ?_
  refine bn_use h (fun x9 s8 e7 h => ?_)
  refine g_callVi hz (c_C_hasFriend l ho1 e7) (iC_lt ho1) (rc_C ho1) rfl rfl m_C_hasFriend mi_C_hasFriend ms_C_hasFriend q_450 ⟨Nat.le_of_ble_eq_true rfl, Nat.le_of_ble_eq_true rfl⟩ rfl (st := []) rfl (Nat.le_of_ble_eq_true rfl) d_L_tellNext_17 ?_
  refine g_if_eq hz (tgt := 38) d_L_tellNext_20 (by decide) (fun c10 => ?_) (fun c10 => ?_)
  · replace h := (if_pos c10).symm.trans h
    refine g_iconst hz d_L_tellNext_38 ki_0 ?_
    exact g_zret hz (rti h hq) (Or.inl rfl) d_L_tellNext_39
  · replace h := (if_neg c10).symm.trans h
    refine g_aload_n hz 3 d_L_tellNext_23 rfl rfl ?_
    refine g_iload hz 0 d_L_tellNext_24 rfl ?_
    refine bn_use h (fun x13 s12 e11 h => ?_)
    refine g_callVi hz (c_C_hasFriend l ho1 e11) (iC_lt ho1) (rc_C ho1) rfl rfl m_C_hasFriend mi_C_hasFriend ms_C_hasFriend q_450 ⟨Nat.le_of_ble_eq_true rfl, Nat.le_of_ble_eq_true rfl⟩ rfl (st := []) rfl (Nat.le_of_ble_eq_true rfl) d_L_tellNext_26 ?_
    refine g_if_eq hz (tgt := 38) d_L_tellNext_29 (by decide) (fun c14 => ?_) (fun c14 => ?_)
    · replace h := (if_pos c14).symm.trans h
      refine g_iconst hz d_L_tellNext_38 ki_0 ?_
      exact g_zret hz (rti h hq) (Or.inl rfl) d_L_tellNext_39
    · replace h := (if_neg c14).symm.trans h
      refine g_iload_n hz 1 d_L_tellNext_32 rfl rfl ?_
      refine g_iload hz 0 d_L_tellNext_33 rfl ?_
      refine g_icmp_ne hz (tgt := 40) d_L_tellNext_35 (by decide) (fun c15 => ?_) (fun c15 => ?_)
      · replace h := (if_neg c15).symm.trans h
        refine g_aload_n hz 3 d_L_tellNext_40 rfl rfl ?_
        refine g_iload_n hz 1 d_L_tellNext_41 rfl rfl ?_
        refine g_iload hz 0 d_L_tellNext_42 rfl ?_
        refine bn_use h (fun x18 s17 e16 h => ?_)
        refine g_callVi hz (c_C_turnNext l ho1 e16) (iC_lt ho1) (rc_C ho1) rfl rfl m_C_turnNext mi_C_turnNext ms_C_turnNext q_454 ⟨Nat.le_of_ble_eq_true rfl, Nat.le_of_ble_eq_true rfl⟩ rfl (st := []) rfl (Nat.le_of_ble_eq_true rfl) d_L_tellNext_44 ?_
        refine g_pop hz d_L_tellNext_47 rfl ?_
        refine g_iconst hz d_L_tellNext_48 ki_1 ?_
        exact g_zret hz (rti h hq) (Or.inr rfl) d_L_tellNext_49
      · replace h := (if_pos c15).symm.trans h
        refine g_iconst hz d_L_tellNext_38 ki_0 ?_
        exact g_zret hz (rti h hq) (Or.inl rfl) d_L_tellNext_39
