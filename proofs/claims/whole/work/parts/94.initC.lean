/-! Company -/
theorem vat_ext {D : va_G} {cl : List vw_C} {a n : Nat} {cA : ClassId} {f g : Nat → Option Nat} {H : Heap} (h : va_at D cl (a, .inl (cA, n, .inr (.inr (.inr (.inr f))))) H) (e : ∀ k, k < n → f k = g k) : va_at D cl (a, .inl (cA, n, .inr (.inr (.inr (.inr g))))) H := by
  have h : H[a]? = some (arrV cA n (fun j => va_rf (f j))) := h
  show H[a]? = some (arrV cA n (fun j => va_rf (g j)))
  rw [h]
  unfold arrV
  congr 2
  apply congrArg
  funext j
  show va_rf (f j.val) = va_rf (g j.val)
  rw [e j.val j.isLt]
theorem vaP_2 {D : va_G} {cl : List vw_C} {x0 e1 e2 f1 f2 : Nat × va_E} {t : va_W} {H : Heap} (h : va_P D cl (x0 :: e1 :: e2 :: t) H) (h1 : va_at D cl e1 H → va_at D cl f1 H) (h2 : va_at D cl e2 H → va_at D cl f2 H) : va_P D cl (x0 :: f1 :: f2 :: t) H
  | 0, q, hk => h 0 q hk
  | 1, q, hk => by cases hk; exact h1 (h 1 _ rfl)
  | 2, q, hk => by cases hk; exact h2 (h 2 _ rfl)
  | k + 3, q, hk => h (k + 3) q hk
theorem j_kn {l : Launch} {z : Zj} {cc : ByteArray} {nL pc k n k' n' : Nat} {L : List (Nat × Value)} {st : List Value} {ws : va_W} (hk : k = k') (hn : n = n') (kk : J l z cc nL pc L st ws k' n') : J l z cc nL pc L st ws k n := hk ▸ hn ▸ kk
theorem list6 : ∀ l : List Nat, l.length = 6 → ∃ a b c d e f, l = [a, b, c, d, e, f]
  | [a, b, c, d, e, f], _ => ⟨a, b, c, d, e, f, rfl⟩
theorem list4 : ∀ l : List Nat, l.length = 4 → ∃ a b c d, l = [a, b, c, d]
  | [a, b, c, d], _ => ⟨a, b, c, d, rfl⟩
def cB (cy : Cy) (α : Nat → Nat) : va_W := [(α 0, .inr (0, [.ref (α 1), .ref (α 2), .ref (α 9), .ref (α 14), .int 0, .int 0, .int 0])), (α 1, .inl (cy.2.1, 6, .inr (.inr (.inr (.inr (fun k => some (α (3 + k)))))))), (α 2, .inl (cy.2.2.1, 4, .inr (.inr (.inr (.inr (fun k => some (α (10 + k)))))))), (α 9, frE), (α 14, giE), (α 3, frE), (α 4, frE), (α 5, frE), (α 6, frE), (α 7, frE), (α 8, frE), (α 10, giE), (α 11, giE), (α 12, giE), (α 13, giE)]
def cP (cy : Cy) (h0 a1 : Nat) (f : Nat → Option Nat) (a2 : Nat) (g : Nat → Option Nat) (nf ng : Nat) : va_W := [(h0, .inr (0, [.ref a1, .ref a2, .ref nf, .ref ng, .int 0, .int 0, .int 0])), (a1, .inl (cy.2.1, 6, .inr (.inr (.inr (.inr f))))), (a2, .inl (cy.2.2.1, 4, .inr (.inr (.inr (.inr g))))), (nf, frE), (ng, giE)]
def fL (acc : List Nat) : va_W := acc.map (fun q => (q, frE))
def gL (acc : List Nat) : va_W := acc.map (fun q => (q, giE))
theorem up_acc {f : Nat → Option Nat} {acc : List Nat} {i q : Nat} (hl : acc.length = i) (h : ∀ k, k < i → f k = acc[k]?) : ∀ k, k < i + 1 → va_up f i (some q) k = (acc ++ [q])[k]? := by
  intro k hk
  by_cases e : k = i
  · subst e
    rw [va_up_self, ← hl, List.getElem?_append_right (Nat.le_refl _), Nat.sub_self]; rfl
  · rw [va_up_ne _ _ e, List.getElem?_append_left (by omega)]
    exact h k (by omega)
theorem c_C_l1 (l : Launch) {z : Zj} {cy : Cy} (hz : JOk z cy b_C_init 2 "PassedOnAndBetter$Company" 2 14 103 43) (h0 a1 a2 nf ng : Nat) (g : Nat → Option Nat) (kk : ∀ (f : Nat → Option Nat) (acc : List Nat), acc.length = 6 → (∀ k, k < 6 → f k = acc[k]?) → J l z b_C_init 2 73 [(1, .int (nI 6)), (0, .ref h0)] [] (cP cy h0 a1 f a2 g nf ng ++ fL acc) 10 79) : ∀ (d i : Nat) (f : Nat → Option Nat) (acc : List Nat), i + d = 6 → acc.length = i → (∀ k, k < i → f k = acc[k]?) → J l z b_C_init 2 45 [(1, .int (nI i)), (0, .ref h0)] [] (cP cy h0 a1 f a2 g nf ng ++ fL acc) (4 + i) (25 + 9 * i) := by
  intro d
  induction d with
  | zero =>
    intro i f acc hi hl hf
    have hi : i = 6 := by omega
    subst hi
    refine j_iload_n hz 0 d_C_init_45 rfl rfl ?_
    refine j_aload_n hz 1 d_C_init_46 rfl rfl ?_
    refine j_get hz (q0 := 0) (f := 0) (N := 7) (ci := 0) (C := R_C) (T := T_C) i_C rfl rfl rfl (by decide) rfl (mG 203 (by decide +kernel) (by decide +kernel)) d_C_init_47 ?_
    refine j_alen hz (v := nI 6) 1 1 rfl rfl rfl d_C_init_50 ?_
    exact j_ge_t hz (tgt := 73) d_C_init_51 rfl (nI_le (Nat.le_refl _) (by omega)) (kk f acc hl hf)
  | succ d ih =>
    intro i f acc hi hl hf
    refine j_iload_n hz 0 d_C_init_45 rfl rfl ?_
    refine j_aload_n hz 1 d_C_init_46 rfl rfl ?_
    refine j_get hz (q0 := 0) (f := 0) (N := 7) (ci := 0) (C := R_C) (T := T_C) i_C rfl rfl rfl (by decide) rfl (mG 203 (by decide +kernel) (by decide +kernel)) d_C_init_47 ?_
    refine j_alen hz (v := nI 6) 1 1 rfl rfl rfl d_C_init_50 ?_
    refine j_ge_f hz (tgt := 73) d_C_init_51 rfl (nI_ge (by omega) (by omega)) ?_
    refine j_aload_n hz 1 d_C_init_54 rfl rfl ?_
    refine j_get hz (q0 := 0) (f := 0) (N := 7) (ci := 0) (C := R_C) (T := T_C) i_C rfl rfl rfl (by decide) rfl (mG 203 (by decide +kernel) (by decide +kernel)) d_C_init_55 ?_
    refine j_iload_n hz 0 d_C_init_58 rfl rfl ?_
    refine j_new hz (ci := 1) (N := 9) (C := R_F) (T := T_F) (fs := [.int 0, .int 0, .int 0, .int 0, .int 0, .int 0, .int 0, .int 0, .int 0]) i_F t_F_ok (mG 109 (by decide +kernel) (by decide +kernel)) (mG 113 (by decide +kernel) (by decide +kernel)) (mG 85 (by decide +kernel) (by decide +kernel)) rfl df_F (by omega) (by omega) d_C_init_59 (fun q => ?_)
    refine j_dup hz d_C_init_62 ?_
    refine j_init hz (as := []) (st := [.ref q, .int (nI i), .ref a1]) (na := 0) (c_F_init l q) rfl m_F_init mi_F_init (mG 114 (by decide +kernel) (by decide +kernel)) ⟨Nat.le_of_ble_eq_true rfl, Nat.le_of_ble_eq_true rfl⟩ (by omega) (by omega) rfl rfl (Nat.le_of_ble_eq_true rfl) d_C_init_63 (fun w hw => ?_)
    subst hw
    refine j_ast hz 1 1 (cP cy h0 a1 f a2 g nf ng ++ fL acc).length 1 (ws' := cP cy h0 a1 (va_up f i (some q)) a2 g nf ng ++ fL (acc ++ [q])) rfl rfl (by rw [List.getElem?_append_right (Nat.le_refl _), Nat.sub_self]; rfl) rfl (vp_in_nI (by omega) (by omega)) (by rw [nI_clamp (by omega)]; unfold fL; rw [List.map_append, ← List.append_assoc]; rfl) d_C_init_66 ?_
    refine j_iinc hz (L' := [(1, .int (nI (i + 1))), (0, .ref h0)]) 0 d_C_init_67 rfl (by rw [show Int32.ofInt 1 = 1 by decide]; exact nI_1 i) (by decide) rfl ?_
    refine j_goto hz (tgt := 45) d_C_init_70 rfl ?_
    refine j_kn (k' := 4 + (i + 1)) (n' := 25 + 9 * (i + 1)) (by omega) (by omega) ?_
    exact ih (i + 1) _ _ (by omega) (by rw [List.length_append, hl]; rfl) (up_acc hl hf)
theorem c_C_l2 (l : Launch) {z : Zj} {cy : Cy} (hz : JOk z cy b_C_init 2 "PassedOnAndBetter$Company" 2 14 103 43) (h0 a1 a2 nf ng : Nat) (f : Nat → Option Nat) (fa : List Nat) (kk : ∀ (g : Nat → Option Nat) (acc : List Nat), acc.length = 4 → (∀ k, k < 4 → g k = acc[k]?) → J l z b_C_init 2 103 [(1, .int (nI 4)), (0, .ref h0)] [] (cP cy h0 a1 f a2 g nf ng ++ fL fa ++ gL acc) 14 103) : ∀ (d i : Nat) (g : Nat → Option Nat) (acc : List Nat), i + d = 4 → acc.length = i → (∀ k, k < i → g k = acc[k]?) → J l z b_C_init 2 75 [(1, .int (nI i)), (0, .ref h0)] [] (cP cy h0 a1 f a2 g nf ng ++ fL fa ++ gL acc) (10 + i) (79 + 6 * i) := by
  intro d
  induction d with
  | zero =>
    intro i g acc hi hl hf
    have hi : i = 4 := by omega
    subst hi
    refine j_iload_n hz 0 d_C_init_75 rfl rfl ?_
    refine j_aload_n hz 1 d_C_init_76 rfl rfl ?_
    refine j_get hz (q0 := 0) (f := 1) (N := 7) (ci := 0) (C := R_C) (T := T_C) i_C rfl rfl rfl (by decide) rfl (mG 204 (by decide +kernel) (by decide +kernel)) d_C_init_77 ?_
    refine j_alen hz (v := nI 4) 2 2 rfl rfl rfl d_C_init_80 ?_
    exact j_ge_t hz (tgt := 103) d_C_init_81 rfl (nI_le (Nat.le_refl _) (by omega)) (kk g acc hl hf)
  | succ d ih =>
    intro i g acc hi hl hf
    refine j_iload_n hz 0 d_C_init_75 rfl rfl ?_
    refine j_aload_n hz 1 d_C_init_76 rfl rfl ?_
    refine j_get hz (q0 := 0) (f := 1) (N := 7) (ci := 0) (C := R_C) (T := T_C) i_C rfl rfl rfl (by decide) rfl (mG 204 (by decide +kernel) (by decide +kernel)) d_C_init_77 ?_
    refine j_alen hz (v := nI 4) 2 2 rfl rfl rfl d_C_init_80 ?_
    refine j_ge_f hz (tgt := 103) d_C_init_81 rfl (nI_ge (by omega) (by omega)) ?_
    refine j_aload_n hz 1 d_C_init_84 rfl rfl ?_
    refine j_get hz (q0 := 0) (f := 1) (N := 7) (ci := 0) (C := R_C) (T := T_C) i_C rfl rfl rfl (by decide) rfl (mG 204 (by decide +kernel) (by decide +kernel)) d_C_init_85 ?_
    refine j_iload_n hz 0 d_C_init_88 rfl rfl ?_
    refine j_new hz (ci := 2) (N := 6) (C := R_G) (T := T_G) (fs := [.int 0, .int 0, .int 0, .int 0, .int 0, .int 0]) i_G t_G_ok (mG 111 (by decide +kernel) (by decide +kernel)) (mG 165 (by decide +kernel) (by decide +kernel)) (mG 86 (by decide +kernel) (by decide +kernel)) rfl df_G (by omega) (by omega) d_C_init_89 (fun q => ?_)
    refine j_dup hz d_C_init_92 ?_
    refine j_init hz (as := []) (st := [.ref q, .int (nI i), .ref a2]) (na := 0) (c_G_init l q) rfl m_G_init mi_G_init (mG 166 (by decide +kernel) (by decide +kernel)) ⟨Nat.le_of_ble_eq_true rfl, Nat.le_of_ble_eq_true rfl⟩ (by omega) (by omega) rfl rfl (Nat.le_of_ble_eq_true rfl) d_C_init_93 (fun w hw => ?_)
    subst hw
    refine j_ast hz 2 2 (cP cy h0 a1 f a2 g nf ng ++ fL fa ++ gL acc).length 2 (ws' := cP cy h0 a1 f a2 (va_up g i (some q)) nf ng ++ fL fa ++ gL (acc ++ [q])) rfl rfl (by rw [List.getElem?_append_right (Nat.le_refl _), Nat.sub_self]; rfl) rfl (vp_in_nI (by omega) (by omega)) (by rw [nI_clamp (by omega)]; unfold gL; rw [List.map_append, ← List.append_assoc]; rfl) d_C_init_96 ?_
    refine j_iinc hz (L' := [(1, .int (nI (i + 1))), (0, .ref h0)]) 0 d_C_init_97 rfl (by rw [show Int32.ofInt 1 = 1 by decide]; exact nI_1 i) (by decide) rfl ?_
    refine j_goto hz (tgt := 75) d_C_init_100 rfl ?_
    refine j_kn (k' := 10 + (i + 1)) (n' := 79 + 6 * (i + 1)) (by omega) (by omega) ?_
    exact ih (i + 1) _ _ (by omega) (by rw [List.length_append, hl]; rfl) (up_acc hl hf)
theorem c_C_init (l : Launch) (h0 : Nat) : CI l y_C_init b_C_init 2 2 14 103 43 [.ref h0] [(h0, .inr (0, [.null, .null, .null, .null, .int 0, .int 0, .int 0]))] (fun cy w => ∃ α, α 0 = h0 ∧ w = cB cy α) := by
  refine CI.of (own := "PassedOnAndBetter$Company") (by decide) rfl (Nat.le_of_ble_eq_true rfl) ?_
  intro z cy hz hr hin
  show J l z b_C_init 2 0 [(0, .ref h0)] [] [(h0, .inr (0, [.null, .null, .null, .null, .int 0, .int 0, .int 0]))] 0 0
  refine j_aload_n hz 0 d_C_init_0 rfl rfl ?_
  refine j_obj hz (mG 108 (by decide +kernel) (by decide +kernel)) (mG 101 (by decide +kernel) (by decide +kernel)) (mG 102 (by decide +kernel) (by decide +kernel)) (by decide) (by decide) rfl d_C_init_1 ?_
  refine j_aload_n hz 0 d_C_init_4 rfl rfl ?_
  refine j_bipush hz (v := 6) d_C_init_5 (by decide) ?_
  refine j_newr hz (N := 6) (t0 := 1) (C := R_F) rfl (fun _ _ h => h.2.1) (mG 109 (by decide +kernel) (by decide +kernel)) (by decide) (by decide) (by decide) (Nat.le_of_ble_eq_true rfl) (Nat.le_of_ble_eq_true rfl) d_C_init_7 (fun a1 => ?_)
  refine j_putF hz (hin rfl) (q0 := 0) (f := 0) (N := 7) (ci := 0) (T := T_C) (ws' := [(h0, .inr (0, [.ref a1, .null, .null, .null, .int 0, .int 0, .int 0]))] ++ [(a1, .inl (cy.2.1, 6, .inr (.inr (.inr (.inr (fun _ => none))))))]) i_C t_C_ok n_C rfl rfl (by decide) rfl rfl (ty := t_C 0) (t_C_ok 0 (by decide)) rfl rfl (Nat.le_of_ble_eq_true rfl) (mG 203 (by decide +kernel) (by decide +kernel)) rfl d_C_init_10 ?_
  refine j_aload_n hz 0 d_C_init_13 rfl rfl ?_
  refine j_iconst hz (v := 4) d_C_init_14 (by decide) ?_
  refine j_newr hz (N := 4) (t0 := 2) (C := R_G) rfl (fun _ _ h => h.2.2.1) (mG 111 (by decide +kernel) (by decide +kernel)) (by decide) (by decide) (by decide) (Nat.le_of_ble_eq_true rfl) (Nat.le_of_ble_eq_true rfl) d_C_init_15 (fun a2 => ?_)
  refine j_putF hz (hin rfl) (q0 := 0) (f := 1) (N := 7) (ci := 0) (T := T_C) (ws' := [(h0, .inr (0, [.ref a1, .ref a2, .null, .null, .int 0, .int 0, .int 0]))] ++ [(a1, .inl (cy.2.1, 6, .inr (.inr (.inr (.inr (fun _ => none))))))] ++ [(a2, .inl (cy.2.2.1, 4, .inr (.inr (.inr (.inr (fun _ => none))))))]) i_C t_C_ok n_C rfl rfl (by decide) rfl rfl (ty := t_C 1) (t_C_ok 1 (by decide)) rfl rfl (Nat.le_of_ble_eq_true rfl) (mG 204 (by decide +kernel) (by decide +kernel)) rfl d_C_init_18 ?_
  refine j_aload_n hz 0 d_C_init_21 rfl rfl ?_
  refine j_new hz (ci := 1) (N := 9) (C := R_F) (T := T_F) (fs := [.int 0, .int 0, .int 0, .int 0, .int 0, .int 0, .int 0, .int 0, .int 0]) i_F t_F_ok (mG 109 (by decide +kernel) (by decide +kernel)) (mG 113 (by decide +kernel) (by decide +kernel)) (mG 85 (by decide +kernel) (by decide +kernel)) rfl df_F (Nat.le_of_ble_eq_true rfl) (Nat.le_of_ble_eq_true rfl) d_C_init_22 (fun nf => ?_)
  refine j_dup hz d_C_init_25 ?_
  refine j_init hz (as := []) (st := [.ref nf, .ref h0]) (na := 0) (c_F_init l nf) rfl m_F_init mi_F_init (mG 114 (by decide +kernel) (by decide +kernel)) ⟨Nat.le_of_ble_eq_true rfl, Nat.le_of_ble_eq_true rfl⟩ (Nat.le_of_ble_eq_true rfl) (Nat.le_of_ble_eq_true rfl) rfl rfl (Nat.le_of_ble_eq_true rfl) d_C_init_26 (fun w hw => ?_)
  subst hw
  refine j_putF hz (hin rfl) (q0 := 0) (f := 2) (N := 7) (ci := 0) (T := T_C) (ws' := [(h0, .inr (0, [.ref a1, .ref a2, .ref nf, .null, .int 0, .int 0, .int 0]))] ++ [(a1, .inl (cy.2.1, 6, .inr (.inr (.inr (.inr (fun _ => none))))))] ++ [(a2, .inl (cy.2.2.1, 4, .inr (.inr (.inr (.inr (fun _ => none))))))] ++ [(nf, frE)]) i_C t_C_ok n_C rfl rfl (by decide) rfl rfl (ty := t_C 2) (t_C_ok 2 (by decide)) rfl rfl (Nat.le_of_ble_eq_true rfl) (mG 205 (by decide +kernel) (by decide +kernel)) rfl d_C_init_29 ?_
  refine j_aload_n hz 0 d_C_init_32 rfl rfl ?_
  refine j_new hz (ci := 2) (N := 6) (C := R_G) (T := T_G) (fs := [.int 0, .int 0, .int 0, .int 0, .int 0, .int 0]) i_G t_G_ok (mG 111 (by decide +kernel) (by decide +kernel)) (mG 165 (by decide +kernel) (by decide +kernel)) (mG 86 (by decide +kernel) (by decide +kernel)) rfl df_G (Nat.le_of_ble_eq_true rfl) (Nat.le_of_ble_eq_true rfl) d_C_init_33 (fun ng => ?_)
  refine j_dup hz d_C_init_36 ?_
  refine j_init hz (as := []) (st := [.ref ng, .ref h0]) (na := 0) (c_G_init l ng) rfl m_G_init mi_G_init (mG 166 (by decide +kernel) (by decide +kernel)) ⟨Nat.le_of_ble_eq_true rfl, Nat.le_of_ble_eq_true rfl⟩ (Nat.le_of_ble_eq_true rfl) (Nat.le_of_ble_eq_true rfl) rfl rfl (Nat.le_of_ble_eq_true rfl) d_C_init_37 (fun w hw => ?_)
  subst hw
  refine j_putF hz (hin rfl) (q0 := 0) (f := 3) (N := 7) (ci := 0) (T := T_C) (ws' := [(h0, .inr (0, [.ref a1, .ref a2, .ref nf, .ref ng, .int 0, .int 0, .int 0]))] ++ [(a1, .inl (cy.2.1, 6, .inr (.inr (.inr (.inr (fun _ => none))))))] ++ [(a2, .inl (cy.2.2.1, 4, .inr (.inr (.inr (.inr (fun _ => none))))))] ++ [(nf, frE)] ++ [(ng, giE)]) i_C t_C_ok n_C rfl rfl (by decide) rfl rfl (ty := t_C 3) (t_C_ok 3 (by decide)) rfl rfl (Nat.le_of_ble_eq_true rfl) (mG 206 (by decide +kernel) (by decide +kernel)) rfl d_C_init_40 ?_
  refine j_iconst hz (v := 0) d_C_init_43 (by decide) ?_
  refine j_istore_n hz (L' := [(1, .int (nI 0)), (0, .ref h0)]) d_C_init_44 rfl (by decide) rfl ?_
  refine j_ws (cP cy h0 a1 (fun _ => none) a2 (fun _ => none) nf ng ++ fL []) rfl ?_
  refine c_C_l1 l hz h0 a1 a2 nf ng _ (fun f fa h6 hf => ?_) 6 0 _ [] rfl rfl (fun k hk => absurd hk (by omega))
  refine j_iconst hz (v := 0) d_C_init_73 (by decide) ?_
  refine j_istore_n hz (L' := [(1, .int (nI 0)), (0, .ref h0)]) d_C_init_74 rfl (by decide) rfl ?_
  refine j_ws (cP cy h0 a1 f a2 (fun _ => none) nf ng ++ fL fa ++ gL []) (List.append_nil _).symm ?_
  refine c_C_l2 l hz h0 a1 a2 nf ng f fa (fun g ga h4 hg => ?_) 4 0 _ [] rfl rfl (fun k hk => absurd hk (by omega))
  refine j_aload_n hz 1 d_C_init_103 rfl rfl ?_
  refine j_iconst hz (v := 0) d_C_init_104 (by decide) ?_
  refine j_put hz (q0 := 0) (f := 4) (N := 7) (ci := 0) (C := R_C) (T := T_C) (ws' := cP cy h0 a1 f a2 g nf ng ++ fL fa ++ gL ga) i_C t_C_ok n_C rfl rfl (by decide) rfl rfl (ty := t_C 4) (t_C_ok 4 (by decide)) rfl rfl (Nat.le_of_ble_eq_true rfl) (mG 207 (by decide +kernel) (by decide +kernel)) rfl d_C_init_105 ?_
  refine j_aload_n hz 1 d_C_init_108 rfl rfl ?_
  refine j_iconst hz (v := 0) d_C_init_109 (by decide) ?_
  refine j_put hz (q0 := 0) (f := 5) (N := 7) (ci := 0) (C := R_C) (T := T_C) (ws' := cP cy h0 a1 f a2 g nf ng ++ fL fa ++ gL ga) i_C t_C_ok n_C rfl rfl (by decide) rfl rfl (ty := t_C 5) (t_C_ok 5 (by decide)) rfl rfl (Nat.le_of_ble_eq_true rfl) (mG 210 (by decide +kernel) (by decide +kernel)) rfl d_C_init_110 ?_
  refine j_aload_n hz 1 d_C_init_113 rfl rfl ?_
  refine j_iconst hz (v := 0) d_C_init_114 (by decide) ?_
  refine j_put hz (q0 := 0) (f := 6) (N := 7) (ci := 0) (C := R_C) (T := T_C) (ws' := cP cy h0 a1 f a2 g nf ng ++ fL fa ++ gL ga) i_C t_C_ok n_C rfl rfl (by decide) rfl rfl (ty := t_C 6) (t_C_ok 6 (by decide)) rfl rfl (Nat.le_of_ble_eq_true rfl) (mG 213 (by decide +kernel) (by decide +kernel)) rfl d_C_init_115 ?_
  refine j_vret hz hr (fun D A H hP hD => ?_) d_C_init_118
  obtain ⟨x0, x1, x2, x3, x4, x5, rfl⟩ := list6 fa h6
  obtain ⟨y0, y1, y2, y3, rfl⟩ := list4 ga h4
  refine ⟨cB cy (fun i => [h0, a1, a2, x0, x1, x2, x3, x4, x5, nf, y0, y1, y2, y3, ng].getD i 0), ⟨_, rfl, rfl⟩, ?_, ?_⟩
  · refine vaP_2 hP (fun h => vat_ext h (fun k hk => ?_)) (fun h => vat_ext h (fun k hk => ?_))
    · rw [hf k hk]
      match k, hk with
      | 0, _ => rfl
      | 1, _ => rfl
      | 2, _ => rfl
      | 3, _ => rfl
      | 4, _ => rfl
      | 5, _ => rfl
    · rw [hg k hk]
      match k, hk with
      | 0, _ => rfl
      | 1, _ => rfl
      | 2, _ => rfl
      | 3, _ => rfl
  · exact (hD.set (p := 1) rfl (e := .inl (cy.2.1, 6, .inr (.inr (.inr (.inr (fun k => some ([h0, a1, a2, x0, x1, x2, x3, x4, x5, nf, y0, y1, y2, y3, ng].getD (3 + k) 0)))))))).set (p := 2) rfl (e := .inl (cy.2.2.1, 4, .inr (.inr (.inr (.inr (fun k => some ([h0, a1, a2, x0, x1, x2, x3, x4, x5, nf, y0, y1, y2, y3, ng].getD (10 + k) 0)))))))
