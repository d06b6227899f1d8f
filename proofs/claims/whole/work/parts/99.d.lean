/-! the law: its loop -/
theorem law_sw {l : Launch} {z : Zt} {σ : Mm} {L0 : Nat} {xs : Nat → Int32} {i : Nat} {S : SV} (hz : ZOk z code 4 "PassedOnAndBetterLaw" 11 422) (hX : SX z L0 xs) (hi : i + 6 ≤ L0) (h1 : XI σ S) (h2 : RI σ S) (kk : ∀ σ' S', XI σ' S' → RI σ' S' → G l z code 4 1481 (LcL i) [] σ') : G l z code 4 33 (LcL i) [.int (xs i &&& 63)] σ := by
  obtain ⟨n, hn, e⟩ := and63 (xs i)
  by_cases c : n < 43
  · match n, c with
    | 0, _ => exact g_tin hz (x0 := nI 0) (off := 187) (tgt := 220) d_W_33 e (by decide) (by decide) rfl rfl (law_0 hz hX hi h1 h2 kk)
    | 1, _ => exact g_tin hz (x0 := nI 1) (off := 210) (tgt := 243) d_W_33 e (by decide) (by decide) rfl rfl (law_1 hz hX hi h1 h2 kk)
    | 2, _ => exact g_tin hz (x0 := nI 2) (off := 223) (tgt := 256) d_W_33 e (by decide) (by decide) rfl rfl (law_2 hz hX hi h1 h2 kk)
    | 3, _ => exact g_tin hz (x0 := nI 3) (off := 256) (tgt := 289) d_W_33 e (by decide) (by decide) rfl rfl (law_3 hz hX hi h1 h2 kk)
    | 4, _ => exact g_tin hz (x0 := nI 4) (off := 289) (tgt := 322) d_W_33 e (by decide) (by decide) rfl rfl (law_4 hz hX hi h1 h2 kk)
    | 5, _ => exact g_tin hz (x0 := nI 5) (off := 332) (tgt := 365) d_W_33 e (by decide) (by decide) rfl rfl (law_5 hz hX hi h1 h2 kk)
    | 6, _ => exact g_tin hz (x0 := nI 6) (off := 375) (tgt := 408) d_W_33 e (by decide) (by decide) rfl rfl (law_6 hz hX hi h1 h2 kk)
    | 7, _ => exact g_tin hz (x0 := nI 7) (off := 408) (tgt := 441) d_W_33 e (by decide) (by decide) rfl rfl (law_7 hz hX hi h1 h2 kk)
    | 8, _ => exact g_tin hz (x0 := nI 8) (off := 441) (tgt := 474) d_W_33 e (by decide) (by decide) rfl rfl (law_8 hz hX hi h1 h2 kk)
    | 9, _ => exact g_tin hz (x0 := nI 9) (off := 474) (tgt := 507) d_W_33 e (by decide) (by decide) rfl rfl (law_9 hz hX hi h1 h2 kk)
    | 10, _ => exact g_tin hz (x0 := nI 10) (off := 497) (tgt := 530) d_W_33 e (by decide) (by decide) rfl rfl (law_10 hz hX hi h1 h2 kk)
    | 11, _ => exact g_tin hz (x0 := nI 11) (off := 510) (tgt := 543) d_W_33 e (by decide) (by decide) rfl rfl (law_11 hz hX hi h1 h2 kk)
    | 12, _ => exact g_tin hz (x0 := nI 12) (off := 553) (tgt := 586) d_W_33 e (by decide) (by decide) rfl rfl (law_12 hz hX hi h1 h2 kk)
    | 13, _ => exact g_tin hz (x0 := nI 13) (off := 586) (tgt := 619) d_W_33 e (by decide) (by decide) rfl rfl (law_13 hz hX hi h1 h2 kk)
    | 14, _ => exact g_tin hz (x0 := nI 14) (off := 619) (tgt := 652) d_W_33 e (by decide) (by decide) rfl rfl (law_14 hz hX hi h1 h2 kk)
    | 15, _ => exact g_tin hz (x0 := nI 15) (off := 652) (tgt := 685) d_W_33 e (by decide) (by decide) rfl rfl (law_15 hz hX hi h1 h2 kk)
    | 16, _ => exact g_tin hz (x0 := nI 16) (off := 665) (tgt := 698) d_W_33 e (by decide) (by decide) rfl rfl (law_16 hz hX hi h1 h2 kk)
    | 17, _ => exact g_tin hz (x0 := nI 17) (off := 708) (tgt := 741) d_W_33 e (by decide) (by decide) rfl rfl (law_17 hz hX hi h1 h2 kk)
    | 18, _ => exact g_tin hz (x0 := nI 18) (off := 751) (tgt := 784) d_W_33 e (by decide) (by decide) rfl rfl (law_18 hz hX hi h1 h2 kk)
    | 19, _ => exact g_tin hz (x0 := nI 19) (off := 794) (tgt := 827) d_W_33 e (by decide) (by decide) rfl rfl (law_19 hz hX hi h1 h2 kk)
    | 20, _ => exact g_tin hz (x0 := nI 20) (off := 837) (tgt := 870) d_W_33 e (by decide) (by decide) rfl rfl (law_20 hz hX hi h1 h2 kk)
    | 21, _ => exact g_tin hz (x0 := nI 21) (off := 860) (tgt := 893) d_W_33 e (by decide) (by decide) rfl rfl (law_21 hz hX hi h1 h2 kk)
    | 22, _ => exact g_tin hz (x0 := nI 22) (off := 893) (tgt := 926) d_W_33 e (by decide) (by decide) rfl rfl (law_22 hz hX hi h1 h2 kk)
    | 23, _ => exact g_tin hz (x0 := nI 23) (off := 906) (tgt := 939) d_W_33 e (by decide) (by decide) rfl rfl (law_23 hz hX hi h1 h2 kk)
    | 24, _ => exact g_tin hz (x0 := nI 24) (off := 939) (tgt := 972) d_W_33 e (by decide) (by decide) rfl rfl (law_24 hz hX hi h1 h2 kk)
    | 25, _ => exact g_tin hz (x0 := nI 25) (off := 972) (tgt := 1005) d_W_33 e (by decide) (by decide) rfl rfl (law_25 hz hX hi h1 h2 kk)
    | 26, _ => exact g_tin hz (x0 := nI 26) (off := 1005) (tgt := 1038) d_W_33 e (by decide) (by decide) rfl rfl (law_26 hz hX hi h1 h2 kk)
    | 27, _ => exact g_tin hz (x0 := nI 27) (off := 1048) (tgt := 1081) d_W_33 e (by decide) (by decide) rfl rfl (law_27 hz hX hi h1 h2 kk)
    | 28, _ => exact g_tin hz (x0 := nI 28) (off := 1112) (tgt := 1145) d_W_33 e (by decide) (by decide) rfl rfl (law_28 hz hX hi h1 h2 kk)
    | 29, _ => exact g_tin hz (x0 := nI 29) (off := 1145) (tgt := 1178) d_W_33 e (by decide) (by decide) rfl rfl (law_29 hz hX hi h1 h2 kk)
    | 30, _ => exact g_tin hz (x0 := nI 30) (off := 1168) (tgt := 1201) d_W_33 e (by decide) (by decide) rfl rfl (law_30 hz hX hi h1 h2 kk)
    | 31, _ => exact g_tin hz (x0 := nI 31) (off := 1191) (tgt := 1224) d_W_33 e (by decide) (by decide) rfl rfl (law_31 hz hX hi h1 h2 kk)
    | 32, _ => exact g_tin hz (x0 := nI 32) (off := 1214) (tgt := 1247) d_W_33 e (by decide) (by decide) rfl rfl (law_32 hz hX hi h1 h2 kk)
    | 33, _ => exact g_tin hz (x0 := nI 33) (off := 1238) (tgt := 1271) d_W_33 e (by decide) (by decide) rfl rfl (law_33 hz hX hi h1 h2 kk)
    | 34, _ => exact g_tin hz (x0 := nI 34) (off := 1271) (tgt := 1304) d_W_33 e (by decide) (by decide) rfl rfl (law_34 hz hX hi h1 h2 kk)
    | 35, _ => exact g_tin hz (x0 := nI 35) (off := 1294) (tgt := 1327) d_W_33 e (by decide) (by decide) rfl rfl (law_35 hz hX hi h1 h2 kk)
    | 36, _ => exact g_tin hz (x0 := nI 36) (off := 1307) (tgt := 1340) d_W_33 e (by decide) (by decide) rfl rfl (law_36 hz hX hi h1 h2 kk)
    | 37, _ => exact g_tin hz (x0 := nI 37) (off := 1330) (tgt := 1363) d_W_33 e (by decide) (by decide) rfl rfl (law_37 hz hX hi h1 h2 kk)
    | 38, _ => exact g_tin hz (x0 := nI 38) (off := 1343) (tgt := 1376) d_W_33 e (by decide) (by decide) rfl rfl (law_38 hz hX hi h1 h2 kk)
    | 39, _ => exact g_tin hz (x0 := nI 39) (off := 1356) (tgt := 1389) d_W_33 e (by decide) (by decide) rfl rfl (law_39 hz hX hi h1 h2 kk)
    | 40, _ => exact g_tin hz (x0 := nI 40) (off := 1399) (tgt := 1432) d_W_33 e (by decide) (by decide) rfl rfl (law_40 hz hX hi h1 h2 kk)
    | 41, _ => exact g_tin hz (x0 := nI 41) (off := 1412) (tgt := 1445) d_W_33 e (by decide) (by decide) rfl rfl (law_41 hz hX hi h1 h2 kk)
    | 42, _ => exact g_tin hz (x0 := nI 42) (off := 1425) (tgt := 1458) d_W_33 e (by decide) (by decide) rfl rfl (law_42 hz hX hi h1 h2 kk)
    | n + 43, c => exact absurd c (by omega)
  · refine g_tout hz (tgt := 1481) d_W_33 (Or.inr ?_) rfl (kk σ S h1 h2)
    rw [e, nI_toInt (by omega)]
    omega
theorem law_loop {l : Launch} {z : Zt} {L0 : Nat} {xs : Nat → Int32} (hz : ZOk z code 4 "PassedOnAndBetterLaw" 11 422) (hX : SX z L0 xs) (hend : ∀ (L : List (Nat × Value)) (σ : Mm), G l z code 4 1488 L [.int 1] σ) : ∀ (d i : Nat) (σ : Mm) (S : SV), L0 + 6 - i < d → i ≤ L0 + 6 → XI σ S → RI σ S → G l z code 4 18 (LcL i) [] σ := by
  have h3072 := hX.1
  intro d
  induction d with
  | zero => intro i σ S h; omega
  | succ d ih =>
    intro i σ S hd hi h1 h2
    refine g_iload_n hz 0 d_W_18 rfl rfl ?_
    refine g_aload_n hz 3 d_W_19 rfl rfl ?_
    refine g_slen hz hX d_W_20 ?_
    refine g_bipush hz (v := nI 6) d_W_21 (by decide) ?_
    refine g_isub hz d_W_23 ?_
    have e6 : (nI L0 - nI 6).toInt = (L0 : Int) - 6 := by
      rw [i32_sub] <;> rw [nI_toInt (by omega), nI_toInt (by omega)] <;> omega
    refine g_icmp_gt hz (tgt := 1487) d_W_24 rfl (fun _ => ?_) (fun q => ?_)
    · refine g_iconst hz (v := 1) d_W_1487 (by decide) ?_
      exact hend _ _
    · rw [i32_lt, e6, nI_toInt (by omega)] at q
      have hi6 : i + 6 ≤ L0 := by omega
      refine g_aload_n hz 3 d_W_27 rfl rfl ?_
      refine g_iload_n hz 0 d_W_28 rfl rfl ?_
      refine g_sld hz hX (vp_in_nI (by omega) (by omega)) d_W_29 ?_
      rw [nI_clamp (by omega)]
      refine g_bipush hz (v := 63) d_W_30 (by decide) ?_
      refine g_iand hz d_W_32 ?_
      refine law_sw hz hX hi6 h1 h2 (fun σ' S' h1' h2' => ?_)
      refine g_iinc hz (L' := LcL (i + 6)) 0 d_W_1481 rfl (by rw [show Int32.ofInt 6 = nI 6 by decide]; exact nI_add i 6) (by decide) rfl ?_
      refine g_goto hz (tgt := 18) d_W_1484 rfl ?_
      exact ih (i + 6) σ' S' (by omega) (by omega) h1' h2'
