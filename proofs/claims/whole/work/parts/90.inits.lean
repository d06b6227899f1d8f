/-! constructors: names, facts -/
theorem df_F : ∀ j, j < 9 → defaultValue (t_F j) = vp_V [.int 0, .int 0, .int 0, .int 0, .int 0, .int 0, .int 0, .int 0, .int 0] j
  | 0, _ => rfl
  | 1, _ => rfl
  | 2, _ => rfl
  | 3, _ => rfl
  | 4, _ => rfl
  | 5, _ => rfl
  | 6, _ => rfl
  | 7, _ => rfl
  | 8, _ => rfl
  | j + 9, h => absurd h (by omega)
theorem df_G : ∀ j, j < 6 → defaultValue (t_G j) = vp_V [.int 0, .int 0, .int 0, .int 0, .int 0, .int 0] j
  | 0, _ => rfl
  | 1, _ => rfl
  | 2, _ => rfl
  | 3, _ => rfl
  | 4, _ => rfl
  | 5, _ => rfl
  | j + 6, h => absurd h (by omega)
theorem df_C : ∀ j, j < 7 → defaultValue (t_C j) = vp_V [.null, .null, .null, .null, .int 0, .int 0, .int 0] j
  | 0, _ => rfl
  | 1, _ => rfl
  | 2, _ => rfl
  | 3, _ => rfl
  | 4, _ => rfl
  | 5, _ => rfl
  | 6, _ => rfl
  | j + 7, h => absurd h (by omega)
theorem df_P : ∀ j, j < 3 → defaultValue (t_P j) = vp_V [.null, .int 0, .int 0] j
  | 0, _ => rfl
  | 1, _ => rfl
  | 2, _ => rfl
  | j + 3, h => absurd h (by omega)
theorem df_L : ∀ j, j < 2 → defaultValue (t_L j) = vp_V [.null, .int 0] j
  | 0, _ => rfl
  | 1, _ => rfl
  | j + 2, h => absurd h (by omega)
theorem df_N : ∀ j, j < 2 → defaultValue (t_N j) = vp_V [.null, .int 0] j
  | 0, _ => rfl
  | 1, _ => rfl
  | j + 2, h => absurd h (by omega)
theorem df_M : ∀ j, j < 5 → defaultValue (t_M j) = vp_V [.null, .null, .null, .null, .null] j
  | 0, _ => rfl
  | 1, _ => rfl
  | 2, _ => rfl
  | 3, _ => rfl
  | 4, _ => rfl
  | j + 5, h => absurd h (by omega)
theorem df_X : ∀ j, j < 8 → defaultValue (t_X j) = vp_V [.null, .null, .null, .null, .null, .null, .null, .int 0] j
  | 0, _ => rfl
  | 1, _ => rfl
  | 2, _ => rfl
  | 3, _ => rfl
  | 4, _ => rfl
  | 5, _ => rfl
  | 6, _ => rfl
  | 7, _ => rfl
  | j + 8, h => absurd h (by omega)
theorem df_R : ∀ j, j < 32 → defaultValue (t_R j) = vp_V [.null, .null, .null, .null, .null, .null, .null, .null, .null, .null, .null, .int 0, .int 0, .int 0, .int 0, .null, .null, .null, .null, .null, .int 0, .int 0, .int 0, .null, .int 0, .int 0, .int 0, .int 0, .null, .int 0, .null, .int 0] j
  | 0, _ => rfl
  | 1, _ => rfl
  | 2, _ => rfl
  | 3, _ => rfl
  | 4, _ => rfl
  | 5, _ => rfl
  | 6, _ => rfl
  | 7, _ => rfl
  | 8, _ => rfl
  | 9, _ => rfl
  | 10, _ => rfl
  | 11, _ => rfl
  | 12, _ => rfl
  | 13, _ => rfl
  | 14, _ => rfl
  | 15, _ => rfl
  | 16, _ => rfl
  | 17, _ => rfl
  | 18, _ => rfl
  | 19, _ => rfl
  | 20, _ => rfl
  | 21, _ => rfl
  | 22, _ => rfl
  | 23, _ => rfl
  | 24, _ => rfl
  | 25, _ => rfl
  | 26, _ => rfl
  | 27, _ => rfl
  | 28, _ => rfl
  | 29, _ => rfl
  | 30, _ => rfl
  | 31, _ => rfl
  | j + 32, h => absurd h (by omega)
abbrev b_F_init : ByteArray := prog_3_method_1_code
def y_F_init : MethodName := ⟨"PassedOnAndBetter$Friend", "<init>", "()V"⟩
theorem m_F_init : MV y_F_init b_F_init 1 none 0 := ⟨mG 116 (by decide +kernel) (by decide +kernel), mG 85 (by decide +kernel) (by decide +kernel), by decide +kernel⟩
theorem mi_F_init : Cond.instanceMethod y_F_init ∈ tbG := (mG 115 (by decide +kernel) (by decide +kernel))
theorem d_F_init_0 : decode b_F_init 0 = .ok (.aload_n 0, 1) := by decide +kernel
theorem d_F_init_1 : decode b_F_init 1 = .ok (.invokespecial 3, 3) := by decide +kernel
theorem d_F_init_4 : decode b_F_init 4 = .ok (.aload_n 0, 1) := by decide +kernel
theorem d_F_init_5 : decode b_F_init 5 = .ok (.iconst 0, 1) := by decide +kernel
theorem d_F_init_6 : decode b_F_init 6 = .ok (.putfield 9, 3) := by decide +kernel
theorem d_F_init_9 : decode b_F_init 9 = .ok (.aload_n 0, 1) := by decide +kernel
theorem d_F_init_10 : decode b_F_init 10 = .ok (.iconst 0, 1) := by decide +kernel
theorem d_F_init_11 : decode b_F_init 11 = .ok (.putfield 15, 3) := by decide +kernel
theorem d_F_init_14 : decode b_F_init 14 = .ok (.aload_n 0, 1) := by decide +kernel
theorem d_F_init_15 : decode b_F_init 15 = .ok (.bipush 40, 2) := by decide +kernel
theorem d_F_init_17 : decode b_F_init 17 = .ok (.putfield 18, 3) := by decide +kernel
theorem d_F_init_20 : decode b_F_init 20 = .ok (.aload_n 0, 1) := by decide +kernel
theorem d_F_init_21 : decode b_F_init 21 = .ok (.iconst (-1), 1) := by decide +kernel
theorem d_F_init_22 : decode b_F_init 22 = .ok (.putfield 21, 3) := by decide +kernel
theorem d_F_init_25 : decode b_F_init 25 = .ok (.aload_n 0, 1) := by decide +kernel
theorem d_F_init_26 : decode b_F_init 26 = .ok (.iconst 1, 1) := by decide +kernel
theorem d_F_init_27 : decode b_F_init 27 = .ok (.putfield 24, 3) := by decide +kernel
theorem d_F_init_30 : decode b_F_init 30 = .ok (.aload_n 0, 1) := by decide +kernel
theorem d_F_init_31 : decode b_F_init 31 = .ok (.iconst 0, 1) := by decide +kernel
theorem d_F_init_32 : decode b_F_init 32 = .ok (.putfield 27, 3) := by decide +kernel
theorem d_F_init_35 : decode b_F_init 35 = .ok (.aload_n 0, 1) := by decide +kernel
theorem d_F_init_36 : decode b_F_init 36 = .ok (.iconst 0, 1) := by decide +kernel
theorem d_F_init_37 : decode b_F_init 37 = .ok (.putfield 30, 3) := by decide +kernel
theorem d_F_init_40 : decode b_F_init 40 = .ok (.aload_n 0, 1) := by decide +kernel
theorem d_F_init_41 : decode b_F_init 41 = .ok (.iconst 1, 1) := by decide +kernel
theorem d_F_init_42 : decode b_F_init 42 = .ok (.putfield 33, 3) := by decide +kernel
theorem d_F_init_45 : decode b_F_init 45 = .ok (.aload_n 0, 1) := by decide +kernel
theorem d_F_init_46 : decode b_F_init 46 = .ok (.iconst 0, 1) := by decide +kernel
theorem d_F_init_47 : decode b_F_init 47 = .ok (.putfield 36, 3) := by decide +kernel
theorem d_F_init_50 : decode b_F_init 50 = .ok (.return_, 1) := by decide +kernel
abbrev b_G_init : ByteArray := prog_4_method_1_code
def y_G_init : MethodName := ⟨"PassedOnAndBetter$Gift", "<init>", "()V"⟩
theorem m_G_init : MV y_G_init b_G_init 1 none 0 := ⟨mG 168 (by decide +kernel) (by decide +kernel), mG 86 (by decide +kernel) (by decide +kernel), by decide +kernel⟩
theorem mi_G_init : Cond.instanceMethod y_G_init ∈ tbG := (mG 167 (by decide +kernel) (by decide +kernel))
theorem d_G_init_0 : decode b_G_init 0 = .ok (.aload_n 0, 1) := by decide +kernel
theorem d_G_init_1 : decode b_G_init 1 = .ok (.invokespecial 3, 3) := by decide +kernel
theorem d_G_init_4 : decode b_G_init 4 = .ok (.aload_n 0, 1) := by decide +kernel
theorem d_G_init_5 : decode b_G_init 5 = .ok (.iconst 0, 1) := by decide +kernel
theorem d_G_init_6 : decode b_G_init 6 = .ok (.iconst 0, 1) := by decide +kernel
theorem d_G_init_7 : decode b_G_init 7 = .ok (.iconst 1, 1) := by decide +kernel
theorem d_G_init_8 : decode b_G_init 8 = .ok (.invokevirtual 9, 3) := by decide +kernel
theorem d_G_init_11 : decode b_G_init 11 = .ok (.return_, 1) := by decide +kernel
abbrev b_C_init : ByteArray := prog_2_method_1_code
def y_C_init : MethodName := ⟨"PassedOnAndBetter$Company", "<init>", "()V"⟩
theorem m_C_init : MV y_C_init b_C_init 2 none 0 := ⟨mG 107 (by decide +kernel) (by decide +kernel), mG 84 (by decide +kernel) (by decide +kernel), by decide +kernel⟩
theorem mi_C_init : Cond.instanceMethod y_C_init ∈ tbG := (mG 106 (by decide +kernel) (by decide +kernel))
theorem d_C_init_0 : decode b_C_init 0 = .ok (.aload_n 0, 1) := by decide +kernel
theorem d_C_init_1 : decode b_C_init 1 = .ok (.invokespecial 3, 3) := by decide +kernel
theorem d_C_init_4 : decode b_C_init 4 = .ok (.aload_n 0, 1) := by decide +kernel
theorem d_C_init_5 : decode b_C_init 5 = .ok (.bipush 6, 2) := by decide +kernel
theorem d_C_init_7 : decode b_C_init 7 = .ok (.anewarray 9, 3) := by decide +kernel
theorem d_C_init_10 : decode b_C_init 10 = .ok (.putfield 11, 3) := by decide +kernel
theorem d_C_init_13 : decode b_C_init 13 = .ok (.aload_n 0, 1) := by decide +kernel
theorem d_C_init_14 : decode b_C_init 14 = .ok (.iconst 4, 1) := by decide +kernel
theorem d_C_init_15 : decode b_C_init 15 = .ok (.anewarray 17, 3) := by decide +kernel
theorem d_C_init_18 : decode b_C_init 18 = .ok (.putfield 19, 3) := by decide +kernel
theorem d_C_init_21 : decode b_C_init 21 = .ok (.aload_n 0, 1) := by decide +kernel
theorem d_C_init_22 : decode b_C_init 22 = .ok (.new 9, 3) := by decide +kernel
theorem d_C_init_25 : decode b_C_init 25 = .ok (.dup, 1) := by decide +kernel
theorem d_C_init_26 : decode b_C_init 26 = .ok (.invokespecial 23, 3) := by decide +kernel
theorem d_C_init_29 : decode b_C_init 29 = .ok (.putfield 24, 3) := by decide +kernel
theorem d_C_init_32 : decode b_C_init 32 = .ok (.aload_n 0, 1) := by decide +kernel
theorem d_C_init_33 : decode b_C_init 33 = .ok (.new 17, 3) := by decide +kernel
theorem d_C_init_36 : decode b_C_init 36 = .ok (.dup, 1) := by decide +kernel
theorem d_C_init_37 : decode b_C_init 37 = .ok (.invokespecial 28, 3) := by decide +kernel
theorem d_C_init_40 : decode b_C_init 40 = .ok (.putfield 29, 3) := by decide +kernel
theorem d_C_init_43 : decode b_C_init 43 = .ok (.iconst 0, 1) := by decide +kernel
theorem d_C_init_44 : decode b_C_init 44 = .ok (.istore_n 1, 1) := by decide +kernel
theorem d_C_init_45 : decode b_C_init 45 = .ok (.iload_n 1, 1) := by decide +kernel
theorem d_C_init_46 : decode b_C_init 46 = .ok (.aload_n 0, 1) := by decide +kernel
theorem d_C_init_47 : decode b_C_init 47 = .ok (.getfield 11, 3) := by decide +kernel
theorem d_C_init_50 : decode b_C_init 50 = .ok (.arraylength, 1) := by decide +kernel
theorem d_C_init_51 : decode b_C_init 51 = .ok (.if_icmp .ge 22, 3) := by decide +kernel
theorem d_C_init_54 : decode b_C_init 54 = .ok (.aload_n 0, 1) := by decide +kernel
theorem d_C_init_55 : decode b_C_init 55 = .ok (.getfield 11, 3) := by decide +kernel
theorem d_C_init_58 : decode b_C_init 58 = .ok (.iload_n 1, 1) := by decide +kernel
theorem d_C_init_59 : decode b_C_init 59 = .ok (.new 9, 3) := by decide +kernel
theorem d_C_init_62 : decode b_C_init 62 = .ok (.dup, 1) := by decide +kernel
theorem d_C_init_63 : decode b_C_init 63 = .ok (.invokespecial 23, 3) := by decide +kernel
theorem d_C_init_66 : decode b_C_init 66 = .ok (.aastore, 1) := by decide +kernel
theorem d_C_init_67 : decode b_C_init 67 = .ok (.iinc 1 1, 3) := by decide +kernel
theorem d_C_init_70 : decode b_C_init 70 = .ok (.goto (-25), 3) := by decide +kernel
theorem d_C_init_73 : decode b_C_init 73 = .ok (.iconst 0, 1) := by decide +kernel
theorem d_C_init_74 : decode b_C_init 74 = .ok (.istore_n 1, 1) := by decide +kernel
theorem d_C_init_75 : decode b_C_init 75 = .ok (.iload_n 1, 1) := by decide +kernel
theorem d_C_init_76 : decode b_C_init 76 = .ok (.aload_n 0, 1) := by decide +kernel
theorem d_C_init_77 : decode b_C_init 77 = .ok (.getfield 19, 3) := by decide +kernel
theorem d_C_init_80 : decode b_C_init 80 = .ok (.arraylength, 1) := by decide +kernel
theorem d_C_init_81 : decode b_C_init 81 = .ok (.if_icmp .ge 22, 3) := by decide +kernel
theorem d_C_init_84 : decode b_C_init 84 = .ok (.aload_n 0, 1) := by decide +kernel
theorem d_C_init_85 : decode b_C_init 85 = .ok (.getfield 19, 3) := by decide +kernel
theorem d_C_init_88 : decode b_C_init 88 = .ok (.iload_n 1, 1) := by decide +kernel
theorem d_C_init_89 : decode b_C_init 89 = .ok (.new 17, 3) := by decide +kernel
theorem d_C_init_92 : decode b_C_init 92 = .ok (.dup, 1) := by decide +kernel
theorem d_C_init_93 : decode b_C_init 93 = .ok (.invokespecial 28, 3) := by decide +kernel
theorem d_C_init_96 : decode b_C_init 96 = .ok (.aastore, 1) := by decide +kernel
theorem d_C_init_97 : decode b_C_init 97 = .ok (.iinc 1 1, 3) := by decide +kernel
theorem d_C_init_100 : decode b_C_init 100 = .ok (.goto (-25), 3) := by decide +kernel
theorem d_C_init_103 : decode b_C_init 103 = .ok (.aload_n 0, 1) := by decide +kernel
theorem d_C_init_104 : decode b_C_init 104 = .ok (.iconst 0, 1) := by decide +kernel
theorem d_C_init_105 : decode b_C_init 105 = .ok (.putfield 33, 3) := by decide +kernel
theorem d_C_init_108 : decode b_C_init 108 = .ok (.aload_n 0, 1) := by decide +kernel
theorem d_C_init_109 : decode b_C_init 109 = .ok (.iconst 0, 1) := by decide +kernel
theorem d_C_init_110 : decode b_C_init 110 = .ok (.putfield 37, 3) := by decide +kernel
theorem d_C_init_113 : decode b_C_init 113 = .ok (.aload_n 0, 1) := by decide +kernel
theorem d_C_init_114 : decode b_C_init 114 = .ok (.iconst 0, 1) := by decide +kernel
theorem d_C_init_115 : decode b_C_init 115 = .ok (.putfield 40, 3) := by decide +kernel
theorem d_C_init_118 : decode b_C_init 118 = .ok (.return_, 1) := by decide +kernel
abbrev b_P_init : ByteArray := prog_9_method_1_code
def y_P_init : MethodName := ⟨"PassedOnAndBetter$Past", "<init>", "()V"⟩
theorem m_P_init : MV y_P_init b_P_init 2 none 0 := ⟨mG 235 (by decide +kernel) (by decide +kernel), mG 87 (by decide +kernel) (by decide +kernel), by decide +kernel⟩
theorem mi_P_init : Cond.instanceMethod y_P_init ∈ tbG := (mG 234 (by decide +kernel) (by decide +kernel))
theorem d_P_init_0 : decode b_P_init 0 = .ok (.aload_n 0, 1) := by decide +kernel
theorem d_P_init_1 : decode b_P_init 1 = .ok (.invokespecial 1, 3) := by decide +kernel
theorem d_P_init_4 : decode b_P_init 4 = .ok (.aload_n 0, 1) := by decide +kernel
theorem d_P_init_5 : decode b_P_init 5 = .ok (.bipush 8, 2) := by decide +kernel
theorem d_P_init_7 : decode b_P_init 7 = .ok (.anewarray 9, 3) := by decide +kernel
theorem d_P_init_10 : decode b_P_init 10 = .ok (.putfield 11, 3) := by decide +kernel
theorem d_P_init_13 : decode b_P_init 13 = .ok (.iconst 0, 1) := by decide +kernel
theorem d_P_init_14 : decode b_P_init 14 = .ok (.istore_n 1, 1) := by decide +kernel
theorem d_P_init_15 : decode b_P_init 15 = .ok (.iload_n 1, 1) := by decide +kernel
theorem d_P_init_16 : decode b_P_init 16 = .ok (.aload_n 0, 1) := by decide +kernel
theorem d_P_init_17 : decode b_P_init 17 = .ok (.getfield 11, 3) := by decide +kernel
theorem d_P_init_20 : decode b_P_init 20 = .ok (.arraylength, 1) := by decide +kernel
theorem d_P_init_21 : decode b_P_init 21 = .ok (.if_icmp .ge 22, 3) := by decide +kernel
theorem d_P_init_24 : decode b_P_init 24 = .ok (.aload_n 0, 1) := by decide +kernel
theorem d_P_init_25 : decode b_P_init 25 = .ok (.getfield 11, 3) := by decide +kernel
theorem d_P_init_28 : decode b_P_init 28 = .ok (.iload_n 1, 1) := by decide +kernel
theorem d_P_init_29 : decode b_P_init 29 = .ok (.new 9, 3) := by decide +kernel
theorem d_P_init_32 : decode b_P_init 32 = .ok (.dup, 1) := by decide +kernel
theorem d_P_init_33 : decode b_P_init 33 = .ok (.invokespecial 15, 3) := by decide +kernel
theorem d_P_init_36 : decode b_P_init 36 = .ok (.aastore, 1) := by decide +kernel
theorem d_P_init_37 : decode b_P_init 37 = .ok (.iinc 1 1, 3) := by decide +kernel
theorem d_P_init_40 : decode b_P_init 40 = .ok (.goto (-25), 3) := by decide +kernel
theorem d_P_init_43 : decode b_P_init 43 = .ok (.aload_n 0, 1) := by decide +kernel
theorem d_P_init_44 : decode b_P_init 44 = .ok (.iconst 0, 1) := by decide +kernel
theorem d_P_init_45 : decode b_P_init 45 = .ok (.putfield 16, 3) := by decide +kernel
theorem d_P_init_48 : decode b_P_init 48 = .ok (.aload_n 0, 1) := by decide +kernel
theorem d_P_init_49 : decode b_P_init 49 = .ok (.iconst 0, 1) := by decide +kernel
theorem d_P_init_50 : decode b_P_init 50 = .ok (.putfield 20, 3) := by decide +kernel
theorem d_P_init_53 : decode b_P_init 53 = .ok (.return_, 1) := by decide +kernel
abbrev b_L_init : ByteArray := prog_6_method_1_code
def y_L_init : MethodName := ⟨"PassedOnAndBetter$Letters", "<init>", "()V"⟩
theorem m_L_init : MV y_L_init b_L_init 1 none 0 := ⟨mG 255 (by decide +kernel) (by decide +kernel), mG 88 (by decide +kernel) (by decide +kernel), by decide +kernel⟩
theorem mi_L_init : Cond.instanceMethod y_L_init ∈ tbG := (mG 254 (by decide +kernel) (by decide +kernel))
theorem d_L_init_0 : decode b_L_init 0 = .ok (.aload_n 0, 1) := by decide +kernel
theorem d_L_init_1 : decode b_L_init 1 = .ok (.invokespecial 3, 3) := by decide +kernel
theorem d_L_init_4 : decode b_L_init 4 = .ok (.aload_n 0, 1) := by decide +kernel
theorem d_L_init_5 : decode b_L_init 5 = .ok (.bipush 96, 2) := by decide +kernel
theorem d_L_init_7 : decode b_L_init 7 = .ok (.newarray .int, 2) := by decide +kernel
theorem d_L_init_9 : decode b_L_init 9 = .ok (.putfield 11, 3) := by decide +kernel
theorem d_L_init_12 : decode b_L_init 12 = .ok (.aload_n 0, 1) := by decide +kernel
theorem d_L_init_13 : decode b_L_init 13 = .ok (.iconst 0, 1) := by decide +kernel
theorem d_L_init_14 : decode b_L_init 14 = .ok (.putfield 15, 3) := by decide +kernel
theorem d_L_init_17 : decode b_L_init 17 = .ok (.return_, 1) := by decide +kernel
abbrev b_N_init : ByteArray := prog_8_method_1_code
def y_N_init : MethodName := ⟨"PassedOnAndBetter$Numbers", "<init>", "()V"⟩
theorem m_N_init : MV y_N_init b_N_init 1 none 0 := ⟨mG 270 (by decide +kernel) (by decide +kernel), mG 89 (by decide +kernel) (by decide +kernel), by decide +kernel⟩
theorem mi_N_init : Cond.instanceMethod y_N_init ∈ tbG := (mG 269 (by decide +kernel) (by decide +kernel))
theorem d_N_init_0 : decode b_N_init 0 = .ok (.aload_n 0, 1) := by decide +kernel
theorem d_N_init_1 : decode b_N_init 1 = .ok (.invokespecial 1, 3) := by decide +kernel
theorem d_N_init_4 : decode b_N_init 4 = .ok (.aload_n 0, 1) := by decide +kernel
theorem d_N_init_5 : decode b_N_init 5 = .ok (.bipush 12, 2) := by decide +kernel
theorem d_N_init_7 : decode b_N_init 7 = .ok (.newarray .int, 2) := by decide +kernel
theorem d_N_init_9 : decode b_N_init 9 = .ok (.putfield 9, 3) := by decide +kernel
theorem d_N_init_12 : decode b_N_init 12 = .ok (.aload_n 0, 1) := by decide +kernel
theorem d_N_init_13 : decode b_N_init 13 = .ok (.iconst 0, 1) := by decide +kernel
theorem d_N_init_14 : decode b_N_init 14 = .ok (.putfield 13, 3) := by decide +kernel
theorem d_N_init_17 : decode b_N_init 17 = .ok (.return_, 1) := by decide +kernel
abbrev b_M_init : ByteArray := prog_7_method_1_code
def y_M_init : MethodName := ⟨"PassedOnAndBetter$Mind", "<init>", "(LPassedOnAndBetter$Company;LPassedOnAndBetter$Numbers;)V"⟩
theorem m_M_init : MV y_M_init b_M_init 3 none 2 := ⟨mG 286 (by decide +kernel) (by decide +kernel), mG 90 (by decide +kernel) (by decide +kernel), by decide +kernel⟩
theorem mi_M_init : Cond.instanceMethod y_M_init ∈ tbG := (mG 285 (by decide +kernel) (by decide +kernel))
theorem d_M_init_0 : decode b_M_init 0 = .ok (.aload_n 0, 1) := by decide +kernel
theorem d_M_init_1 : decode b_M_init 1 = .ok (.invokespecial 3, 3) := by decide +kernel
theorem d_M_init_4 : decode b_M_init 4 = .ok (.aload_n 0, 1) := by decide +kernel
theorem d_M_init_5 : decode b_M_init 5 = .ok (.aload_n 1, 1) := by decide +kernel
theorem d_M_init_6 : decode b_M_init 6 = .ok (.putfield 9, 3) := by decide +kernel
theorem d_M_init_9 : decode b_M_init 9 = .ok (.aload_n 0, 1) := by decide +kernel
theorem d_M_init_10 : decode b_M_init 10 = .ok (.aload_n 2, 1) := by decide +kernel
theorem d_M_init_11 : decode b_M_init 11 = .ok (.putfield 15, 3) := by decide +kernel
theorem d_M_init_14 : decode b_M_init 14 = .ok (.aload_n 0, 1) := by decide +kernel
theorem d_M_init_15 : decode b_M_init 15 = .ok (.new 19, 3) := by decide +kernel
theorem d_M_init_18 : decode b_M_init 18 = .ok (.dup, 1) := by decide +kernel
theorem d_M_init_19 : decode b_M_init 19 = .ok (.invokespecial 21, 3) := by decide +kernel
theorem d_M_init_22 : decode b_M_init 22 = .ok (.putfield 22, 3) := by decide +kernel
theorem d_M_init_25 : decode b_M_init 25 = .ok (.aload_n 0, 1) := by decide +kernel
theorem d_M_init_26 : decode b_M_init 26 = .ok (.iconst 4, 1) := by decide +kernel
theorem d_M_init_27 : decode b_M_init 27 = .ok (.newarray .int, 2) := by decide +kernel
theorem d_M_init_29 : decode b_M_init 29 = .ok (.putfield 25, 3) := by decide +kernel
theorem d_M_init_32 : decode b_M_init 32 = .ok (.aload_n 0, 1) := by decide +kernel
theorem d_M_init_33 : decode b_M_init 33 = .ok (.iconst 4, 1) := by decide +kernel
theorem d_M_init_34 : decode b_M_init 34 = .ok (.newarray .int, 2) := by decide +kernel
theorem d_M_init_36 : decode b_M_init 36 = .ok (.putfield 29, 3) := by decide +kernel
theorem d_M_init_39 : decode b_M_init 39 = .ok (.return_, 1) := by decide +kernel
abbrev b_X_init : ByteArray := prog_1_method_1_code
def y_X_init : MethodName := ⟨"PassedOnAndBetter", "<init>", "()V"⟩
theorem m_X_init : MV y_X_init b_X_init 1 none 0 := ⟨mG 99 (by decide +kernel) (by decide +kernel), mG 83 (by decide +kernel) (by decide +kernel), by decide +kernel⟩
theorem mi_X_init : Cond.instanceMethod y_X_init ∈ tbG := (mG 98 (by decide +kernel) (by decide +kernel))
theorem d_X_init_0 : decode b_X_init 0 = .ok (.aload_n 0, 1) := by decide +kernel
theorem d_X_init_1 : decode b_X_init 1 = .ok (.invokespecial 1, 3) := by decide +kernel
theorem d_X_init_4 : decode b_X_init 4 = .ok (.aload_n 0, 1) := by decide +kernel
theorem d_X_init_5 : decode b_X_init 5 = .ok (.new 7, 3) := by decide +kernel
theorem d_X_init_8 : decode b_X_init 8 = .ok (.dup, 1) := by decide +kernel
theorem d_X_init_9 : decode b_X_init 9 = .ok (.invokespecial 9, 3) := by decide +kernel
theorem d_X_init_12 : decode b_X_init 12 = .ok (.putfield 10, 3) := by decide +kernel
theorem d_X_init_15 : decode b_X_init 15 = .ok (.aload_n 0, 1) := by decide +kernel
theorem d_X_init_16 : decode b_X_init 16 = .ok (.new 7, 3) := by decide +kernel
theorem d_X_init_19 : decode b_X_init 19 = .ok (.dup, 1) := by decide +kernel
theorem d_X_init_20 : decode b_X_init 20 = .ok (.invokespecial 9, 3) := by decide +kernel
theorem d_X_init_23 : decode b_X_init 23 = .ok (.putfield 16, 3) := by decide +kernel
theorem d_X_init_26 : decode b_X_init 26 = .ok (.aload_n 0, 1) := by decide +kernel
theorem d_X_init_27 : decode b_X_init 27 = .ok (.new 19, 3) := by decide +kernel
theorem d_X_init_30 : decode b_X_init 30 = .ok (.dup, 1) := by decide +kernel
theorem d_X_init_31 : decode b_X_init 31 = .ok (.invokespecial 21, 3) := by decide +kernel
theorem d_X_init_34 : decode b_X_init 34 = .ok (.putfield 22, 3) := by decide +kernel
theorem d_X_init_37 : decode b_X_init 37 = .ok (.aload_n 0, 1) := by decide +kernel
theorem d_X_init_38 : decode b_X_init 38 = .ok (.new 26, 3) := by decide +kernel
theorem d_X_init_41 : decode b_X_init 41 = .ok (.dup, 1) := by decide +kernel
theorem d_X_init_42 : decode b_X_init 42 = .ok (.invokespecial 28, 3) := by decide +kernel
theorem d_X_init_45 : decode b_X_init 45 = .ok (.putfield 29, 3) := by decide +kernel
theorem d_X_init_48 : decode b_X_init 48 = .ok (.aload_n 0, 1) := by decide +kernel
theorem d_X_init_49 : decode b_X_init 49 = .ok (.new 33, 3) := by decide +kernel
theorem d_X_init_52 : decode b_X_init 52 = .ok (.dup, 1) := by decide +kernel
theorem d_X_init_53 : decode b_X_init 53 = .ok (.invokespecial 35, 3) := by decide +kernel
theorem d_X_init_56 : decode b_X_init 56 = .ok (.putfield 36, 3) := by decide +kernel
theorem d_X_init_59 : decode b_X_init 59 = .ok (.aload_n 0, 1) := by decide +kernel
theorem d_X_init_60 : decode b_X_init 60 = .ok (.new 40, 3) := by decide +kernel
theorem d_X_init_63 : decode b_X_init 63 = .ok (.dup, 1) := by decide +kernel
theorem d_X_init_64 : decode b_X_init 64 = .ok (.aload_n 0, 1) := by decide +kernel
theorem d_X_init_65 : decode b_X_init 65 = .ok (.getfield 10, 3) := by decide +kernel
theorem d_X_init_68 : decode b_X_init 68 = .ok (.aload_n 0, 1) := by decide +kernel
theorem d_X_init_69 : decode b_X_init 69 = .ok (.getfield 36, 3) := by decide +kernel
theorem d_X_init_72 : decode b_X_init 72 = .ok (.invokespecial 42, 3) := by decide +kernel
theorem d_X_init_75 : decode b_X_init 75 = .ok (.putfield 45, 3) := by decide +kernel
theorem d_X_init_78 : decode b_X_init 78 = .ok (.aload_n 0, 1) := by decide +kernel
theorem d_X_init_79 : decode b_X_init 79 = .ok (.bipush 7, 2) := by decide +kernel
theorem d_X_init_81 : decode b_X_init 81 = .ok (.newarray .int, 2) := by decide +kernel
theorem d_X_init_83 : decode b_X_init 83 = .ok (.putfield 49, 3) := by decide +kernel
theorem d_X_init_86 : decode b_X_init 86 = .ok (.aload_n 0, 1) := by decide +kernel
theorem d_X_init_87 : decode b_X_init 87 = .ok (.iconst 0, 1) := by decide +kernel
theorem d_X_init_88 : decode b_X_init 88 = .ok (.putfield 53, 3) := by decide +kernel
theorem d_X_init_91 : decode b_X_init 91 = .ok (.return_, 1) := by decide +kernel
abbrev b_R_init : ByteArray := prog_11_method_1_code
def y_R_init : MethodName := ⟨"PassedOnAndBetterModel", "<init>", "()V"⟩
theorem m_R_init : MV y_R_init b_R_init 1 none 0 := ⟨mG 1001 (by decide +kernel) (by decide +kernel), mG 91 (by decide +kernel) (by decide +kernel), by decide +kernel⟩
theorem mi_R_init : Cond.instanceMethod y_R_init ∈ tbG := (mG 1000 (by decide +kernel) (by decide +kernel))
theorem d_R_init_0 : decode b_R_init 0 = .ok (.aload_n 0, 1) := by decide +kernel
theorem d_R_init_1 : decode b_R_init 1 = .ok (.invokespecial 1, 3) := by decide +kernel
theorem d_R_init_4 : decode b_R_init 4 = .ok (.aload_n 0, 1) := by decide +kernel
theorem d_R_init_5 : decode b_R_init 5 = .ok (.bipush 7, 2) := by decide +kernel
theorem d_R_init_7 : decode b_R_init 7 = .ok (.newarray .int, 2) := by decide +kernel
theorem d_R_init_9 : decode b_R_init 9 = .ok (.putfield 7, 3) := by decide +kernel
theorem d_R_init_12 : decode b_R_init 12 = .ok (.aload_n 0, 1) := by decide +kernel
theorem d_R_init_13 : decode b_R_init 13 = .ok (.bipush 6, 2) := by decide +kernel
theorem d_R_init_15 : decode b_R_init 15 = .ok (.newarray .int, 2) := by decide +kernel
theorem d_R_init_17 : decode b_R_init 17 = .ok (.putfield 13, 3) := by decide +kernel
theorem d_R_init_20 : decode b_R_init 20 = .ok (.aload_n 0, 1) := by decide +kernel
theorem d_R_init_21 : decode b_R_init 21 = .ok (.bipush 6, 2) := by decide +kernel
theorem d_R_init_23 : decode b_R_init 23 = .ok (.newarray .int, 2) := by decide +kernel
theorem d_R_init_25 : decode b_R_init 25 = .ok (.putfield 16, 3) := by decide +kernel
theorem d_R_init_28 : decode b_R_init 28 = .ok (.aload_n 0, 1) := by decide +kernel
theorem d_R_init_29 : decode b_R_init 29 = .ok (.bipush 6, 2) := by decide +kernel
theorem d_R_init_31 : decode b_R_init 31 = .ok (.newarray .int, 2) := by decide +kernel
theorem d_R_init_33 : decode b_R_init 33 = .ok (.putfield 19, 3) := by decide +kernel
theorem d_R_init_36 : decode b_R_init 36 = .ok (.aload_n 0, 1) := by decide +kernel
theorem d_R_init_37 : decode b_R_init 37 = .ok (.bipush 6, 2) := by decide +kernel
theorem d_R_init_39 : decode b_R_init 39 = .ok (.newarray .int, 2) := by decide +kernel
theorem d_R_init_41 : decode b_R_init 41 = .ok (.putfield 22, 3) := by decide +kernel
theorem d_R_init_44 : decode b_R_init 44 = .ok (.aload_n 0, 1) := by decide +kernel
theorem d_R_init_45 : decode b_R_init 45 = .ok (.iconst 4, 1) := by decide +kernel
theorem d_R_init_46 : decode b_R_init 46 = .ok (.newarray .int, 2) := by decide +kernel
theorem d_R_init_48 : decode b_R_init 48 = .ok (.putfield 25, 3) := by decide +kernel
theorem d_R_init_51 : decode b_R_init 51 = .ok (.aload_n 0, 1) := by decide +kernel
theorem d_R_init_52 : decode b_R_init 52 = .ok (.iconst 4, 1) := by decide +kernel
theorem d_R_init_53 : decode b_R_init 53 = .ok (.newarray .int, 2) := by decide +kernel
theorem d_R_init_55 : decode b_R_init 55 = .ok (.putfield 28, 3) := by decide +kernel
theorem d_R_init_58 : decode b_R_init 58 = .ok (.aload_n 0, 1) := by decide +kernel
theorem d_R_init_59 : decode b_R_init 59 = .ok (.iconst 4, 1) := by decide +kernel
theorem d_R_init_60 : decode b_R_init 60 = .ok (.newarray .int, 2) := by decide +kernel
theorem d_R_init_62 : decode b_R_init 62 = .ok (.putfield 31, 3) := by decide +kernel
theorem d_R_init_65 : decode b_R_init 65 = .ok (.aload_n 0, 1) := by decide +kernel
theorem d_R_init_66 : decode b_R_init 66 = .ok (.iconst 4, 1) := by decide +kernel
theorem d_R_init_67 : decode b_R_init 67 = .ok (.newarray .int, 2) := by decide +kernel
theorem d_R_init_69 : decode b_R_init 69 = .ok (.putfield 34, 3) := by decide +kernel
theorem d_R_init_72 : decode b_R_init 72 = .ok (.aload_n 0, 1) := by decide +kernel
theorem d_R_init_73 : decode b_R_init 73 = .ok (.iconst 4, 1) := by decide +kernel
theorem d_R_init_74 : decode b_R_init 74 = .ok (.newarray .int, 2) := by decide +kernel
theorem d_R_init_76 : decode b_R_init 76 = .ok (.putfield 37, 3) := by decide +kernel
theorem d_R_init_79 : decode b_R_init 79 = .ok (.aload_n 0, 1) := by decide +kernel
theorem d_R_init_80 : decode b_R_init 80 = .ok (.iconst 4, 1) := by decide +kernel
theorem d_R_init_81 : decode b_R_init 81 = .ok (.newarray .int, 2) := by decide +kernel
theorem d_R_init_83 : decode b_R_init 83 = .ok (.putfield 40, 3) := by decide +kernel
theorem d_R_init_86 : decode b_R_init 86 = .ok (.aload_n 0, 1) := by decide +kernel
theorem d_R_init_87 : decode b_R_init 87 = .ok (.bipush 6, 2) := by decide +kernel
theorem d_R_init_89 : decode b_R_init 89 = .ok (.newarray .int, 2) := by decide +kernel
theorem d_R_init_91 : decode b_R_init 91 = .ok (.putfield 43, 3) := by decide +kernel
theorem d_R_init_94 : decode b_R_init 94 = .ok (.aload_n 0, 1) := by decide +kernel
theorem d_R_init_95 : decode b_R_init 95 = .ok (.bipush 96, 2) := by decide +kernel
theorem d_R_init_97 : decode b_R_init 97 = .ok (.newarray .int, 2) := by decide +kernel
theorem d_R_init_99 : decode b_R_init 99 = .ok (.putfield 46, 3) := by decide +kernel
theorem d_R_init_102 : decode b_R_init 102 = .ok (.aload_n 0, 1) := by decide +kernel
theorem d_R_init_103 : decode b_R_init 103 = .ok (.bipush 48, 2) := by decide +kernel
theorem d_R_init_105 : decode b_R_init 105 = .ok (.newarray .int, 2) := by decide +kernel
theorem d_R_init_107 : decode b_R_init 107 = .ok (.putfield 49, 3) := by decide +kernel
theorem d_R_init_110 : decode b_R_init 110 = .ok (.aload_n 0, 1) := by decide +kernel
theorem d_R_init_111 : decode b_R_init 111 = .ok (.bipush 48, 2) := by decide +kernel
theorem d_R_init_113 : decode b_R_init 113 = .ok (.newarray .int, 2) := by decide +kernel
theorem d_R_init_115 : decode b_R_init 115 = .ok (.putfield 52, 3) := by decide +kernel
theorem d_R_init_118 : decode b_R_init 118 = .ok (.aload_n 0, 1) := by decide +kernel
theorem d_R_init_119 : decode b_R_init 119 = .ok (.sipush 144, 3) := by decide +kernel
theorem d_R_init_122 : decode b_R_init 122 = .ok (.newarray .int, 2) := by decide +kernel
theorem d_R_init_124 : decode b_R_init 124 = .ok (.putfield 55, 3) := by decide +kernel
theorem d_R_init_127 : decode b_R_init 127 = .ok (.aload_n 0, 1) := by decide +kernel
theorem d_R_init_128 : decode b_R_init 128 = .ok (.sipush 561, 3) := by decide +kernel
theorem d_R_init_131 : decode b_R_init 131 = .ok (.newarray .int, 2) := by decide +kernel
theorem d_R_init_133 : decode b_R_init 133 = .ok (.putfield 58, 3) := by decide +kernel
theorem d_R_init_136 : decode b_R_init 136 = .ok (.aload_n 0, 1) := by decide +kernel
theorem d_R_init_137 : decode b_R_init 137 = .ok (.bipush 12, 2) := by decide +kernel
theorem d_R_init_139 : decode b_R_init 139 = .ok (.newarray .int, 2) := by decide +kernel
theorem d_R_init_141 : decode b_R_init 141 = .ok (.putfield 61, 3) := by decide +kernel
theorem d_R_init_144 : decode b_R_init 144 = .ok (.aload_n 0, 1) := by decide +kernel
theorem d_R_init_145 : decode b_R_init 145 = .ok (.bipush 8, 2) := by decide +kernel
theorem d_R_init_147 : decode b_R_init 147 = .ok (.newarray .int, 2) := by decide +kernel
theorem d_R_init_149 : decode b_R_init 149 = .ok (.putfield 64, 3) := by decide +kernel
theorem d_R_init_152 : decode b_R_init 152 = .ok (.aload_n 0, 1) := by decide +kernel
theorem d_R_init_153 : decode b_R_init 153 = .ok (.iconst 0, 1) := by decide +kernel
theorem d_R_init_154 : decode b_R_init 154 = .ok (.putfield 67, 3) := by decide +kernel
theorem d_R_init_157 : decode b_R_init 157 = .ok (.return_, 1) := by decide +kernel
abbrev frE : va_E := .inr (1, [.int 0, .int 0, .int 40, .int (-1), .int 1, .int 0, .int 0, .int 1, .int 0])
abbrev giE : va_E := .inr (2, [.int 0, .int 1, .int 0, .int 0, .int 0, .int 0])
