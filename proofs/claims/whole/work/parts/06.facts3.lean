abbrev b_X_whoHad : ByteArray := prog_1_method_27_code
def y_X_whoHad : MethodName := ⟨"PassedOnAndBetter", "whoHad", "(II)I"⟩
theorem m_X_whoHad : MV y_X_whoHad b_X_whoHad 4 (some .int) 2 := ⟨mG 810 (by decide +kernel) (by decide +kernel), mG 83 (by decide +kernel) (by decide +kernel), by decide +kernel⟩
theorem mi_X_whoHad : Cond.instanceMethod y_X_whoHad ∈ tbG := mG 808 (by decide +kernel) (by decide +kernel)
theorem ms_X_whoHad : Cond.selects y_X_whoHad.cls y_X_whoHad y_X_whoHad ∈ tbG := mG 809 (by decide +kernel) (by decide +kernel)
theorem d_X_whoHad_0 : decode b_X_whoHad 0 = .ok (.aload_n 0, 1) := by decide +kernel
theorem d_X_whoHad_1 : decode b_X_whoHad 1 = .ok (.iload_n 1, 1) := by decide +kernel
theorem d_X_whoHad_2 : decode b_X_whoHad 2 = .ok (.invokevirtual 112, 3) := by decide +kernel
theorem d_X_whoHad_5 : decode b_X_whoHad 5 = .ok (.iload_n 2, 1) := by decide +kernel
theorem d_X_whoHad_6 : decode b_X_whoHad 6 = .ok (.iconst 1, 1) := by decide +kernel
theorem d_X_whoHad_7 : decode b_X_whoHad 7 = .ok (.invokestatic 93, 3) := by decide +kernel
theorem d_X_whoHad_10 : decode b_X_whoHad 10 = .ok (.iconst 0, 1) := by decide +kernel
theorem d_X_whoHad_11 : decode b_X_whoHad 11 = .ok (.invokestatic 97, 3) := by decide +kernel
theorem d_X_whoHad_14 : decode b_X_whoHad 14 = .ok (.istore_n 3, 1) := by decide +kernel
theorem d_X_whoHad_15 : decode b_X_whoHad 15 = .ok (.iload_n 3, 1) := by decide +kernel
theorem d_X_whoHad_16 : decode b_X_whoHad 16 = .ok (.ifCond .eq 9, 3) := by decide +kernel
theorem d_X_whoHad_19 : decode b_X_whoHad 19 = .ok (.aload_n 0, 1) := by decide +kernel
theorem d_X_whoHad_20 : decode b_X_whoHad 20 = .ok (.iload_n 3, 1) := by decide +kernel
theorem d_X_whoHad_21 : decode b_X_whoHad 21 = .ok (.invokevirtual 69, 3) := by decide +kernel
theorem d_X_whoHad_24 : decode b_X_whoHad 24 = .ok (.ireturn, 1) := by decide +kernel
theorem d_X_whoHad_25 : decode b_X_whoHad 25 = .ok (.iload_n 2, 1) := by decide +kernel
theorem d_X_whoHad_26 : decode b_X_whoHad 26 = .ok (.ifCond .ne 14, 3) := by decide +kernel
theorem d_X_whoHad_29 : decode b_X_whoHad 29 = .ok (.aload_n 0, 1) := by decide +kernel
theorem d_X_whoHad_30 : decode b_X_whoHad 30 = .ok (.getfield 45, 3) := by decide +kernel
theorem d_X_whoHad_33 : decode b_X_whoHad 33 = .ok (.iload_n 1, 1) := by decide +kernel
theorem d_X_whoHad_34 : decode b_X_whoHad 34 = .ok (.invokevirtual 227, 3) := by decide +kernel
theorem d_X_whoHad_37 : decode b_X_whoHad 37 = .ok (.goto 11, 3) := by decide +kernel
theorem d_X_whoHad_40 : decode b_X_whoHad 40 = .ok (.aload_n 0, 1) := by decide +kernel
theorem d_X_whoHad_41 : decode b_X_whoHad 41 = .ok (.getfield 45, 3) := by decide +kernel
theorem d_X_whoHad_44 : decode b_X_whoHad 44 = .ok (.iload_n 1, 1) := by decide +kernel
theorem d_X_whoHad_45 : decode b_X_whoHad 45 = .ok (.invokevirtual 230, 3) := by decide +kernel
theorem d_X_whoHad_48 : decode b_X_whoHad 48 = .ok (.ireturn, 1) := by decide +kernel
abbrev b_C_worthWith : ByteArray := prog_2_method_17_code
def y_C_worthWith : MethodName := ⟨"PassedOnAndBetter$Company", "worthWith", "(I)I"⟩
theorem m_C_worthWith : MV y_C_worthWith b_C_worthWith 4 (some .int) 1 := ⟨mG 834 (by decide +kernel) (by decide +kernel), mG 84 (by decide +kernel) (by decide +kernel), by decide +kernel⟩
theorem mi_C_worthWith : Cond.instanceMethod y_C_worthWith ∈ tbG := mG 832 (by decide +kernel) (by decide +kernel)
theorem ms_C_worthWith : Cond.selects y_C_worthWith.cls y_C_worthWith y_C_worthWith ∈ tbG := mG 833 (by decide +kernel) (by decide +kernel)
theorem d_C_worthWith_0 : decode b_C_worthWith 0 = .ok (.iconst 0, 1) := by decide +kernel
theorem d_C_worthWith_1 : decode b_C_worthWith 1 = .ok (.istore_n 2, 1) := by decide +kernel
theorem d_C_worthWith_2 : decode b_C_worthWith 2 = .ok (.iconst 0, 1) := by decide +kernel
theorem d_C_worthWith_3 : decode b_C_worthWith 3 = .ok (.istore_n 3, 1) := by decide +kernel
theorem d_C_worthWith_4 : decode b_C_worthWith 4 = .ok (.iload_n 3, 1) := by decide +kernel
theorem d_C_worthWith_5 : decode b_C_worthWith 5 = .ok (.aload_n 0, 1) := by decide +kernel
theorem d_C_worthWith_6 : decode b_C_worthWith 6 = .ok (.getfield 37, 3) := by decide +kernel
theorem d_C_worthWith_9 : decode b_C_worthWith 9 = .ok (.if_icmp .ge 32, 3) := by decide +kernel
theorem d_C_worthWith_12 : decode b_C_worthWith 12 = .ok (.aload_n 0, 1) := by decide +kernel
theorem d_C_worthWith_13 : decode b_C_worthWith 13 = .ok (.iload_n 3, 1) := by decide +kernel
theorem d_C_worthWith_14 : decode b_C_worthWith 14 = .ok (.invokevirtual 51, 3) := by decide +kernel
theorem d_C_worthWith_17 : decode b_C_worthWith 17 = .ok (.getfield 79, 3) := by decide +kernel
theorem d_C_worthWith_20 : decode b_C_worthWith 20 = .ok (.iload_n 1, 1) := by decide +kernel
theorem d_C_worthWith_21 : decode b_C_worthWith 21 = .ok (.if_icmp .ne 14, 3) := by decide +kernel
theorem d_C_worthWith_24 : decode b_C_worthWith 24 = .ok (.iload_n 2, 1) := by decide +kernel
theorem d_C_worthWith_25 : decode b_C_worthWith 25 = .ok (.aload_n 0, 1) := by decide +kernel
theorem d_C_worthWith_26 : decode b_C_worthWith 26 = .ok (.iload_n 3, 1) := by decide +kernel
theorem d_C_worthWith_27 : decode b_C_worthWith 27 = .ok (.invokevirtual 51, 3) := by decide +kernel
theorem d_C_worthWith_30 : decode b_C_worthWith 30 = .ok (.getfield 70, 3) := by decide +kernel
theorem d_C_worthWith_33 : decode b_C_worthWith 33 = .ok (.iadd, 1) := by decide +kernel
theorem d_C_worthWith_34 : decode b_C_worthWith 34 = .ok (.istore_n 2, 1) := by decide +kernel
theorem d_C_worthWith_35 : decode b_C_worthWith 35 = .ok (.iinc 3 1, 3) := by decide +kernel
theorem d_C_worthWith_38 : decode b_C_worthWith 38 = .ok (.goto (-34), 3) := by decide +kernel
theorem d_C_worthWith_41 : decode b_C_worthWith 41 = .ok (.iload_n 2, 1) := by decide +kernel
theorem d_C_worthWith_42 : decode b_C_worthWith 42 = .ok (.ireturn, 1) := by decide +kernel
abbrev b_M_restingPair : ByteArray := prog_7_method_26_code
def y_M_restingPair : MethodName := ⟨"PassedOnAndBetter$Mind", "restingPair", "(III)I"⟩
theorem m_M_restingPair : MV y_M_restingPair b_M_restingPair 5 (some .int) 3 := ⟨mG 830 (by decide +kernel) (by decide +kernel), mG 90 (by decide +kernel) (by decide +kernel), by decide +kernel⟩
theorem mi_M_restingPair : Cond.instanceMethod y_M_restingPair ∈ tbG := mG 828 (by decide +kernel) (by decide +kernel)
theorem ms_M_restingPair : Cond.selects y_M_restingPair.cls y_M_restingPair y_M_restingPair ∈ tbG := mG 829 (by decide +kernel) (by decide +kernel)
theorem d_M_restingPair_0 : decode b_M_restingPair 0 = .ok (.iconst 0, 1) := by decide +kernel
theorem d_M_restingPair_1 : decode b_M_restingPair 1 = .ok (.istore 4, 2) := by decide +kernel
theorem d_M_restingPair_3 : decode b_M_restingPair 3 = .ok (.iload 4, 2) := by decide +kernel
theorem d_M_restingPair_5 : decode b_M_restingPair 5 = .ok (.iconst 4, 1) := by decide +kernel
theorem d_M_restingPair_6 : decode b_M_restingPair 6 = .ok (.if_icmp .ge 85, 3) := by decide +kernel
theorem d_M_restingPair_9 : decode b_M_restingPair 9 = .ok (.aload_n 0, 1) := by decide +kernel
theorem d_M_restingPair_10 : decode b_M_restingPair 10 = .ok (.invokevirtual 41, 3) := by decide +kernel
theorem d_M_restingPair_13 : decode b_M_restingPair 13 = .ok (.iload_n 1, 1) := by decide +kernel
theorem d_M_restingPair_14 : decode b_M_restingPair 14 = .ok (.invokevirtual 88, 3) := by decide +kernel
theorem d_M_restingPair_17 : decode b_M_restingPair 17 = .ok (.iconst 1, 1) := by decide +kernel
theorem d_M_restingPair_18 : decode b_M_restingPair 18 = .ok (.iload 4, 2) := by decide +kernel
theorem d_M_restingPair_20 : decode b_M_restingPair 20 = .ok (.iconst 2, 1) := by decide +kernel
theorem d_M_restingPair_21 : decode b_M_restingPair 21 = .ok (.idiv, 1) := by decide +kernel
theorem d_M_restingPair_22 : decode b_M_restingPair 22 = .ok (.iadd, 1) := by decide +kernel
theorem d_M_restingPair_23 : decode b_M_restingPair 23 = .ok (.putfield 155, 3) := by decide +kernel
theorem d_M_restingPair_26 : decode b_M_restingPair 26 = .ok (.aload_n 0, 1) := by decide +kernel
theorem d_M_restingPair_27 : decode b_M_restingPair 27 = .ok (.getfield 22, 3) := by decide +kernel
theorem d_M_restingPair_30 : decode b_M_restingPair 30 = .ok (.iload_n 2, 1) := by decide +kernel
theorem d_M_restingPair_31 : decode b_M_restingPair 31 = .ok (.invokevirtual 88, 3) := by decide +kernel
theorem d_M_restingPair_34 : decode b_M_restingPair 34 = .ok (.iconst 1, 1) := by decide +kernel
theorem d_M_restingPair_35 : decode b_M_restingPair 35 = .ok (.iload 4, 2) := by decide +kernel
theorem d_M_restingPair_37 : decode b_M_restingPair 37 = .ok (.iconst 2, 1) := by decide +kernel
theorem d_M_restingPair_38 : decode b_M_restingPair 38 = .ok (.irem, 1) := by decide +kernel
theorem d_M_restingPair_39 : decode b_M_restingPair 39 = .ok (.iadd, 1) := by decide +kernel
theorem d_M_restingPair_40 : decode b_M_restingPair 40 = .ok (.putfield 155, 3) := by decide +kernel
theorem d_M_restingPair_43 : decode b_M_restingPair 43 = .ok (.aload_n 0, 1) := by decide +kernel
theorem d_M_restingPair_44 : decode b_M_restingPair 44 = .ok (.getfield 22, 3) := by decide +kernel
theorem d_M_restingPair_47 : decode b_M_restingPair 47 = .ok (.iload_n 3, 1) := by decide +kernel
theorem d_M_restingPair_48 : decode b_M_restingPair 48 = .ok (.invokevirtual 66, 3) := by decide +kernel
theorem d_M_restingPair_51 : decode b_M_restingPair 51 = .ok (.aload_n 0, 1) := by decide +kernel
theorem d_M_restingPair_52 : decode b_M_restingPair 52 = .ok (.getfield 25, 3) := by decide +kernel
theorem d_M_restingPair_55 : decode b_M_restingPair 55 = .ok (.iload 4, 2) := by decide +kernel
theorem d_M_restingPair_57 : decode b_M_restingPair 57 = .ok (.aload_n 0, 1) := by decide +kernel
theorem d_M_restingPair_58 : decode b_M_restingPair 58 = .ok (.getfield 22, 3) := by decide +kernel
theorem d_M_restingPair_61 : decode b_M_restingPair 61 = .ok (.iload_n 1, 1) := by decide +kernel
theorem d_M_restingPair_62 : decode b_M_restingPair 62 = .ok (.invokevirtual 158, 3) := by decide +kernel
theorem d_M_restingPair_65 : decode b_M_restingPair 65 = .ok (.invokestatic 161, 3) := by decide +kernel
theorem d_M_restingPair_68 : decode b_M_restingPair 68 = .ok (.aload_n 0, 1) := by decide +kernel
theorem d_M_restingPair_69 : decode b_M_restingPair 69 = .ok (.getfield 29, 3) := by decide +kernel
theorem d_M_restingPair_72 : decode b_M_restingPair 72 = .ok (.iload 4, 2) := by decide +kernel
theorem d_M_restingPair_74 : decode b_M_restingPair 74 = .ok (.aload_n 0, 1) := by decide +kernel
theorem d_M_restingPair_75 : decode b_M_restingPair 75 = .ok (.getfield 22, 3) := by decide +kernel
theorem d_M_restingPair_78 : decode b_M_restingPair 78 = .ok (.iload_n 2, 1) := by decide +kernel
theorem d_M_restingPair_79 : decode b_M_restingPair 79 = .ok (.invokevirtual 158, 3) := by decide +kernel
theorem d_M_restingPair_82 : decode b_M_restingPair 82 = .ok (.invokestatic 161, 3) := by decide +kernel
theorem d_M_restingPair_85 : decode b_M_restingPair 85 = .ok (.iinc 4 1, 3) := by decide +kernel
theorem d_M_restingPair_88 : decode b_M_restingPair 88 = .ok (.goto (-85), 3) := by decide +kernel
theorem d_M_restingPair_91 : decode b_M_restingPair 91 = .ok (.iconst 0, 1) := by decide +kernel
theorem d_M_restingPair_92 : decode b_M_restingPair 92 = .ok (.istore 4, 2) := by decide +kernel
theorem d_M_restingPair_94 : decode b_M_restingPair 94 = .ok (.iload 4, 2) := by decide +kernel
theorem d_M_restingPair_96 : decode b_M_restingPair 96 = .ok (.iconst 4, 1) := by decide +kernel
theorem d_M_restingPair_97 : decode b_M_restingPair 97 = .ok (.if_icmp .ge 68, 3) := by decide +kernel
theorem d_M_restingPair_100 : decode b_M_restingPair 100 = .ok (.aload_n 0, 1) := by decide +kernel
theorem d_M_restingPair_101 : decode b_M_restingPair 101 = .ok (.getfield 25, 3) := by decide +kernel
theorem d_M_restingPair_104 : decode b_M_restingPair 104 = .ok (.iload 4, 2) := by decide +kernel
theorem d_M_restingPair_106 : decode b_M_restingPair 106 = .ok (.invokestatic 165, 3) := by decide +kernel
theorem d_M_restingPair_109 : decode b_M_restingPair 109 = .ok (.aload_n 0, 1) := by decide +kernel
theorem d_M_restingPair_110 : decode b_M_restingPair 110 = .ok (.getfield 25, 3) := by decide +kernel
theorem d_M_restingPair_113 : decode b_M_restingPair 113 = .ok (.iload 4, 2) := by decide +kernel
theorem d_M_restingPair_115 : decode b_M_restingPair 115 = .ok (.iconst 2, 1) := by decide +kernel
theorem d_M_restingPair_116 : decode b_M_restingPair 116 = .ok (.ixor, 1) := by decide +kernel
theorem d_M_restingPair_117 : decode b_M_restingPair 117 = .ok (.invokestatic 165, 3) := by decide +kernel
theorem d_M_restingPair_120 : decode b_M_restingPair 120 = .ok (.if_icmp .lt 39, 3) := by decide +kernel
theorem d_M_restingPair_123 : decode b_M_restingPair 123 = .ok (.aload_n 0, 1) := by decide +kernel
theorem d_M_restingPair_124 : decode b_M_restingPair 124 = .ok (.getfield 29, 3) := by decide +kernel
theorem d_M_restingPair_127 : decode b_M_restingPair 127 = .ok (.iload 4, 2) := by decide +kernel
theorem d_M_restingPair_129 : decode b_M_restingPair 129 = .ok (.invokestatic 165, 3) := by decide +kernel
theorem d_M_restingPair_132 : decode b_M_restingPair 132 = .ok (.aload_n 0, 1) := by decide +kernel
theorem d_M_restingPair_133 : decode b_M_restingPair 133 = .ok (.getfield 29, 3) := by decide +kernel
theorem d_M_restingPair_136 : decode b_M_restingPair 136 = .ok (.iload 4, 2) := by decide +kernel
theorem d_M_restingPair_138 : decode b_M_restingPair 138 = .ok (.iconst 1, 1) := by decide +kernel
theorem d_M_restingPair_139 : decode b_M_restingPair 139 = .ok (.ixor, 1) := by decide +kernel
theorem d_M_restingPair_140 : decode b_M_restingPair 140 = .ok (.invokestatic 165, 3) := by decide +kernel
theorem d_M_restingPair_143 : decode b_M_restingPair 143 = .ok (.if_icmp .lt 16, 3) := by decide +kernel
theorem d_M_restingPair_146 : decode b_M_restingPair 146 = .ok (.bipush 10, 2) := by decide +kernel
theorem d_M_restingPair_148 : decode b_M_restingPair 148 = .ok (.iload 4, 2) := by decide +kernel
theorem d_M_restingPair_150 : decode b_M_restingPair 150 = .ok (.iconst 2, 1) := by decide +kernel
theorem d_M_restingPair_151 : decode b_M_restingPair 151 = .ok (.idiv, 1) := by decide +kernel
theorem d_M_restingPair_152 : decode b_M_restingPair 152 = .ok (.imul, 1) := by decide +kernel
theorem d_M_restingPair_153 : decode b_M_restingPair 153 = .ok (.iload 4, 2) := by decide +kernel
theorem d_M_restingPair_155 : decode b_M_restingPair 155 = .ok (.iconst 2, 1) := by decide +kernel
theorem d_M_restingPair_156 : decode b_M_restingPair 156 = .ok (.irem, 1) := by decide +kernel
theorem d_M_restingPair_157 : decode b_M_restingPair 157 = .ok (.iadd, 1) := by decide +kernel
theorem d_M_restingPair_158 : decode b_M_restingPair 158 = .ok (.ireturn, 1) := by decide +kernel
theorem d_M_restingPair_159 : decode b_M_restingPair 159 = .ok (.iinc 4 1, 3) := by decide +kernel
theorem d_M_restingPair_162 : decode b_M_restingPair 162 = .ok (.goto (-68), 3) := by decide +kernel
theorem d_M_restingPair_165 : decode b_M_restingPair 165 = .ok (.bipush (-9), 2) := by decide +kernel
theorem d_M_restingPair_167 : decode b_M_restingPair 167 = .ok (.ireturn, 1) := by decide +kernel
abbrev b_X_two : ByteArray := prog_1_method_28_code
def y_X_two : MethodName := ⟨"PassedOnAndBetter", "two", "(III)I"⟩
theorem m_X_two : MV y_X_two b_X_two 5 (some .int) 3 := ⟨mG 826 (by decide +kernel) (by decide +kernel), mG 83 (by decide +kernel) (by decide +kernel), by decide +kernel⟩
theorem mi_X_two : Cond.instanceMethod y_X_two ∈ tbG := mG 824 (by decide +kernel) (by decide +kernel)
theorem ms_X_two : Cond.selects y_X_two.cls y_X_two y_X_two ∈ tbG := mG 825 (by decide +kernel) (by decide +kernel)
theorem d_X_two_0 : decode b_X_two 0 = .ok (.aload_n 0, 1) := by decide +kernel
theorem d_X_two_1 : decode b_X_two 1 = .ok (.iload_n 1, 1) := by decide +kernel
theorem d_X_two_2 : decode b_X_two 2 = .ok (.iload_n 2, 1) := by decide +kernel
theorem d_X_two_3 : decode b_X_two 3 = .ok (.invokevirtual 134, 3) := by decide +kernel
theorem d_X_two_6 : decode b_X_two 6 = .ok (.iload_n 3, 1) := by decide +kernel
theorem d_X_two_7 : decode b_X_two 7 = .ok (.invokestatic 170, 3) := by decide +kernel
theorem d_X_two_10 : decode b_X_two 10 = .ok (.iconst 0, 1) := by decide +kernel
theorem d_X_two_11 : decode b_X_two 11 = .ok (.invokestatic 97, 3) := by decide +kernel
theorem d_X_two_14 : decode b_X_two 14 = .ok (.istore 4, 2) := by decide +kernel
theorem d_X_two_16 : decode b_X_two 16 = .ok (.iload 4, 2) := by decide +kernel
theorem d_X_two_18 : decode b_X_two 18 = .ok (.ifCond .ne 16, 3) := by decide +kernel
theorem d_X_two_21 : decode b_X_two 21 = .ok (.aload_n 0, 1) := by decide +kernel
theorem d_X_two_22 : decode b_X_two 22 = .ok (.getfield 45, 3) := by decide +kernel
theorem d_X_two_25 : decode b_X_two 25 = .ok (.iload_n 1, 1) := by decide +kernel
theorem d_X_two_26 : decode b_X_two 26 = .ok (.iload_n 2, 1) := by decide +kernel
theorem d_X_two_27 : decode b_X_two 27 = .ok (.iload_n 3, 1) := by decide +kernel
theorem d_X_two_28 : decode b_X_two 28 = .ok (.invokevirtual 233, 3) := by decide +kernel
theorem d_X_two_31 : decode b_X_two 31 = .ok (.goto 9, 3) := by decide +kernel
theorem d_X_two_34 : decode b_X_two 34 = .ok (.aload_n 0, 1) := by decide +kernel
theorem d_X_two_35 : decode b_X_two 35 = .ok (.iload 4, 2) := by decide +kernel
theorem d_X_two_37 : decode b_X_two 37 = .ok (.invokevirtual 69, 3) := by decide +kernel
theorem d_X_two_40 : decode b_X_two 40 = .ok (.ireturn, 1) := by decide +kernel
abbrev b_X_refuseLong : ByteArray := prog_1_method_46_code
def y_X_refuseLong : MethodName := ⟨"PassedOnAndBetter", "refuseLong", "(I)J"⟩
theorem m_X_refuseLong : MV y_X_refuseLong b_X_refuseLong 2 (some .long) 1 := ⟨mG 844 (by decide +kernel) (by decide +kernel), mG 83 (by decide +kernel) (by decide +kernel), by decide +kernel⟩
theorem mi_X_refuseLong : Cond.instanceMethod y_X_refuseLong ∈ tbG := mG 843 (by decide +kernel) (by decide +kernel)
theorem ms_X_refuseLong : Cond.selects y_X_refuseLong.cls y_X_refuseLong y_X_refuseLong ∈ tbG := mG 27 (by decide +kernel) (by decide +kernel)
theorem d_X_refuseLong_0 : decode b_X_refuseLong 0 = .ok (.ldc2_w 316, 3) := by decide +kernel
theorem d_X_refuseLong_3 : decode b_X_refuseLong 3 = .ok (.aload_n 0, 1) := by decide +kernel
theorem d_X_refuseLong_4 : decode b_X_refuseLong 4 = .ok (.iload_n 1, 1) := by decide +kernel
theorem d_X_refuseLong_5 : decode b_X_refuseLong 5 = .ok (.invokevirtual 69, 3) := by decide +kernel
theorem d_X_refuseLong_8 : decode b_X_refuseLong 8 = .ok (.i2l, 1) := by decide +kernel
theorem d_X_refuseLong_9 : decode b_X_refuseLong 9 = .ok (.lsub, 1) := by decide +kernel
theorem d_X_refuseLong_10 : decode b_X_refuseLong 10 = .ok (.lreturn, 1) := by decide +kernel
abbrev b_M_passWithLost : ByteArray := prog_7_method_28_code
def y_M_passWithLost : MethodName := ⟨"PassedOnAndBetter$Mind", "passWithLost", "(LPassedOnAndBetter$Gift;II)V"⟩
theorem m_M_passWithLost : MV y_M_passWithLost b_M_passWithLost 5 none 3 := ⟨mG 854 (by decide +kernel) (by decide +kernel), mG 90 (by decide +kernel) (by decide +kernel), by decide +kernel⟩
theorem mi_M_passWithLost : Cond.instanceMethod y_M_passWithLost ∈ tbG := mG 853 (by decide +kernel) (by decide +kernel)
theorem ms_M_passWithLost : Cond.selects y_M_passWithLost.cls y_M_passWithLost y_M_passWithLost ∈ tbG := mG 28 (by decide +kernel) (by decide +kernel)
theorem d_M_passWithLost_0 : decode b_M_passWithLost 0 = .ok (.iconst 0, 1) := by decide +kernel
theorem d_M_passWithLost_1 : decode b_M_passWithLost 1 = .ok (.istore 4, 2) := by decide +kernel
theorem d_M_passWithLost_3 : decode b_M_passWithLost 3 = .ok (.iload 4, 2) := by decide +kernel
theorem d_M_passWithLost_5 : decode b_M_passWithLost 5 = .ok (.iload_n 2, 1) := by decide +kernel
theorem d_M_passWithLost_6 : decode b_M_passWithLost 6 = .ok (.if_icmp .ge 38, 3) := by decide +kernel
theorem d_M_passWithLost_9 : decode b_M_passWithLost 9 = .ok (.aload_n 1, 1) := by decide +kernel
theorem d_M_passWithLost_10 : decode b_M_passWithLost 10 = .ok (.ifnull 34, 3) := by decide +kernel
theorem d_M_passWithLost_13 : decode b_M_passWithLost 13 = .ok (.iload_n 3, 1) := by decide +kernel
theorem d_M_passWithLost_14 : decode b_M_passWithLost 14 = .ok (.iload 4, 2) := by decide +kernel
theorem d_M_passWithLost_16 : decode b_M_passWithLost 16 = .ok (.ishr, 1) := by decide +kernel
theorem d_M_passWithLost_17 : decode b_M_passWithLost 17 = .ok (.iconst 1, 1) := by decide +kernel
theorem d_M_passWithLost_18 : decode b_M_passWithLost 18 = .ok (.iand, 1) := by decide +kernel
theorem d_M_passWithLost_19 : decode b_M_passWithLost 19 = .ok (.iconst 1, 1) := by decide +kernel
theorem d_M_passWithLost_20 : decode b_M_passWithLost 20 = .ok (.if_icmp .ne 10, 3) := by decide +kernel
theorem d_M_passWithLost_23 : decode b_M_passWithLost 23 = .ok (.aload_n 1, 1) := by decide +kernel
theorem d_M_passWithLost_24 : decode b_M_passWithLost 24 = .ok (.invokevirtual 180, 3) := by decide +kernel
theorem d_M_passWithLost_27 : decode b_M_passWithLost 27 = .ok (.goto 11, 3) := by decide +kernel
theorem d_M_passWithLost_30 : decode b_M_passWithLost 30 = .ok (.aload_n 1, 1) := by decide +kernel
theorem d_M_passWithLost_31 : decode b_M_passWithLost 31 = .ok (.aload_n 0, 1) := by decide +kernel
theorem d_M_passWithLost_32 : decode b_M_passWithLost 32 = .ok (.getfield 22, 3) := by decide +kernel
theorem d_M_passWithLost_35 : decode b_M_passWithLost 35 = .ok (.invokevirtual 36, 3) := by decide +kernel
theorem d_M_passWithLost_38 : decode b_M_passWithLost 38 = .ok (.iinc 4 1, 3) := by decide +kernel
theorem d_M_passWithLost_41 : decode b_M_passWithLost 41 = .ok (.goto (-38), 3) := by decide +kernel
theorem d_M_passWithLost_44 : decode b_M_passWithLost 44 = .ok (.return_, 1) := by decide +kernel
abbrev b_X_power : ByteArray := prog_1_method_59_code
def y_X_power : MethodName := ⟨"PassedOnAndBetter", "power", "(II)J"⟩
theorem m_X_power : MV y_X_power b_X_power 5 (some .long) 2 := ⟨mG 858 (by decide +kernel) (by decide +kernel), mG 83 (by decide +kernel) (by decide +kernel), by decide +kernel⟩
theorem mi_X_power : Cond.static y_X_power ∈ tbG := mG 857 (by decide +kernel) (by decide +kernel)
theorem d_X_power_0 : decode b_X_power 0 = .ok (.lconst 1, 1) := by decide +kernel
theorem d_X_power_1 : decode b_X_power 1 = .ok (.lstore_n 2, 1) := by decide +kernel
theorem d_X_power_2 : decode b_X_power 2 = .ok (.iconst 0, 1) := by decide +kernel
theorem d_X_power_3 : decode b_X_power 3 = .ok (.istore 4, 2) := by decide +kernel
theorem d_X_power_5 : decode b_X_power 5 = .ok (.iload 4, 2) := by decide +kernel
theorem d_X_power_7 : decode b_X_power 7 = .ok (.iload_n 1, 1) := by decide +kernel
theorem d_X_power_8 : decode b_X_power 8 = .ok (.if_icmp .ge 14, 3) := by decide +kernel
theorem d_X_power_11 : decode b_X_power 11 = .ok (.lload_n 2, 1) := by decide +kernel
theorem d_X_power_12 : decode b_X_power 12 = .ok (.iload_n 0, 1) := by decide +kernel
theorem d_X_power_13 : decode b_X_power 13 = .ok (.i2l, 1) := by decide +kernel
theorem d_X_power_14 : decode b_X_power 14 = .ok (.lmul, 1) := by decide +kernel
theorem d_X_power_15 : decode b_X_power 15 = .ok (.lstore_n 2, 1) := by decide +kernel
theorem d_X_power_16 : decode b_X_power 16 = .ok (.iinc 4 1, 3) := by decide +kernel
theorem d_X_power_19 : decode b_X_power 19 = .ok (.goto (-14), 3) := by decide +kernel
theorem d_X_power_22 : decode b_X_power 22 = .ok (.lload_n 2, 1) := by decide +kernel
theorem d_X_power_23 : decode b_X_power 23 = .ok (.lreturn, 1) := by decide +kernel
abbrev b_M_waysWithLost : ByteArray := prog_7_method_27_code
def y_M_waysWithLost : MethodName := ⟨"PassedOnAndBetter$Mind", "waysWithLost", "(IIII)J"⟩
theorem m_M_waysWithLost : MV y_M_waysWithLost b_M_waysWithLost 9 (some .long) 4 := ⟨mG 849 (by decide +kernel) (by decide +kernel), mG 90 (by decide +kernel) (by decide +kernel), by decide +kernel⟩
theorem mi_M_waysWithLost : Cond.instanceMethod y_M_waysWithLost ∈ tbG := mG 847 (by decide +kernel) (by decide +kernel)
theorem ms_M_waysWithLost : Cond.selects y_M_waysWithLost.cls y_M_waysWithLost y_M_waysWithLost ∈ tbG := mG 848 (by decide +kernel) (by decide +kernel)
theorem d_M_waysWithLost_0 : decode b_M_waysWithLost 0 = .ok (.lconst 0, 1) := by decide +kernel
theorem d_M_waysWithLost_1 : decode b_M_waysWithLost 1 = .ok (.lstore 5, 2) := by decide +kernel
theorem d_M_waysWithLost_3 : decode b_M_waysWithLost 3 = .ok (.aload_n 0, 1) := by decide +kernel
theorem d_M_waysWithLost_4 : decode b_M_waysWithLost 4 = .ok (.invokevirtual 41, 3) := by decide +kernel
theorem d_M_waysWithLost_7 : decode b_M_waysWithLost 7 = .ok (.pop, 1) := by decide +kernel
theorem d_M_waysWithLost_8 : decode b_M_waysWithLost 8 = .ok (.aload_n 0, 1) := by decide +kernel
theorem d_M_waysWithLost_9 : decode b_M_waysWithLost 9 = .ok (.getfield 22, 3) := by decide +kernel
theorem d_M_waysWithLost_12 : decode b_M_waysWithLost 12 = .ok (.iload_n 1, 1) := by decide +kernel
theorem d_M_waysWithLost_13 : decode b_M_waysWithLost 13 = .ok (.invokevirtual 45, 3) := by decide +kernel
theorem d_M_waysWithLost_16 : decode b_M_waysWithLost 16 = .ok (.astore 7, 2) := by decide +kernel
theorem d_M_waysWithLost_18 : decode b_M_waysWithLost 18 = .ok (.iconst 0, 1) := by decide +kernel
theorem d_M_waysWithLost_19 : decode b_M_waysWithLost 19 = .ok (.istore 8, 2) := by decide +kernel
theorem d_M_waysWithLost_21 : decode b_M_waysWithLost 21 = .ok (.iload 8, 2) := by decide +kernel
theorem d_M_waysWithLost_23 : decode b_M_waysWithLost 23 = .ok (.iconst 1, 1) := by decide +kernel
theorem d_M_waysWithLost_24 : decode b_M_waysWithLost 24 = .ok (.iload_n 3, 1) := by decide +kernel
theorem d_M_waysWithLost_25 : decode b_M_waysWithLost 25 = .ok (.ishl, 1) := by decide +kernel
theorem d_M_waysWithLost_26 : decode b_M_waysWithLost 26 = .ok (.if_icmp .ge 59, 3) := by decide +kernel
theorem d_M_waysWithLost_29 : decode b_M_waysWithLost 29 = .ok (.aload 7, 2) := by decide +kernel
theorem d_M_waysWithLost_31 : decode b_M_waysWithLost 31 = .ok (.aload_n 0, 1) := by decide +kernel
theorem d_M_waysWithLost_32 : decode b_M_waysWithLost 32 = .ok (.getfield 9, 3) := by decide +kernel
theorem d_M_waysWithLost_35 : decode b_M_waysWithLost 35 = .ok (.iload_n 1, 1) := by decide +kernel
theorem d_M_waysWithLost_36 : decode b_M_waysWithLost 36 = .ok (.invokevirtual 45, 3) := by decide +kernel
theorem d_M_waysWithLost_39 : decode b_M_waysWithLost 39 = .ok (.invokevirtual 169, 3) := by decide +kernel
theorem d_M_waysWithLost_42 : decode b_M_waysWithLost 42 = .ok (.aload_n 0, 1) := by decide +kernel
theorem d_M_waysWithLost_43 : decode b_M_waysWithLost 43 = .ok (.aload 7, 2) := by decide +kernel
theorem d_M_waysWithLost_45 : decode b_M_waysWithLost 45 = .ok (.iload_n 3, 1) := by decide +kernel
theorem d_M_waysWithLost_46 : decode b_M_waysWithLost 46 = .ok (.iload 8, 2) := by decide +kernel
theorem d_M_waysWithLost_48 : decode b_M_waysWithLost 48 = .ok (.invokevirtual 172, 3) := by decide +kernel
theorem d_M_waysWithLost_51 : decode b_M_waysWithLost 51 = .ok (.aload 7, 2) := by decide +kernel
theorem d_M_waysWithLost_53 : decode b_M_waysWithLost 53 = .ok (.getfield 53, 3) := by decide +kernel
theorem d_M_waysWithLost_56 : decode b_M_waysWithLost 56 = .ok (.iload_n 2, 1) := by decide +kernel
theorem d_M_waysWithLost_57 : decode b_M_waysWithLost 57 = .ok (.if_icmp .ne 22, 3) := by decide +kernel
theorem d_M_waysWithLost_60 : decode b_M_waysWithLost 60 = .ok (.lload 5, 2) := by decide +kernel
theorem d_M_waysWithLost_62 : decode b_M_waysWithLost 62 = .ok (.iload 4, 2) := by decide +kernel
theorem d_M_waysWithLost_64 : decode b_M_waysWithLost 64 = .ok (.iconst 1, 1) := by decide +kernel
theorem d_M_waysWithLost_65 : decode b_M_waysWithLost 65 = .ok (.isub, 1) := by decide +kernel
theorem d_M_waysWithLost_66 : decode b_M_waysWithLost 66 = .ok (.iload_n 3, 1) := by decide +kernel
theorem d_M_waysWithLost_67 : decode b_M_waysWithLost 67 = .ok (.iload 8, 2) := by decide +kernel
theorem d_M_waysWithLost_69 : decode b_M_waysWithLost 69 = .ok (.invokestatic 109, 3) := by decide +kernel
theorem d_M_waysWithLost_72 : decode b_M_waysWithLost 72 = .ok (.isub, 1) := by decide +kernel
theorem d_M_waysWithLost_73 : decode b_M_waysWithLost 73 = .ok (.invokestatic 176, 3) := by decide +kernel
theorem d_M_waysWithLost_76 : decode b_M_waysWithLost 76 = .ok (.ladd, 1) := by decide +kernel
theorem d_M_waysWithLost_77 : decode b_M_waysWithLost 77 = .ok (.lstore 5, 2) := by decide +kernel
theorem d_M_waysWithLost_79 : decode b_M_waysWithLost 79 = .ok (.iinc 8 1, 3) := by decide +kernel
theorem d_M_waysWithLost_82 : decode b_M_waysWithLost 82 = .ok (.goto (-61), 3) := by decide +kernel
theorem d_M_waysWithLost_85 : decode b_M_waysWithLost 85 = .ok (.lload 5, 2) := by decide +kernel
theorem d_M_waysWithLost_87 : decode b_M_waysWithLost 87 = .ok (.lreturn, 1) := by decide +kernel
abbrev b_X_commonDivisor : ByteArray := prog_1_method_58_code
def y_X_commonDivisor : MethodName := ⟨"PassedOnAndBetter", "commonDivisor", "(JJ)J"⟩
theorem m_X_commonDivisor : MV y_X_commonDivisor b_X_commonDivisor 11 (some .long) 2 := ⟨mG 865 (by decide +kernel) (by decide +kernel), mG 83 (by decide +kernel) (by decide +kernel), by decide +kernel⟩
theorem mi_X_commonDivisor : Cond.static y_X_commonDivisor ∈ tbG := mG 864 (by decide +kernel) (by decide +kernel)
theorem d_X_commonDivisor_0 : decode b_X_commonDivisor 0 = .ok (.lload_n 0, 1) := by decide +kernel
theorem d_X_commonDivisor_1 : decode b_X_commonDivisor 1 = .ok (.lstore 4, 2) := by decide +kernel
theorem d_X_commonDivisor_3 : decode b_X_commonDivisor 3 = .ok (.lload_n 2, 1) := by decide +kernel
theorem d_X_commonDivisor_4 : decode b_X_commonDivisor 4 = .ok (.lstore 6, 2) := by decide +kernel
theorem d_X_commonDivisor_6 : decode b_X_commonDivisor 6 = .ok (.iconst 0, 1) := by decide +kernel
theorem d_X_commonDivisor_7 : decode b_X_commonDivisor 7 = .ok (.istore 8, 2) := by decide +kernel
theorem d_X_commonDivisor_9 : decode b_X_commonDivisor 9 = .ok (.iload 8, 2) := by decide +kernel
theorem d_X_commonDivisor_11 : decode b_X_commonDivisor 11 = .ok (.bipush 100, 2) := by decide +kernel
theorem d_X_commonDivisor_13 : decode b_X_commonDivisor 13 = .ok (.if_icmp .ge 31, 3) := by decide +kernel
theorem d_X_commonDivisor_16 : decode b_X_commonDivisor 16 = .ok (.lload 6, 2) := by decide +kernel
theorem d_X_commonDivisor_18 : decode b_X_commonDivisor 18 = .ok (.lconst 0, 1) := by decide +kernel
theorem d_X_commonDivisor_19 : decode b_X_commonDivisor 19 = .ok (.lcmp, 1) := by decide +kernel
theorem d_X_commonDivisor_20 : decode b_X_commonDivisor 20 = .ok (.ifCond .eq 24, 3) := by decide +kernel
theorem d_X_commonDivisor_23 : decode b_X_commonDivisor 23 = .ok (.lload 4, 2) := by decide +kernel
theorem d_X_commonDivisor_25 : decode b_X_commonDivisor 25 = .ok (.lload 6, 2) := by decide +kernel
theorem d_X_commonDivisor_27 : decode b_X_commonDivisor 27 = .ok (.lrem, 1) := by decide +kernel
theorem d_X_commonDivisor_28 : decode b_X_commonDivisor 28 = .ok (.lstore 9, 2) := by decide +kernel
theorem d_X_commonDivisor_30 : decode b_X_commonDivisor 30 = .ok (.lload 6, 2) := by decide +kernel
theorem d_X_commonDivisor_32 : decode b_X_commonDivisor 32 = .ok (.lstore 4, 2) := by decide +kernel
theorem d_X_commonDivisor_34 : decode b_X_commonDivisor 34 = .ok (.lload 9, 2) := by decide +kernel
theorem d_X_commonDivisor_36 : decode b_X_commonDivisor 36 = .ok (.lstore 6, 2) := by decide +kernel
theorem d_X_commonDivisor_38 : decode b_X_commonDivisor 38 = .ok (.iinc 8 1, 3) := by decide +kernel
theorem d_X_commonDivisor_41 : decode b_X_commonDivisor 41 = .ok (.goto (-32), 3) := by decide +kernel
theorem d_X_commonDivisor_44 : decode b_X_commonDivisor 44 = .ok (.lload 4, 2) := by decide +kernel
theorem d_X_commonDivisor_46 : decode b_X_commonDivisor 46 = .ok (.lreturn, 1) := by decide +kernel
abbrev b_X_part : ByteArray := prog_1_method_57_code
def y_X_part : MethodName := ⟨"PassedOnAndBetter", "part", "(JJI)J"⟩
theorem m_X_part : MV y_X_part b_X_part 7 (some .long) 3 := ⟨mG 862 (by decide +kernel) (by decide +kernel), mG 83 (by decide +kernel) (by decide +kernel), by decide +kernel⟩
theorem mi_X_part : Cond.static y_X_part ∈ tbG := mG 861 (by decide +kernel) (by decide +kernel)
theorem d_X_part_0 : decode b_X_part 0 = .ok (.lload_n 0, 1) := by decide +kernel
theorem d_X_part_1 : decode b_X_part 1 = .ok (.lload_n 2, 1) := by decide +kernel
theorem d_X_part_2 : decode b_X_part 2 = .ok (.invokestatic 325, 3) := by decide +kernel
theorem d_X_part_5 : decode b_X_part 5 = .ok (.lstore 5, 2) := by decide +kernel
theorem d_X_part_7 : decode b_X_part 7 = .ok (.lload 5, 2) := by decide +kernel
theorem d_X_part_9 : decode b_X_part 9 = .ok (.lconst 0, 1) := by decide +kernel
theorem d_X_part_10 : decode b_X_part 10 = .ok (.lcmp, 1) := by decide +kernel
theorem d_X_part_11 : decode b_X_part 11 = .ok (.ifCond .gt 14, 3) := by decide +kernel
theorem d_X_part_14 : decode b_X_part 14 = .ok (.iload 4, 2) := by decide +kernel
theorem d_X_part_16 : decode b_X_part 16 = .ok (.ifCond .ne 7, 3) := by decide +kernel
theorem d_X_part_19 : decode b_X_part 19 = .ok (.lconst 0, 1) := by decide +kernel
theorem d_X_part_20 : decode b_X_part 20 = .ok (.goto 4, 3) := by decide +kernel
theorem d_X_part_23 : decode b_X_part 23 = .ok (.lconst 1, 1) := by decide +kernel
theorem d_X_part_24 : decode b_X_part 24 = .ok (.lreturn, 1) := by decide +kernel
theorem d_X_part_25 : decode b_X_part 25 = .ok (.iload 4, 2) := by decide +kernel
theorem d_X_part_27 : decode b_X_part 27 = .ok (.ifCond .ne 10, 3) := by decide +kernel
theorem d_X_part_30 : decode b_X_part 30 = .ok (.lload_n 0, 1) := by decide +kernel
theorem d_X_part_31 : decode b_X_part 31 = .ok (.lload 5, 2) := by decide +kernel
theorem d_X_part_33 : decode b_X_part 33 = .ok (.ldiv, 1) := by decide +kernel
theorem d_X_part_34 : decode b_X_part 34 = .ok (.goto 7, 3) := by decide +kernel
theorem d_X_part_37 : decode b_X_part 37 = .ok (.lload_n 2, 1) := by decide +kernel
theorem d_X_part_38 : decode b_X_part 38 = .ok (.lload 5, 2) := by decide +kernel
theorem d_X_part_40 : decode b_X_part 40 = .ok (.ldiv, 1) := by decide +kernel
theorem d_X_part_41 : decode b_X_part 41 = .ok (.lreturn, 1) := by decide +kernel
abbrev b_X_lost : ByteArray := prog_1_method_29_code
def y_X_lost : MethodName := ⟨"PassedOnAndBetter", "lost", "(IIIII)J"⟩
theorem m_X_lost : MV y_X_lost b_X_lost 7 (some .long) 5 := ⟨mG 840 (by decide +kernel) (by decide +kernel), mG 83 (by decide +kernel) (by decide +kernel), by decide +kernel⟩
theorem mi_X_lost : Cond.instanceMethod y_X_lost ∈ tbG := mG 838 (by decide +kernel) (by decide +kernel)
theorem ms_X_lost : Cond.selects y_X_lost.cls y_X_lost y_X_lost ∈ tbG := mG 839 (by decide +kernel) (by decide +kernel)
theorem d_X_lost_0 : decode b_X_lost 0 = .ok (.aload_n 0, 1) := by decide +kernel
theorem d_X_lost_1 : decode b_X_lost 1 = .ok (.iload_n 1, 1) := by decide +kernel
theorem d_X_lost_2 : decode b_X_lost 2 = .ok (.invokevirtual 112, 3) := by decide +kernel
theorem d_X_lost_5 : decode b_X_lost 5 = .ok (.aload_n 0, 1) := by decide +kernel
theorem d_X_lost_6 : decode b_X_lost 6 = .ok (.iload_n 2, 1) := by decide +kernel
theorem d_X_lost_7 : decode b_X_lost 7 = .ok (.invokevirtual 90, 3) := by decide +kernel
theorem d_X_lost_10 : decode b_X_lost 10 = .ok (.iconst 0, 1) := by decide +kernel
theorem d_X_lost_11 : decode b_X_lost 11 = .ok (.invokestatic 97, 3) := by decide +kernel
theorem d_X_lost_14 : decode b_X_lost 14 = .ok (.istore 6, 2) := by decide +kernel
theorem d_X_lost_16 : decode b_X_lost 16 = .ok (.iload 6, 2) := by decide +kernel
theorem d_X_lost_18 : decode b_X_lost 18 = .ok (.ifCond .ne 17, 3) := by decide +kernel
theorem d_X_lost_21 : decode b_X_lost 21 = .ok (.iload_n 3, 1) := by decide +kernel
theorem d_X_lost_22 : decode b_X_lost 22 = .ok (.ifCond .lt 9, 3) := by decide +kernel
theorem d_X_lost_25 : decode b_X_lost 25 = .ok (.iload 4, 2) := by decide +kernel
theorem d_X_lost_27 : decode b_X_lost 27 = .ok (.iconst 2, 1) := by decide +kernel
theorem d_X_lost_28 : decode b_X_lost 28 = .ok (.if_icmp .ge 7, 3) := by decide +kernel
theorem d_X_lost_31 : decode b_X_lost 31 = .ok (.bipush (-4), 2) := by decide +kernel
theorem d_X_lost_33 : decode b_X_lost 33 = .ok (.istore 6, 2) := by decide +kernel
theorem d_X_lost_35 : decode b_X_lost 35 = .ok (.iload 6, 2) := by decide +kernel
theorem d_X_lost_37 : decode b_X_lost 37 = .ok (.ifCond .ne 20, 3) := by decide +kernel
theorem d_X_lost_40 : decode b_X_lost 40 = .ok (.iload_n 3, 1) := by decide +kernel
theorem d_X_lost_41 : decode b_X_lost 41 = .ok (.bipush 8, 2) := by decide +kernel
theorem d_X_lost_43 : decode b_X_lost 43 = .ok (.if_icmp .gt 10, 3) := by decide +kernel
theorem d_X_lost_46 : decode b_X_lost 46 = .ok (.iload 4, 2) := by decide +kernel
theorem d_X_lost_48 : decode b_X_lost 48 = .ok (.bipush 20, 2) := by decide +kernel
theorem d_X_lost_50 : decode b_X_lost 50 = .ok (.if_icmp .le 7, 3) := by decide +kernel
theorem d_X_lost_53 : decode b_X_lost 53 = .ok (.bipush (-6), 2) := by decide +kernel
theorem d_X_lost_55 : decode b_X_lost 55 = .ok (.istore 6, 2) := by decide +kernel
theorem d_X_lost_57 : decode b_X_lost 57 = .ok (.iload 6, 2) := by decide +kernel
theorem d_X_lost_59 : decode b_X_lost 59 = .ok (.iload 5, 2) := by decide +kernel
theorem d_X_lost_61 : decode b_X_lost 61 = .ok (.iconst 1, 1) := by decide +kernel
theorem d_X_lost_62 : decode b_X_lost 62 = .ok (.invokestatic 93, 3) := by decide +kernel
theorem d_X_lost_65 : decode b_X_lost 65 = .ok (.iconst 0, 1) := by decide +kernel
theorem d_X_lost_66 : decode b_X_lost 66 = .ok (.invokestatic 97, 3) := by decide +kernel
theorem d_X_lost_69 : decode b_X_lost 69 = .ok (.istore 6, 2) := by decide +kernel
theorem d_X_lost_71 : decode b_X_lost 71 = .ok (.iload 6, 2) := by decide +kernel
theorem d_X_lost_73 : decode b_X_lost 73 = .ok (.ifCond .eq 10, 3) := by decide +kernel
theorem d_X_lost_76 : decode b_X_lost 76 = .ok (.aload_n 0, 1) := by decide +kernel
theorem d_X_lost_77 : decode b_X_lost 77 = .ok (.iload 6, 2) := by decide +kernel
theorem d_X_lost_79 : decode b_X_lost 79 = .ok (.invokevirtual 236, 3) := by decide +kernel
theorem d_X_lost_82 : decode b_X_lost 82 = .ok (.lreturn, 1) := by decide +kernel
theorem d_X_lost_83 : decode b_X_lost 83 = .ok (.aload_n 0, 1) := by decide +kernel
theorem d_X_lost_84 : decode b_X_lost 84 = .ok (.getfield 45, 3) := by decide +kernel
theorem d_X_lost_87 : decode b_X_lost 87 = .ok (.iload_n 1, 1) := by decide +kernel
theorem d_X_lost_88 : decode b_X_lost 88 = .ok (.iload_n 2, 1) := by decide +kernel
theorem d_X_lost_89 : decode b_X_lost 89 = .ok (.iload_n 3, 1) := by decide +kernel
theorem d_X_lost_90 : decode b_X_lost 90 = .ok (.iload 4, 2) := by decide +kernel
theorem d_X_lost_92 : decode b_X_lost 92 = .ok (.invokevirtual 240, 3) := by decide +kernel
theorem d_X_lost_95 : decode b_X_lost 95 = .ok (.iload 4, 2) := by decide +kernel
theorem d_X_lost_97 : decode b_X_lost 97 = .ok (.iload_n 3, 1) := by decide +kernel
theorem d_X_lost_98 : decode b_X_lost 98 = .ok (.invokestatic 244, 3) := by decide +kernel
theorem d_X_lost_101 : decode b_X_lost 101 = .ok (.iload 5, 2) := by decide +kernel
theorem d_X_lost_103 : decode b_X_lost 103 = .ok (.invokestatic 248, 3) := by decide +kernel
theorem d_X_lost_106 : decode b_X_lost 106 = .ok (.lreturn, 1) := by decide +kernel
abbrev b_M_unevenBrought : ByteArray := prog_7_method_30_code
def y_M_unevenBrought : MethodName := ⟨"PassedOnAndBetter$Mind", "unevenBrought", "(I)I"⟩
theorem m_M_unevenBrought : MV y_M_unevenBrought b_M_unevenBrought 5 (some .int) 1 := ⟨mG 873 (by decide +kernel) (by decide +kernel), mG 90 (by decide +kernel) (by decide +kernel), by decide +kernel⟩
theorem mi_M_unevenBrought : Cond.instanceMethod y_M_unevenBrought ∈ tbG := mG 871 (by decide +kernel) (by decide +kernel)
theorem ms_M_unevenBrought : Cond.selects y_M_unevenBrought.cls y_M_unevenBrought y_M_unevenBrought ∈ tbG := mG 872 (by decide +kernel) (by decide +kernel)
theorem d_M_unevenBrought_0 : decode b_M_unevenBrought 0 = .ok (.aload_n 0, 1) := by decide +kernel
theorem d_M_unevenBrought_1 : decode b_M_unevenBrought 1 = .ok (.getfield 9, 3) := by decide +kernel
theorem d_M_unevenBrought_4 : decode b_M_unevenBrought 4 = .ok (.getfield 97, 3) := by decide +kernel
theorem d_M_unevenBrought_7 : decode b_M_unevenBrought 7 = .ok (.ifCond .ne 5, 3) := by decide +kernel
theorem d_M_unevenBrought_10 : decode b_M_unevenBrought 10 = .ok (.iconst 0, 1) := by decide +kernel
theorem d_M_unevenBrought_11 : decode b_M_unevenBrought 11 = .ok (.ireturn, 1) := by decide +kernel
theorem d_M_unevenBrought_12 : decode b_M_unevenBrought 12 = .ok (.aload_n 0, 1) := by decide +kernel
theorem d_M_unevenBrought_13 : decode b_M_unevenBrought 13 = .ok (.invokevirtual 41, 3) := by decide +kernel
theorem d_M_unevenBrought_16 : decode b_M_unevenBrought 16 = .ok (.iload_n 1, 1) := by decide +kernel
theorem d_M_unevenBrought_17 : decode b_M_unevenBrought 17 = .ok (.invokevirtual 66, 3) := by decide +kernel
theorem d_M_unevenBrought_20 : decode b_M_unevenBrought 20 = .ok (.aload_n 0, 1) := by decide +kernel
theorem d_M_unevenBrought_21 : decode b_M_unevenBrought 21 = .ok (.getfield 22, 3) := by decide +kernel
theorem d_M_unevenBrought_24 : decode b_M_unevenBrought 24 = .ok (.iconst 0, 1) := by decide +kernel
theorem d_M_unevenBrought_25 : decode b_M_unevenBrought 25 = .ok (.invokevirtual 88, 3) := by decide +kernel
theorem d_M_unevenBrought_28 : decode b_M_unevenBrought 28 = .ok (.getfield 183, 3) := by decide +kernel
theorem d_M_unevenBrought_31 : decode b_M_unevenBrought 31 = .ok (.istore_n 2, 1) := by decide +kernel
theorem d_M_unevenBrought_32 : decode b_M_unevenBrought 32 = .ok (.iload_n 2, 1) := by decide +kernel
theorem d_M_unevenBrought_33 : decode b_M_unevenBrought 33 = .ok (.istore_n 3, 1) := by decide +kernel
theorem d_M_unevenBrought_34 : decode b_M_unevenBrought 34 = .ok (.iconst 1, 1) := by decide +kernel
theorem d_M_unevenBrought_35 : decode b_M_unevenBrought 35 = .ok (.istore 4, 2) := by decide +kernel
theorem d_M_unevenBrought_37 : decode b_M_unevenBrought 37 = .ok (.iload 4, 2) := by decide +kernel
theorem d_M_unevenBrought_39 : decode b_M_unevenBrought 39 = .ok (.aload_n 0, 1) := by decide +kernel
theorem d_M_unevenBrought_40 : decode b_M_unevenBrought 40 = .ok (.getfield 22, 3) := by decide +kernel
theorem d_M_unevenBrought_43 : decode b_M_unevenBrought 43 = .ok (.getfield 97, 3) := by decide +kernel
theorem d_M_unevenBrought_46 : decode b_M_unevenBrought 46 = .ok (.if_icmp .ge 43, 3) := by decide +kernel
theorem d_M_unevenBrought_49 : decode b_M_unevenBrought 49 = .ok (.iload_n 2, 1) := by decide +kernel
theorem d_M_unevenBrought_50 : decode b_M_unevenBrought 50 = .ok (.aload_n 0, 1) := by decide +kernel
theorem d_M_unevenBrought_51 : decode b_M_unevenBrought 51 = .ok (.getfield 22, 3) := by decide +kernel
theorem d_M_unevenBrought_54 : decode b_M_unevenBrought 54 = .ok (.iload 4, 2) := by decide +kernel
theorem d_M_unevenBrought_56 : decode b_M_unevenBrought 56 = .ok (.invokevirtual 88, 3) := by decide +kernel
theorem d_M_unevenBrought_59 : decode b_M_unevenBrought 59 = .ok (.getfield 183, 3) := by decide +kernel
theorem d_M_unevenBrought_62 : decode b_M_unevenBrought 62 = .ok (.invokestatic 186, 3) := by decide +kernel
theorem d_M_unevenBrought_65 : decode b_M_unevenBrought 65 = .ok (.istore_n 2, 1) := by decide +kernel
theorem d_M_unevenBrought_66 : decode b_M_unevenBrought 66 = .ok (.iload_n 3, 1) := by decide +kernel
theorem d_M_unevenBrought_67 : decode b_M_unevenBrought 67 = .ok (.aload_n 0, 1) := by decide +kernel
theorem d_M_unevenBrought_68 : decode b_M_unevenBrought 68 = .ok (.getfield 22, 3) := by decide +kernel
theorem d_M_unevenBrought_71 : decode b_M_unevenBrought 71 = .ok (.iload 4, 2) := by decide +kernel
theorem d_M_unevenBrought_73 : decode b_M_unevenBrought 73 = .ok (.invokevirtual 88, 3) := by decide +kernel
theorem d_M_unevenBrought_76 : decode b_M_unevenBrought 76 = .ok (.getfield 183, 3) := by decide +kernel
theorem d_M_unevenBrought_79 : decode b_M_unevenBrought 79 = .ok (.invokestatic 192, 3) := by decide +kernel
theorem d_M_unevenBrought_82 : decode b_M_unevenBrought 82 = .ok (.istore_n 3, 1) := by decide +kernel
theorem d_M_unevenBrought_83 : decode b_M_unevenBrought 83 = .ok (.iinc 4 1, 3) := by decide +kernel
theorem d_M_unevenBrought_86 : decode b_M_unevenBrought 86 = .ok (.goto (-49), 3) := by decide +kernel
theorem d_M_unevenBrought_89 : decode b_M_unevenBrought 89 = .ok (.iload_n 2, 1) := by decide +kernel
theorem d_M_unevenBrought_90 : decode b_M_unevenBrought 90 = .ok (.iload_n 3, 1) := by decide +kernel
theorem d_M_unevenBrought_91 : decode b_M_unevenBrought 91 = .ok (.isub, 1) := by decide +kernel
theorem d_M_unevenBrought_92 : decode b_M_unevenBrought 92 = .ok (.ireturn, 1) := by decide +kernel
abbrev b_M_broughtBy : ByteArray := prog_7_method_29_code
def y_M_broughtBy : MethodName := ⟨"PassedOnAndBetter$Mind", "broughtBy", "(II)I"⟩
theorem m_M_broughtBy : MV y_M_broughtBy b_M_broughtBy 3 (some .int) 2 := ⟨mG 879 (by decide +kernel) (by decide +kernel), mG 90 (by decide +kernel) (by decide +kernel), by decide +kernel⟩
theorem mi_M_broughtBy : Cond.instanceMethod y_M_broughtBy ∈ tbG := mG 877 (by decide +kernel) (by decide +kernel)
theorem ms_M_broughtBy : Cond.selects y_M_broughtBy.cls y_M_broughtBy y_M_broughtBy ∈ tbG := mG 878 (by decide +kernel) (by decide +kernel)
theorem d_M_broughtBy_0 : decode b_M_broughtBy 0 = .ok (.aload_n 0, 1) := by decide +kernel
theorem d_M_broughtBy_1 : decode b_M_broughtBy 1 = .ok (.invokevirtual 41, 3) := by decide +kernel
theorem d_M_broughtBy_4 : decode b_M_broughtBy 4 = .ok (.iload_n 2, 1) := by decide +kernel
theorem d_M_broughtBy_5 : decode b_M_broughtBy 5 = .ok (.invokevirtual 66, 3) := by decide +kernel
theorem d_M_broughtBy_8 : decode b_M_broughtBy 8 = .ok (.aload_n 0, 1) := by decide +kernel
theorem d_M_broughtBy_9 : decode b_M_broughtBy 9 = .ok (.getfield 22, 3) := by decide +kernel
theorem d_M_broughtBy_12 : decode b_M_broughtBy 12 = .ok (.iload_n 1, 1) := by decide +kernel
theorem d_M_broughtBy_13 : decode b_M_broughtBy 13 = .ok (.invokevirtual 88, 3) := by decide +kernel
theorem d_M_broughtBy_16 : decode b_M_broughtBy 16 = .ok (.getfield 183, 3) := by decide +kernel
theorem d_M_broughtBy_19 : decode b_M_broughtBy 19 = .ok (.ireturn, 1) := by decide +kernel
abbrev b_X_added : ByteArray := prog_1_method_30_code
def y_X_added : MethodName := ⟨"PassedOnAndBetter", "added", "(II)I"⟩
theorem m_X_added : MV y_X_added b_X_added 4 (some .int) 2 := ⟨mG 869 (by decide +kernel) (by decide +kernel), mG 83 (by decide +kernel) (by decide +kernel), by decide +kernel⟩
theorem mi_X_added : Cond.instanceMethod y_X_added ∈ tbG := mG 867 (by decide +kernel) (by decide +kernel)
theorem ms_X_added : Cond.selects y_X_added.cls y_X_added y_X_added ∈ tbG := mG 868 (by decide +kernel) (by decide +kernel)
theorem d_X_added_0 : decode b_X_added 0 = .ok (.aload_n 0, 1) := by decide +kernel
theorem d_X_added_1 : decode b_X_added 1 = .ok (.iload_n 1, 1) := by decide +kernel
theorem d_X_added_2 : decode b_X_added 2 = .ok (.invokevirtual 176, 3) := by decide +kernel
theorem d_X_added_5 : decode b_X_added 5 = .ok (.iload_n 2, 1) := by decide +kernel
theorem d_X_added_6 : decode b_X_added 6 = .ok (.invokestatic 170, 3) := by decide +kernel
theorem d_X_added_9 : decode b_X_added 9 = .ok (.iconst 0, 1) := by decide +kernel
theorem d_X_added_10 : decode b_X_added 10 = .ok (.invokestatic 97, 3) := by decide +kernel
theorem d_X_added_13 : decode b_X_added 13 = .ok (.istore_n 3, 1) := by decide +kernel
theorem d_X_added_14 : decode b_X_added 14 = .ok (.iload_n 3, 1) := by decide +kernel
theorem d_X_added_15 : decode b_X_added 15 = .ok (.ifCond .eq 9, 3) := by decide +kernel
theorem d_X_added_18 : decode b_X_added 18 = .ok (.aload_n 0, 1) := by decide +kernel
theorem d_X_added_19 : decode b_X_added 19 = .ok (.iload_n 3, 1) := by decide +kernel
theorem d_X_added_20 : decode b_X_added 20 = .ok (.invokevirtual 69, 3) := by decide +kernel
theorem d_X_added_23 : decode b_X_added 23 = .ok (.ireturn, 1) := by decide +kernel
theorem d_X_added_24 : decode b_X_added 24 = .ok (.iload_n 1, 1) := by decide +kernel
theorem d_X_added_25 : decode b_X_added 25 = .ok (.iconst (-1), 1) := by decide +kernel
theorem d_X_added_26 : decode b_X_added 26 = .ok (.if_icmp .ne 14, 3) := by decide +kernel
theorem d_X_added_29 : decode b_X_added 29 = .ok (.aload_n 0, 1) := by decide +kernel
theorem d_X_added_30 : decode b_X_added 30 = .ok (.getfield 45, 3) := by decide +kernel
theorem d_X_added_33 : decode b_X_added 33 = .ok (.iload_n 2, 1) := by decide +kernel
theorem d_X_added_34 : decode b_X_added 34 = .ok (.invokevirtual 252, 3) := by decide +kernel
theorem d_X_added_37 : decode b_X_added 37 = .ok (.goto 12, 3) := by decide +kernel
theorem d_X_added_40 : decode b_X_added 40 = .ok (.aload_n 0, 1) := by decide +kernel
theorem d_X_added_41 : decode b_X_added 41 = .ok (.getfield 45, 3) := by decide +kernel
theorem d_X_added_44 : decode b_X_added 44 = .ok (.iload_n 1, 1) := by decide +kernel
theorem d_X_added_45 : decode b_X_added 45 = .ok (.iload_n 2, 1) := by decide +kernel
theorem d_X_added_46 : decode b_X_added 46 = .ok (.invokevirtual 255, 3) := by decide +kernel
theorem d_X_added_49 : decode b_X_added 49 = .ok (.ireturn, 1) := by decide +kernel
abbrev b_C_mostOfGifts : ByteArray := prog_2_method_22_code
def y_C_mostOfGifts : MethodName := ⟨"PassedOnAndBetter$Company", "mostOfGifts", "(I)I"⟩
theorem m_C_mostOfGifts : MV y_C_mostOfGifts b_C_mostOfGifts 6 (some .int) 1 := ⟨mG 887 (by decide +kernel) (by decide +kernel), mG 84 (by decide +kernel) (by decide +kernel), by decide +kernel⟩
theorem mi_C_mostOfGifts : Cond.instanceMethod y_C_mostOfGifts ∈ tbG := mG 885 (by decide +kernel) (by decide +kernel)
theorem ms_C_mostOfGifts : Cond.selects y_C_mostOfGifts.cls y_C_mostOfGifts y_C_mostOfGifts ∈ tbG := mG 886 (by decide +kernel) (by decide +kernel)
theorem d_C_mostOfGifts_0 : decode b_C_mostOfGifts 0 = .ok (.bipush (-9), 2) := by decide +kernel
theorem d_C_mostOfGifts_2 : decode b_C_mostOfGifts 2 = .ok (.istore_n 2, 1) := by decide +kernel
theorem d_C_mostOfGifts_3 : decode b_C_mostOfGifts 3 = .ok (.iconst (-1), 1) := by decide +kernel
theorem d_C_mostOfGifts_4 : decode b_C_mostOfGifts 4 = .ok (.istore_n 3, 1) := by decide +kernel
theorem d_C_mostOfGifts_5 : decode b_C_mostOfGifts 5 = .ok (.iconst 0, 1) := by decide +kernel
theorem d_C_mostOfGifts_6 : decode b_C_mostOfGifts 6 = .ok (.istore 4, 2) := by decide +kernel
theorem d_C_mostOfGifts_8 : decode b_C_mostOfGifts 8 = .ok (.iload 4, 2) := by decide +kernel
theorem d_C_mostOfGifts_10 : decode b_C_mostOfGifts 10 = .ok (.aload_n 0, 1) := by decide +kernel
theorem d_C_mostOfGifts_11 : decode b_C_mostOfGifts 11 = .ok (.getfield 37, 3) := by decide +kernel
theorem d_C_mostOfGifts_14 : decode b_C_mostOfGifts 14 = .ok (.if_icmp .ge 33, 3) := by decide +kernel
theorem d_C_mostOfGifts_17 : decode b_C_mostOfGifts 17 = .ok (.aload_n 0, 1) := by decide +kernel
theorem d_C_mostOfGifts_18 : decode b_C_mostOfGifts 18 = .ok (.iload 4, 2) := by decide +kernel
theorem d_C_mostOfGifts_20 : decode b_C_mostOfGifts 20 = .ok (.invokevirtual 51, 3) := by decide +kernel
theorem d_C_mostOfGifts_23 : decode b_C_mostOfGifts 23 = .ok (.iload_n 1, 1) := by decide +kernel
theorem d_C_mostOfGifts_24 : decode b_C_mostOfGifts 24 = .ok (.invokevirtual 94, 3) := by decide +kernel
theorem d_C_mostOfGifts_27 : decode b_C_mostOfGifts 27 = .ok (.istore 5, 2) := by decide +kernel
theorem d_C_mostOfGifts_29 : decode b_C_mostOfGifts 29 = .ok (.iload 5, 2) := by decide +kernel
theorem d_C_mostOfGifts_31 : decode b_C_mostOfGifts 31 = .ok (.iload_n 3, 1) := by decide +kernel
theorem d_C_mostOfGifts_32 : decode b_C_mostOfGifts 32 = .ok (.if_icmp .le 9, 3) := by decide +kernel
theorem d_C_mostOfGifts_35 : decode b_C_mostOfGifts 35 = .ok (.iload 5, 2) := by decide +kernel
theorem d_C_mostOfGifts_37 : decode b_C_mostOfGifts 37 = .ok (.istore_n 3, 1) := by decide +kernel
theorem d_C_mostOfGifts_38 : decode b_C_mostOfGifts 38 = .ok (.iload 4, 2) := by decide +kernel
theorem d_C_mostOfGifts_40 : decode b_C_mostOfGifts 40 = .ok (.istore_n 2, 1) := by decide +kernel
theorem d_C_mostOfGifts_41 : decode b_C_mostOfGifts 41 = .ok (.iinc 4 1, 3) := by decide +kernel
theorem d_C_mostOfGifts_44 : decode b_C_mostOfGifts 44 = .ok (.goto (-36), 3) := by decide +kernel
theorem d_C_mostOfGifts_47 : decode b_C_mostOfGifts 47 = .ok (.iload_n 2, 1) := by decide +kernel
theorem d_C_mostOfGifts_48 : decode b_C_mostOfGifts 48 = .ok (.ireturn, 1) := by decide +kernel
abbrev b_X_dearest : ByteArray := prog_1_method_31_code
def y_X_dearest : MethodName := ⟨"PassedOnAndBetter", "dearest", "(I)I"⟩
theorem m_X_dearest : MV y_X_dearest b_X_dearest 3 (some .int) 1 := ⟨mG 883 (by decide +kernel) (by decide +kernel), mG 83 (by decide +kernel) (by decide +kernel), by decide +kernel⟩
theorem mi_X_dearest : Cond.instanceMethod y_X_dearest ∈ tbG := mG 881 (by decide +kernel) (by decide +kernel)
theorem ms_X_dearest : Cond.selects y_X_dearest.cls y_X_dearest y_X_dearest ∈ tbG := mG 882 (by decide +kernel) (by decide +kernel)
theorem d_X_dearest_0 : decode b_X_dearest 0 = .ok (.iload_n 1, 1) := by decide +kernel
theorem d_X_dearest_1 : decode b_X_dearest 1 = .ok (.iconst 1, 1) := by decide +kernel
theorem d_X_dearest_2 : decode b_X_dearest 2 = .ok (.invokestatic 93, 3) := by decide +kernel
theorem d_X_dearest_5 : decode b_X_dearest 5 = .ok (.istore_n 2, 1) := by decide +kernel
theorem d_X_dearest_6 : decode b_X_dearest 6 = .ok (.iload_n 2, 1) := by decide +kernel
theorem d_X_dearest_7 : decode b_X_dearest 7 = .ok (.ifCond .ne 14, 3) := by decide +kernel
theorem d_X_dearest_10 : decode b_X_dearest 10 = .ok (.aload_n 0, 1) := by decide +kernel
theorem d_X_dearest_11 : decode b_X_dearest 11 = .ok (.getfield 10, 3) := by decide +kernel
theorem d_X_dearest_14 : decode b_X_dearest 14 = .ok (.iload_n 1, 1) := by decide +kernel
theorem d_X_dearest_15 : decode b_X_dearest 15 = .ok (.invokevirtual 258, 3) := by decide +kernel
theorem d_X_dearest_18 : decode b_X_dearest 18 = .ok (.goto 8, 3) := by decide +kernel
theorem d_X_dearest_21 : decode b_X_dearest 21 = .ok (.aload_n 0, 1) := by decide +kernel
theorem d_X_dearest_22 : decode b_X_dearest 22 = .ok (.iload_n 2, 1) := by decide +kernel
theorem d_X_dearest_23 : decode b_X_dearest 23 = .ok (.invokevirtual 69, 3) := by decide +kernel
theorem d_X_dearest_26 : decode b_X_dearest 26 = .ok (.ireturn, 1) := by decide +kernel
abbrev b_C_doorsTooNarrowFor : ByteArray := prog_2_method_24_code
def y_C_doorsTooNarrowFor : MethodName := ⟨"PassedOnAndBetter$Company", "doorsTooNarrowFor", "(I)I"⟩
theorem m_C_doorsTooNarrowFor : MV y_C_doorsTooNarrowFor b_C_doorsTooNarrowFor 4 (some .int) 1 := ⟨mG 896 (by decide +kernel) (by decide +kernel), mG 84 (by decide +kernel) (by decide +kernel), by decide +kernel⟩
theorem mi_C_doorsTooNarrowFor : Cond.instanceMethod y_C_doorsTooNarrowFor ∈ tbG := mG 894 (by decide +kernel) (by decide +kernel)
theorem ms_C_doorsTooNarrowFor : Cond.selects y_C_doorsTooNarrowFor.cls y_C_doorsTooNarrowFor y_C_doorsTooNarrowFor ∈ tbG := mG 895 (by decide +kernel) (by decide +kernel)
theorem d_C_doorsTooNarrowFor_0 : decode b_C_doorsTooNarrowFor 0 = .ok (.iconst 0, 1) := by decide +kernel
theorem d_C_doorsTooNarrowFor_1 : decode b_C_doorsTooNarrowFor 1 = .ok (.istore_n 2, 1) := by decide +kernel
theorem d_C_doorsTooNarrowFor_2 : decode b_C_doorsTooNarrowFor 2 = .ok (.iconst 0, 1) := by decide +kernel
theorem d_C_doorsTooNarrowFor_3 : decode b_C_doorsTooNarrowFor 3 = .ok (.istore_n 3, 1) := by decide +kernel
theorem d_C_doorsTooNarrowFor_4 : decode b_C_doorsTooNarrowFor 4 = .ok (.iload_n 3, 1) := by decide +kernel
theorem d_C_doorsTooNarrowFor_5 : decode b_C_doorsTooNarrowFor 5 = .ok (.aload_n 0, 1) := by decide +kernel
theorem d_C_doorsTooNarrowFor_6 : decode b_C_doorsTooNarrowFor 6 = .ok (.getfield 33, 3) := by decide +kernel
theorem d_C_doorsTooNarrowFor_9 : decode b_C_doorsTooNarrowFor 9 = .ok (.if_icmp .ge 31, 3) := by decide +kernel
theorem d_C_doorsTooNarrowFor_12 : decode b_C_doorsTooNarrowFor 12 = .ok (.aload_n 0, 1) := by decide +kernel
theorem d_C_doorsTooNarrowFor_13 : decode b_C_doorsTooNarrowFor 13 = .ok (.iload_n 1, 1) := by decide +kernel
theorem d_C_doorsTooNarrowFor_14 : decode b_C_doorsTooNarrowFor 14 = .ok (.invokevirtual 51, 3) := by decide +kernel
theorem d_C_doorsTooNarrowFor_17 : decode b_C_doorsTooNarrowFor 17 = .ok (.getfield 73, 3) := by decide +kernel
theorem d_C_doorsTooNarrowFor_20 : decode b_C_doorsTooNarrowFor 20 = .ok (.aload_n 0, 1) := by decide +kernel
theorem d_C_doorsTooNarrowFor_21 : decode b_C_doorsTooNarrowFor 21 = .ok (.iload_n 3, 1) := by decide +kernel
theorem d_C_doorsTooNarrowFor_22 : decode b_C_doorsTooNarrowFor 22 = .ok (.invokevirtual 43, 3) := by decide +kernel
theorem d_C_doorsTooNarrowFor_25 : decode b_C_doorsTooNarrowFor 25 = .ok (.getfield 101, 3) := by decide +kernel
theorem d_C_doorsTooNarrowFor_28 : decode b_C_doorsTooNarrowFor 28 = .ok (.if_icmp .le 6, 3) := by decide +kernel
theorem d_C_doorsTooNarrowFor_31 : decode b_C_doorsTooNarrowFor 31 = .ok (.iinc 2 1, 3) := by decide +kernel
theorem d_C_doorsTooNarrowFor_34 : decode b_C_doorsTooNarrowFor 34 = .ok (.iinc 3 1, 3) := by decide +kernel
theorem d_C_doorsTooNarrowFor_37 : decode b_C_doorsTooNarrowFor 37 = .ok (.goto (-33), 3) := by decide +kernel
theorem d_C_doorsTooNarrowFor_40 : decode b_C_doorsTooNarrowFor 40 = .ok (.iload_n 2, 1) := by decide +kernel
theorem d_C_doorsTooNarrowFor_41 : decode b_C_doorsTooNarrowFor 41 = .ok (.ireturn, 1) := by decide +kernel
abbrev b_X_tooLarge : ByteArray := prog_1_method_32_code
def y_X_tooLarge : MethodName := ⟨"PassedOnAndBetter", "tooLarge", "(I)I"⟩
theorem m_X_tooLarge : MV y_X_tooLarge b_X_tooLarge 3 (some .int) 1 := ⟨mG 892 (by decide +kernel) (by decide +kernel), mG 83 (by decide +kernel) (by decide +kernel), by decide +kernel⟩
theorem mi_X_tooLarge : Cond.instanceMethod y_X_tooLarge ∈ tbG := mG 890 (by decide +kernel) (by decide +kernel)
theorem ms_X_tooLarge : Cond.selects y_X_tooLarge.cls y_X_tooLarge y_X_tooLarge ∈ tbG := mG 891 (by decide +kernel) (by decide +kernel)
theorem d_X_tooLarge_0 : decode b_X_tooLarge 0 = .ok (.aload_n 0, 1) := by decide +kernel
theorem d_X_tooLarge_1 : decode b_X_tooLarge 1 = .ok (.iload_n 1, 1) := by decide +kernel
theorem d_X_tooLarge_2 : decode b_X_tooLarge 2 = .ok (.invokevirtual 112, 3) := by decide +kernel
theorem d_X_tooLarge_5 : decode b_X_tooLarge 5 = .ok (.istore_n 2, 1) := by decide +kernel
theorem d_X_tooLarge_6 : decode b_X_tooLarge 6 = .ok (.iload_n 2, 1) := by decide +kernel
theorem d_X_tooLarge_7 : decode b_X_tooLarge 7 = .ok (.ifCond .ne 14, 3) := by decide +kernel
theorem d_X_tooLarge_10 : decode b_X_tooLarge 10 = .ok (.aload_n 0, 1) := by decide +kernel
theorem d_X_tooLarge_11 : decode b_X_tooLarge 11 = .ok (.getfield 10, 3) := by decide +kernel
theorem d_X_tooLarge_14 : decode b_X_tooLarge 14 = .ok (.iload_n 1, 1) := by decide +kernel
theorem d_X_tooLarge_15 : decode b_X_tooLarge 15 = .ok (.invokevirtual 261, 3) := by decide +kernel
theorem d_X_tooLarge_18 : decode b_X_tooLarge 18 = .ok (.goto 8, 3) := by decide +kernel
theorem d_X_tooLarge_21 : decode b_X_tooLarge 21 = .ok (.aload_n 0, 1) := by decide +kernel
theorem d_X_tooLarge_22 : decode b_X_tooLarge 22 = .ok (.iload_n 2, 1) := by decide +kernel
theorem d_X_tooLarge_23 : decode b_X_tooLarge 23 = .ok (.invokevirtual 69, 3) := by decide +kernel
theorem d_X_tooLarge_26 : decode b_X_tooLarge 26 = .ok (.ireturn, 1) := by decide +kernel
abbrev b_C_leastOfFriends : ByteArray := prog_2_method_23_code
def y_C_leastOfFriends : MethodName := ⟨"PassedOnAndBetter$Company", "leastOfFriends", "(I)I"⟩
theorem m_C_leastOfFriends : MV y_C_leastOfFriends b_C_leastOfFriends 6 (some .int) 1 := ⟨mG 904 (by decide +kernel) (by decide +kernel), mG 84 (by decide +kernel) (by decide +kernel), by decide +kernel⟩
theorem mi_C_leastOfFriends : Cond.instanceMethod y_C_leastOfFriends ∈ tbG := mG 902 (by decide +kernel) (by decide +kernel)
theorem ms_C_leastOfFriends : Cond.selects y_C_leastOfFriends.cls y_C_leastOfFriends y_C_leastOfFriends ∈ tbG := mG 903 (by decide +kernel) (by decide +kernel)
theorem d_C_leastOfFriends_0 : decode b_C_leastOfFriends 0 = .ok (.bipush (-9), 2) := by decide +kernel
theorem d_C_leastOfFriends_2 : decode b_C_leastOfFriends 2 = .ok (.istore_n 2, 1) := by decide +kernel
theorem d_C_leastOfFriends_3 : decode b_C_leastOfFriends 3 = .ok (.bipush 100, 2) := by decide +kernel
theorem d_C_leastOfFriends_5 : decode b_C_leastOfFriends 5 = .ok (.istore_n 3, 1) := by decide +kernel
theorem d_C_leastOfFriends_6 : decode b_C_leastOfFriends 6 = .ok (.iconst 0, 1) := by decide +kernel
theorem d_C_leastOfFriends_7 : decode b_C_leastOfFriends 7 = .ok (.istore 4, 2) := by decide +kernel
theorem d_C_leastOfFriends_9 : decode b_C_leastOfFriends 9 = .ok (.iload 4, 2) := by decide +kernel
theorem d_C_leastOfFriends_11 : decode b_C_leastOfFriends 11 = .ok (.aload_n 0, 1) := by decide +kernel
theorem d_C_leastOfFriends_12 : decode b_C_leastOfFriends 12 = .ok (.getfield 33, 3) := by decide +kernel
theorem d_C_leastOfFriends_15 : decode b_C_leastOfFriends 15 = .ok (.if_icmp .ge 48, 3) := by decide +kernel
theorem d_C_leastOfFriends_18 : decode b_C_leastOfFriends 18 = .ok (.iload_n 1, 1) := by decide +kernel
theorem d_C_leastOfFriends_19 : decode b_C_leastOfFriends 19 = .ok (.ifCond .ne 15, 3) := by decide +kernel
theorem d_C_leastOfFriends_22 : decode b_C_leastOfFriends 22 = .ok (.aload_n 0, 1) := by decide +kernel
theorem d_C_leastOfFriends_23 : decode b_C_leastOfFriends 23 = .ok (.iload 4, 2) := by decide +kernel
theorem d_C_leastOfFriends_25 : decode b_C_leastOfFriends 25 = .ok (.invokevirtual 43, 3) := by decide +kernel
theorem d_C_leastOfFriends_28 : decode b_C_leastOfFriends 28 = .ok (.getfield 98, 3) := by decide +kernel
theorem d_C_leastOfFriends_31 : decode b_C_leastOfFriends 31 = .ok (.goto 12, 3) := by decide +kernel
theorem d_C_leastOfFriends_34 : decode b_C_leastOfFriends 34 = .ok (.aload_n 0, 1) := by decide +kernel
theorem d_C_leastOfFriends_35 : decode b_C_leastOfFriends 35 = .ok (.iload 4, 2) := by decide +kernel
theorem d_C_leastOfFriends_37 : decode b_C_leastOfFriends 37 = .ok (.invokevirtual 43, 3) := by decide +kernel
theorem d_C_leastOfFriends_40 : decode b_C_leastOfFriends 40 = .ok (.getfield 101, 3) := by decide +kernel
theorem d_C_leastOfFriends_43 : decode b_C_leastOfFriends 43 = .ok (.istore 5, 2) := by decide +kernel
theorem d_C_leastOfFriends_45 : decode b_C_leastOfFriends 45 = .ok (.iload 5, 2) := by decide +kernel
theorem d_C_leastOfFriends_47 : decode b_C_leastOfFriends 47 = .ok (.iload_n 3, 1) := by decide +kernel
theorem d_C_leastOfFriends_48 : decode b_C_leastOfFriends 48 = .ok (.if_icmp .ge 9, 3) := by decide +kernel
theorem d_C_leastOfFriends_51 : decode b_C_leastOfFriends 51 = .ok (.iload 5, 2) := by decide +kernel
theorem d_C_leastOfFriends_53 : decode b_C_leastOfFriends 53 = .ok (.istore_n 3, 1) := by decide +kernel
theorem d_C_leastOfFriends_54 : decode b_C_leastOfFriends 54 = .ok (.iload 4, 2) := by decide +kernel
theorem d_C_leastOfFriends_56 : decode b_C_leastOfFriends 56 = .ok (.istore_n 2, 1) := by decide +kernel
theorem d_C_leastOfFriends_57 : decode b_C_leastOfFriends 57 = .ok (.iinc 4 1, 3) := by decide +kernel
theorem d_C_leastOfFriends_60 : decode b_C_leastOfFriends 60 = .ok (.goto (-51), 3) := by decide +kernel
theorem d_C_leastOfFriends_63 : decode b_C_leastOfFriends 63 = .ok (.iload_n 2, 1) := by decide +kernel
theorem d_C_leastOfFriends_64 : decode b_C_leastOfFriends 64 = .ok (.ireturn, 1) := by decide +kernel
abbrev b_X_hasty : ByteArray := prog_1_method_33_code
def y_X_hasty : MethodName := ⟨"PassedOnAndBetter", "hasty", "(I)I"⟩
theorem m_X_hasty : MV y_X_hasty b_X_hasty 3 (some .int) 1 := ⟨mG 900 (by decide +kernel) (by decide +kernel), mG 83 (by decide +kernel) (by decide +kernel), by decide +kernel⟩
theorem mi_X_hasty : Cond.instanceMethod y_X_hasty ∈ tbG := mG 898 (by decide +kernel) (by decide +kernel)
theorem ms_X_hasty : Cond.selects y_X_hasty.cls y_X_hasty y_X_hasty ∈ tbG := mG 899 (by decide +kernel) (by decide +kernel)
theorem d_X_hasty_0 : decode b_X_hasty 0 = .ok (.iload_n 1, 1) := by decide +kernel
theorem d_X_hasty_1 : decode b_X_hasty 1 = .ok (.iconst 1, 1) := by decide +kernel
theorem d_X_hasty_2 : decode b_X_hasty 2 = .ok (.invokestatic 93, 3) := by decide +kernel
theorem d_X_hasty_5 : decode b_X_hasty 5 = .ok (.istore_n 2, 1) := by decide +kernel
theorem d_X_hasty_6 : decode b_X_hasty 6 = .ok (.iload_n 2, 1) := by decide +kernel
theorem d_X_hasty_7 : decode b_X_hasty 7 = .ok (.ifCond .ne 14, 3) := by decide +kernel
theorem d_X_hasty_10 : decode b_X_hasty 10 = .ok (.aload_n 0, 1) := by decide +kernel
theorem d_X_hasty_11 : decode b_X_hasty 11 = .ok (.getfield 10, 3) := by decide +kernel
theorem d_X_hasty_14 : decode b_X_hasty 14 = .ok (.iload_n 1, 1) := by decide +kernel
theorem d_X_hasty_15 : decode b_X_hasty 15 = .ok (.invokevirtual 264, 3) := by decide +kernel
theorem d_X_hasty_18 : decode b_X_hasty 18 = .ok (.goto 8, 3) := by decide +kernel
theorem d_X_hasty_21 : decode b_X_hasty 21 = .ok (.aload_n 0, 1) := by decide +kernel
theorem d_X_hasty_22 : decode b_X_hasty 22 = .ok (.iload_n 2, 1) := by decide +kernel
theorem d_X_hasty_23 : decode b_X_hasty 23 = .ok (.invokevirtual 69, 3) := by decide +kernel
theorem d_X_hasty_26 : decode b_X_hasty 26 = .ok (.ireturn, 1) := by decide +kernel
abbrev b_X_mean : ByteArray := prog_1_method_34_code
def y_X_mean : MethodName := ⟨"PassedOnAndBetter", "mean", "(I)J"⟩
theorem m_X_mean : MV y_X_mean b_X_mean 3 (some .long) 1 := ⟨mG 908 (by decide +kernel) (by decide +kernel), mG 83 (by decide +kernel) (by decide +kernel), by decide +kernel⟩
theorem mi_X_mean : Cond.instanceMethod y_X_mean ∈ tbG := mG 906 (by decide +kernel) (by decide +kernel)
theorem ms_X_mean : Cond.selects y_X_mean.cls y_X_mean y_X_mean ∈ tbG := mG 907 (by decide +kernel) (by decide +kernel)
theorem d_X_mean_0 : decode b_X_mean 0 = .ok (.iload_n 1, 1) := by decide +kernel
theorem d_X_mean_1 : decode b_X_mean 1 = .ok (.iconst 1, 1) := by decide +kernel
theorem d_X_mean_2 : decode b_X_mean 2 = .ok (.invokestatic 93, 3) := by decide +kernel
theorem d_X_mean_5 : decode b_X_mean 5 = .ok (.istore_n 2, 1) := by decide +kernel
theorem d_X_mean_6 : decode b_X_mean 6 = .ok (.iload_n 2, 1) := by decide +kernel
theorem d_X_mean_7 : decode b_X_mean 7 = .ok (.ifCond .ne 30, 3) := by decide +kernel
theorem d_X_mean_10 : decode b_X_mean 10 = .ok (.aload_n 0, 1) := by decide +kernel
theorem d_X_mean_11 : decode b_X_mean 11 = .ok (.getfield 10, 3) := by decide +kernel
theorem d_X_mean_14 : decode b_X_mean 14 = .ok (.invokevirtual 160, 3) := by decide +kernel
theorem d_X_mean_17 : decode b_X_mean 17 = .ok (.i2l, 1) := by decide +kernel
theorem d_X_mean_18 : decode b_X_mean 18 = .ok (.iconst 1, 1) := by decide +kernel
theorem d_X_mean_19 : decode b_X_mean 19 = .ok (.aload_n 0, 1) := by decide +kernel
theorem d_X_mean_20 : decode b_X_mean 20 = .ok (.getfield 10, 3) := by decide +kernel
theorem d_X_mean_23 : decode b_X_mean 23 = .ok (.getfield 267, 3) := by decide +kernel
theorem d_X_mean_26 : decode b_X_mean 26 = .ok (.invokestatic 270, 3) := by decide +kernel
theorem d_X_mean_29 : decode b_X_mean 29 = .ok (.i2l, 1) := by decide +kernel
theorem d_X_mean_30 : decode b_X_mean 30 = .ok (.iload_n 1, 1) := by decide +kernel
theorem d_X_mean_31 : decode b_X_mean 31 = .ok (.invokestatic 248, 3) := by decide +kernel
theorem d_X_mean_34 : decode b_X_mean 34 = .ok (.goto 8, 3) := by decide +kernel
theorem d_X_mean_37 : decode b_X_mean 37 = .ok (.aload_n 0, 1) := by decide +kernel
theorem d_X_mean_38 : decode b_X_mean 38 = .ok (.iload_n 2, 1) := by decide +kernel
theorem d_X_mean_39 : decode b_X_mean 39 = .ok (.invokevirtual 236, 3) := by decide +kernel
theorem d_X_mean_42 : decode b_X_mean 42 = .ok (.lreturn, 1) := by decide +kernel
abbrev b_M_firstTogether : ByteArray := prog_7_method_31_code
def y_M_firstTogether : MethodName := ⟨"PassedOnAndBetter$Mind", "firstTogether", "(II)I"⟩
theorem m_M_firstTogether : MV y_M_firstTogether b_M_firstTogether 4 (some .int) 2 := ⟨mG 917 (by decide +kernel) (by decide +kernel), mG 90 (by decide +kernel) (by decide +kernel), by decide +kernel⟩
theorem mi_M_firstTogether : Cond.instanceMethod y_M_firstTogether ∈ tbG := mG 915 (by decide +kernel) (by decide +kernel)
theorem ms_M_firstTogether : Cond.selects y_M_firstTogether.cls y_M_firstTogether y_M_firstTogether ∈ tbG := mG 916 (by decide +kernel) (by decide +kernel)
theorem d_M_firstTogether_0 : decode b_M_firstTogether 0 = .ok (.aload_n 0, 1) := by decide +kernel
theorem d_M_firstTogether_1 : decode b_M_firstTogether 1 = .ok (.invokevirtual 41, 3) := by decide +kernel
theorem d_M_firstTogether_4 : decode b_M_firstTogether 4 = .ok (.pop, 1) := by decide +kernel
theorem d_M_firstTogether_5 : decode b_M_firstTogether 5 = .ok (.iconst 0, 1) := by decide +kernel
theorem d_M_firstTogether_6 : decode b_M_firstTogether 6 = .ok (.istore_n 3, 1) := by decide +kernel
theorem d_M_firstTogether_7 : decode b_M_firstTogether 7 = .ok (.iload_n 3, 1) := by decide +kernel
theorem d_M_firstTogether_8 : decode b_M_firstTogether 8 = .ok (.bipush 60, 2) := by decide +kernel
theorem d_M_firstTogether_10 : decode b_M_firstTogether 10 = .ok (.if_icmp .gt 44, 3) := by decide +kernel
theorem d_M_firstTogether_13 : decode b_M_firstTogether 13 = .ok (.aload_n 0, 1) := by decide +kernel
theorem d_M_firstTogether_14 : decode b_M_firstTogether 14 = .ok (.getfield 22, 3) := by decide +kernel
theorem d_M_firstTogether_17 : decode b_M_firstTogether 17 = .ok (.iload_n 1, 1) := by decide +kernel
theorem d_M_firstTogether_18 : decode b_M_firstTogether 18 = .ok (.invokevirtual 45, 3) := by decide +kernel
theorem d_M_firstTogether_21 : decode b_M_firstTogether 21 = .ok (.getfield 53, 3) := by decide +kernel
theorem d_M_firstTogether_24 : decode b_M_firstTogether 24 = .ok (.aload_n 0, 1) := by decide +kernel
theorem d_M_firstTogether_25 : decode b_M_firstTogether 25 = .ok (.getfield 22, 3) := by decide +kernel
theorem d_M_firstTogether_28 : decode b_M_firstTogether 28 = .ok (.iload_n 2, 1) := by decide +kernel
theorem d_M_firstTogether_29 : decode b_M_firstTogether 29 = .ok (.invokevirtual 45, 3) := by decide +kernel
theorem d_M_firstTogether_32 : decode b_M_firstTogether 32 = .ok (.getfield 53, 3) := by decide +kernel
theorem d_M_firstTogether_35 : decode b_M_firstTogether 35 = .ok (.if_icmp .ne 5, 3) := by decide +kernel
theorem d_M_firstTogether_38 : decode b_M_firstTogether 38 = .ok (.iload_n 3, 1) := by decide +kernel
theorem d_M_firstTogether_39 : decode b_M_firstTogether 39 = .ok (.ireturn, 1) := by decide +kernel
theorem d_M_firstTogether_40 : decode b_M_firstTogether 40 = .ok (.aload_n 0, 1) := by decide +kernel
theorem d_M_firstTogether_41 : decode b_M_firstTogether 41 = .ok (.getfield 22, 3) := by decide +kernel
theorem d_M_firstTogether_44 : decode b_M_firstTogether 44 = .ok (.iconst 1, 1) := by decide +kernel
theorem d_M_firstTogether_45 : decode b_M_firstTogether 45 = .ok (.invokevirtual 66, 3) := by decide +kernel
theorem d_M_firstTogether_48 : decode b_M_firstTogether 48 = .ok (.iinc 3 1, 3) := by decide +kernel
theorem d_M_firstTogether_51 : decode b_M_firstTogether 51 = .ok (.goto (-44), 3) := by decide +kernel
theorem d_M_firstTogether_54 : decode b_M_firstTogether 54 = .ok (.bipush (-9), 2) := by decide +kernel
theorem d_M_firstTogether_56 : decode b_M_firstTogether 56 = .ok (.ireturn, 1) := by decide +kernel
abbrev b_X_meet : ByteArray := prog_1_method_35_code
def y_X_meet : MethodName := ⟨"PassedOnAndBetter", "meet", "(II)I"⟩
theorem m_X_meet : MV y_X_meet b_X_meet 4 (some .int) 2 := ⟨mG 913 (by decide +kernel) (by decide +kernel), mG 83 (by decide +kernel) (by decide +kernel), by decide +kernel⟩
theorem mi_X_meet : Cond.instanceMethod y_X_meet ∈ tbG := mG 911 (by decide +kernel) (by decide +kernel)
theorem ms_X_meet : Cond.selects y_X_meet.cls y_X_meet y_X_meet ∈ tbG := mG 912 (by decide +kernel) (by decide +kernel)
theorem d_X_meet_0 : decode b_X_meet 0 = .ok (.aload_n 0, 1) := by decide +kernel
theorem d_X_meet_1 : decode b_X_meet 1 = .ok (.iload_n 1, 1) := by decide +kernel
theorem d_X_meet_2 : decode b_X_meet 2 = .ok (.invokevirtual 112, 3) := by decide +kernel
theorem d_X_meet_5 : decode b_X_meet 5 = .ok (.aload_n 0, 1) := by decide +kernel
theorem d_X_meet_6 : decode b_X_meet 6 = .ok (.iload_n 2, 1) := by decide +kernel
theorem d_X_meet_7 : decode b_X_meet 7 = .ok (.invokevirtual 112, 3) := by decide +kernel
theorem d_X_meet_10 : decode b_X_meet 10 = .ok (.iload_n 1, 1) := by decide +kernel
theorem d_X_meet_11 : decode b_X_meet 11 = .ok (.iload_n 2, 1) := by decide +kernel
theorem d_X_meet_12 : decode b_X_meet 12 = .ok (.if_icmp .ne 7, 3) := by decide +kernel
theorem d_X_meet_15 : decode b_X_meet 15 = .ok (.iconst (-1), 1) := by decide +kernel
theorem d_X_meet_16 : decode b_X_meet 16 = .ok (.goto 4, 3) := by decide +kernel
theorem d_X_meet_19 : decode b_X_meet 19 = .ok (.iconst 0, 1) := by decide +kernel
theorem d_X_meet_20 : decode b_X_meet 20 = .ok (.invokestatic 97, 3) := by decide +kernel
theorem d_X_meet_23 : decode b_X_meet 23 = .ok (.istore_n 3, 1) := by decide +kernel
theorem d_X_meet_24 : decode b_X_meet 24 = .ok (.iload_n 3, 1) := by decide +kernel
theorem d_X_meet_25 : decode b_X_meet 25 = .ok (.ifCond .ne 15, 3) := by decide +kernel
theorem d_X_meet_28 : decode b_X_meet 28 = .ok (.aload_n 0, 1) := by decide +kernel
theorem d_X_meet_29 : decode b_X_meet 29 = .ok (.getfield 45, 3) := by decide +kernel
theorem d_X_meet_32 : decode b_X_meet 32 = .ok (.iload_n 1, 1) := by decide +kernel
theorem d_X_meet_33 : decode b_X_meet 33 = .ok (.iload_n 2, 1) := by decide +kernel
theorem d_X_meet_34 : decode b_X_meet 34 = .ok (.invokevirtual 275, 3) := by decide +kernel
theorem d_X_meet_37 : decode b_X_meet 37 = .ok (.goto 8, 3) := by decide +kernel
theorem d_X_meet_40 : decode b_X_meet 40 = .ok (.aload_n 0, 1) := by decide +kernel
theorem d_X_meet_41 : decode b_X_meet 41 = .ok (.iload_n 3, 1) := by decide +kernel
theorem d_X_meet_42 : decode b_X_meet 42 = .ok (.invokevirtual 69, 3) := by decide +kernel
theorem d_X_meet_45 : decode b_X_meet 45 = .ok (.ireturn, 1) := by decide +kernel
abbrev b_M_neverWith : ByteArray := prog_7_method_32_code
def y_M_neverWith : MethodName := ⟨"PassedOnAndBetter$Mind", "neverWith", "(I)I"⟩
theorem m_M_neverWith : MV y_M_neverWith b_M_neverWith 5 (some .int) 1 := ⟨mG 925 (by decide +kernel) (by decide +kernel), mG 90 (by decide +kernel) (by decide +kernel), by decide +kernel⟩
theorem mi_M_neverWith : Cond.instanceMethod y_M_neverWith ∈ tbG := mG 923 (by decide +kernel) (by decide +kernel)
theorem ms_M_neverWith : Cond.selects y_M_neverWith.cls y_M_neverWith y_M_neverWith ∈ tbG := mG 924 (by decide +kernel) (by decide +kernel)
theorem d_M_neverWith_0 : decode b_M_neverWith 0 = .ok (.aload_n 0, 1) := by decide +kernel
theorem d_M_neverWith_1 : decode b_M_neverWith 1 = .ok (.invokevirtual 41, 3) := by decide +kernel
theorem d_M_neverWith_4 : decode b_M_neverWith 4 = .ok (.pop, 1) := by decide +kernel
theorem d_M_neverWith_5 : decode b_M_neverWith 5 = .ok (.iconst 1, 1) := by decide +kernel
theorem d_M_neverWith_6 : decode b_M_neverWith 6 = .ok (.aload_n 0, 1) := by decide +kernel
theorem d_M_neverWith_7 : decode b_M_neverWith 7 = .ok (.getfield 22, 3) := by decide +kernel
theorem d_M_neverWith_10 : decode b_M_neverWith 10 = .ok (.getfield 97, 3) := by decide +kernel
theorem d_M_neverWith_13 : decode b_M_neverWith 13 = .ok (.ishl, 1) := by decide +kernel
theorem d_M_neverWith_14 : decode b_M_neverWith 14 = .ok (.iconst 1, 1) := by decide +kernel
theorem d_M_neverWith_15 : decode b_M_neverWith 15 = .ok (.isub, 1) := by decide +kernel
theorem d_M_neverWith_16 : decode b_M_neverWith 16 = .ok (.istore_n 2, 1) := by decide +kernel
theorem d_M_neverWith_17 : decode b_M_neverWith 17 = .ok (.iconst 0, 1) := by decide +kernel
theorem d_M_neverWith_18 : decode b_M_neverWith 18 = .ok (.istore_n 3, 1) := by decide +kernel
theorem d_M_neverWith_19 : decode b_M_neverWith 19 = .ok (.iload_n 3, 1) := by decide +kernel
theorem d_M_neverWith_20 : decode b_M_neverWith 20 = .ok (.iload_n 1, 1) := by decide +kernel
theorem d_M_neverWith_21 : decode b_M_neverWith 21 = .ok (.if_icmp .gt 57, 3) := by decide +kernel
theorem d_M_neverWith_24 : decode b_M_neverWith 24 = .ok (.iconst 0, 1) := by decide +kernel
theorem d_M_neverWith_25 : decode b_M_neverWith 25 = .ok (.istore 4, 2) := by decide +kernel
theorem d_M_neverWith_27 : decode b_M_neverWith 27 = .ok (.iload 4, 2) := by decide +kernel
theorem d_M_neverWith_29 : decode b_M_neverWith 29 = .ok (.aload_n 0, 1) := by decide +kernel
theorem d_M_neverWith_30 : decode b_M_neverWith 30 = .ok (.getfield 22, 3) := by decide +kernel
theorem d_M_neverWith_33 : decode b_M_neverWith 33 = .ok (.getfield 82, 3) := by decide +kernel
theorem d_M_neverWith_36 : decode b_M_neverWith 36 = .ok (.if_icmp .ge 28, 3) := by decide +kernel
theorem d_M_neverWith_39 : decode b_M_neverWith 39 = .ok (.iload_n 2, 1) := by decide +kernel
theorem d_M_neverWith_40 : decode b_M_neverWith 40 = .ok (.iconst 1, 1) := by decide +kernel
theorem d_M_neverWith_41 : decode b_M_neverWith 41 = .ok (.aload_n 0, 1) := by decide +kernel
theorem d_M_neverWith_42 : decode b_M_neverWith 42 = .ok (.getfield 22, 3) := by decide +kernel
theorem d_M_neverWith_45 : decode b_M_neverWith 45 = .ok (.iload 4, 2) := by decide +kernel
theorem d_M_neverWith_47 : decode b_M_neverWith 47 = .ok (.invokevirtual 45, 3) := by decide +kernel
theorem d_M_neverWith_50 : decode b_M_neverWith 50 = .ok (.getfield 53, 3) := by decide +kernel
theorem d_M_neverWith_53 : decode b_M_neverWith 53 = .ok (.ishl, 1) := by decide +kernel
theorem d_M_neverWith_54 : decode b_M_neverWith 54 = .ok (.iconst (-1), 1) := by decide +kernel
theorem d_M_neverWith_55 : decode b_M_neverWith 55 = .ok (.ixor, 1) := by decide +kernel
theorem d_M_neverWith_56 : decode b_M_neverWith 56 = .ok (.iand, 1) := by decide +kernel
theorem d_M_neverWith_57 : decode b_M_neverWith 57 = .ok (.istore_n 2, 1) := by decide +kernel
theorem d_M_neverWith_58 : decode b_M_neverWith 58 = .ok (.iinc 4 1, 3) := by decide +kernel
theorem d_M_neverWith_61 : decode b_M_neverWith 61 = .ok (.goto (-34), 3) := by decide +kernel
theorem d_M_neverWith_64 : decode b_M_neverWith 64 = .ok (.aload_n 0, 1) := by decide +kernel
theorem d_M_neverWith_65 : decode b_M_neverWith 65 = .ok (.getfield 22, 3) := by decide +kernel
theorem d_M_neverWith_68 : decode b_M_neverWith 68 = .ok (.iconst 1, 1) := by decide +kernel
theorem d_M_neverWith_69 : decode b_M_neverWith 69 = .ok (.invokevirtual 66, 3) := by decide +kernel
theorem d_M_neverWith_72 : decode b_M_neverWith 72 = .ok (.iinc 3 1, 3) := by decide +kernel
theorem d_M_neverWith_75 : decode b_M_neverWith 75 = .ok (.goto (-56), 3) := by decide +kernel
theorem d_M_neverWith_78 : decode b_M_neverWith 78 = .ok (.iload_n 2, 1) := by decide +kernel
theorem d_M_neverWith_79 : decode b_M_neverWith 79 = .ok (.ireturn, 1) := by decide +kernel
abbrev b_X_bare : ByteArray := prog_1_method_36_code
def y_X_bare : MethodName := ⟨"PassedOnAndBetter", "bare", "(I)I"⟩
theorem m_X_bare : MV y_X_bare b_X_bare 3 (some .int) 1 := ⟨mG 921 (by decide +kernel) (by decide +kernel), mG 83 (by decide +kernel) (by decide +kernel), by decide +kernel⟩
theorem mi_X_bare : Cond.instanceMethod y_X_bare ∈ tbG := mG 919 (by decide +kernel) (by decide +kernel)
theorem ms_X_bare : Cond.selects y_X_bare.cls y_X_bare y_X_bare ∈ tbG := mG 920 (by decide +kernel) (by decide +kernel)
theorem d_X_bare_0 : decode b_X_bare 0 = .ok (.iload_n 1, 1) := by decide +kernel
theorem d_X_bare_1 : decode b_X_bare 1 = .ok (.invokestatic 170, 3) := by decide +kernel
theorem d_X_bare_4 : decode b_X_bare 4 = .ok (.istore_n 2, 1) := by decide +kernel
theorem d_X_bare_5 : decode b_X_bare 5 = .ok (.iload_n 2, 1) := by decide +kernel
theorem d_X_bare_6 : decode b_X_bare 6 = .ok (.ifCond .ne 14, 3) := by decide +kernel
theorem d_X_bare_9 : decode b_X_bare 9 = .ok (.aload_n 0, 1) := by decide +kernel
theorem d_X_bare_10 : decode b_X_bare 10 = .ok (.getfield 45, 3) := by decide +kernel
theorem d_X_bare_13 : decode b_X_bare 13 = .ok (.iload_n 1, 1) := by decide +kernel
theorem d_X_bare_14 : decode b_X_bare 14 = .ok (.invokevirtual 278, 3) := by decide +kernel
theorem d_X_bare_17 : decode b_X_bare 17 = .ok (.goto 8, 3) := by decide +kernel
theorem d_X_bare_20 : decode b_X_bare 20 = .ok (.aload_n 0, 1) := by decide +kernel
theorem d_X_bare_21 : decode b_X_bare 21 = .ok (.iload_n 2, 1) := by decide +kernel
theorem d_X_bare_22 : decode b_X_bare 22 = .ok (.invokevirtual 69, 3) := by decide +kernel
theorem d_X_bare_25 : decode b_X_bare 25 = .ok (.ireturn, 1) := by decide +kernel
abbrev b_M_worthOfAYear : ByteArray := prog_7_method_33_code
def y_M_worthOfAYear : MethodName := ⟨"PassedOnAndBetter$Mind", "worthOfAYear", "()I"⟩
theorem m_M_worthOfAYear : MV y_M_worthOfAYear b_M_worthOfAYear 1 (some .int) 0 := ⟨mG 933 (by decide +kernel) (by decide +kernel), mG 90 (by decide +kernel) (by decide +kernel), by decide +kernel⟩
theorem mi_M_worthOfAYear : Cond.instanceMethod y_M_worthOfAYear ∈ tbG := mG 931 (by decide +kernel) (by decide +kernel)
theorem ms_M_worthOfAYear : Cond.selects y_M_worthOfAYear.cls y_M_worthOfAYear y_M_worthOfAYear ∈ tbG := mG 932 (by decide +kernel) (by decide +kernel)
theorem d_M_worthOfAYear_0 : decode b_M_worthOfAYear 0 = .ok (.aload_n 0, 1) := by decide +kernel
theorem d_M_worthOfAYear_1 : decode b_M_worthOfAYear 1 = .ok (.invokevirtual 41, 3) := by decide +kernel
theorem d_M_worthOfAYear_4 : decode b_M_worthOfAYear 4 = .ok (.bipush 12, 2) := by decide +kernel
theorem d_M_worthOfAYear_6 : decode b_M_worthOfAYear 6 = .ok (.invokevirtual 66, 3) := by decide +kernel
theorem d_M_worthOfAYear_9 : decode b_M_worthOfAYear 9 = .ok (.aload_n 0, 1) := by decide +kernel
theorem d_M_worthOfAYear_10 : decode b_M_worthOfAYear 10 = .ok (.getfield 22, 3) := by decide +kernel
theorem d_M_worthOfAYear_13 : decode b_M_worthOfAYear 13 = .ok (.invokevirtual 70, 3) := by decide +kernel
theorem d_M_worthOfAYear_16 : decode b_M_worthOfAYear 16 = .ok (.aload_n 0, 1) := by decide +kernel
theorem d_M_worthOfAYear_17 : decode b_M_worthOfAYear 17 = .ok (.getfield 9, 3) := by decide +kernel
theorem d_M_worthOfAYear_20 : decode b_M_worthOfAYear 20 = .ok (.invokevirtual 70, 3) := by decide +kernel
theorem d_M_worthOfAYear_23 : decode b_M_worthOfAYear 23 = .ok (.isub, 1) := by decide +kernel
theorem d_M_worthOfAYear_24 : decode b_M_worthOfAYear 24 = .ok (.ireturn, 1) := by decide +kernel
abbrev b_X_year : ByteArray := prog_1_method_37_code
def y_X_year : MethodName := ⟨"PassedOnAndBetter", "year", "()I"⟩
theorem m_X_year : MV y_X_year b_X_year 1 (some .int) 0 := ⟨mG 929 (by decide +kernel) (by decide +kernel), mG 83 (by decide +kernel) (by decide +kernel), by decide +kernel⟩
theorem mi_X_year : Cond.instanceMethod y_X_year ∈ tbG := mG 927 (by decide +kernel) (by decide +kernel)
theorem ms_X_year : Cond.selects y_X_year.cls y_X_year y_X_year ∈ tbG := mG 928 (by decide +kernel) (by decide +kernel)
theorem d_X_year_0 : decode b_X_year 0 = .ok (.aload_n 0, 1) := by decide +kernel
theorem d_X_year_1 : decode b_X_year 1 = .ok (.getfield 45, 3) := by decide +kernel
theorem d_X_year_4 : decode b_X_year 4 = .ok (.invokevirtual 281, 3) := by decide +kernel
theorem d_X_year_7 : decode b_X_year 7 = .ok (.ireturn, 1) := by decide +kernel
abbrev b_N_isFull : ByteArray := prog_8_method_2_code
def y_N_isFull : MethodName := ⟨"PassedOnAndBetter$Numbers", "isFull", "()Z"⟩
theorem m_N_isFull : MV y_N_isFull b_N_isFull 1 (some .boolean) 0 := ⟨mG 941 (by decide +kernel) (by decide +kernel), mG 89 (by decide +kernel) (by decide +kernel), by decide +kernel⟩
theorem mi_N_isFull : Cond.instanceMethod y_N_isFull ∈ tbG := mG 939 (by decide +kernel) (by decide +kernel)
theorem ms_N_isFull : Cond.selects y_N_isFull.cls y_N_isFull y_N_isFull ∈ tbG := mG 940 (by decide +kernel) (by decide +kernel)
theorem d_N_isFull_0 : decode b_N_isFull 0 = .ok (.aload_n 0, 1) := by decide +kernel
theorem d_N_isFull_1 : decode b_N_isFull 1 = .ok (.getfield 13, 3) := by decide +kernel
theorem d_N_isFull_4 : decode b_N_isFull 4 = .ok (.bipush 12, 2) := by decide +kernel
theorem d_N_isFull_6 : decode b_N_isFull 6 = .ok (.if_icmp .lt 7, 3) := by decide +kernel
theorem d_N_isFull_9 : decode b_N_isFull 9 = .ok (.iconst 1, 1) := by decide +kernel
theorem d_N_isFull_10 : decode b_N_isFull 10 = .ok (.goto 4, 3) := by decide +kernel
theorem d_N_isFull_13 : decode b_N_isFull 13 = .ok (.iconst 0, 1) := by decide +kernel
theorem d_N_isFull_14 : decode b_N_isFull 14 = .ok (.ireturn, 1) := by decide +kernel
abbrev b_N_put : ByteArray := prog_8_method_3_code
def y_N_put : MethodName := ⟨"PassedOnAndBetter$Numbers", "put", "(I)I"⟩
theorem m_N_put : MV y_N_put b_N_put 2 (some .int) 1 := ⟨mG 945 (by decide +kernel) (by decide +kernel), mG 89 (by decide +kernel) (by decide +kernel), by decide +kernel⟩
theorem mi_N_put : Cond.instanceMethod y_N_put ∈ tbG := mG 943 (by decide +kernel) (by decide +kernel)
theorem ms_N_put : Cond.selects y_N_put.cls y_N_put y_N_put ∈ tbG := mG 944 (by decide +kernel) (by decide +kernel)
theorem d_N_put_0 : decode b_N_put 0 = .ok (.aload_n 0, 1) := by decide +kernel
theorem d_N_put_1 : decode b_N_put 1 = .ok (.getfield 9, 3) := by decide +kernel
theorem d_N_put_4 : decode b_N_put 4 = .ok (.aload_n 0, 1) := by decide +kernel
theorem d_N_put_5 : decode b_N_put 5 = .ok (.getfield 13, 3) := by decide +kernel
theorem d_N_put_8 : decode b_N_put 8 = .ok (.iload_n 1, 1) := by decide +kernel
theorem d_N_put_9 : decode b_N_put 9 = .ok (.invokestatic 17, 3) := by decide +kernel
theorem d_N_put_12 : decode b_N_put 12 = .ok (.aload_n 0, 1) := by decide +kernel
theorem d_N_put_13 : decode b_N_put 13 = .ok (.dup, 1) := by decide +kernel
theorem d_N_put_14 : decode b_N_put 14 = .ok (.getfield 13, 3) := by decide +kernel
theorem d_N_put_17 : decode b_N_put 17 = .ok (.iconst 1, 1) := by decide +kernel
theorem d_N_put_18 : decode b_N_put 18 = .ok (.iadd, 1) := by decide +kernel
theorem d_N_put_19 : decode b_N_put 19 = .ok (.putfield 13, 3) := by decide +kernel
theorem d_N_put_22 : decode b_N_put 22 = .ok (.aload_n 0, 1) := by decide +kernel
theorem d_N_put_23 : decode b_N_put 23 = .ok (.getfield 13, 3) := by decide +kernel
theorem d_N_put_26 : decode b_N_put 26 = .ok (.ireturn, 1) := by decide +kernel
abbrev b_X_row : ByteArray := prog_1_method_38_code
def y_X_row : MethodName := ⟨"PassedOnAndBetter", "row", "(I)I"⟩
theorem m_X_row : MV y_X_row b_X_row 3 (some .int) 1 := ⟨mG 937 (by decide +kernel) (by decide +kernel), mG 83 (by decide +kernel) (by decide +kernel), by decide +kernel⟩
theorem mi_X_row : Cond.instanceMethod y_X_row ∈ tbG := mG 935 (by decide +kernel) (by decide +kernel)
theorem ms_X_row : Cond.selects y_X_row.cls y_X_row y_X_row ∈ tbG := mG 936 (by decide +kernel) (by decide +kernel)
theorem d_X_row_0 : decode b_X_row 0 = .ok (.iload_n 1, 1) := by decide +kernel
theorem d_X_row_1 : decode b_X_row 1 = .ok (.iconst 0, 1) := by decide +kernel
theorem d_X_row_2 : decode b_X_row 2 = .ok (.bipush 99, 2) := by decide +kernel
theorem d_X_row_4 : decode b_X_row 4 = .ok (.invokestatic 57, 3) := by decide +kernel
theorem d_X_row_7 : decode b_X_row 7 = .ok (.istore_n 2, 1) := by decide +kernel
theorem d_X_row_8 : decode b_X_row 8 = .ok (.iload_n 2, 1) := by decide +kernel
theorem d_X_row_9 : decode b_X_row 9 = .ok (.ifCond .ne 16, 3) := by decide +kernel
theorem d_X_row_12 : decode b_X_row 12 = .ok (.aload_n 0, 1) := by decide +kernel
theorem d_X_row_13 : decode b_X_row 13 = .ok (.getfield 36, 3) := by decide +kernel
theorem d_X_row_16 : decode b_X_row 16 = .ok (.invokevirtual 284, 3) := by decide +kernel
theorem d_X_row_19 : decode b_X_row 19 = .ok (.ifCond .eq 6, 3) := by decide +kernel
theorem d_X_row_22 : decode b_X_row 22 = .ok (.bipush (-6), 2) := by decide +kernel
theorem d_X_row_24 : decode b_X_row 24 = .ok (.istore_n 2, 1) := by decide +kernel
theorem d_X_row_25 : decode b_X_row 25 = .ok (.iload_n 2, 1) := by decide +kernel
theorem d_X_row_26 : decode b_X_row 26 = .ok (.ifCond .ne 14, 3) := by decide +kernel
theorem d_X_row_29 : decode b_X_row 29 = .ok (.aload_n 0, 1) := by decide +kernel
theorem d_X_row_30 : decode b_X_row 30 = .ok (.getfield 36, 3) := by decide +kernel
theorem d_X_row_33 : decode b_X_row 33 = .ok (.iload_n 1, 1) := by decide +kernel
theorem d_X_row_34 : decode b_X_row 34 = .ok (.invokevirtual 285, 3) := by decide +kernel
theorem d_X_row_37 : decode b_X_row 37 = .ok (.goto 8, 3) := by decide +kernel
theorem d_X_row_40 : decode b_X_row 40 = .ok (.aload_n 0, 1) := by decide +kernel
theorem d_X_row_41 : decode b_X_row 41 = .ok (.iload_n 2, 1) := by decide +kernel
theorem d_X_row_42 : decode b_X_row 42 = .ok (.invokevirtual 69, 3) := by decide +kernel
theorem d_X_row_45 : decode b_X_row 45 = .ok (.ireturn, 1) := by decide +kernel
abbrev b_C_firstMisjudged : ByteArray := prog_2_method_25_code
def y_C_firstMisjudged : MethodName := ⟨"PassedOnAndBetter$Company", "firstMisjudged", "(LPassedOnAndBetter$Numbers;)I"⟩
theorem m_C_firstMisjudged : MV y_C_firstMisjudged b_C_firstMisjudged 3 (some .int) 1 := ⟨mG 954 (by decide +kernel) (by decide +kernel), mG 84 (by decide +kernel) (by decide +kernel), by decide +kernel⟩
theorem mi_C_firstMisjudged : Cond.instanceMethod y_C_firstMisjudged ∈ tbG := mG 952 (by decide +kernel) (by decide +kernel)
theorem ms_C_firstMisjudged : Cond.selects y_C_firstMisjudged.cls y_C_firstMisjudged y_C_firstMisjudged ∈ tbG := mG 953 (by decide +kernel) (by decide +kernel)
theorem d_C_firstMisjudged_0 : decode b_C_firstMisjudged 0 = .ok (.aload_n 1, 1) := by decide +kernel
theorem d_C_firstMisjudged_1 : decode b_C_firstMisjudged 1 = .ok (.ifnonnull 6, 3) := by decide +kernel
theorem d_C_firstMisjudged_4 : decode b_C_firstMisjudged 4 = .ok (.bipush (-9), 2) := by decide +kernel
theorem d_C_firstMisjudged_6 : decode b_C_firstMisjudged 6 = .ok (.ireturn, 1) := by decide +kernel
theorem d_C_firstMisjudged_7 : decode b_C_firstMisjudged 7 = .ok (.iconst 0, 1) := by decide +kernel
theorem d_C_firstMisjudged_8 : decode b_C_firstMisjudged 8 = .ok (.istore_n 2, 1) := by decide +kernel
theorem d_C_firstMisjudged_9 : decode b_C_firstMisjudged 9 = .ok (.iload_n 2, 1) := by decide +kernel
theorem d_C_firstMisjudged_10 : decode b_C_firstMisjudged 10 = .ok (.aload_n 1, 1) := by decide +kernel
theorem d_C_firstMisjudged_11 : decode b_C_firstMisjudged 11 = .ok (.getfield 104, 3) := by decide +kernel
theorem d_C_firstMisjudged_14 : decode b_C_firstMisjudged 14 = .ok (.if_icmp .ge 35, 3) := by decide +kernel
theorem d_C_firstMisjudged_17 : decode b_C_firstMisjudged 17 = .ok (.aload_n 0, 1) := by decide +kernel
theorem d_C_firstMisjudged_18 : decode b_C_firstMisjudged 18 = .ok (.iload_n 2, 1) := by decide +kernel
theorem d_C_firstMisjudged_19 : decode b_C_firstMisjudged 19 = .ok (.invokevirtual 109, 3) := by decide +kernel
theorem d_C_firstMisjudged_22 : decode b_C_firstMisjudged 22 = .ok (.ifCond .eq 19, 3) := by decide +kernel
theorem d_C_firstMisjudged_25 : decode b_C_firstMisjudged 25 = .ok (.aload_n 0, 1) := by decide +kernel
theorem d_C_firstMisjudged_26 : decode b_C_firstMisjudged 26 = .ok (.iload_n 2, 1) := by decide +kernel
theorem d_C_firstMisjudged_27 : decode b_C_firstMisjudged 27 = .ok (.invokevirtual 51, 3) := by decide +kernel
theorem d_C_firstMisjudged_30 : decode b_C_firstMisjudged 30 = .ok (.getfield 79, 3) := by decide +kernel
theorem d_C_firstMisjudged_33 : decode b_C_firstMisjudged 33 = .ok (.aload_n 1, 1) := by decide +kernel
theorem d_C_firstMisjudged_34 : decode b_C_firstMisjudged 34 = .ok (.iload_n 2, 1) := by decide +kernel
theorem d_C_firstMisjudged_35 : decode b_C_firstMisjudged 35 = .ok (.invokevirtual 112, 3) := by decide +kernel
theorem d_C_firstMisjudged_38 : decode b_C_firstMisjudged 38 = .ok (.if_icmp .eq 5, 3) := by decide +kernel
theorem d_C_firstMisjudged_41 : decode b_C_firstMisjudged 41 = .ok (.iload_n 2, 1) := by decide +kernel
theorem d_C_firstMisjudged_42 : decode b_C_firstMisjudged 42 = .ok (.ireturn, 1) := by decide +kernel
theorem d_C_firstMisjudged_43 : decode b_C_firstMisjudged 43 = .ok (.iinc 2 1, 3) := by decide +kernel
theorem d_C_firstMisjudged_46 : decode b_C_firstMisjudged 46 = .ok (.goto (-37), 3) := by decide +kernel
theorem d_C_firstMisjudged_49 : decode b_C_firstMisjudged 49 = .ok (.bipush (-9), 2) := by decide +kernel
theorem d_C_firstMisjudged_51 : decode b_C_firstMisjudged 51 = .ok (.ireturn, 1) := by decide +kernel
abbrev b_N_drop : ByteArray := prog_8_method_5_code
def y_N_drop : MethodName := ⟨"PassedOnAndBetter$Numbers", "drop", "()I"⟩
theorem m_N_drop : MV y_N_drop b_N_drop 2 (some .int) 0 := ⟨mG 960 (by decide +kernel) (by decide +kernel), mG 89 (by decide +kernel) (by decide +kernel), by decide +kernel⟩
theorem mi_N_drop : Cond.instanceMethod y_N_drop ∈ tbG := mG 958 (by decide +kernel) (by decide +kernel)
theorem ms_N_drop : Cond.selects y_N_drop.cls y_N_drop y_N_drop ∈ tbG := mG 959 (by decide +kernel) (by decide +kernel)
theorem d_N_drop_0 : decode b_N_drop 0 = .ok (.aload_n 0, 1) := by decide +kernel
theorem d_N_drop_1 : decode b_N_drop 1 = .ok (.getfield 13, 3) := by decide +kernel
theorem d_N_drop_4 : decode b_N_drop 4 = .ok (.istore_n 1, 1) := by decide +kernel
theorem d_N_drop_5 : decode b_N_drop 5 = .ok (.aload_n 0, 1) := by decide +kernel
theorem d_N_drop_6 : decode b_N_drop 6 = .ok (.iconst 0, 1) := by decide +kernel
theorem d_N_drop_7 : decode b_N_drop 7 = .ok (.putfield 13, 3) := by decide +kernel
theorem d_N_drop_10 : decode b_N_drop 10 = .ok (.iload_n 1, 1) := by decide +kernel
theorem d_N_drop_11 : decode b_N_drop 11 = .ok (.ireturn, 1) := by decide +kernel
abbrev b_X_judge : ByteArray := prog_1_method_39_code
def y_X_judge : MethodName := ⟨"PassedOnAndBetter", "judge", "()I"⟩
theorem m_X_judge : MV y_X_judge b_X_judge 2 (some .int) 0 := ⟨mG 950 (by decide +kernel) (by decide +kernel), mG 83 (by decide +kernel) (by decide +kernel), by decide +kernel⟩
theorem mi_X_judge : Cond.instanceMethod y_X_judge ∈ tbG := mG 948 (by decide +kernel) (by decide +kernel)
theorem ms_X_judge : Cond.selects y_X_judge.cls y_X_judge y_X_judge ∈ tbG := mG 949 (by decide +kernel) (by decide +kernel)
theorem d_X_judge_0 : decode b_X_judge 0 = .ok (.aload_n 0, 1) := by decide +kernel
theorem d_X_judge_1 : decode b_X_judge 1 = .ok (.getfield 10, 3) := by decide +kernel
theorem d_X_judge_4 : decode b_X_judge 4 = .ok (.aload_n 0, 1) := by decide +kernel
theorem d_X_judge_5 : decode b_X_judge 5 = .ok (.getfield 36, 3) := by decide +kernel
theorem d_X_judge_8 : decode b_X_judge 8 = .ok (.invokevirtual 286, 3) := by decide +kernel
theorem d_X_judge_11 : decode b_X_judge 11 = .ok (.istore_n 1, 1) := by decide +kernel
theorem d_X_judge_12 : decode b_X_judge 12 = .ok (.aload_n 0, 1) := by decide +kernel
theorem d_X_judge_13 : decode b_X_judge 13 = .ok (.getfield 36, 3) := by decide +kernel
theorem d_X_judge_16 : decode b_X_judge 16 = .ok (.invokevirtual 290, 3) := by decide +kernel
theorem d_X_judge_19 : decode b_X_judge 19 = .ok (.pop, 1) := by decide +kernel
theorem d_X_judge_20 : decode b_X_judge 20 = .ok (.iload_n 1, 1) := by decide +kernel
theorem d_X_judge_21 : decode b_X_judge 21 = .ok (.ireturn, 1) := by decide +kernel
abbrev b_X_clear : ByteArray := prog_1_method_40_code
def y_X_clear : MethodName := ⟨"PassedOnAndBetter", "clear", "()I"⟩
theorem m_X_clear : MV y_X_clear b_X_clear 1 (some .int) 0 := ⟨mG 964 (by decide +kernel) (by decide +kernel), mG 83 (by decide +kernel) (by decide +kernel), by decide +kernel⟩
theorem mi_X_clear : Cond.instanceMethod y_X_clear ∈ tbG := mG 962 (by decide +kernel) (by decide +kernel)
theorem ms_X_clear : Cond.selects y_X_clear.cls y_X_clear y_X_clear ∈ tbG := mG 963 (by decide +kernel) (by decide +kernel)
theorem d_X_clear_0 : decode b_X_clear 0 = .ok (.aload_n 0, 1) := by decide +kernel
theorem d_X_clear_1 : decode b_X_clear 1 = .ok (.getfield 36, 3) := by decide +kernel
theorem d_X_clear_4 : decode b_X_clear 4 = .ok (.invokevirtual 290, 3) := by decide +kernel
theorem d_X_clear_7 : decode b_X_clear 7 = .ok (.ireturn, 1) := by decide +kernel
abbrev b_M_drawNexts : ByteArray := prog_7_method_35_code
def y_M_drawNexts : MethodName := ⟨"PassedOnAndBetter$Mind", "drawNexts", "(I)I"⟩
theorem m_M_drawNexts : MV y_M_drawNexts b_M_drawNexts 6 (some .int) 1 := ⟨mG 976 (by decide +kernel) (by decide +kernel), mG 90 (by decide +kernel) (by decide +kernel), by decide +kernel⟩
theorem mi_M_drawNexts : Cond.instanceMethod y_M_drawNexts ∈ tbG := mG 975 (by decide +kernel) (by decide +kernel)
theorem ms_M_drawNexts : Cond.selects y_M_drawNexts.cls y_M_drawNexts y_M_drawNexts ∈ tbG := mG 29 (by decide +kernel) (by decide +kernel)
theorem d_M_drawNexts_0 : decode b_M_drawNexts 0 = .ok (.iload_n 1, 1) := by decide +kernel
theorem d_M_drawNexts_1 : decode b_M_drawNexts 1 = .ok (.istore_n 2, 1) := by decide +kernel
theorem d_M_drawNexts_2 : decode b_M_drawNexts 2 = .ok (.aload_n 0, 1) := by decide +kernel
theorem d_M_drawNexts_3 : decode b_M_drawNexts 3 = .ok (.getfield 22, 3) := by decide +kernel
theorem d_M_drawNexts_6 : decode b_M_drawNexts 6 = .ok (.getfield 97, 3) := by decide +kernel
theorem d_M_drawNexts_9 : decode b_M_drawNexts 9 = .ok (.istore_n 3, 1) := by decide +kernel
theorem d_M_drawNexts_10 : decode b_M_drawNexts 10 = .ok (.iconst 0, 1) := by decide +kernel
theorem d_M_drawNexts_11 : decode b_M_drawNexts 11 = .ok (.istore 4, 2) := by decide +kernel
theorem d_M_drawNexts_13 : decode b_M_drawNexts 13 = .ok (.iload 4, 2) := by decide +kernel
theorem d_M_drawNexts_15 : decode b_M_drawNexts 15 = .ok (.iload_n 3, 1) := by decide +kernel
theorem d_M_drawNexts_16 : decode b_M_drawNexts 16 = .ok (.if_icmp .ge 54, 3) := by decide +kernel
theorem d_M_drawNexts_19 : decode b_M_drawNexts 19 = .ok (.iload_n 2, 1) := by decide +kernel
theorem d_M_drawNexts_20 : decode b_M_drawNexts 20 = .ok (.ldc 198, 2) := by decide +kernel
theorem d_M_drawNexts_22 : decode b_M_drawNexts 22 = .ok (.imul, 1) := by decide +kernel
theorem d_M_drawNexts_23 : decode b_M_drawNexts 23 = .ok (.sipush 12345, 3) := by decide +kernel
theorem d_M_drawNexts_26 : decode b_M_drawNexts 26 = .ok (.iadd, 1) := by decide +kernel
theorem d_M_drawNexts_27 : decode b_M_drawNexts 27 = .ok (.istore_n 2, 1) := by decide +kernel
theorem d_M_drawNexts_28 : decode b_M_drawNexts 28 = .ok (.iload_n 2, 1) := by decide +kernel
theorem d_M_drawNexts_29 : decode b_M_drawNexts 29 = .ok (.ldc 199, 2) := by decide +kernel
theorem d_M_drawNexts_31 : decode b_M_drawNexts 31 = .ok (.iand, 1) := by decide +kernel
theorem d_M_drawNexts_32 : decode b_M_drawNexts 32 = .ok (.ldc 200, 2) := by decide +kernel
theorem d_M_drawNexts_34 : decode b_M_drawNexts 34 = .ok (.idiv, 1) := by decide +kernel
theorem d_M_drawNexts_35 : decode b_M_drawNexts 35 = .ok (.iload_n 3, 1) := by decide +kernel
theorem d_M_drawNexts_36 : decode b_M_drawNexts 36 = .ok (.irem, 1) := by decide +kernel
theorem d_M_drawNexts_37 : decode b_M_drawNexts 37 = .ok (.istore 5, 2) := by decide +kernel
theorem d_M_drawNexts_39 : decode b_M_drawNexts 39 = .ok (.aload_n 0, 1) := by decide +kernel
theorem d_M_drawNexts_40 : decode b_M_drawNexts 40 = .ok (.getfield 22, 3) := by decide +kernel
theorem d_M_drawNexts_43 : decode b_M_drawNexts 43 = .ok (.iload 4, 2) := by decide +kernel
theorem d_M_drawNexts_45 : decode b_M_drawNexts 45 = .ok (.invokevirtual 88, 3) := by decide +kernel
theorem d_M_drawNexts_48 : decode b_M_drawNexts 48 = .ok (.iload 5, 2) := by decide +kernel
theorem d_M_drawNexts_50 : decode b_M_drawNexts 50 = .ok (.iload 4, 2) := by decide +kernel
theorem d_M_drawNexts_52 : decode b_M_drawNexts 52 = .ok (.if_icmp .ne 7, 3) := by decide +kernel
theorem d_M_drawNexts_55 : decode b_M_drawNexts 55 = .ok (.iconst (-1), 1) := by decide +kernel
theorem d_M_drawNexts_56 : decode b_M_drawNexts 56 = .ok (.goto 5, 3) := by decide +kernel
theorem d_M_drawNexts_59 : decode b_M_drawNexts 59 = .ok (.iload 5, 2) := by decide +kernel
theorem d_M_drawNexts_61 : decode b_M_drawNexts 61 = .ok (.putfield 106, 3) := by decide +kernel
theorem d_M_drawNexts_64 : decode b_M_drawNexts 64 = .ok (.iinc 4 1, 3) := by decide +kernel
theorem d_M_drawNexts_67 : decode b_M_drawNexts 67 = .ok (.goto (-54), 3) := by decide +kernel
theorem d_M_drawNexts_70 : decode b_M_drawNexts 70 = .ok (.iload_n 2, 1) := by decide +kernel
theorem d_M_drawNexts_71 : decode b_M_drawNexts 71 = .ok (.ireturn, 1) := by decide +kernel
abbrev b_M_moreByLot : ByteArray := prog_7_method_34_code
def y_M_moreByLot : MethodName := ⟨"PassedOnAndBetter$Mind", "moreByLot", "(III)I"⟩
theorem m_M_moreByLot : MV y_M_moreByLot b_M_moreByLot 8 (some .int) 3 := ⟨mG 972 (by decide +kernel) (by decide +kernel), mG 90 (by decide +kernel) (by decide +kernel), by decide +kernel⟩
theorem mi_M_moreByLot : Cond.instanceMethod y_M_moreByLot ∈ tbG := mG 970 (by decide +kernel) (by decide +kernel)
theorem ms_M_moreByLot : Cond.selects y_M_moreByLot.cls y_M_moreByLot y_M_moreByLot ∈ tbG := mG 971 (by decide +kernel) (by decide +kernel)
theorem d_M_moreByLot_0 : decode b_M_moreByLot 0 = .ok (.iload_n 2, 1) := by decide +kernel
theorem d_M_moreByLot_1 : decode b_M_moreByLot 1 = .ok (.istore 4, 2) := by decide +kernel
theorem d_M_moreByLot_3 : decode b_M_moreByLot 3 = .ok (.iconst 0, 1) := by decide +kernel
theorem d_M_moreByLot_4 : decode b_M_moreByLot 4 = .ok (.istore 5, 2) := by decide +kernel
theorem d_M_moreByLot_6 : decode b_M_moreByLot 6 = .ok (.iconst 0, 1) := by decide +kernel
theorem d_M_moreByLot_7 : decode b_M_moreByLot 7 = .ok (.istore 6, 2) := by decide +kernel
theorem d_M_moreByLot_9 : decode b_M_moreByLot 9 = .ok (.iconst 0, 1) := by decide +kernel
theorem d_M_moreByLot_10 : decode b_M_moreByLot 10 = .ok (.istore 7, 2) := by decide +kernel
theorem d_M_moreByLot_12 : decode b_M_moreByLot 12 = .ok (.iload 7, 2) := by decide +kernel
theorem d_M_moreByLot_14 : decode b_M_moreByLot 14 = .ok (.iload_n 1, 1) := by decide +kernel
theorem d_M_moreByLot_15 : decode b_M_moreByLot 15 = .ok (.if_icmp .ge 71, 3) := by decide +kernel
theorem d_M_moreByLot_18 : decode b_M_moreByLot 18 = .ok (.aload_n 0, 1) := by decide +kernel
theorem d_M_moreByLot_19 : decode b_M_moreByLot 19 = .ok (.invokevirtual 41, 3) := by decide +kernel
theorem d_M_moreByLot_22 : decode b_M_moreByLot 22 = .ok (.pop, 1) := by decide +kernel
theorem d_M_moreByLot_23 : decode b_M_moreByLot 23 = .ok (.aload_n 0, 1) := by decide +kernel
theorem d_M_moreByLot_24 : decode b_M_moreByLot 24 = .ok (.iload 4, 2) := by decide +kernel
theorem d_M_moreByLot_26 : decode b_M_moreByLot 26 = .ok (.invokevirtual 195, 3) := by decide +kernel
theorem d_M_moreByLot_29 : decode b_M_moreByLot 29 = .ok (.istore 4, 2) := by decide +kernel
theorem d_M_moreByLot_31 : decode b_M_moreByLot 31 = .ok (.aload_n 0, 1) := by decide +kernel
theorem d_M_moreByLot_32 : decode b_M_moreByLot 32 = .ok (.getfield 22, 3) := by decide +kernel
theorem d_M_moreByLot_35 : decode b_M_moreByLot 35 = .ok (.bipush 24, 2) := by decide +kernel
theorem d_M_moreByLot_37 : decode b_M_moreByLot 37 = .ok (.invokevirtual 66, 3) := by decide +kernel
theorem d_M_moreByLot_40 : decode b_M_moreByLot 40 = .ok (.iload 5, 2) := by decide +kernel
theorem d_M_moreByLot_42 : decode b_M_moreByLot 42 = .ok (.aload_n 0, 1) := by decide +kernel
theorem d_M_moreByLot_43 : decode b_M_moreByLot 43 = .ok (.getfield 22, 3) := by decide +kernel
theorem d_M_moreByLot_46 : decode b_M_moreByLot 46 = .ok (.invokevirtual 70, 3) := by decide +kernel
theorem d_M_moreByLot_49 : decode b_M_moreByLot 49 = .ok (.aload_n 0, 1) := by decide +kernel
theorem d_M_moreByLot_50 : decode b_M_moreByLot 50 = .ok (.getfield 9, 3) := by decide +kernel
theorem d_M_moreByLot_53 : decode b_M_moreByLot 53 = .ok (.invokevirtual 70, 3) := by decide +kernel
theorem d_M_moreByLot_56 : decode b_M_moreByLot 56 = .ok (.isub, 1) := by decide +kernel
theorem d_M_moreByLot_57 : decode b_M_moreByLot 57 = .ok (.iadd, 1) := by decide +kernel
theorem d_M_moreByLot_58 : decode b_M_moreByLot 58 = .ok (.istore 5, 2) := by decide +kernel
theorem d_M_moreByLot_60 : decode b_M_moreByLot 60 = .ok (.iload 6, 2) := by decide +kernel
theorem d_M_moreByLot_62 : decode b_M_moreByLot 62 = .ok (.aload_n 0, 1) := by decide +kernel
theorem d_M_moreByLot_63 : decode b_M_moreByLot 63 = .ok (.getfield 22, 3) := by decide +kernel
theorem d_M_moreByLot_66 : decode b_M_moreByLot 66 = .ok (.invokevirtual 121, 3) := by decide +kernel
theorem d_M_moreByLot_69 : decode b_M_moreByLot 69 = .ok (.aload_n 0, 1) := by decide +kernel
theorem d_M_moreByLot_70 : decode b_M_moreByLot 70 = .ok (.getfield 9, 3) := by decide +kernel
theorem d_M_moreByLot_73 : decode b_M_moreByLot 73 = .ok (.invokevirtual 121, 3) := by decide +kernel
theorem d_M_moreByLot_76 : decode b_M_moreByLot 76 = .ok (.isub, 1) := by decide +kernel
theorem d_M_moreByLot_77 : decode b_M_moreByLot 77 = .ok (.iadd, 1) := by decide +kernel
theorem d_M_moreByLot_78 : decode b_M_moreByLot 78 = .ok (.istore 6, 2) := by decide +kernel
theorem d_M_moreByLot_80 : decode b_M_moreByLot 80 = .ok (.iinc 7 1, 3) := by decide +kernel
theorem d_M_moreByLot_83 : decode b_M_moreByLot 83 = .ok (.goto (-71), 3) := by decide +kernel
theorem d_M_moreByLot_86 : decode b_M_moreByLot 86 = .ok (.iload_n 3, 1) := by decide +kernel
theorem d_M_moreByLot_87 : decode b_M_moreByLot 87 = .ok (.ifCond .ne 8, 3) := by decide +kernel
theorem d_M_moreByLot_90 : decode b_M_moreByLot 90 = .ok (.iload 5, 2) := by decide +kernel
theorem d_M_moreByLot_92 : decode b_M_moreByLot 92 = .ok (.goto 5, 3) := by decide +kernel
theorem d_M_moreByLot_95 : decode b_M_moreByLot 95 = .ok (.iload 6, 2) := by decide +kernel
theorem d_M_moreByLot_97 : decode b_M_moreByLot 97 = .ok (.ireturn, 1) := by decide +kernel
abbrev b_X_lots : ByteArray := prog_1_method_41_code
def y_X_lots : MethodName := ⟨"PassedOnAndBetter", "lots", "(III)I"⟩
theorem m_X_lots : MV y_X_lots b_X_lots 5 (some .int) 3 := ⟨mG 968 (by decide +kernel) (by decide +kernel), mG 83 (by decide +kernel) (by decide +kernel), by decide +kernel⟩
theorem mi_X_lots : Cond.instanceMethod y_X_lots ∈ tbG := mG 966 (by decide +kernel) (by decide +kernel)
theorem ms_X_lots : Cond.selects y_X_lots.cls y_X_lots y_X_lots ∈ tbG := mG 967 (by decide +kernel) (by decide +kernel)
theorem d_X_lots_0 : decode b_X_lots 0 = .ok (.iload_n 1, 1) := by decide +kernel
theorem d_X_lots_1 : decode b_X_lots 1 = .ok (.iconst 1, 1) := by decide +kernel
theorem d_X_lots_2 : decode b_X_lots 2 = .ok (.bipush 20, 2) := by decide +kernel
theorem d_X_lots_4 : decode b_X_lots 4 = .ok (.invokestatic 57, 3) := by decide +kernel
theorem d_X_lots_7 : decode b_X_lots 7 = .ok (.iload_n 3, 1) := by decide +kernel
theorem d_X_lots_8 : decode b_X_lots 8 = .ok (.iconst 1, 1) := by decide +kernel
theorem d_X_lots_9 : decode b_X_lots 9 = .ok (.invokestatic 93, 3) := by decide +kernel
theorem d_X_lots_12 : decode b_X_lots 12 = .ok (.iconst 0, 1) := by decide +kernel
theorem d_X_lots_13 : decode b_X_lots 13 = .ok (.invokestatic 97, 3) := by decide +kernel
theorem d_X_lots_16 : decode b_X_lots 16 = .ok (.istore 4, 2) := by decide +kernel
theorem d_X_lots_18 : decode b_X_lots 18 = .ok (.iload 4, 2) := by decide +kernel
theorem d_X_lots_20 : decode b_X_lots 20 = .ok (.ifCond .ne 16, 3) := by decide +kernel
theorem d_X_lots_23 : decode b_X_lots 23 = .ok (.aload_n 0, 1) := by decide +kernel
theorem d_X_lots_24 : decode b_X_lots 24 = .ok (.getfield 45, 3) := by decide +kernel
theorem d_X_lots_27 : decode b_X_lots 27 = .ok (.iload_n 1, 1) := by decide +kernel
theorem d_X_lots_28 : decode b_X_lots 28 = .ok (.iload_n 2, 1) := by decide +kernel
theorem d_X_lots_29 : decode b_X_lots 29 = .ok (.iload_n 3, 1) := by decide +kernel
theorem d_X_lots_30 : decode b_X_lots 30 = .ok (.invokevirtual 292, 3) := by decide +kernel
theorem d_X_lots_33 : decode b_X_lots 33 = .ok (.goto 9, 3) := by decide +kernel
theorem d_X_lots_36 : decode b_X_lots 36 = .ok (.aload_n 0, 1) := by decide +kernel
theorem d_X_lots_37 : decode b_X_lots 37 = .ok (.iload 4, 2) := by decide +kernel
theorem d_X_lots_39 : decode b_X_lots 39 = .ok (.invokevirtual 69, 3) := by decide +kernel
theorem d_X_lots_42 : decode b_X_lots 42 = .ok (.ireturn, 1) := by decide +kernel
abbrev b_X_image : ByteArray := prog_1_method_42_code
def y_X_image : MethodName := ⟨"PassedOnAndBetter", "image", "()I"⟩
theorem m_X_image : MV y_X_image b_X_image 1 (some .int) 0 := ⟨mG 983 (by decide +kernel) (by decide +kernel), mG 83 (by decide +kernel) (by decide +kernel), by decide +kernel⟩
theorem mi_X_image : Cond.instanceMethod y_X_image ∈ tbG := mG 981 (by decide +kernel) (by decide +kernel)
theorem ms_X_image : Cond.selects y_X_image.cls y_X_image y_X_image ∈ tbG := mG 982 (by decide +kernel) (by decide +kernel)
theorem d_X_image_0 : decode b_X_image 0 = .ok (.aload_n 0, 1) := by decide +kernel
theorem d_X_image_1 : decode b_X_image 1 = .ok (.getfield 16, 3) := by decide +kernel
theorem d_X_image_4 : decode b_X_image 4 = .ok (.aload_n 0, 1) := by decide +kernel
theorem d_X_image_5 : decode b_X_image 5 = .ok (.getfield 10, 3) := by decide +kernel
theorem d_X_image_8 : decode b_X_image 8 = .ok (.invokevirtual 83, 3) := by decide +kernel
theorem d_X_image_11 : decode b_X_image 11 = .ok (.aload_n 0, 1) := by decide +kernel
theorem d_X_image_12 : decode b_X_image 12 = .ok (.iconst 1, 1) := by decide +kernel
theorem d_X_image_13 : decode b_X_image 13 = .ok (.putfield 53, 3) := by decide +kernel
theorem d_X_image_16 : decode b_X_image 16 = .ok (.aload_n 0, 1) := by decide +kernel
theorem d_X_image_17 : decode b_X_image 17 = .ok (.getfield 10, 3) := by decide +kernel
theorem d_X_image_20 : decode b_X_image 20 = .ok (.getfield 154, 3) := by decide +kernel
theorem d_X_image_23 : decode b_X_image 23 = .ok (.ireturn, 1) := by decide +kernel
abbrev b_X_restore : ByteArray := prog_1_method_43_code
def y_X_restore : MethodName := ⟨"PassedOnAndBetter", "restore", "()I"⟩
theorem m_X_restore : MV y_X_restore b_X_restore 1 (some .int) 0 := ⟨mG 987 (by decide +kernel) (by decide +kernel), mG 83 (by decide +kernel) (by decide +kernel), by decide +kernel⟩
theorem mi_X_restore : Cond.instanceMethod y_X_restore ∈ tbG := mG 985 (by decide +kernel) (by decide +kernel)
theorem ms_X_restore : Cond.selects y_X_restore.cls y_X_restore y_X_restore ∈ tbG := mG 986 (by decide +kernel) (by decide +kernel)
theorem d_X_restore_0 : decode b_X_restore 0 = .ok (.aload_n 0, 1) := by decide +kernel
theorem d_X_restore_1 : decode b_X_restore 1 = .ok (.getfield 53, 3) := by decide +kernel
theorem d_X_restore_4 : decode b_X_restore 4 = .ok (.ifCond .ne 10, 3) := by decide +kernel
theorem d_X_restore_7 : decode b_X_restore 7 = .ok (.aload_n 0, 1) := by decide +kernel
theorem d_X_restore_8 : decode b_X_restore 8 = .ok (.bipush (-3), 2) := by decide +kernel
theorem d_X_restore_10 : decode b_X_restore 10 = .ok (.invokevirtual 69, 3) := by decide +kernel
theorem d_X_restore_13 : decode b_X_restore 13 = .ok (.ireturn, 1) := by decide +kernel
theorem d_X_restore_14 : decode b_X_restore 14 = .ok (.aload_n 0, 1) := by decide +kernel
theorem d_X_restore_15 : decode b_X_restore 15 = .ok (.getfield 10, 3) := by decide +kernel
theorem d_X_restore_18 : decode b_X_restore 18 = .ok (.aload_n 0, 1) := by decide +kernel
theorem d_X_restore_19 : decode b_X_restore 19 = .ok (.getfield 16, 3) := by decide +kernel
theorem d_X_restore_22 : decode b_X_restore 22 = .ok (.invokevirtual 83, 3) := by decide +kernel
theorem d_X_restore_25 : decode b_X_restore 25 = .ok (.aload_n 0, 1) := by decide +kernel
theorem d_X_restore_26 : decode b_X_restore 26 = .ok (.getfield 22, 3) := by decide +kernel
theorem d_X_restore_29 : decode b_X_restore 29 = .ok (.invokevirtual 87, 3) := by decide +kernel
theorem d_X_restore_32 : decode b_X_restore 32 = .ok (.aload_n 0, 1) := by decide +kernel
theorem d_X_restore_33 : decode b_X_restore 33 = .ok (.getfield 10, 3) := by decide +kernel
theorem d_X_restore_36 : decode b_X_restore 36 = .ok (.getfield 154, 3) := by decide +kernel
theorem d_X_restore_39 : decode b_X_restore 39 = .ok (.ireturn, 1) := by decide +kernel
abbrev b_C_allSize : ByteArray := prog_2_method_14_code
def y_C_allSize : MethodName := ⟨"PassedOnAndBetter$Company", "allSize", "()I"⟩
theorem m_C_allSize : MV y_C_allSize b_C_allSize 3 (some .int) 0 := ⟨mG 995 (by decide +kernel) (by decide +kernel), mG 84 (by decide +kernel) (by decide +kernel), by decide +kernel⟩
theorem mi_C_allSize : Cond.instanceMethod y_C_allSize ∈ tbG := mG 993 (by decide +kernel) (by decide +kernel)
theorem ms_C_allSize : Cond.selects y_C_allSize.cls y_C_allSize y_C_allSize ∈ tbG := mG 994 (by decide +kernel) (by decide +kernel)
theorem d_C_allSize_0 : decode b_C_allSize 0 = .ok (.iconst 0, 1) := by decide +kernel
theorem d_C_allSize_1 : decode b_C_allSize 1 = .ok (.istore_n 1, 1) := by decide +kernel
theorem d_C_allSize_2 : decode b_C_allSize 2 = .ok (.iconst 0, 1) := by decide +kernel
theorem d_C_allSize_3 : decode b_C_allSize 3 = .ok (.istore_n 2, 1) := by decide +kernel
theorem d_C_allSize_4 : decode b_C_allSize 4 = .ok (.iload_n 2, 1) := by decide +kernel
theorem d_C_allSize_5 : decode b_C_allSize 5 = .ok (.aload_n 0, 1) := by decide +kernel
theorem d_C_allSize_6 : decode b_C_allSize 6 = .ok (.getfield 37, 3) := by decide +kernel
theorem d_C_allSize_9 : decode b_C_allSize 9 = .ok (.if_icmp .ge 20, 3) := by decide +kernel
theorem d_C_allSize_12 : decode b_C_allSize 12 = .ok (.iload_n 1, 1) := by decide +kernel
theorem d_C_allSize_13 : decode b_C_allSize 13 = .ok (.aload_n 0, 1) := by decide +kernel
theorem d_C_allSize_14 : decode b_C_allSize 14 = .ok (.iload_n 2, 1) := by decide +kernel
theorem d_C_allSize_15 : decode b_C_allSize 15 = .ok (.invokevirtual 51, 3) := by decide +kernel
theorem d_C_allSize_18 : decode b_C_allSize 18 = .ok (.getfield 73, 3) := by decide +kernel
theorem d_C_allSize_21 : decode b_C_allSize 21 = .ok (.iadd, 1) := by decide +kernel
theorem d_C_allSize_22 : decode b_C_allSize 22 = .ok (.istore_n 1, 1) := by decide +kernel
theorem d_C_allSize_23 : decode b_C_allSize 23 = .ok (.iinc 2 1, 3) := by decide +kernel
theorem d_C_allSize_26 : decode b_C_allSize 26 = .ok (.goto (-22), 3) := by decide +kernel
theorem d_C_allSize_29 : decode b_C_allSize 29 = .ok (.iload_n 1, 1) := by decide +kernel
theorem d_C_allSize_30 : decode b_C_allSize 30 = .ok (.ireturn, 1) := by decide +kernel
abbrev b_X_count : ByteArray := prog_1_method_44_code
def y_X_count : MethodName := ⟨"PassedOnAndBetter", "count", "(I)I"⟩
theorem m_X_count : MV y_X_count b_X_count 2 (some .int) 1 := ⟨mG 991 (by decide +kernel) (by decide +kernel), mG 83 (by decide +kernel) (by decide +kernel), by decide +kernel⟩
theorem mi_X_count : Cond.instanceMethod y_X_count ∈ tbG := mG 989 (by decide +kernel) (by decide +kernel)
theorem ms_X_count : Cond.selects y_X_count.cls y_X_count y_X_count ∈ tbG := mG 990 (by decide +kernel) (by decide +kernel)
theorem d_X_count_0 : decode b_X_count 0 = .ok (.iload_n 1, 1) := by decide +kernel
theorem d_X_count_1 : decode b_X_count 1 = .ok (.bipush 11, 2) := by decide +kernel
theorem d_X_count_3 : decode b_X_count 3 = .ok (.if_icmp .lt 21, 3) := by decide +kernel
theorem d_X_count_6 : decode b_X_count 6 = .ok (.iload_n 1, 1) := by decide +kernel
theorem d_X_count_7 : decode b_X_count 7 = .ok (.bipush 16, 2) := by decide +kernel
theorem d_X_count_9 : decode b_X_count 9 = .ok (.if_icmp .gt 15, 3) := by decide +kernel
theorem d_X_count_12 : decode b_X_count 12 = .ok (.aload_n 0, 1) := by decide +kernel
theorem d_X_count_13 : decode b_X_count 13 = .ok (.getfield 49, 3) := by decide +kernel
theorem d_X_count_16 : decode b_X_count 16 = .ok (.iload_n 1, 1) := by decide +kernel
theorem d_X_count_17 : decode b_X_count 17 = .ok (.bipush 10, 2) := by decide +kernel
theorem d_X_count_19 : decode b_X_count 19 = .ok (.isub, 1) := by decide +kernel
theorem d_X_count_20 : decode b_X_count 20 = .ok (.invokestatic 295, 3) := by decide +kernel
theorem d_X_count_23 : decode b_X_count 23 = .ok (.ireturn, 1) := by decide +kernel
theorem d_X_count_24 : decode b_X_count 24 = .ok (.iload_n 1, 1) := by decide +kernel
theorem d_X_count_25 : decode b_X_count 25 = .ok (.tableswitch 123 0 8 #[51, 59, 67, 75, 83, 91, 99, 107, 115], 51) := by decide +kernel
theorem d_X_count_76 : decode b_X_count 76 = .ok (.aload_n 0, 1) := by decide +kernel
theorem d_X_count_77 : decode b_X_count 77 = .ok (.getfield 10, 3) := by decide +kernel
theorem d_X_count_80 : decode b_X_count 80 = .ok (.getfield 299, 3) := by decide +kernel
theorem d_X_count_83 : decode b_X_count 83 = .ok (.ireturn, 1) := by decide +kernel
theorem d_X_count_84 : decode b_X_count 84 = .ok (.aload_n 0, 1) := by decide +kernel
theorem d_X_count_85 : decode b_X_count 85 = .ok (.getfield 10, 3) := by decide +kernel
theorem d_X_count_88 : decode b_X_count 88 = .ok (.getfield 267, 3) := by decide +kernel
theorem d_X_count_91 : decode b_X_count 91 = .ok (.ireturn, 1) := by decide +kernel
theorem d_X_count_92 : decode b_X_count 92 = .ok (.aload_n 0, 1) := by decide +kernel
theorem d_X_count_93 : decode b_X_count 93 = .ok (.getfield 10, 3) := by decide +kernel
theorem d_X_count_96 : decode b_X_count 96 = .ok (.getfield 154, 3) := by decide +kernel
theorem d_X_count_99 : decode b_X_count 99 = .ok (.ireturn, 1) := by decide +kernel
theorem d_X_count_100 : decode b_X_count 100 = .ok (.aload_n 0, 1) := by decide +kernel
theorem d_X_count_101 : decode b_X_count 101 = .ok (.getfield 10, 3) := by decide +kernel
theorem d_X_count_104 : decode b_X_count 104 = .ok (.invokevirtual 160, 3) := by decide +kernel
theorem d_X_count_107 : decode b_X_count 107 = .ok (.ireturn, 1) := by decide +kernel
theorem d_X_count_108 : decode b_X_count 108 = .ok (.aload_n 0, 1) := by decide +kernel
theorem d_X_count_109 : decode b_X_count 109 = .ok (.getfield 10, 3) := by decide +kernel
theorem d_X_count_112 : decode b_X_count 112 = .ok (.invokevirtual 302, 3) := by decide +kernel
theorem d_X_count_115 : decode b_X_count 115 = .ok (.ireturn, 1) := by decide +kernel
theorem d_X_count_116 : decode b_X_count 116 = .ok (.aload_n 0, 1) := by decide +kernel
theorem d_X_count_117 : decode b_X_count 117 = .ok (.getfield 10, 3) := by decide +kernel
theorem d_X_count_120 : decode b_X_count 120 = .ok (.invokevirtual 305, 3) := by decide +kernel
theorem d_X_count_123 : decode b_X_count 123 = .ok (.ireturn, 1) := by decide +kernel
theorem d_X_count_124 : decode b_X_count 124 = .ok (.aload_n 0, 1) := by decide +kernel
theorem d_X_count_125 : decode b_X_count 125 = .ok (.getfield 29, 3) := by decide +kernel
theorem d_X_count_128 : decode b_X_count 128 = .ok (.getfield 308, 3) := by decide +kernel
theorem d_X_count_131 : decode b_X_count 131 = .ok (.ireturn, 1) := by decide +kernel
theorem d_X_count_132 : decode b_X_count 132 = .ok (.aload_n 0, 1) := by decide +kernel
theorem d_X_count_133 : decode b_X_count 133 = .ok (.getfield 36, 3) := by decide +kernel
theorem d_X_count_136 : decode b_X_count 136 = .ok (.getfield 311, 3) := by decide +kernel
theorem d_X_count_139 : decode b_X_count 139 = .ok (.ireturn, 1) := by decide +kernel
theorem d_X_count_140 : decode b_X_count 140 = .ok (.aload_n 0, 1) := by decide +kernel
theorem d_X_count_141 : decode b_X_count 141 = .ok (.getfield 22, 3) := by decide +kernel
theorem d_X_count_144 : decode b_X_count 144 = .ok (.getfield 164, 3) := by decide +kernel
theorem d_X_count_147 : decode b_X_count 147 = .ok (.ireturn, 1) := by decide +kernel
theorem d_X_count_148 : decode b_X_count 148 = .ok (.bipush (-9), 2) := by decide +kernel
theorem d_X_count_150 : decode b_X_count 150 = .ok (.ireturn, 1) := by decide +kernel
abbrev b_R_bound : ByteArray := prog_11_method_5_code
def y_R_bound : MethodName := ⟨"PassedOnAndBetterModel", "bound", "(III)I"⟩
theorem m_R_bound : MV y_R_bound b_R_bound 3 (some .int) 3 := ⟨mG 1106 (by decide +kernel) (by decide +kernel), mG 91 (by decide +kernel) (by decide +kernel), by decide +kernel⟩
theorem mi_R_bound : Cond.static y_R_bound ∈ tbG := mG 1105 (by decide +kernel) (by decide +kernel)
theorem d_R_bound_0 : decode b_R_bound 0 = .ok (.iload_n 0, 1) := by decide +kernel
theorem d_R_bound_1 : decode b_R_bound 1 = .ok (.iload_n 1, 1) := by decide +kernel
theorem d_R_bound_2 : decode b_R_bound 2 = .ok (.if_icmp .ge 8, 3) := by decide +kernel
theorem d_R_bound_5 : decode b_R_bound 5 = .ok (.bipush (-4), 2) := by decide +kernel
theorem d_R_bound_7 : decode b_R_bound 7 = .ok (.goto 14, 3) := by decide +kernel
theorem d_R_bound_10 : decode b_R_bound 10 = .ok (.iload_n 0, 1) := by decide +kernel
theorem d_R_bound_11 : decode b_R_bound 11 = .ok (.iload_n 2, 1) := by decide +kernel
theorem d_R_bound_12 : decode b_R_bound 12 = .ok (.if_icmp .le 8, 3) := by decide +kernel
theorem d_R_bound_15 : decode b_R_bound 15 = .ok (.bipush (-6), 2) := by decide +kernel
theorem d_R_bound_17 : decode b_R_bound 17 = .ok (.goto 4, 3) := by decide +kernel
theorem d_R_bound_20 : decode b_R_bound 20 = .ok (.iconst 0, 1) := by decide +kernel
theorem d_R_bound_21 : decode b_R_bound 21 = .ok (.ireturn, 1) := by decide +kernel
abbrev b_R_no : ByteArray := prog_11_method_2_code
def y_R_no : MethodName := ⟨"PassedOnAndBetterModel", "no", "(I)I"⟩
theorem m_R_no : MV y_R_no b_R_no 2 (some .int) 1 := ⟨mG 1110 (by decide +kernel) (by decide +kernel), mG 91 (by decide +kernel) (by decide +kernel), by decide +kernel⟩
theorem mi_R_no : Cond.instanceMethod y_R_no ∈ tbG := mG 1109 (by decide +kernel) (by decide +kernel)
theorem ms_R_no : Cond.selects y_R_no.cls y_R_no y_R_no ∈ tbG := mG 30 (by decide +kernel) (by decide +kernel)
theorem d_R_no_0 : decode b_R_no 0 = .ok (.aload_n 0, 1) := by decide +kernel
theorem d_R_no_1 : decode b_R_no 1 = .ok (.getfield 7, 3) := by decide +kernel
theorem d_R_no_4 : decode b_R_no 4 = .ok (.iload_n 1, 1) := by decide +kernel
theorem d_R_no_5 : decode b_R_no 5 = .ok (.ineg, 1) := by decide +kernel
theorem d_R_no_6 : decode b_R_no 6 = .ok (.dup2, 1) := by decide +kernel
theorem d_R_no_7 : decode b_R_no 7 = .ok (.iaload, 1) := by decide +kernel
theorem d_R_no_8 : decode b_R_no 8 = .ok (.iconst 1, 1) := by decide +kernel
theorem d_R_no_9 : decode b_R_no 9 = .ok (.iadd, 1) := by decide +kernel
theorem d_R_no_10 : decode b_R_no 10 = .ok (.iastore, 1) := by decide +kernel
theorem d_R_no_11 : decode b_R_no 11 = .ok (.iload_n 1, 1) := by decide +kernel
theorem d_R_no_12 : decode b_R_no 12 = .ok (.ireturn, 1) := by decide +kernel
abbrev b_R_feed : ByteArray := prog_11_method_12_code
def y_R_feed : MethodName := ⟨"PassedOnAndBetterModel", "feed", "(I)I"⟩
theorem m_R_feed : MV y_R_feed b_R_feed 3 (some .int) 1 := ⟨mG 1103 (by decide +kernel) (by decide +kernel), mG 91 (by decide +kernel) (by decide +kernel), by decide +kernel⟩
theorem mi_R_feed : Cond.instanceMethod y_R_feed ∈ tbG := mG 1101 (by decide +kernel) (by decide +kernel)
theorem ms_R_feed : Cond.selects y_R_feed.cls y_R_feed y_R_feed ∈ tbG := mG 1102 (by decide +kernel) (by decide +kernel)
theorem d_R_feed_0 : decode b_R_feed 0 = .ok (.iload_n 1, 1) := by decide +kernel
theorem d_R_feed_1 : decode b_R_feed 1 = .ok (.iconst 0, 1) := by decide +kernel
theorem d_R_feed_2 : decode b_R_feed 2 = .ok (.sipush 255, 3) := by decide +kernel
theorem d_R_feed_5 : decode b_R_feed 5 = .ok (.invokestatic 80, 3) := by decide +kernel
theorem d_R_feed_8 : decode b_R_feed 8 = .ok (.istore_n 2, 1) := by decide +kernel
theorem d_R_feed_9 : decode b_R_feed 9 = .ok (.iload_n 2, 1) := by decide +kernel
theorem d_R_feed_10 : decode b_R_feed 10 = .ok (.ifCond .ne 15, 3) := by decide +kernel
theorem d_R_feed_13 : decode b_R_feed 13 = .ok (.aload_n 0, 1) := by decide +kernel
theorem d_R_feed_14 : decode b_R_feed 14 = .ok (.getfield 84, 3) := by decide +kernel
theorem d_R_feed_17 : decode b_R_feed 17 = .ok (.bipush 96, 2) := by decide +kernel
theorem d_R_feed_19 : decode b_R_feed 19 = .ok (.if_icmp .ne 6, 3) := by decide +kernel
theorem d_R_feed_22 : decode b_R_feed 22 = .ok (.bipush (-6), 2) := by decide +kernel
theorem d_R_feed_24 : decode b_R_feed 24 = .ok (.istore_n 2, 1) := by decide +kernel
theorem d_R_feed_25 : decode b_R_feed 25 = .ok (.iload_n 2, 1) := by decide +kernel
theorem d_R_feed_26 : decode b_R_feed 26 = .ok (.ifCond .eq 9, 3) := by decide +kernel
theorem d_R_feed_29 : decode b_R_feed 29 = .ok (.aload_n 0, 1) := by decide +kernel
theorem d_R_feed_30 : decode b_R_feed 30 = .ok (.iload_n 2, 1) := by decide +kernel
theorem d_R_feed_31 : decode b_R_feed 31 = .ok (.invokevirtual 87, 3) := by decide +kernel
theorem d_R_feed_34 : decode b_R_feed 34 = .ok (.ireturn, 1) := by decide +kernel
theorem d_R_feed_35 : decode b_R_feed 35 = .ok (.aload_n 0, 1) := by decide +kernel
theorem d_R_feed_36 : decode b_R_feed 36 = .ok (.getfield 46, 3) := by decide +kernel
theorem d_R_feed_39 : decode b_R_feed 39 = .ok (.aload_n 0, 1) := by decide +kernel
theorem d_R_feed_40 : decode b_R_feed 40 = .ok (.getfield 84, 3) := by decide +kernel
theorem d_R_feed_43 : decode b_R_feed 43 = .ok (.iload_n 1, 1) := by decide +kernel
theorem d_R_feed_44 : decode b_R_feed 44 = .ok (.iastore, 1) := by decide +kernel
theorem d_R_feed_45 : decode b_R_feed 45 = .ok (.aload_n 0, 1) := by decide +kernel
theorem d_R_feed_46 : decode b_R_feed 46 = .ok (.dup, 1) := by decide +kernel
theorem d_R_feed_47 : decode b_R_feed 47 = .ok (.getfield 84, 3) := by decide +kernel
theorem d_R_feed_50 : decode b_R_feed 50 = .ok (.iconst 1, 1) := by decide +kernel
theorem d_R_feed_51 : decode b_R_feed 51 = .ok (.iadd, 1) := by decide +kernel
theorem d_R_feed_52 : decode b_R_feed 52 = .ok (.putfield 84, 3) := by decide +kernel
theorem d_R_feed_55 : decode b_R_feed 55 = .ok (.aload_n 0, 1) := by decide +kernel
theorem d_R_feed_56 : decode b_R_feed 56 = .ok (.getfield 84, 3) := by decide +kernel
theorem d_R_feed_59 : decode b_R_feed 59 = .ok (.ireturn, 1) := by decide +kernel
abbrev b_R_nextLetter : ByteArray := prog_11_method_13_code
def y_R_nextLetter : MethodName := ⟨"PassedOnAndBetterModel", "nextLetter", "()I"⟩
theorem m_R_nextLetter : MV y_R_nextLetter b_R_nextLetter 1 (some .int) 0 := ⟨mG 1122 (by decide +kernel) (by decide +kernel), mG 91 (by decide +kernel) (by decide +kernel), by decide +kernel⟩
theorem mi_R_nextLetter : Cond.instanceMethod y_R_nextLetter ∈ tbG := mG 1121 (by decide +kernel) (by decide +kernel)
theorem ms_R_nextLetter : Cond.selects y_R_nextLetter.cls y_R_nextLetter y_R_nextLetter ∈ tbG := mG 32 (by decide +kernel) (by decide +kernel)
theorem d_R_nextLetter_0 : decode b_R_nextLetter 0 = .ok (.aload_n 0, 1) := by decide +kernel
theorem d_R_nextLetter_1 : decode b_R_nextLetter 1 = .ok (.getfield 91, 3) := by decide +kernel
theorem d_R_nextLetter_4 : decode b_R_nextLetter 4 = .ok (.aload_n 0, 1) := by decide +kernel
theorem d_R_nextLetter_5 : decode b_R_nextLetter 5 = .ok (.getfield 84, 3) := by decide +kernel
theorem d_R_nextLetter_8 : decode b_R_nextLetter 8 = .ok (.if_icmp .ge 15, 3) := by decide +kernel
theorem d_R_nextLetter_11 : decode b_R_nextLetter 11 = .ok (.aload_n 0, 1) := by decide +kernel
theorem d_R_nextLetter_12 : decode b_R_nextLetter 12 = .ok (.getfield 46, 3) := by decide +kernel
theorem d_R_nextLetter_15 : decode b_R_nextLetter 15 = .ok (.aload_n 0, 1) := by decide +kernel
theorem d_R_nextLetter_16 : decode b_R_nextLetter 16 = .ok (.getfield 91, 3) := by decide +kernel
theorem d_R_nextLetter_19 : decode b_R_nextLetter 19 = .ok (.iaload, 1) := by decide +kernel
theorem d_R_nextLetter_20 : decode b_R_nextLetter 20 = .ok (.goto 4, 3) := by decide +kernel
theorem d_R_nextLetter_23 : decode b_R_nextLetter 23 = .ok (.iconst (-1), 1) := by decide +kernel
theorem d_R_nextLetter_24 : decode b_R_nextLetter 24 = .ok (.ireturn, 1) := by decide +kernel
abbrev b_R_isIn : ByteArray := prog_11_method_4_code
def y_R_isIn : MethodName := ⟨"PassedOnAndBetterModel", "isIn", "(III)Z"⟩
theorem m_R_isIn : MV y_R_isIn b_R_isIn 3 (some .boolean) 3 := ⟨mG 1133 (by decide +kernel) (by decide +kernel), mG 91 (by decide +kernel) (by decide +kernel), by decide +kernel⟩
theorem mi_R_isIn : Cond.static y_R_isIn ∈ tbG := mG 1132 (by decide +kernel) (by decide +kernel)
theorem d_R_isIn_0 : decode b_R_isIn 0 = .ok (.iload_n 0, 1) := by decide +kernel
theorem d_R_isIn_1 : decode b_R_isIn 1 = .ok (.iload_n 1, 1) := by decide +kernel
theorem d_R_isIn_2 : decode b_R_isIn 2 = .ok (.if_icmp .lt 12, 3) := by decide +kernel
theorem d_R_isIn_5 : decode b_R_isIn 5 = .ok (.iload_n 0, 1) := by decide +kernel
theorem d_R_isIn_6 : decode b_R_isIn 6 = .ok (.iload_n 2, 1) := by decide +kernel
theorem d_R_isIn_7 : decode b_R_isIn 7 = .ok (.if_icmp .gt 7, 3) := by decide +kernel
theorem d_R_isIn_10 : decode b_R_isIn 10 = .ok (.iconst 1, 1) := by decide +kernel
theorem d_R_isIn_11 : decode b_R_isIn 11 = .ok (.goto 4, 3) := by decide +kernel
theorem d_R_isIn_14 : decode b_R_isIn 14 = .ok (.iconst 0, 1) := by decide +kernel
theorem d_R_isIn_15 : decode b_R_isIn 15 = .ok (.ireturn, 1) := by decide +kernel
abbrev b_R_readsDigits : ByteArray := prog_11_method_14_code
def y_R_readsDigits : MethodName := ⟨"PassedOnAndBetterModel", "readsDigits", "(II)Z"⟩
theorem m_R_readsDigits : MV y_R_readsDigits b_R_readsDigits 5 (some .boolean) 2 := ⟨mG 1130 (by decide +kernel) (by decide +kernel), mG 91 (by decide +kernel) (by decide +kernel), by decide +kernel⟩
theorem mi_R_readsDigits : Cond.instanceMethod y_R_readsDigits ∈ tbG := mG 1129 (by decide +kernel) (by decide +kernel)
theorem ms_R_readsDigits : Cond.selects y_R_readsDigits.cls y_R_readsDigits y_R_readsDigits ∈ tbG := mG 34 (by decide +kernel) (by decide +kernel)
theorem d_R_readsDigits_0 : decode b_R_readsDigits 0 = .ok (.iconst 0, 1) := by decide +kernel
theorem d_R_readsDigits_1 : decode b_R_readsDigits 1 = .ok (.istore_n 3, 1) := by decide +kernel
theorem d_R_readsDigits_2 : decode b_R_readsDigits 2 = .ok (.iconst 0, 1) := by decide +kernel
theorem d_R_readsDigits_3 : decode b_R_readsDigits 3 = .ok (.istore 4, 2) := by decide +kernel
theorem d_R_readsDigits_5 : decode b_R_readsDigits 5 = .ok (.iload 4, 2) := by decide +kernel
theorem d_R_readsDigits_7 : decode b_R_readsDigits 7 = .ok (.iload_n 2, 1) := by decide +kernel
theorem d_R_readsDigits_8 : decode b_R_readsDigits 8 = .ok (.if_icmp .ge 48, 3) := by decide +kernel
theorem d_R_readsDigits_11 : decode b_R_readsDigits 11 = .ok (.aload_n 0, 1) := by decide +kernel
theorem d_R_readsDigits_12 : decode b_R_readsDigits 12 = .ok (.invokevirtual 94, 3) := by decide +kernel
theorem d_R_readsDigits_15 : decode b_R_readsDigits 15 = .ok (.bipush 48, 2) := by decide +kernel
theorem d_R_readsDigits_17 : decode b_R_readsDigits 17 = .ok (.bipush 57, 2) := by decide +kernel
theorem d_R_readsDigits_19 : decode b_R_readsDigits 19 = .ok (.invokestatic 98, 3) := by decide +kernel
theorem d_R_readsDigits_22 : decode b_R_readsDigits 22 = .ok (.ifCond .ne 5, 3) := by decide +kernel
theorem d_R_readsDigits_25 : decode b_R_readsDigits 25 = .ok (.iconst 0, 1) := by decide +kernel
theorem d_R_readsDigits_26 : decode b_R_readsDigits 26 = .ok (.ireturn, 1) := by decide +kernel
theorem d_R_readsDigits_27 : decode b_R_readsDigits 27 = .ok (.bipush 10, 2) := by decide +kernel
theorem d_R_readsDigits_29 : decode b_R_readsDigits 29 = .ok (.iload_n 3, 1) := by decide +kernel
theorem d_R_readsDigits_30 : decode b_R_readsDigits 30 = .ok (.imul, 1) := by decide +kernel
theorem d_R_readsDigits_31 : decode b_R_readsDigits 31 = .ok (.aload_n 0, 1) := by decide +kernel
theorem d_R_readsDigits_32 : decode b_R_readsDigits 32 = .ok (.invokevirtual 94, 3) := by decide +kernel
theorem d_R_readsDigits_35 : decode b_R_readsDigits 35 = .ok (.iadd, 1) := by decide +kernel
theorem d_R_readsDigits_36 : decode b_R_readsDigits 36 = .ok (.bipush 48, 2) := by decide +kernel
theorem d_R_readsDigits_38 : decode b_R_readsDigits 38 = .ok (.isub, 1) := by decide +kernel
theorem d_R_readsDigits_39 : decode b_R_readsDigits 39 = .ok (.istore_n 3, 1) := by decide +kernel
theorem d_R_readsDigits_40 : decode b_R_readsDigits 40 = .ok (.aload_n 0, 1) := by decide +kernel
theorem d_R_readsDigits_41 : decode b_R_readsDigits 41 = .ok (.dup, 1) := by decide +kernel
theorem d_R_readsDigits_42 : decode b_R_readsDigits 42 = .ok (.getfield 91, 3) := by decide +kernel
theorem d_R_readsDigits_45 : decode b_R_readsDigits 45 = .ok (.iconst 1, 1) := by decide +kernel
theorem d_R_readsDigits_46 : decode b_R_readsDigits 46 = .ok (.iadd, 1) := by decide +kernel
theorem d_R_readsDigits_47 : decode b_R_readsDigits 47 = .ok (.putfield 91, 3) := by decide +kernel
theorem d_R_readsDigits_50 : decode b_R_readsDigits 50 = .ok (.iinc 4 1, 3) := by decide +kernel
theorem d_R_readsDigits_53 : decode b_R_readsDigits 53 = .ok (.goto (-48), 3) := by decide +kernel
theorem d_R_readsDigits_56 : decode b_R_readsDigits 56 = .ok (.aload_n 0, 1) := by decide +kernel
theorem d_R_readsDigits_57 : decode b_R_readsDigits 57 = .ok (.getfield 55, 3) := by decide +kernel
theorem d_R_readsDigits_60 : decode b_R_readsDigits 60 = .ok (.iload_n 1, 1) := by decide +kernel
theorem d_R_readsDigits_61 : decode b_R_readsDigits 61 = .ok (.iload_n 3, 1) := by decide +kernel
theorem d_R_readsDigits_62 : decode b_R_readsDigits 62 = .ok (.iastore, 1) := by decide +kernel
theorem d_R_readsDigits_63 : decode b_R_readsDigits 63 = .ok (.iconst 1, 1) := by decide +kernel
theorem d_R_readsDigits_64 : decode b_R_readsDigits 64 = .ok (.ireturn, 1) := by decide +kernel
abbrev b_R_readsAll : ByteArray := prog_11_method_15_code
def y_R_readsAll : MethodName := ⟨"PassedOnAndBetterModel", "readsAll", "(II)Z"⟩
theorem m_R_readsAll : MV y_R_readsAll b_R_readsAll 3 (some .boolean) 2 := ⟨mG 1126 (by decide +kernel) (by decide +kernel), mG 91 (by decide +kernel) (by decide +kernel), by decide +kernel⟩
theorem mi_R_readsAll : Cond.instanceMethod y_R_readsAll ∈ tbG := mG 1125 (by decide +kernel) (by decide +kernel)
theorem ms_R_readsAll : Cond.selects y_R_readsAll.cls y_R_readsAll y_R_readsAll ∈ tbG := mG 33 (by decide +kernel) (by decide +kernel)
theorem d_R_readsAll_0 : decode b_R_readsAll 0 = .ok (.iload_n 1, 1) := by decide +kernel
theorem d_R_readsAll_1 : decode b_R_readsAll 1 = .ok (.tableswitch 162 100 109 #[129, 162, 55, 92, 162, 162, 162, 162, 162, 155], 55) := by decide +kernel
theorem d_R_readsAll_56 : decode b_R_readsAll 56 = .ok (.aload_n 0, 1) := by decide +kernel
theorem d_R_readsAll_57 : decode b_R_readsAll 57 = .ok (.iload_n 2, 1) := by decide +kernel
theorem d_R_readsAll_58 : decode b_R_readsAll 58 = .ok (.iconst 1, 1) := by decide +kernel
theorem d_R_readsAll_59 : decode b_R_readsAll 59 = .ok (.invokevirtual 102, 3) := by decide +kernel
theorem d_R_readsAll_62 : decode b_R_readsAll 62 = .ok (.ifCond .eq 29, 3) := by decide +kernel
theorem d_R_readsAll_65 : decode b_R_readsAll 65 = .ok (.aload_n 0, 1) := by decide +kernel
theorem d_R_readsAll_66 : decode b_R_readsAll 66 = .ok (.iload_n 2, 1) := by decide +kernel
theorem d_R_readsAll_67 : decode b_R_readsAll 67 = .ok (.iconst 1, 1) := by decide +kernel
theorem d_R_readsAll_68 : decode b_R_readsAll 68 = .ok (.iadd, 1) := by decide +kernel
theorem d_R_readsAll_69 : decode b_R_readsAll 69 = .ok (.iconst 1, 1) := by decide +kernel
theorem d_R_readsAll_70 : decode b_R_readsAll 70 = .ok (.invokevirtual 102, 3) := by decide +kernel
theorem d_R_readsAll_73 : decode b_R_readsAll 73 = .ok (.ifCond .eq 18, 3) := by decide +kernel
theorem d_R_readsAll_76 : decode b_R_readsAll 76 = .ok (.aload_n 0, 1) := by decide +kernel
theorem d_R_readsAll_77 : decode b_R_readsAll 77 = .ok (.iload_n 2, 1) := by decide +kernel
theorem d_R_readsAll_78 : decode b_R_readsAll 78 = .ok (.iconst 2, 1) := by decide +kernel
theorem d_R_readsAll_79 : decode b_R_readsAll 79 = .ok (.iadd, 1) := by decide +kernel
theorem d_R_readsAll_80 : decode b_R_readsAll 80 = .ok (.iconst 2, 1) := by decide +kernel
theorem d_R_readsAll_81 : decode b_R_readsAll 81 = .ok (.invokevirtual 102, 3) := by decide +kernel
theorem d_R_readsAll_84 : decode b_R_readsAll 84 = .ok (.ifCond .eq 7, 3) := by decide +kernel
theorem d_R_readsAll_87 : decode b_R_readsAll 87 = .ok (.iconst 1, 1) := by decide +kernel
theorem d_R_readsAll_88 : decode b_R_readsAll 88 = .ok (.goto 4, 3) := by decide +kernel
theorem d_R_readsAll_91 : decode b_R_readsAll 91 = .ok (.iconst 0, 1) := by decide +kernel
theorem d_R_readsAll_92 : decode b_R_readsAll 92 = .ok (.ireturn, 1) := by decide +kernel
theorem d_R_readsAll_93 : decode b_R_readsAll 93 = .ok (.aload_n 0, 1) := by decide +kernel
theorem d_R_readsAll_94 : decode b_R_readsAll 94 = .ok (.iload_n 2, 1) := by decide +kernel
theorem d_R_readsAll_95 : decode b_R_readsAll 95 = .ok (.iconst 2, 1) := by decide +kernel
theorem d_R_readsAll_96 : decode b_R_readsAll 96 = .ok (.invokevirtual 102, 3) := by decide +kernel
theorem d_R_readsAll_99 : decode b_R_readsAll 99 = .ok (.ifCond .eq 29, 3) := by decide +kernel
theorem d_R_readsAll_102 : decode b_R_readsAll 102 = .ok (.aload_n 0, 1) := by decide +kernel
theorem d_R_readsAll_103 : decode b_R_readsAll 103 = .ok (.iload_n 2, 1) := by decide +kernel
theorem d_R_readsAll_104 : decode b_R_readsAll 104 = .ok (.iconst 1, 1) := by decide +kernel
theorem d_R_readsAll_105 : decode b_R_readsAll 105 = .ok (.iadd, 1) := by decide +kernel
theorem d_R_readsAll_106 : decode b_R_readsAll 106 = .ok (.iconst 2, 1) := by decide +kernel
theorem d_R_readsAll_107 : decode b_R_readsAll 107 = .ok (.invokevirtual 102, 3) := by decide +kernel
theorem d_R_readsAll_110 : decode b_R_readsAll 110 = .ok (.ifCond .eq 18, 3) := by decide +kernel
theorem d_R_readsAll_113 : decode b_R_readsAll 113 = .ok (.aload_n 0, 1) := by decide +kernel
theorem d_R_readsAll_114 : decode b_R_readsAll 114 = .ok (.iload_n 2, 1) := by decide +kernel
theorem d_R_readsAll_115 : decode b_R_readsAll 115 = .ok (.iconst 2, 1) := by decide +kernel
theorem d_R_readsAll_116 : decode b_R_readsAll 116 = .ok (.iadd, 1) := by decide +kernel
theorem d_R_readsAll_117 : decode b_R_readsAll 117 = .ok (.iconst 1, 1) := by decide +kernel
theorem d_R_readsAll_118 : decode b_R_readsAll 118 = .ok (.invokevirtual 102, 3) := by decide +kernel
theorem d_R_readsAll_121 : decode b_R_readsAll 121 = .ok (.ifCond .eq 7, 3) := by decide +kernel
theorem d_R_readsAll_124 : decode b_R_readsAll 124 = .ok (.iconst 1, 1) := by decide +kernel
theorem d_R_readsAll_125 : decode b_R_readsAll 125 = .ok (.goto 4, 3) := by decide +kernel
theorem d_R_readsAll_128 : decode b_R_readsAll 128 = .ok (.iconst 0, 1) := by decide +kernel
theorem d_R_readsAll_129 : decode b_R_readsAll 129 = .ok (.ireturn, 1) := by decide +kernel
theorem d_R_readsAll_130 : decode b_R_readsAll 130 = .ok (.aload_n 0, 1) := by decide +kernel
theorem d_R_readsAll_131 : decode b_R_readsAll 131 = .ok (.iload_n 2, 1) := by decide +kernel
theorem d_R_readsAll_132 : decode b_R_readsAll 132 = .ok (.iconst 1, 1) := by decide +kernel
theorem d_R_readsAll_133 : decode b_R_readsAll 133 = .ok (.invokevirtual 102, 3) := by decide +kernel
theorem d_R_readsAll_136 : decode b_R_readsAll 136 = .ok (.ifCond .eq 18, 3) := by decide +kernel
theorem d_R_readsAll_139 : decode b_R_readsAll 139 = .ok (.aload_n 0, 1) := by decide +kernel
theorem d_R_readsAll_140 : decode b_R_readsAll 140 = .ok (.iload_n 2, 1) := by decide +kernel
theorem d_R_readsAll_141 : decode b_R_readsAll 141 = .ok (.iconst 1, 1) := by decide +kernel
theorem d_R_readsAll_142 : decode b_R_readsAll 142 = .ok (.iadd, 1) := by decide +kernel
theorem d_R_readsAll_143 : decode b_R_readsAll 143 = .ok (.iconst 2, 1) := by decide +kernel
theorem d_R_readsAll_144 : decode b_R_readsAll 144 = .ok (.invokevirtual 102, 3) := by decide +kernel
theorem d_R_readsAll_147 : decode b_R_readsAll 147 = .ok (.ifCond .eq 7, 3) := by decide +kernel
theorem d_R_readsAll_150 : decode b_R_readsAll 150 = .ok (.iconst 1, 1) := by decide +kernel
theorem d_R_readsAll_151 : decode b_R_readsAll 151 = .ok (.goto 4, 3) := by decide +kernel
theorem d_R_readsAll_154 : decode b_R_readsAll 154 = .ok (.iconst 0, 1) := by decide +kernel
theorem d_R_readsAll_155 : decode b_R_readsAll 155 = .ok (.ireturn, 1) := by decide +kernel
theorem d_R_readsAll_156 : decode b_R_readsAll 156 = .ok (.aload_n 0, 1) := by decide +kernel
theorem d_R_readsAll_157 : decode b_R_readsAll 157 = .ok (.iload_n 2, 1) := by decide +kernel
theorem d_R_readsAll_158 : decode b_R_readsAll 158 = .ok (.iconst 2, 1) := by decide +kernel
theorem d_R_readsAll_159 : decode b_R_readsAll 159 = .ok (.invokevirtual 102, 3) := by decide +kernel
theorem d_R_readsAll_162 : decode b_R_readsAll 162 = .ok (.ireturn, 1) := by decide +kernel
theorem d_R_readsAll_163 : decode b_R_readsAll 163 = .ok (.aload_n 0, 1) := by decide +kernel
theorem d_R_readsAll_164 : decode b_R_readsAll 164 = .ok (.iload_n 2, 1) := by decide +kernel
theorem d_R_readsAll_165 : decode b_R_readsAll 165 = .ok (.iconst 1, 1) := by decide +kernel
theorem d_R_readsAll_166 : decode b_R_readsAll 166 = .ok (.invokevirtual 102, 3) := by decide +kernel
theorem d_R_readsAll_169 : decode b_R_readsAll 169 = .ok (.ifCond .eq 18, 3) := by decide +kernel
theorem d_R_readsAll_172 : decode b_R_readsAll 172 = .ok (.aload_n 0, 1) := by decide +kernel
theorem d_R_readsAll_173 : decode b_R_readsAll 173 = .ok (.iload_n 2, 1) := by decide +kernel
theorem d_R_readsAll_174 : decode b_R_readsAll 174 = .ok (.iconst 1, 1) := by decide +kernel
theorem d_R_readsAll_175 : decode b_R_readsAll 175 = .ok (.iadd, 1) := by decide +kernel
theorem d_R_readsAll_176 : decode b_R_readsAll 176 = .ok (.iconst 1, 1) := by decide +kernel
theorem d_R_readsAll_177 : decode b_R_readsAll 177 = .ok (.invokevirtual 102, 3) := by decide +kernel
theorem d_R_readsAll_180 : decode b_R_readsAll 180 = .ok (.ifCond .eq 7, 3) := by decide +kernel
theorem d_R_readsAll_183 : decode b_R_readsAll 183 = .ok (.iconst 1, 1) := by decide +kernel
theorem d_R_readsAll_184 : decode b_R_readsAll 184 = .ok (.goto 4, 3) := by decide +kernel
theorem d_R_readsAll_187 : decode b_R_readsAll 187 = .ok (.iconst 0, 1) := by decide +kernel
theorem d_R_readsAll_188 : decode b_R_readsAll 188 = .ok (.ireturn, 1) := by decide +kernel
abbrev b_R_statement : ByteArray := prog_11_method_16_code
def y_R_statement : MethodName := ⟨"PassedOnAndBetterModel", "statement", "()Z"⟩
theorem m_R_statement : MV y_R_statement b_R_statement 2 (some .boolean) 0 := ⟨mG 1118 (by decide +kernel) (by decide +kernel), mG 91 (by decide +kernel) (by decide +kernel), by decide +kernel⟩
theorem mi_R_statement : Cond.instanceMethod y_R_statement ∈ tbG := mG 1117 (by decide +kernel) (by decide +kernel)
theorem ms_R_statement : Cond.selects y_R_statement.cls y_R_statement y_R_statement ∈ tbG := mG 31 (by decide +kernel) (by decide +kernel)
theorem d_R_statement_0 : decode b_R_statement 0 = .ok (.aload_n 0, 1) := by decide +kernel
theorem d_R_statement_1 : decode b_R_statement 1 = .ok (.invokevirtual 94, 3) := by decide +kernel
theorem d_R_statement_4 : decode b_R_statement 4 = .ok (.istore_n 1, 1) := by decide +kernel
theorem d_R_statement_5 : decode b_R_statement 5 = .ok (.iload_n 1, 1) := by decide +kernel
theorem d_R_statement_6 : decode b_R_statement 6 = .ok (.bipush 102, 2) := by decide +kernel
theorem d_R_statement_8 : decode b_R_statement 8 = .ok (.if_icmp .eq 35, 3) := by decide +kernel
theorem d_R_statement_11 : decode b_R_statement 11 = .ok (.iload_n 1, 1) := by decide +kernel
theorem d_R_statement_12 : decode b_R_statement 12 = .ok (.bipush 110, 2) := by decide +kernel
theorem d_R_statement_14 : decode b_R_statement 14 = .ok (.if_icmp .eq 29, 3) := by decide +kernel
theorem d_R_statement_17 : decode b_R_statement 17 = .ok (.iload_n 1, 1) := by decide +kernel
theorem d_R_statement_18 : decode b_R_statement 18 = .ok (.bipush 100, 2) := by decide +kernel
theorem d_R_statement_20 : decode b_R_statement 20 = .ok (.if_icmp .eq 23, 3) := by decide +kernel
theorem d_R_statement_23 : decode b_R_statement 23 = .ok (.iload_n 1, 1) := by decide +kernel
theorem d_R_statement_24 : decode b_R_statement 24 = .ok (.bipush 103, 2) := by decide +kernel
theorem d_R_statement_26 : decode b_R_statement 26 = .ok (.if_icmp .eq 17, 3) := by decide +kernel
theorem d_R_statement_29 : decode b_R_statement 29 = .ok (.iload_n 1, 1) := by decide +kernel
theorem d_R_statement_30 : decode b_R_statement 30 = .ok (.bipush 104, 2) := by decide +kernel
theorem d_R_statement_32 : decode b_R_statement 32 = .ok (.if_icmp .eq 11, 3) := by decide +kernel
theorem d_R_statement_35 : decode b_R_statement 35 = .ok (.iload_n 1, 1) := by decide +kernel
theorem d_R_statement_36 : decode b_R_statement 36 = .ok (.bipush 109, 2) := by decide +kernel
theorem d_R_statement_38 : decode b_R_statement 38 = .ok (.if_icmp .eq 5, 3) := by decide +kernel
theorem d_R_statement_41 : decode b_R_statement 41 = .ok (.iconst 0, 1) := by decide +kernel
theorem d_R_statement_42 : decode b_R_statement 42 = .ok (.ireturn, 1) := by decide +kernel
theorem d_R_statement_43 : decode b_R_statement 43 = .ok (.aload_n 0, 1) := by decide +kernel
theorem d_R_statement_44 : decode b_R_statement 44 = .ok (.getfield 49, 3) := by decide +kernel
theorem d_R_statement_47 : decode b_R_statement 47 = .ok (.aload_n 0, 1) := by decide +kernel
theorem d_R_statement_48 : decode b_R_statement 48 = .ok (.getfield 106, 3) := by decide +kernel
theorem d_R_statement_51 : decode b_R_statement 51 = .ok (.iload_n 1, 1) := by decide +kernel
theorem d_R_statement_52 : decode b_R_statement 52 = .ok (.iastore, 1) := by decide +kernel
theorem d_R_statement_53 : decode b_R_statement 53 = .ok (.aload_n 0, 1) := by decide +kernel
theorem d_R_statement_54 : decode b_R_statement 54 = .ok (.getfield 52, 3) := by decide +kernel
theorem d_R_statement_57 : decode b_R_statement 57 = .ok (.aload_n 0, 1) := by decide +kernel
theorem d_R_statement_58 : decode b_R_statement 58 = .ok (.getfield 106, 3) := by decide +kernel
theorem d_R_statement_61 : decode b_R_statement 61 = .ok (.aload_n 0, 1) := by decide +kernel
theorem d_R_statement_62 : decode b_R_statement 62 = .ok (.getfield 91, 3) := by decide +kernel
theorem d_R_statement_65 : decode b_R_statement 65 = .ok (.iastore, 1) := by decide +kernel
theorem d_R_statement_66 : decode b_R_statement 66 = .ok (.aload_n 0, 1) := by decide +kernel
theorem d_R_statement_67 : decode b_R_statement 67 = .ok (.dup, 1) := by decide +kernel
theorem d_R_statement_68 : decode b_R_statement 68 = .ok (.getfield 91, 3) := by decide +kernel
theorem d_R_statement_71 : decode b_R_statement 71 = .ok (.iconst 1, 1) := by decide +kernel
theorem d_R_statement_72 : decode b_R_statement 72 = .ok (.iadd, 1) := by decide +kernel
theorem d_R_statement_73 : decode b_R_statement 73 = .ok (.putfield 91, 3) := by decide +kernel
theorem d_R_statement_76 : decode b_R_statement 76 = .ok (.aload_n 0, 1) := by decide +kernel
theorem d_R_statement_77 : decode b_R_statement 77 = .ok (.iload_n 1, 1) := by decide +kernel
theorem d_R_statement_78 : decode b_R_statement 78 = .ok (.iconst 3, 1) := by decide +kernel
theorem d_R_statement_79 : decode b_R_statement 79 = .ok (.aload_n 0, 1) := by decide +kernel
theorem d_R_statement_80 : decode b_R_statement 80 = .ok (.getfield 106, 3) := by decide +kernel
theorem d_R_statement_83 : decode b_R_statement 83 = .ok (.imul, 1) := by decide +kernel
theorem d_R_statement_84 : decode b_R_statement 84 = .ok (.invokevirtual 109, 3) := by decide +kernel
theorem d_R_statement_87 : decode b_R_statement 87 = .ok (.ifCond .eq 12, 3) := by decide +kernel
theorem d_R_statement_90 : decode b_R_statement 90 = .ok (.aload_n 0, 1) := by decide +kernel
theorem d_R_statement_91 : decode b_R_statement 91 = .ok (.invokevirtual 94, 3) := by decide +kernel
theorem d_R_statement_94 : decode b_R_statement 94 = .ok (.bipush 59, 2) := by decide +kernel
theorem d_R_statement_96 : decode b_R_statement 96 = .ok (.if_icmp .eq 5, 3) := by decide +kernel
theorem d_R_statement_99 : decode b_R_statement 99 = .ok (.iconst 0, 1) := by decide +kernel
theorem d_R_statement_100 : decode b_R_statement 100 = .ok (.ireturn, 1) := by decide +kernel
theorem d_R_statement_101 : decode b_R_statement 101 = .ok (.aload_n 0, 1) := by decide +kernel
theorem d_R_statement_102 : decode b_R_statement 102 = .ok (.dup, 1) := by decide +kernel
theorem d_R_statement_103 : decode b_R_statement 103 = .ok (.getfield 91, 3) := by decide +kernel
theorem d_R_statement_106 : decode b_R_statement 106 = .ok (.iconst 1, 1) := by decide +kernel
theorem d_R_statement_107 : decode b_R_statement 107 = .ok (.iadd, 1) := by decide +kernel
theorem d_R_statement_108 : decode b_R_statement 108 = .ok (.putfield 91, 3) := by decide +kernel
theorem d_R_statement_111 : decode b_R_statement 111 = .ok (.iconst 1, 1) := by decide +kernel
theorem d_R_statement_112 : decode b_R_statement 112 = .ok (.ireturn, 1) := by decide +kernel
abbrev b_R_passes : ByteArray := prog_11_method_23_code
def y_R_passes : MethodName := ⟨"PassedOnAndBetterModel", "passes", "([I)V"⟩
theorem m_R_passes : MV y_R_passes b_R_passes 3 none 1 := ⟨mG 1141 (by decide +kernel) (by decide +kernel), mG 91 (by decide +kernel) (by decide +kernel), by decide +kernel⟩
theorem mi_R_passes : Cond.instanceMethod y_R_passes ∈ tbG := mG 1140 (by decide +kernel) (by decide +kernel)
theorem ms_R_passes : Cond.selects y_R_passes.cls y_R_passes y_R_passes ∈ tbG := mG 36 (by decide +kernel) (by decide +kernel)
theorem d_R_passes_0 : decode b_R_passes 0 = .ok (.iconst 0, 1) := by decide +kernel
theorem d_R_passes_1 : decode b_R_passes 1 = .ok (.istore_n 2, 1) := by decide +kernel
theorem d_R_passes_2 : decode b_R_passes 2 = .ok (.iload_n 2, 1) := by decide +kernel
theorem d_R_passes_3 : decode b_R_passes 3 = .ok (.aload_n 1, 1) := by decide +kernel
theorem d_R_passes_4 : decode b_R_passes 4 = .ok (.arraylength, 1) := by decide +kernel
theorem d_R_passes_5 : decode b_R_passes 5 = .ok (.if_icmp .ge 53, 3) := by decide +kernel
theorem d_R_passes_8 : decode b_R_passes 8 = .ok (.aload_n 0, 1) := by decide +kernel
theorem d_R_passes_9 : decode b_R_passes 9 = .ok (.getfield 165, 3) := by decide +kernel
theorem d_R_passes_12 : decode b_R_passes 12 = .ok (.ifCond .eq 18, 3) := by decide +kernel
theorem d_R_passes_15 : decode b_R_passes 15 = .ok (.aload_n 0, 1) := by decide +kernel
theorem d_R_passes_16 : decode b_R_passes 16 = .ok (.getfield 58, 3) := by decide +kernel
theorem d_R_passes_19 : decode b_R_passes 19 = .ok (.aload_n 0, 1) := by decide +kernel
theorem d_R_passes_20 : decode b_R_passes 20 = .ok (.getfield 169, 3) := by decide +kernel
theorem d_R_passes_23 : decode b_R_passes 23 = .ok (.aload_n 1, 1) := by decide +kernel
theorem d_R_passes_24 : decode b_R_passes 24 = .ok (.iload_n 2, 1) := by decide +kernel
theorem d_R_passes_25 : decode b_R_passes 25 = .ok (.iaload, 1) := by decide +kernel
theorem d_R_passes_26 : decode b_R_passes 26 = .ok (.iastore, 1) := by decide +kernel
theorem d_R_passes_27 : decode b_R_passes 27 = .ok (.goto 15, 3) := by decide +kernel
theorem d_R_passes_30 : decode b_R_passes 30 = .ok (.aload_n 1, 1) := by decide +kernel
theorem d_R_passes_31 : decode b_R_passes 31 = .ok (.iload_n 2, 1) := by decide +kernel
theorem d_R_passes_32 : decode b_R_passes 32 = .ok (.aload_n 0, 1) := by decide +kernel
theorem d_R_passes_33 : decode b_R_passes 33 = .ok (.getfield 58, 3) := by decide +kernel
theorem d_R_passes_36 : decode b_R_passes 36 = .ok (.aload_n 0, 1) := by decide +kernel
theorem d_R_passes_37 : decode b_R_passes 37 = .ok (.getfield 169, 3) := by decide +kernel
theorem d_R_passes_40 : decode b_R_passes 40 = .ok (.iaload, 1) := by decide +kernel
theorem d_R_passes_41 : decode b_R_passes 41 = .ok (.iastore, 1) := by decide +kernel
theorem d_R_passes_42 : decode b_R_passes 42 = .ok (.aload_n 0, 1) := by decide +kernel
theorem d_R_passes_43 : decode b_R_passes 43 = .ok (.dup, 1) := by decide +kernel
theorem d_R_passes_44 : decode b_R_passes 44 = .ok (.getfield 169, 3) := by decide +kernel
theorem d_R_passes_47 : decode b_R_passes 47 = .ok (.iconst 1, 1) := by decide +kernel
theorem d_R_passes_48 : decode b_R_passes 48 = .ok (.iadd, 1) := by decide +kernel
theorem d_R_passes_49 : decode b_R_passes 49 = .ok (.putfield 169, 3) := by decide +kernel
theorem d_R_passes_52 : decode b_R_passes 52 = .ok (.iinc 2 1, 3) := by decide +kernel
theorem d_R_passes_55 : decode b_R_passes 55 = .ok (.goto (-53), 3) := by decide +kernel
theorem d_R_passes_58 : decode b_R_passes 58 = .ok (.return_, 1) := by decide +kernel
abbrev b_R_passOne : ByteArray := prog_11_method_24_code
def y_R_passOne : MethodName := ⟨"PassedOnAndBetterModel", "passOne", "(I)I"⟩
theorem m_R_passOne : MV y_R_passOne b_R_passOne 3 (some .int) 1 := ⟨mG 1145 (by decide +kernel) (by decide +kernel), mG 91 (by decide +kernel) (by decide +kernel), by decide +kernel⟩
theorem mi_R_passOne : Cond.instanceMethod y_R_passOne ∈ tbG := mG 1144 (by decide +kernel) (by decide +kernel)
theorem ms_R_passOne : Cond.selects y_R_passOne.cls y_R_passOne y_R_passOne ∈ tbG := mG 37 (by decide +kernel) (by decide +kernel)
theorem d_R_passOne_0 : decode b_R_passOne 0 = .ok (.aload_n 0, 1) := by decide +kernel
theorem d_R_passOne_1 : decode b_R_passOne 1 = .ok (.getfield 165, 3) := by decide +kernel
theorem d_R_passOne_4 : decode b_R_passOne 4 = .ok (.ifCond .eq 7, 3) := by decide +kernel
theorem d_R_passOne_7 : decode b_R_passOne 7 = .ok (.iload_n 1, 1) := by decide +kernel
theorem d_R_passOne_8 : decode b_R_passOne 8 = .ok (.goto 12, 3) := by decide +kernel
theorem d_R_passOne_11 : decode b_R_passOne 11 = .ok (.aload_n 0, 1) := by decide +kernel
theorem d_R_passOne_12 : decode b_R_passOne 12 = .ok (.getfield 58, 3) := by decide +kernel
theorem d_R_passOne_15 : decode b_R_passOne 15 = .ok (.aload_n 0, 1) := by decide +kernel
theorem d_R_passOne_16 : decode b_R_passOne 16 = .ok (.getfield 169, 3) := by decide +kernel
theorem d_R_passOne_19 : decode b_R_passOne 19 = .ok (.iaload, 1) := by decide +kernel
theorem d_R_passOne_20 : decode b_R_passOne 20 = .ok (.istore_n 2, 1) := by decide +kernel
theorem d_R_passOne_21 : decode b_R_passOne 21 = .ok (.aload_n 0, 1) := by decide +kernel
theorem d_R_passOne_22 : decode b_R_passOne 22 = .ok (.getfield 165, 3) := by decide +kernel
theorem d_R_passOne_25 : decode b_R_passOne 25 = .ok (.ifCond .eq 13, 3) := by decide +kernel
theorem d_R_passOne_28 : decode b_R_passOne 28 = .ok (.aload_n 0, 1) := by decide +kernel
theorem d_R_passOne_29 : decode b_R_passOne 29 = .ok (.getfield 58, 3) := by decide +kernel
theorem d_R_passOne_32 : decode b_R_passOne 32 = .ok (.aload_n 0, 1) := by decide +kernel
theorem d_R_passOne_33 : decode b_R_passOne 33 = .ok (.getfield 169, 3) := by decide +kernel
theorem d_R_passOne_36 : decode b_R_passOne 36 = .ok (.iload_n 1, 1) := by decide +kernel
theorem d_R_passOne_37 : decode b_R_passOne 37 = .ok (.iastore, 1) := by decide +kernel
theorem d_R_passOne_38 : decode b_R_passOne 38 = .ok (.aload_n 0, 1) := by decide +kernel
theorem d_R_passOne_39 : decode b_R_passOne 39 = .ok (.dup, 1) := by decide +kernel
theorem d_R_passOne_40 : decode b_R_passOne 40 = .ok (.getfield 169, 3) := by decide +kernel
theorem d_R_passOne_43 : decode b_R_passOne 43 = .ok (.iconst 1, 1) := by decide +kernel
theorem d_R_passOne_44 : decode b_R_passOne 44 = .ok (.iadd, 1) := by decide +kernel
theorem d_R_passOne_45 : decode b_R_passOne 45 = .ok (.putfield 169, 3) := by decide +kernel
theorem d_R_passOne_48 : decode b_R_passOne 48 = .ok (.iload_n 2, 1) := by decide +kernel
theorem d_R_passOne_49 : decode b_R_passOne 49 = .ok (.ireturn, 1) := by decide +kernel
