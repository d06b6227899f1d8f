abbrev b_R_comesAt : ByteArray := prog_11_method_61_code
def y_R_comesAt : MethodName := ⟨"PassedOnAndBetterModel", "comesAt", "(III)I"⟩
theorem m_R_comesAt : MV y_R_comesAt b_R_comesAt 6 (some .int) 3 := ⟨mG 1321 (by decide +kernel) (by decide +kernel), mG 91 (by decide +kernel) (by decide +kernel), by decide +kernel⟩
theorem mi_R_comesAt : Cond.instanceMethod y_R_comesAt ∈ tbG := mG 1320 (by decide +kernel) (by decide +kernel)
theorem ms_R_comesAt : Cond.selects y_R_comesAt.cls y_R_comesAt y_R_comesAt ∈ tbG := mG 63 (by decide +kernel) (by decide +kernel)
theorem d_R_comesAt_0 : decode b_R_comesAt 0 = .ok (.aload_n 0, 1) := by decide +kernel
theorem d_R_comesAt_1 : decode b_R_comesAt 1 = .ok (.invokevirtual 226, 3) := by decide +kernel
theorem d_R_comesAt_4 : decode b_R_comesAt 4 = .ok (.bipush (-9), 2) := by decide +kernel
theorem d_R_comesAt_6 : decode b_R_comesAt 6 = .ok (.istore 4, 2) := by decide +kernel
theorem d_R_comesAt_8 : decode b_R_comesAt 8 = .ok (.iconst 0, 1) := by decide +kernel
theorem d_R_comesAt_9 : decode b_R_comesAt 9 = .ok (.istore 5, 2) := by decide +kernel
theorem d_R_comesAt_11 : decode b_R_comesAt 11 = .ok (.iload 5, 2) := by decide +kernel
theorem d_R_comesAt_13 : decode b_R_comesAt 13 = .ok (.iload_n 3, 1) := by decide +kernel
theorem d_R_comesAt_14 : decode b_R_comesAt 14 = .ok (.if_icmp .gt 38, 3) := by decide +kernel
theorem d_R_comesAt_17 : decode b_R_comesAt 17 = .ok (.iload 4, 2) := by decide +kernel
theorem d_R_comesAt_19 : decode b_R_comesAt 19 = .ok (.ifCond .ge 33, 3) := by decide +kernel
theorem d_R_comesAt_22 : decode b_R_comesAt 22 = .ok (.aload_n 0, 1) := by decide +kernel
theorem d_R_comesAt_23 : decode b_R_comesAt 23 = .ok (.getfield 31, 3) := by decide +kernel
theorem d_R_comesAt_26 : decode b_R_comesAt 26 = .ok (.iload_n 1, 1) := by decide +kernel
theorem d_R_comesAt_27 : decode b_R_comesAt 27 = .ok (.iaload, 1) := by decide +kernel
theorem d_R_comesAt_28 : decode b_R_comesAt 28 = .ok (.iload_n 2, 1) := by decide +kernel
theorem d_R_comesAt_29 : decode b_R_comesAt 29 = .ok (.if_icmp .ne 8, 3) := by decide +kernel
theorem d_R_comesAt_32 : decode b_R_comesAt 32 = .ok (.iload 5, 2) := by decide +kernel
theorem d_R_comesAt_34 : decode b_R_comesAt 34 = .ok (.goto 5, 3) := by decide +kernel
theorem d_R_comesAt_37 : decode b_R_comesAt 37 = .ok (.bipush (-9), 2) := by decide +kernel
theorem d_R_comesAt_39 : decode b_R_comesAt 39 = .ok (.istore 4, 2) := by decide +kernel
theorem d_R_comesAt_41 : decode b_R_comesAt 41 = .ok (.aload_n 0, 1) := by decide +kernel
theorem d_R_comesAt_42 : decode b_R_comesAt 42 = .ok (.iconst 0, 1) := by decide +kernel
theorem d_R_comesAt_43 : decode b_R_comesAt 43 = .ok (.invokevirtual 209, 3) := by decide +kernel
theorem d_R_comesAt_46 : decode b_R_comesAt 46 = .ok (.iinc 5 1, 3) := by decide +kernel
theorem d_R_comesAt_49 : decode b_R_comesAt 49 = .ok (.goto (-38), 3) := by decide +kernel
theorem d_R_comesAt_52 : decode b_R_comesAt 52 = .ok (.aload_n 0, 1) := by decide +kernel
theorem d_R_comesAt_53 : decode b_R_comesAt 53 = .ok (.invokevirtual 229, 3) := by decide +kernel
theorem d_R_comesAt_56 : decode b_R_comesAt 56 = .ok (.iload 4, 2) := by decide +kernel
theorem d_R_comesAt_58 : decode b_R_comesAt 58 = .ok (.ireturn, 1) := by decide +kernel
abbrev b_R_comes2 : ByteArray := prog_11_method_62_code
def y_R_comes2 : MethodName := ⟨"PassedOnAndBetterModel", "comes", "(II)I"⟩
theorem m_R_comes2 : MV y_R_comes2 b_R_comes2 3 (some .int) 2 := ⟨mG 1317 (by decide +kernel) (by decide +kernel), mG 91 (by decide +kernel) (by decide +kernel), by decide +kernel⟩
theorem mi_R_comes2 : Cond.instanceMethod y_R_comes2 ∈ tbG := mG 1315 (by decide +kernel) (by decide +kernel)
theorem ms_R_comes2 : Cond.selects y_R_comes2.cls y_R_comes2 y_R_comes2 ∈ tbG := mG 1316 (by decide +kernel) (by decide +kernel)
theorem d_R_comes2_0 : decode b_R_comes2 0 = .ok (.aload_n 0, 1) := by decide +kernel
theorem d_R_comes2_1 : decode b_R_comes2 1 = .ok (.iload_n 1, 1) := by decide +kernel
theorem d_R_comes2_2 : decode b_R_comes2 2 = .ok (.invokevirtual 142, 3) := by decide +kernel
theorem d_R_comes2_5 : decode b_R_comes2 5 = .ok (.ifCond .eq 22, 3) := by decide +kernel
theorem d_R_comes2_8 : decode b_R_comes2 8 = .ok (.aload_n 0, 1) := by decide +kernel
theorem d_R_comes2_9 : decode b_R_comes2 9 = .ok (.iload_n 2, 1) := by decide +kernel
theorem d_R_comes2_10 : decode b_R_comes2 10 = .ok (.invokevirtual 76, 3) := by decide +kernel
theorem d_R_comes2_13 : decode b_R_comes2 13 = .ok (.ifCond .eq 14, 3) := by decide +kernel
theorem d_R_comes2_16 : decode b_R_comes2 16 = .ok (.aload_n 0, 1) := by decide +kernel
theorem d_R_comes2_17 : decode b_R_comes2 17 = .ok (.iload_n 1, 1) := by decide +kernel
theorem d_R_comes2_18 : decode b_R_comes2 18 = .ok (.iload_n 2, 1) := by decide +kernel
theorem d_R_comes2_19 : decode b_R_comes2 19 = .ok (.bipush 60, 2) := by decide +kernel
theorem d_R_comes2_21 : decode b_R_comes2 21 = .ok (.invokevirtual 236, 3) := by decide +kernel
theorem d_R_comes2_24 : decode b_R_comes2 24 = .ok (.goto 8, 3) := by decide +kernel
theorem d_R_comes2_27 : decode b_R_comes2 27 = .ok (.aload_n 0, 1) := by decide +kernel
theorem d_R_comes2_28 : decode b_R_comes2 28 = .ok (.iconst (-1), 1) := by decide +kernel
theorem d_R_comes2_29 : decode b_R_comes2 29 = .ok (.invokevirtual 87, 3) := by decide +kernel
theorem d_R_comes2_32 : decode b_R_comes2 32 = .ok (.ireturn, 1) := by decide +kernel
abbrev b_R_isStuck : ByteArray := prog_11_method_63_code
def y_R_isStuck : MethodName := ⟨"PassedOnAndBetterModel", "isStuck", "(I)Z"⟩
theorem m_R_isStuck : MV y_R_isStuck b_R_isStuck 3 (some .boolean) 1 := ⟨mG 1329 (by decide +kernel) (by decide +kernel), mG 91 (by decide +kernel) (by decide +kernel), by decide +kernel⟩
theorem mi_R_isStuck : Cond.instanceMethod y_R_isStuck ∈ tbG := mG 1328 (by decide +kernel) (by decide +kernel)
theorem ms_R_isStuck : Cond.selects y_R_isStuck.cls y_R_isStuck y_R_isStuck ∈ tbG := mG 64 (by decide +kernel) (by decide +kernel)
theorem d_R_isStuck_0 : decode b_R_isStuck 0 = .ok (.aload_n 0, 1) := by decide +kernel
theorem d_R_isStuck_1 : decode b_R_isStuck 1 = .ok (.getfield 34, 3) := by decide +kernel
theorem d_R_isStuck_4 : decode b_R_isStuck 4 = .ok (.iload_n 1, 1) := by decide +kernel
theorem d_R_isStuck_5 : decode b_R_isStuck 5 = .ok (.iaload, 1) := by decide +kernel
theorem d_R_isStuck_6 : decode b_R_isStuck 6 = .ok (.iconst 1, 1) := by decide +kernel
theorem d_R_isStuck_7 : decode b_R_isStuck 7 = .ok (.iadd, 1) := by decide +kernel
theorem d_R_isStuck_8 : decode b_R_isStuck 8 = .ok (.aload_n 0, 1) := by decide +kernel
theorem d_R_isStuck_9 : decode b_R_isStuck 9 = .ok (.aload_n 0, 1) := by decide +kernel
theorem d_R_isStuck_10 : decode b_R_isStuck 10 = .ok (.getfield 31, 3) := by decide +kernel
theorem d_R_isStuck_13 : decode b_R_isStuck 13 = .ok (.iload_n 1, 1) := by decide +kernel
theorem d_R_isStuck_14 : decode b_R_isStuck 14 = .ok (.iaload, 1) := by decide +kernel
theorem d_R_isStuck_15 : decode b_R_isStuck 15 = .ok (.invokevirtual 200, 3) := by decide +kernel
theorem d_R_isStuck_18 : decode b_R_isStuck 18 = .ok (.if_icmp .ge 5, 3) := by decide +kernel
theorem d_R_isStuck_21 : decode b_R_isStuck 21 = .ok (.iconst 0, 1) := by decide +kernel
theorem d_R_isStuck_22 : decode b_R_isStuck 22 = .ok (.ireturn, 1) := by decide +kernel
theorem d_R_isStuck_23 : decode b_R_isStuck 23 = .ok (.aload_n 0, 1) := by decide +kernel
theorem d_R_isStuck_24 : decode b_R_isStuck 24 = .ok (.getfield 22, 3) := by decide +kernel
theorem d_R_isStuck_27 : decode b_R_isStuck 27 = .ok (.aload_n 0, 1) := by decide +kernel
theorem d_R_isStuck_28 : decode b_R_isStuck 28 = .ok (.getfield 31, 3) := by decide +kernel
theorem d_R_isStuck_31 : decode b_R_isStuck 31 = .ok (.iload_n 1, 1) := by decide +kernel
theorem d_R_isStuck_32 : decode b_R_isStuck 32 = .ok (.iaload, 1) := by decide +kernel
theorem d_R_isStuck_33 : decode b_R_isStuck 33 = .ok (.iaload, 1) := by decide +kernel
theorem d_R_isStuck_34 : decode b_R_isStuck 34 = .ok (.istore_n 2, 1) := by decide +kernel
theorem d_R_isStuck_35 : decode b_R_isStuck 35 = .ok (.iload_n 2, 1) := by decide +kernel
theorem d_R_isStuck_36 : decode b_R_isStuck 36 = .ok (.ifCond .lt 17, 3) := by decide +kernel
theorem d_R_isStuck_39 : decode b_R_isStuck 39 = .ok (.aload_n 0, 1) := by decide +kernel
theorem d_R_isStuck_40 : decode b_R_isStuck 40 = .ok (.iload_n 1, 1) := by decide +kernel
theorem d_R_isStuck_41 : decode b_R_isStuck 41 = .ok (.invokevirtual 197, 3) := by decide +kernel
theorem d_R_isStuck_44 : decode b_R_isStuck 44 = .ok (.aload_n 0, 1) := by decide +kernel
theorem d_R_isStuck_45 : decode b_R_isStuck 45 = .ok (.getfield 19, 3) := by decide +kernel
theorem d_R_isStuck_48 : decode b_R_isStuck 48 = .ok (.iload_n 2, 1) := by decide +kernel
theorem d_R_isStuck_49 : decode b_R_isStuck 49 = .ok (.iaload, 1) := by decide +kernel
theorem d_R_isStuck_50 : decode b_R_isStuck 50 = .ok (.if_icmp .le 7, 3) := by decide +kernel
theorem d_R_isStuck_53 : decode b_R_isStuck 53 = .ok (.iconst 1, 1) := by decide +kernel
theorem d_R_isStuck_54 : decode b_R_isStuck 54 = .ok (.goto 4, 3) := by decide +kernel
theorem d_R_isStuck_57 : decode b_R_isStuck 57 = .ok (.iconst 0, 1) := by decide +kernel
theorem d_R_isStuck_58 : decode b_R_isStuck 58 = .ok (.ireturn, 1) := by decide +kernel
abbrev b_R_sticks : ByteArray := prog_11_method_64_code
def y_R_sticks : MethodName := ⟨"PassedOnAndBetterModel", "sticks", "()I"⟩
theorem m_R_sticks : MV y_R_sticks b_R_sticks 3 (some .int) 0 := ⟨mG 1325 (by decide +kernel) (by decide +kernel), mG 91 (by decide +kernel) (by decide +kernel), by decide +kernel⟩
theorem mi_R_sticks : Cond.instanceMethod y_R_sticks ∈ tbG := mG 1323 (by decide +kernel) (by decide +kernel)
theorem ms_R_sticks : Cond.selects y_R_sticks.cls y_R_sticks y_R_sticks ∈ tbG := mG 1324 (by decide +kernel) (by decide +kernel)
theorem d_R_sticks_0 : decode b_R_sticks 0 = .ok (.iconst 0, 1) := by decide +kernel
theorem d_R_sticks_1 : decode b_R_sticks 1 = .ok (.istore_n 1, 1) := by decide +kernel
theorem d_R_sticks_2 : decode b_R_sticks 2 = .ok (.iconst 0, 1) := by decide +kernel
theorem d_R_sticks_3 : decode b_R_sticks 3 = .ok (.istore_n 2, 1) := by decide +kernel
theorem d_R_sticks_4 : decode b_R_sticks 4 = .ok (.iload_n 2, 1) := by decide +kernel
theorem d_R_sticks_5 : decode b_R_sticks 5 = .ok (.aload_n 0, 1) := by decide +kernel
theorem d_R_sticks_6 : decode b_R_sticks 6 = .ok (.getfield 67, 3) := by decide +kernel
theorem d_R_sticks_9 : decode b_R_sticks 9 = .ok (.if_icmp .ge 27, 3) := by decide +kernel
theorem d_R_sticks_12 : decode b_R_sticks 12 = .ok (.iload_n 1, 1) := by decide +kernel
theorem d_R_sticks_13 : decode b_R_sticks 13 = .ok (.aload_n 0, 1) := by decide +kernel
theorem d_R_sticks_14 : decode b_R_sticks 14 = .ok (.iload_n 2, 1) := by decide +kernel
theorem d_R_sticks_15 : decode b_R_sticks 15 = .ok (.invokevirtual 239, 3) := by decide +kernel
theorem d_R_sticks_18 : decode b_R_sticks 18 = .ok (.ifCond .eq 9, 3) := by decide +kernel
theorem d_R_sticks_21 : decode b_R_sticks 21 = .ok (.iconst 1, 1) := by decide +kernel
theorem d_R_sticks_22 : decode b_R_sticks 22 = .ok (.iload_n 2, 1) := by decide +kernel
theorem d_R_sticks_23 : decode b_R_sticks 23 = .ok (.ishl, 1) := by decide +kernel
theorem d_R_sticks_24 : decode b_R_sticks 24 = .ok (.goto 4, 3) := by decide +kernel
theorem d_R_sticks_27 : decode b_R_sticks 27 = .ok (.iconst 0, 1) := by decide +kernel
theorem d_R_sticks_28 : decode b_R_sticks 28 = .ok (.ior, 1) := by decide +kernel
theorem d_R_sticks_29 : decode b_R_sticks 29 = .ok (.istore_n 1, 1) := by decide +kernel
theorem d_R_sticks_30 : decode b_R_sticks 30 = .ok (.iinc 2 1, 3) := by decide +kernel
theorem d_R_sticks_33 : decode b_R_sticks 33 = .ok (.goto (-29), 3) := by decide +kernel
theorem d_R_sticks_36 : decode b_R_sticks 36 = .ok (.iload_n 1, 1) := by decide +kernel
theorem d_R_sticks_37 : decode b_R_sticks 37 = .ok (.ireturn, 1) := by decide +kernel
abbrev b_R_changes : ByteArray := prog_11_method_28_code
def y_R_changes : MethodName := ⟨"PassedOnAndBetterModel", "changes", "()V"⟩
theorem m_R_changes : MV y_R_changes b_R_changes 1 none 0 := ⟨mG 1341 (by decide +kernel) (by decide +kernel), mG 91 (by decide +kernel) (by decide +kernel), by decide +kernel⟩
theorem mi_R_changes : Cond.instanceMethod y_R_changes ∈ tbG := mG 1340 (by decide +kernel) (by decide +kernel)
theorem ms_R_changes : Cond.selects y_R_changes.cls y_R_changes y_R_changes ∈ tbG := mG 66 (by decide +kernel) (by decide +kernel)
theorem d_R_changes_0 : decode b_R_changes 0 = .ok (.aload_n 0, 1) := by decide +kernel
theorem d_R_changes_1 : decode b_R_changes 1 = .ok (.iconst 1, 1) := by decide +kernel
theorem d_R_changes_2 : decode b_R_changes 2 = .ok (.iconst 1, 1) := by decide +kernel
theorem d_R_changes_3 : decode b_R_changes 3 = .ok (.invokevirtual 155, 3) := by decide +kernel
theorem d_R_changes_6 : decode b_R_changes 6 = .ok (.return_, 1) := by decide +kernel
abbrev b_R_worthIn : ByteArray := prog_11_method_65_code
def y_R_worthIn : MethodName := ⟨"PassedOnAndBetterModel", "worthIn", "(II)I"⟩
theorem m_R_worthIn : MV y_R_worthIn b_R_worthIn 4 (some .int) 2 := ⟨mG 1345 (by decide +kernel) (by decide +kernel), mG 91 (by decide +kernel) (by decide +kernel), by decide +kernel⟩
theorem mi_R_worthIn : Cond.instanceMethod y_R_worthIn ∈ tbG := mG 1344 (by decide +kernel) (by decide +kernel)
theorem ms_R_worthIn : Cond.selects y_R_worthIn.cls y_R_worthIn y_R_worthIn ∈ tbG := mG 67 (by decide +kernel) (by decide +kernel)
theorem d_R_worthIn_0 : decode b_R_worthIn 0 = .ok (.aload_n 0, 1) := by decide +kernel
theorem d_R_worthIn_1 : decode b_R_worthIn 1 = .ok (.invokevirtual 226, 3) := by decide +kernel
theorem d_R_worthIn_4 : decode b_R_worthIn 4 = .ok (.aload_n 0, 1) := by decide +kernel
theorem d_R_worthIn_5 : decode b_R_worthIn 5 = .ok (.iload_n 2, 1) := by decide +kernel
theorem d_R_worthIn_6 : decode b_R_worthIn 6 = .ok (.invokevirtual 129, 3) := by decide +kernel
theorem d_R_worthIn_9 : decode b_R_worthIn 9 = .ok (.iload_n 1, 1) := by decide +kernel
theorem d_R_worthIn_10 : decode b_R_worthIn 10 = .ok (.ifCond .ge 17, 3) := by decide +kernel
theorem d_R_worthIn_13 : decode b_R_worthIn 13 = .ok (.aload_n 0, 1) := by decide +kernel
theorem d_R_worthIn_14 : decode b_R_worthIn 14 = .ok (.getfield 25, 3) := by decide +kernel
theorem d_R_worthIn_17 : decode b_R_worthIn 17 = .ok (.aload_n 0, 1) := by decide +kernel
theorem d_R_worthIn_18 : decode b_R_worthIn 18 = .ok (.getfield 67, 3) := by decide +kernel
theorem d_R_worthIn_21 : decode b_R_worthIn 21 = .ok (.invokestatic 219, 3) := by decide +kernel
theorem d_R_worthIn_24 : decode b_R_worthIn 24 = .ok (.goto 9, 3) := by decide +kernel
theorem d_R_worthIn_27 : decode b_R_worthIn 27 = .ok (.aload_n 0, 1) := by decide +kernel
theorem d_R_worthIn_28 : decode b_R_worthIn 28 = .ok (.getfield 25, 3) := by decide +kernel
theorem d_R_worthIn_31 : decode b_R_worthIn 31 = .ok (.iload_n 1, 1) := by decide +kernel
theorem d_R_worthIn_32 : decode b_R_worthIn 32 = .ok (.iaload, 1) := by decide +kernel
theorem d_R_worthIn_33 : decode b_R_worthIn 33 = .ok (.istore_n 3, 1) := by decide +kernel
theorem d_R_worthIn_34 : decode b_R_worthIn 34 = .ok (.aload_n 0, 1) := by decide +kernel
theorem d_R_worthIn_35 : decode b_R_worthIn 35 = .ok (.invokevirtual 229, 3) := by decide +kernel
theorem d_R_worthIn_38 : decode b_R_worthIn 38 = .ok (.iload_n 3, 1) := by decide +kernel
theorem d_R_worthIn_39 : decode b_R_worthIn 39 = .ok (.ireturn, 1) := by decide +kernel
abbrev b_R_changesBack : ByteArray := prog_11_method_29_code
def y_R_changesBack : MethodName := ⟨"PassedOnAndBetterModel", "changesBack", "()V"⟩
theorem m_R_changesBack : MV y_R_changesBack b_R_changesBack 1 none 0 := ⟨mG 1349 (by decide +kernel) (by decide +kernel), mG 91 (by decide +kernel) (by decide +kernel), by decide +kernel⟩
theorem mi_R_changesBack : Cond.instanceMethod y_R_changesBack ∈ tbG := mG 1348 (by decide +kernel) (by decide +kernel)
theorem ms_R_changesBack : Cond.selects y_R_changesBack.cls y_R_changesBack y_R_changesBack ∈ tbG := mG 68 (by decide +kernel) (by decide +kernel)
theorem d_R_changesBack_0 : decode b_R_changesBack 0 = .ok (.aload_n 0, 1) := by decide +kernel
theorem d_R_changesBack_1 : decode b_R_changesBack 1 = .ok (.iconst 1, 1) := by decide +kernel
theorem d_R_changesBack_2 : decode b_R_changesBack 2 = .ok (.iconst 0, 1) := by decide +kernel
theorem d_R_changesBack_3 : decode b_R_changesBack 3 = .ok (.invokevirtual 155, 3) := by decide +kernel
theorem d_R_changesBack_6 : decode b_R_changesBack 6 = .ok (.return_, 1) := by decide +kernel
abbrev b_R_worthFrom : ByteArray := prog_11_method_66_code
def y_R_worthFrom : MethodName := ⟨"PassedOnAndBetterModel", "worthFrom", "(III)I"⟩
theorem m_R_worthFrom : MV y_R_worthFrom b_R_worthFrom 5 (some .int) 3 := ⟨mG 1337 (by decide +kernel) (by decide +kernel), mG 91 (by decide +kernel) (by decide +kernel), by decide +kernel⟩
theorem mi_R_worthFrom : Cond.instanceMethod y_R_worthFrom ∈ tbG := mG 1336 (by decide +kernel) (by decide +kernel)
theorem ms_R_worthFrom : Cond.selects y_R_worthFrom.cls y_R_worthFrom y_R_worthFrom ∈ tbG := mG 65 (by decide +kernel) (by decide +kernel)
theorem d_R_worthFrom_0 : decode b_R_worthFrom 0 = .ok (.aload_n 0, 1) := by decide +kernel
theorem d_R_worthFrom_1 : decode b_R_worthFrom 1 = .ok (.invokevirtual 242, 3) := by decide +kernel
theorem d_R_worthFrom_4 : decode b_R_worthFrom 4 = .ok (.aload_n 0, 1) := by decide +kernel
theorem d_R_worthFrom_5 : decode b_R_worthFrom 5 = .ok (.iload_n 1, 1) := by decide +kernel
theorem d_R_worthFrom_6 : decode b_R_worthFrom 6 = .ok (.iload_n 2, 1) := by decide +kernel
theorem d_R_worthFrom_7 : decode b_R_worthFrom 7 = .ok (.invokevirtual 145, 3) := by decide +kernel
theorem d_R_worthFrom_10 : decode b_R_worthFrom 10 = .ok (.aload_n 0, 1) := by decide +kernel
theorem d_R_worthFrom_11 : decode b_R_worthFrom 11 = .ok (.iload_n 1, 1) := by decide +kernel
theorem d_R_worthFrom_12 : decode b_R_worthFrom 12 = .ok (.iload_n 3, 1) := by decide +kernel
theorem d_R_worthFrom_13 : decode b_R_worthFrom 13 = .ok (.invokevirtual 245, 3) := by decide +kernel
theorem d_R_worthFrom_16 : decode b_R_worthFrom 16 = .ok (.istore 4, 2) := by decide +kernel
theorem d_R_worthFrom_18 : decode b_R_worthFrom 18 = .ok (.aload_n 0, 1) := by decide +kernel
theorem d_R_worthFrom_19 : decode b_R_worthFrom 19 = .ok (.invokevirtual 249, 3) := by decide +kernel
theorem d_R_worthFrom_22 : decode b_R_worthFrom 22 = .ok (.iload 4, 2) := by decide +kernel
theorem d_R_worthFrom_24 : decode b_R_worthFrom 24 = .ok (.ireturn, 1) := by decide +kernel
abbrev b_R_bestStart : ByteArray := prog_11_method_67_code
def y_R_bestStart : MethodName := ⟨"PassedOnAndBetterModel", "bestStart", "(III)I"⟩
theorem m_R_bestStart : MV y_R_bestStart b_R_bestStart 9 (some .int) 3 := ⟨mG 1333 (by decide +kernel) (by decide +kernel), mG 91 (by decide +kernel) (by decide +kernel), by decide +kernel⟩
theorem mi_R_bestStart : Cond.instanceMethod y_R_bestStart ∈ tbG := mG 1331 (by decide +kernel) (by decide +kernel)
theorem ms_R_bestStart : Cond.selects y_R_bestStart.cls y_R_bestStart y_R_bestStart ∈ tbG := mG 1332 (by decide +kernel) (by decide +kernel)
theorem d_R_bestStart_0 : decode b_R_bestStart 0 = .ok (.aload_n 0, 1) := by decide +kernel
theorem d_R_bestStart_1 : decode b_R_bestStart 1 = .ok (.iload_n 1, 1) := by decide +kernel
theorem d_R_bestStart_2 : decode b_R_bestStart 2 = .ok (.invokevirtual 142, 3) := by decide +kernel
theorem d_R_bestStart_5 : decode b_R_bestStart 5 = .ok (.ifCond .ne 7, 3) := by decide +kernel
theorem d_R_bestStart_8 : decode b_R_bestStart 8 = .ok (.iconst (-1), 1) := by decide +kernel
theorem d_R_bestStart_9 : decode b_R_bestStart 9 = .ok (.goto 7, 3) := by decide +kernel
theorem d_R_bestStart_12 : decode b_R_bestStart 12 = .ok (.iload_n 2, 1) := by decide +kernel
theorem d_R_bestStart_13 : decode b_R_bestStart 13 = .ok (.invokestatic 223, 3) := by decide +kernel
theorem d_R_bestStart_16 : decode b_R_bestStart 16 = .ok (.istore 4, 2) := by decide +kernel
theorem d_R_bestStart_18 : decode b_R_bestStart 18 = .ok (.iload 4, 2) := by decide +kernel
theorem d_R_bestStart_20 : decode b_R_bestStart 20 = .ok (.ifCond .ne 16, 3) := by decide +kernel
theorem d_R_bestStart_23 : decode b_R_bestStart 23 = .ok (.iload_n 3, 1) := by decide +kernel
theorem d_R_bestStart_24 : decode b_R_bestStart 24 = .ok (.iconst 0, 1) := by decide +kernel
theorem d_R_bestStart_25 : decode b_R_bestStart 25 = .ok (.iconst 1, 1) := by decide +kernel
theorem d_R_bestStart_26 : decode b_R_bestStart 26 = .ok (.invokestatic 98, 3) := by decide +kernel
theorem d_R_bestStart_29 : decode b_R_bestStart 29 = .ok (.ifCond .ne 7, 3) := by decide +kernel
theorem d_R_bestStart_32 : decode b_R_bestStart 32 = .ok (.bipush (-2), 2) := by decide +kernel
theorem d_R_bestStart_34 : decode b_R_bestStart 34 = .ok (.istore 4, 2) := by decide +kernel
theorem d_R_bestStart_36 : decode b_R_bestStart 36 = .ok (.iload 4, 2) := by decide +kernel
theorem d_R_bestStart_38 : decode b_R_bestStart 38 = .ok (.ifCond .eq 10, 3) := by decide +kernel
theorem d_R_bestStart_41 : decode b_R_bestStart 41 = .ok (.aload_n 0, 1) := by decide +kernel
theorem d_R_bestStart_42 : decode b_R_bestStart 42 = .ok (.iload 4, 2) := by decide +kernel
theorem d_R_bestStart_44 : decode b_R_bestStart 44 = .ok (.invokevirtual 87, 3) := by decide +kernel
theorem d_R_bestStart_47 : decode b_R_bestStart 47 = .ok (.ireturn, 1) := by decide +kernel
theorem d_R_bestStart_48 : decode b_R_bestStart 48 = .ok (.bipush (-9), 2) := by decide +kernel
theorem d_R_bestStart_50 : decode b_R_bestStart 50 = .ok (.istore 5, 2) := by decide +kernel
theorem d_R_bestStart_52 : decode b_R_bestStart 52 = .ok (.bipush (-9), 2) := by decide +kernel
theorem d_R_bestStart_54 : decode b_R_bestStart 54 = .ok (.istore 6, 2) := by decide +kernel
theorem d_R_bestStart_56 : decode b_R_bestStart 56 = .ok (.iconst 0, 1) := by decide +kernel
theorem d_R_bestStart_57 : decode b_R_bestStart 57 = .ok (.istore 7, 2) := by decide +kernel
theorem d_R_bestStart_59 : decode b_R_bestStart 59 = .ok (.iload 7, 2) := by decide +kernel
theorem d_R_bestStart_61 : decode b_R_bestStart 61 = .ok (.aload_n 0, 1) := by decide +kernel
theorem d_R_bestStart_62 : decode b_R_bestStart 62 = .ok (.getfield 73, 3) := by decide +kernel
theorem d_R_bestStart_65 : decode b_R_bestStart 65 = .ok (.if_icmp .ge 37, 3) := by decide +kernel
theorem d_R_bestStart_68 : decode b_R_bestStart 68 = .ok (.aload_n 0, 1) := by decide +kernel
theorem d_R_bestStart_69 : decode b_R_bestStart 69 = .ok (.iload_n 1, 1) := by decide +kernel
theorem d_R_bestStart_70 : decode b_R_bestStart 70 = .ok (.iload 7, 2) := by decide +kernel
theorem d_R_bestStart_72 : decode b_R_bestStart 72 = .ok (.iload_n 2, 1) := by decide +kernel
theorem d_R_bestStart_73 : decode b_R_bestStart 73 = .ok (.invokevirtual 252, 3) := by decide +kernel
theorem d_R_bestStart_76 : decode b_R_bestStart 76 = .ok (.istore 8, 2) := by decide +kernel
theorem d_R_bestStart_78 : decode b_R_bestStart 78 = .ok (.iload 8, 2) := by decide +kernel
theorem d_R_bestStart_80 : decode b_R_bestStart 80 = .ok (.iload 6, 2) := by decide +kernel
theorem d_R_bestStart_82 : decode b_R_bestStart 82 = .ok (.if_icmp .gt 6, 3) := by decide +kernel
theorem d_R_bestStart_85 : decode b_R_bestStart 85 = .ok (.goto 11, 3) := by decide +kernel
theorem d_R_bestStart_88 : decode b_R_bestStart 88 = .ok (.iload 7, 2) := by decide +kernel
theorem d_R_bestStart_90 : decode b_R_bestStart 90 = .ok (.istore 5, 2) := by decide +kernel
theorem d_R_bestStart_92 : decode b_R_bestStart 92 = .ok (.iload 8, 2) := by decide +kernel
theorem d_R_bestStart_94 : decode b_R_bestStart 94 = .ok (.istore 6, 2) := by decide +kernel
theorem d_R_bestStart_96 : decode b_R_bestStart 96 = .ok (.iinc 7 1, 3) := by decide +kernel
theorem d_R_bestStart_99 : decode b_R_bestStart 99 = .ok (.goto (-40), 3) := by decide +kernel
theorem d_R_bestStart_102 : decode b_R_bestStart 102 = .ok (.iload_n 3, 1) := by decide +kernel
theorem d_R_bestStart_103 : decode b_R_bestStart 103 = .ok (.ifCond .ne 8, 3) := by decide +kernel
theorem d_R_bestStart_106 : decode b_R_bestStart 106 = .ok (.iload 5, 2) := by decide +kernel
theorem d_R_bestStart_108 : decode b_R_bestStart 108 = .ok (.goto 5, 3) := by decide +kernel
theorem d_R_bestStart_111 : decode b_R_bestStart 111 = .ok (.iload 6, 2) := by decide +kernel
theorem d_R_bestStart_113 : decode b_R_bestStart 113 = .ok (.ireturn, 1) := by decide +kernel
abbrev b_R_worthNext : ByteArray := prog_11_method_68_code
def y_R_worthNext : MethodName := ⟨"PassedOnAndBetterModel", "worthNext", "(III)I"⟩
theorem m_R_worthNext : MV y_R_worthNext b_R_worthNext 6 (some .int) 3 := ⟨mG 1357 (by decide +kernel) (by decide +kernel), mG 91 (by decide +kernel) (by decide +kernel), by decide +kernel⟩
theorem mi_R_worthNext : Cond.instanceMethod y_R_worthNext ∈ tbG := mG 1356 (by decide +kernel) (by decide +kernel)
theorem ms_R_worthNext : Cond.selects y_R_worthNext.cls y_R_worthNext y_R_worthNext ∈ tbG := mG 69 (by decide +kernel) (by decide +kernel)
theorem d_R_worthNext_0 : decode b_R_worthNext 0 = .ok (.aload_n 0, 1) := by decide +kernel
theorem d_R_worthNext_1 : decode b_R_worthNext 1 = .ok (.getfield 22, 3) := by decide +kernel
theorem d_R_worthNext_4 : decode b_R_worthNext 4 = .ok (.iload_n 1, 1) := by decide +kernel
theorem d_R_worthNext_5 : decode b_R_worthNext 5 = .ok (.iaload, 1) := by decide +kernel
theorem d_R_worthNext_6 : decode b_R_worthNext 6 = .ok (.istore 4, 2) := by decide +kernel
theorem d_R_worthNext_8 : decode b_R_worthNext 8 = .ok (.aload_n 0, 1) := by decide +kernel
theorem d_R_worthNext_9 : decode b_R_worthNext 9 = .ok (.getfield 22, 3) := by decide +kernel
theorem d_R_worthNext_12 : decode b_R_worthNext 12 = .ok (.iload_n 1, 1) := by decide +kernel
theorem d_R_worthNext_13 : decode b_R_worthNext 13 = .ok (.iload_n 2, 1) := by decide +kernel
theorem d_R_worthNext_14 : decode b_R_worthNext 14 = .ok (.iastore, 1) := by decide +kernel
theorem d_R_worthNext_15 : decode b_R_worthNext 15 = .ok (.aload_n 0, 1) := by decide +kernel
theorem d_R_worthNext_16 : decode b_R_worthNext 16 = .ok (.bipush (-9), 2) := by decide +kernel
theorem d_R_worthNext_18 : decode b_R_worthNext 18 = .ok (.iload_n 3, 1) := by decide +kernel
theorem d_R_worthNext_19 : decode b_R_worthNext 19 = .ok (.invokevirtual 245, 3) := by decide +kernel
theorem d_R_worthNext_22 : decode b_R_worthNext 22 = .ok (.istore 5, 2) := by decide +kernel
theorem d_R_worthNext_24 : decode b_R_worthNext 24 = .ok (.aload_n 0, 1) := by decide +kernel
theorem d_R_worthNext_25 : decode b_R_worthNext 25 = .ok (.getfield 22, 3) := by decide +kernel
theorem d_R_worthNext_28 : decode b_R_worthNext 28 = .ok (.iload_n 1, 1) := by decide +kernel
theorem d_R_worthNext_29 : decode b_R_worthNext 29 = .ok (.iload 4, 2) := by decide +kernel
theorem d_R_worthNext_31 : decode b_R_worthNext 31 = .ok (.iastore, 1) := by decide +kernel
theorem d_R_worthNext_32 : decode b_R_worthNext 32 = .ok (.iload 5, 2) := by decide +kernel
theorem d_R_worthNext_34 : decode b_R_worthNext 34 = .ok (.ireturn, 1) := by decide +kernel
abbrev b_R_bestNext : ByteArray := prog_11_method_69_code
def y_R_bestNext : MethodName := ⟨"PassedOnAndBetterModel", "bestNext", "(III)I"⟩
theorem m_R_bestNext : MV y_R_bestNext b_R_bestNext 9 (some .int) 3 := ⟨mG 1353 (by decide +kernel) (by decide +kernel), mG 91 (by decide +kernel) (by decide +kernel), by decide +kernel⟩
theorem mi_R_bestNext : Cond.instanceMethod y_R_bestNext ∈ tbG := mG 1351 (by decide +kernel) (by decide +kernel)
theorem ms_R_bestNext : Cond.selects y_R_bestNext.cls y_R_bestNext y_R_bestNext ∈ tbG := mG 1352 (by decide +kernel) (by decide +kernel)
theorem d_R_bestNext_0 : decode b_R_bestNext 0 = .ok (.aload_n 0, 1) := by decide +kernel
theorem d_R_bestNext_1 : decode b_R_bestNext 1 = .ok (.iload_n 1, 1) := by decide +kernel
theorem d_R_bestNext_2 : decode b_R_bestNext 2 = .ok (.invokevirtual 76, 3) := by decide +kernel
theorem d_R_bestNext_5 : decode b_R_bestNext 5 = .ok (.ifCond .ne 7, 3) := by decide +kernel
theorem d_R_bestNext_8 : decode b_R_bestNext 8 = .ok (.iconst (-1), 1) := by decide +kernel
theorem d_R_bestNext_9 : decode b_R_bestNext 9 = .ok (.goto 7, 3) := by decide +kernel
theorem d_R_bestNext_12 : decode b_R_bestNext 12 = .ok (.iload_n 2, 1) := by decide +kernel
theorem d_R_bestNext_13 : decode b_R_bestNext 13 = .ok (.invokestatic 223, 3) := by decide +kernel
theorem d_R_bestNext_16 : decode b_R_bestNext 16 = .ok (.istore 4, 2) := by decide +kernel
theorem d_R_bestNext_18 : decode b_R_bestNext 18 = .ok (.iload 4, 2) := by decide +kernel
theorem d_R_bestNext_20 : decode b_R_bestNext 20 = .ok (.ifCond .ne 16, 3) := by decide +kernel
theorem d_R_bestNext_23 : decode b_R_bestNext 23 = .ok (.iload_n 3, 1) := by decide +kernel
theorem d_R_bestNext_24 : decode b_R_bestNext 24 = .ok (.iconst 0, 1) := by decide +kernel
theorem d_R_bestNext_25 : decode b_R_bestNext 25 = .ok (.iconst 1, 1) := by decide +kernel
theorem d_R_bestNext_26 : decode b_R_bestNext 26 = .ok (.invokestatic 98, 3) := by decide +kernel
theorem d_R_bestNext_29 : decode b_R_bestNext 29 = .ok (.ifCond .ne 7, 3) := by decide +kernel
theorem d_R_bestNext_32 : decode b_R_bestNext 32 = .ok (.bipush (-2), 2) := by decide +kernel
theorem d_R_bestNext_34 : decode b_R_bestNext 34 = .ok (.istore 4, 2) := by decide +kernel
theorem d_R_bestNext_36 : decode b_R_bestNext 36 = .ok (.iload 4, 2) := by decide +kernel
theorem d_R_bestNext_38 : decode b_R_bestNext 38 = .ok (.ifCond .eq 10, 3) := by decide +kernel
theorem d_R_bestNext_41 : decode b_R_bestNext 41 = .ok (.aload_n 0, 1) := by decide +kernel
theorem d_R_bestNext_42 : decode b_R_bestNext 42 = .ok (.iload 4, 2) := by decide +kernel
theorem d_R_bestNext_44 : decode b_R_bestNext 44 = .ok (.invokevirtual 87, 3) := by decide +kernel
theorem d_R_bestNext_47 : decode b_R_bestNext 47 = .ok (.ireturn, 1) := by decide +kernel
theorem d_R_bestNext_48 : decode b_R_bestNext 48 = .ok (.bipush (-9), 2) := by decide +kernel
theorem d_R_bestNext_50 : decode b_R_bestNext 50 = .ok (.istore 5, 2) := by decide +kernel
theorem d_R_bestNext_52 : decode b_R_bestNext 52 = .ok (.bipush (-9), 2) := by decide +kernel
theorem d_R_bestNext_54 : decode b_R_bestNext 54 = .ok (.istore 6, 2) := by decide +kernel
theorem d_R_bestNext_56 : decode b_R_bestNext 56 = .ok (.iconst 0, 1) := by decide +kernel
theorem d_R_bestNext_57 : decode b_R_bestNext 57 = .ok (.istore 7, 2) := by decide +kernel
theorem d_R_bestNext_59 : decode b_R_bestNext 59 = .ok (.iload 7, 2) := by decide +kernel
theorem d_R_bestNext_61 : decode b_R_bestNext 61 = .ok (.aload_n 0, 1) := by decide +kernel
theorem d_R_bestNext_62 : decode b_R_bestNext 62 = .ok (.getfield 73, 3) := by decide +kernel
theorem d_R_bestNext_65 : decode b_R_bestNext 65 = .ok (.if_icmp .ge 48, 3) := by decide +kernel
theorem d_R_bestNext_68 : decode b_R_bestNext 68 = .ok (.iload 7, 2) := by decide +kernel
theorem d_R_bestNext_70 : decode b_R_bestNext 70 = .ok (.iload_n 1, 1) := by decide +kernel
theorem d_R_bestNext_71 : decode b_R_bestNext 71 = .ok (.if_icmp .ne 8, 3) := by decide +kernel
theorem d_R_bestNext_74 : decode b_R_bestNext 74 = .ok (.bipush (-9), 2) := by decide +kernel
theorem d_R_bestNext_76 : decode b_R_bestNext 76 = .ok (.goto 11, 3) := by decide +kernel
theorem d_R_bestNext_79 : decode b_R_bestNext 79 = .ok (.aload_n 0, 1) := by decide +kernel
theorem d_R_bestNext_80 : decode b_R_bestNext 80 = .ok (.iload_n 1, 1) := by decide +kernel
theorem d_R_bestNext_81 : decode b_R_bestNext 81 = .ok (.iload 7, 2) := by decide +kernel
theorem d_R_bestNext_83 : decode b_R_bestNext 83 = .ok (.iload_n 2, 1) := by decide +kernel
theorem d_R_bestNext_84 : decode b_R_bestNext 84 = .ok (.invokevirtual 255, 3) := by decide +kernel
theorem d_R_bestNext_87 : decode b_R_bestNext 87 = .ok (.istore 8, 2) := by decide +kernel
theorem d_R_bestNext_89 : decode b_R_bestNext 89 = .ok (.iload 8, 2) := by decide +kernel
theorem d_R_bestNext_91 : decode b_R_bestNext 91 = .ok (.iload 6, 2) := by decide +kernel
theorem d_R_bestNext_93 : decode b_R_bestNext 93 = .ok (.if_icmp .gt 6, 3) := by decide +kernel
theorem d_R_bestNext_96 : decode b_R_bestNext 96 = .ok (.goto 11, 3) := by decide +kernel
theorem d_R_bestNext_99 : decode b_R_bestNext 99 = .ok (.iload 7, 2) := by decide +kernel
theorem d_R_bestNext_101 : decode b_R_bestNext 101 = .ok (.istore 5, 2) := by decide +kernel
theorem d_R_bestNext_103 : decode b_R_bestNext 103 = .ok (.iload 8, 2) := by decide +kernel
theorem d_R_bestNext_105 : decode b_R_bestNext 105 = .ok (.istore 6, 2) := by decide +kernel
theorem d_R_bestNext_107 : decode b_R_bestNext 107 = .ok (.iinc 7 1, 3) := by decide +kernel
theorem d_R_bestNext_110 : decode b_R_bestNext 110 = .ok (.goto (-51), 3) := by decide +kernel
theorem d_R_bestNext_113 : decode b_R_bestNext 113 = .ok (.aload_n 0, 1) := by decide +kernel
theorem d_R_bestNext_114 : decode b_R_bestNext 114 = .ok (.iload_n 1, 1) := by decide +kernel
theorem d_R_bestNext_115 : decode b_R_bestNext 115 = .ok (.bipush (-9), 2) := by decide +kernel
theorem d_R_bestNext_117 : decode b_R_bestNext 117 = .ok (.iload_n 2, 1) := by decide +kernel
theorem d_R_bestNext_118 : decode b_R_bestNext 118 = .ok (.invokevirtual 255, 3) := by decide +kernel
theorem d_R_bestNext_121 : decode b_R_bestNext 121 = .ok (.istore 7, 2) := by decide +kernel
theorem d_R_bestNext_123 : decode b_R_bestNext 123 = .ok (.iload 7, 2) := by decide +kernel
theorem d_R_bestNext_125 : decode b_R_bestNext 125 = .ok (.iload 6, 2) := by decide +kernel
theorem d_R_bestNext_127 : decode b_R_bestNext 127 = .ok (.if_icmp .le 11, 3) := by decide +kernel
theorem d_R_bestNext_130 : decode b_R_bestNext 130 = .ok (.bipush 9, 2) := by decide +kernel
theorem d_R_bestNext_132 : decode b_R_bestNext 132 = .ok (.istore 5, 2) := by decide +kernel
theorem d_R_bestNext_134 : decode b_R_bestNext 134 = .ok (.iload 7, 2) := by decide +kernel
theorem d_R_bestNext_136 : decode b_R_bestNext 136 = .ok (.istore 6, 2) := by decide +kernel
theorem d_R_bestNext_138 : decode b_R_bestNext 138 = .ok (.iload_n 3, 1) := by decide +kernel
theorem d_R_bestNext_139 : decode b_R_bestNext 139 = .ok (.ifCond .ne 8, 3) := by decide +kernel
theorem d_R_bestNext_142 : decode b_R_bestNext 142 = .ok (.iload 5, 2) := by decide +kernel
theorem d_R_bestNext_144 : decode b_R_bestNext 144 = .ok (.goto 5, 3) := by decide +kernel
theorem d_R_bestNext_147 : decode b_R_bestNext 147 = .ok (.iload 6, 2) := by decide +kernel
theorem d_R_bestNext_149 : decode b_R_bestNext 149 = .ok (.ireturn, 1) := by decide +kernel
abbrev b_R_bits : ByteArray := prog_11_method_8_code
def y_R_bits : MethodName := ⟨"PassedOnAndBetterModel", "bits", "(I)I"⟩
theorem m_R_bits : MV y_R_bits b_R_bits 3 (some .int) 1 := ⟨mG 1364 (by decide +kernel) (by decide +kernel), mG 91 (by decide +kernel) (by decide +kernel), by decide +kernel⟩
theorem mi_R_bits : Cond.static y_R_bits ∈ tbG := mG 1363 (by decide +kernel) (by decide +kernel)
theorem d_R_bits_0 : decode b_R_bits 0 = .ok (.iconst 0, 1) := by decide +kernel
theorem d_R_bits_1 : decode b_R_bits 1 = .ok (.istore_n 1, 1) := by decide +kernel
theorem d_R_bits_2 : decode b_R_bits 2 = .ok (.iconst 0, 1) := by decide +kernel
theorem d_R_bits_3 : decode b_R_bits 3 = .ok (.istore_n 2, 1) := by decide +kernel
theorem d_R_bits_4 : decode b_R_bits 4 = .ok (.iload_n 2, 1) := by decide +kernel
theorem d_R_bits_5 : decode b_R_bits 5 = .ok (.bipush 31, 2) := by decide +kernel
theorem d_R_bits_7 : decode b_R_bits 7 = .ok (.if_icmp .ge 17, 3) := by decide +kernel
theorem d_R_bits_10 : decode b_R_bits 10 = .ok (.iload_n 1, 1) := by decide +kernel
theorem d_R_bits_11 : decode b_R_bits 11 = .ok (.iload_n 0, 1) := by decide +kernel
theorem d_R_bits_12 : decode b_R_bits 12 = .ok (.iload_n 2, 1) := by decide +kernel
theorem d_R_bits_13 : decode b_R_bits 13 = .ok (.ishr, 1) := by decide +kernel
theorem d_R_bits_14 : decode b_R_bits 14 = .ok (.iconst 1, 1) := by decide +kernel
theorem d_R_bits_15 : decode b_R_bits 15 = .ok (.iand, 1) := by decide +kernel
theorem d_R_bits_16 : decode b_R_bits 16 = .ok (.iadd, 1) := by decide +kernel
theorem d_R_bits_17 : decode b_R_bits 17 = .ok (.istore_n 1, 1) := by decide +kernel
theorem d_R_bits_18 : decode b_R_bits 18 = .ok (.iinc 2 1, 3) := by decide +kernel
theorem d_R_bits_21 : decode b_R_bits 21 = .ok (.goto (-17), 3) := by decide +kernel
theorem d_R_bits_24 : decode b_R_bits 24 = .ok (.iload_n 1, 1) := by decide +kernel
theorem d_R_bits_25 : decode b_R_bits 25 = .ok (.ireturn, 1) := by decide +kernel
abbrev b_R_comesWide : ByteArray := prog_11_method_70_code
def y_R_comesWide : MethodName := ⟨"PassedOnAndBetterModel", "comesWide", "(IIII)Z"⟩
theorem m_R_comesWide : MV y_R_comesWide b_R_comesWide 6 (some .boolean) 4 := ⟨mG 1368 (by decide +kernel) (by decide +kernel), mG 91 (by decide +kernel) (by decide +kernel), by decide +kernel⟩
theorem mi_R_comesWide : Cond.instanceMethod y_R_comesWide ∈ tbG := mG 1367 (by decide +kernel) (by decide +kernel)
theorem ms_R_comesWide : Cond.selects y_R_comesWide.cls y_R_comesWide y_R_comesWide ∈ tbG := mG 70 (by decide +kernel) (by decide +kernel)
theorem d_R_comesWide_0 : decode b_R_comesWide 0 = .ok (.aload_n 0, 1) := by decide +kernel
theorem d_R_comesWide_1 : decode b_R_comesWide 1 = .ok (.invokevirtual 242, 3) := by decide +kernel
theorem d_R_comesWide_4 : decode b_R_comesWide 4 = .ok (.iconst 0, 1) := by decide +kernel
theorem d_R_comesWide_5 : decode b_R_comesWide 5 = .ok (.istore 5, 2) := by decide +kernel
theorem d_R_comesWide_7 : decode b_R_comesWide 7 = .ok (.iload 5, 2) := by decide +kernel
theorem d_R_comesWide_9 : decode b_R_comesWide 9 = .ok (.aload_n 0, 1) := by decide +kernel
theorem d_R_comesWide_10 : decode b_R_comesWide 10 = .ok (.getfield 73, 3) := by decide +kernel
theorem d_R_comesWide_13 : decode b_R_comesWide 13 = .ok (.if_icmp .ge 38, 3) := by decide +kernel
theorem d_R_comesWide_16 : decode b_R_comesWide 16 = .ok (.aload_n 0, 1) := by decide +kernel
theorem d_R_comesWide_17 : decode b_R_comesWide 17 = .ok (.getfield 19, 3) := by decide +kernel
theorem d_R_comesWide_20 : decode b_R_comesWide 20 = .ok (.iload 5, 2) := by decide +kernel
theorem d_R_comesWide_22 : decode b_R_comesWide 22 = .ok (.iload 4, 2) := by decide +kernel
theorem d_R_comesWide_24 : decode b_R_comesWide 24 = .ok (.iload 5, 2) := by decide +kernel
theorem d_R_comesWide_26 : decode b_R_comesWide 26 = .ok (.invokestatic 194, 3) := by decide +kernel
theorem d_R_comesWide_29 : decode b_R_comesWide 29 = .ok (.ifCond .eq 8, 3) := by decide +kernel
theorem d_R_comesWide_32 : decode b_R_comesWide 32 = .ok (.bipush 99, 2) := by decide +kernel
theorem d_R_comesWide_34 : decode b_R_comesWide 34 = .ok (.goto 10, 3) := by decide +kernel
theorem d_R_comesWide_37 : decode b_R_comesWide 37 = .ok (.aload_n 0, 1) := by decide +kernel
theorem d_R_comesWide_38 : decode b_R_comesWide 38 = .ok (.getfield 19, 3) := by decide +kernel
theorem d_R_comesWide_41 : decode b_R_comesWide 41 = .ok (.iload 5, 2) := by decide +kernel
theorem d_R_comesWide_43 : decode b_R_comesWide 43 = .ok (.iaload, 1) := by decide +kernel
theorem d_R_comesWide_44 : decode b_R_comesWide 44 = .ok (.iastore, 1) := by decide +kernel
theorem d_R_comesWide_45 : decode b_R_comesWide 45 = .ok (.iinc 5 1, 3) := by decide +kernel
theorem d_R_comesWide_48 : decode b_R_comesWide 48 = .ok (.goto (-41), 3) := by decide +kernel
theorem d_R_comesWide_51 : decode b_R_comesWide 51 = .ok (.aload_n 0, 1) := by decide +kernel
theorem d_R_comesWide_52 : decode b_R_comesWide 52 = .ok (.iload_n 1, 1) := by decide +kernel
theorem d_R_comesWide_53 : decode b_R_comesWide 53 = .ok (.iload_n 2, 1) := by decide +kernel
theorem d_R_comesWide_54 : decode b_R_comesWide 54 = .ok (.iload_n 3, 1) := by decide +kernel
theorem d_R_comesWide_55 : decode b_R_comesWide 55 = .ok (.invokevirtual 236, 3) := by decide +kernel
theorem d_R_comesWide_58 : decode b_R_comesWide 58 = .ok (.ifCond .lt 7, 3) := by decide +kernel
theorem d_R_comesWide_61 : decode b_R_comesWide 61 = .ok (.iconst 1, 1) := by decide +kernel
theorem d_R_comesWide_62 : decode b_R_comesWide 62 = .ok (.goto 4, 3) := by decide +kernel
theorem d_R_comesWide_65 : decode b_R_comesWide 65 = .ok (.iconst 0, 1) := by decide +kernel
theorem d_R_comesWide_66 : decode b_R_comesWide 66 = .ok (.istore 5, 2) := by decide +kernel
theorem d_R_comesWide_68 : decode b_R_comesWide 68 = .ok (.aload_n 0, 1) := by decide +kernel
theorem d_R_comesWide_69 : decode b_R_comesWide 69 = .ok (.invokevirtual 249, 3) := by decide +kernel
theorem d_R_comesWide_72 : decode b_R_comesWide 72 = .ok (.iload 5, 2) := by decide +kernel
theorem d_R_comesWide_74 : decode b_R_comesWide 74 = .ok (.ireturn, 1) := by decide +kernel
abbrev b_R_doorsFor : ByteArray := prog_11_method_71_code
def y_R_doorsFor : MethodName := ⟨"PassedOnAndBetterModel", "doorsFor", "(III)I"⟩
theorem m_R_doorsFor : MV y_R_doorsFor b_R_doorsFor 7 (some .int) 3 := ⟨mG 1361 (by decide +kernel) (by decide +kernel), mG 91 (by decide +kernel) (by decide +kernel), by decide +kernel⟩
theorem mi_R_doorsFor : Cond.instanceMethod y_R_doorsFor ∈ tbG := mG 1359 (by decide +kernel) (by decide +kernel)
theorem ms_R_doorsFor : Cond.selects y_R_doorsFor.cls y_R_doorsFor y_R_doorsFor ∈ tbG := mG 1360 (by decide +kernel) (by decide +kernel)
theorem d_R_doorsFor_0 : decode b_R_doorsFor 0 = .ok (.aload_n 0, 1) := by decide +kernel
theorem d_R_doorsFor_1 : decode b_R_doorsFor 1 = .ok (.iload_n 1, 1) := by decide +kernel
theorem d_R_doorsFor_2 : decode b_R_doorsFor 2 = .ok (.invokevirtual 142, 3) := by decide +kernel
theorem d_R_doorsFor_5 : decode b_R_doorsFor 5 = .ok (.ifCond .eq 11, 3) := by decide +kernel
theorem d_R_doorsFor_8 : decode b_R_doorsFor 8 = .ok (.aload_n 0, 1) := by decide +kernel
theorem d_R_doorsFor_9 : decode b_R_doorsFor 9 = .ok (.iload_n 2, 1) := by decide +kernel
theorem d_R_doorsFor_10 : decode b_R_doorsFor 10 = .ok (.invokevirtual 76, 3) := by decide +kernel
theorem d_R_doorsFor_13 : decode b_R_doorsFor 13 = .ok (.ifCond .ne 7, 3) := by decide +kernel
theorem d_R_doorsFor_16 : decode b_R_doorsFor 16 = .ok (.iconst (-1), 1) := by decide +kernel
theorem d_R_doorsFor_17 : decode b_R_doorsFor 17 = .ok (.goto 7, 3) := by decide +kernel
theorem d_R_doorsFor_20 : decode b_R_doorsFor 20 = .ok (.iload_n 3, 1) := by decide +kernel
theorem d_R_doorsFor_21 : decode b_R_doorsFor 21 = .ok (.invokestatic 223, 3) := by decide +kernel
theorem d_R_doorsFor_24 : decode b_R_doorsFor 24 = .ok (.istore 4, 2) := by decide +kernel
theorem d_R_doorsFor_26 : decode b_R_doorsFor 26 = .ok (.iload 4, 2) := by decide +kernel
theorem d_R_doorsFor_28 : decode b_R_doorsFor 28 = .ok (.ifCond .eq 10, 3) := by decide +kernel
theorem d_R_doorsFor_31 : decode b_R_doorsFor 31 = .ok (.aload_n 0, 1) := by decide +kernel
theorem d_R_doorsFor_32 : decode b_R_doorsFor 32 = .ok (.iload 4, 2) := by decide +kernel
theorem d_R_doorsFor_34 : decode b_R_doorsFor 34 = .ok (.invokevirtual 87, 3) := by decide +kernel
theorem d_R_doorsFor_37 : decode b_R_doorsFor 37 = .ok (.ireturn, 1) := by decide +kernel
theorem d_R_doorsFor_38 : decode b_R_doorsFor 38 = .ok (.bipush (-9), 2) := by decide +kernel
theorem d_R_doorsFor_40 : decode b_R_doorsFor 40 = .ok (.istore 5, 2) := by decide +kernel
theorem d_R_doorsFor_42 : decode b_R_doorsFor 42 = .ok (.iconst 0, 1) := by decide +kernel
theorem d_R_doorsFor_43 : decode b_R_doorsFor 43 = .ok (.istore 6, 2) := by decide +kernel
theorem d_R_doorsFor_45 : decode b_R_doorsFor 45 = .ok (.iload 6, 2) := by decide +kernel
theorem d_R_doorsFor_47 : decode b_R_doorsFor 47 = .ok (.iconst 1, 1) := by decide +kernel
theorem d_R_doorsFor_48 : decode b_R_doorsFor 48 = .ok (.aload_n 0, 1) := by decide +kernel
theorem d_R_doorsFor_49 : decode b_R_doorsFor 49 = .ok (.getfield 73, 3) := by decide +kernel
theorem d_R_doorsFor_52 : decode b_R_doorsFor 52 = .ok (.ishl, 1) := by decide +kernel
theorem d_R_doorsFor_53 : decode b_R_doorsFor 53 = .ok (.if_icmp .ge 46, 3) := by decide +kernel
theorem d_R_doorsFor_56 : decode b_R_doorsFor 56 = .ok (.iload 5, 2) := by decide +kernel
theorem d_R_doorsFor_58 : decode b_R_doorsFor 58 = .ok (.ifCond .lt 19, 3) := by decide +kernel
theorem d_R_doorsFor_61 : decode b_R_doorsFor 61 = .ok (.iload 6, 2) := by decide +kernel
theorem d_R_doorsFor_63 : decode b_R_doorsFor 63 = .ok (.invokestatic 258, 3) := by decide +kernel
theorem d_R_doorsFor_66 : decode b_R_doorsFor 66 = .ok (.iload 5, 2) := by decide +kernel
theorem d_R_doorsFor_68 : decode b_R_doorsFor 68 = .ok (.invokestatic 258, 3) := by decide +kernel
theorem d_R_doorsFor_71 : decode b_R_doorsFor 71 = .ok (.if_icmp .lt 6, 3) := by decide +kernel
theorem d_R_doorsFor_74 : decode b_R_doorsFor 74 = .ok (.goto 19, 3) := by decide +kernel
theorem d_R_doorsFor_77 : decode b_R_doorsFor 77 = .ok (.aload_n 0, 1) := by decide +kernel
theorem d_R_doorsFor_78 : decode b_R_doorsFor 78 = .ok (.iload_n 1, 1) := by decide +kernel
theorem d_R_doorsFor_79 : decode b_R_doorsFor 79 = .ok (.iload_n 2, 1) := by decide +kernel
theorem d_R_doorsFor_80 : decode b_R_doorsFor 80 = .ok (.iload_n 3, 1) := by decide +kernel
theorem d_R_doorsFor_81 : decode b_R_doorsFor 81 = .ok (.iload 6, 2) := by decide +kernel
theorem d_R_doorsFor_83 : decode b_R_doorsFor 83 = .ok (.invokevirtual 261, 3) := by decide +kernel
theorem d_R_doorsFor_86 : decode b_R_doorsFor 86 = .ok (.ifCond .eq 7, 3) := by decide +kernel
theorem d_R_doorsFor_89 : decode b_R_doorsFor 89 = .ok (.iload 6, 2) := by decide +kernel
theorem d_R_doorsFor_91 : decode b_R_doorsFor 91 = .ok (.istore 5, 2) := by decide +kernel
theorem d_R_doorsFor_93 : decode b_R_doorsFor 93 = .ok (.iinc 6 1, 3) := by decide +kernel
theorem d_R_doorsFor_96 : decode b_R_doorsFor 96 = .ok (.goto (-51), 3) := by decide +kernel
theorem d_R_doorsFor_99 : decode b_R_doorsFor 99 = .ok (.iload 5, 2) := by decide +kernel
theorem d_R_doorsFor_101 : decode b_R_doorsFor 101 = .ok (.ireturn, 1) := by decide +kernel
abbrev b_R_handsIn : ByteArray := prog_11_method_72_code
def y_R_handsIn : MethodName := ⟨"PassedOnAndBetterModel", "handsIn", "(I)I"⟩
theorem m_R_handsIn : MV y_R_handsIn b_R_handsIn 3 (some .int) 1 := ⟨mG 1376 (by decide +kernel) (by decide +kernel), mG 91 (by decide +kernel) (by decide +kernel), by decide +kernel⟩
theorem mi_R_handsIn : Cond.instanceMethod y_R_handsIn ∈ tbG := mG 1375 (by decide +kernel) (by decide +kernel)
theorem ms_R_handsIn : Cond.selects y_R_handsIn.cls y_R_handsIn y_R_handsIn ∈ tbG := mG 71 (by decide +kernel) (by decide +kernel)
theorem d_R_handsIn_0 : decode b_R_handsIn 0 = .ok (.aload_n 0, 1) := by decide +kernel
theorem d_R_handsIn_1 : decode b_R_handsIn 1 = .ok (.invokevirtual 226, 3) := by decide +kernel
theorem d_R_handsIn_4 : decode b_R_handsIn 4 = .ok (.aload_n 0, 1) := by decide +kernel
theorem d_R_handsIn_5 : decode b_R_handsIn 5 = .ok (.iload_n 1, 1) := by decide +kernel
theorem d_R_handsIn_6 : decode b_R_handsIn 6 = .ok (.invokevirtual 129, 3) := by decide +kernel
theorem d_R_handsIn_9 : decode b_R_handsIn 9 = .ok (.aload_n 0, 1) := by decide +kernel
theorem d_R_handsIn_10 : decode b_R_handsIn 10 = .ok (.getfield 40, 3) := by decide +kernel
theorem d_R_handsIn_13 : decode b_R_handsIn 13 = .ok (.aload_n 0, 1) := by decide +kernel
theorem d_R_handsIn_14 : decode b_R_handsIn 14 = .ok (.getfield 67, 3) := by decide +kernel
theorem d_R_handsIn_17 : decode b_R_handsIn 17 = .ok (.invokestatic 219, 3) := by decide +kernel
theorem d_R_handsIn_20 : decode b_R_handsIn 20 = .ok (.istore_n 2, 1) := by decide +kernel
theorem d_R_handsIn_21 : decode b_R_handsIn 21 = .ok (.aload_n 0, 1) := by decide +kernel
theorem d_R_handsIn_22 : decode b_R_handsIn 22 = .ok (.invokevirtual 229, 3) := by decide +kernel
theorem d_R_handsIn_25 : decode b_R_handsIn 25 = .ok (.iload_n 2, 1) := by decide +kernel
theorem d_R_handsIn_26 : decode b_R_handsIn 26 = .ok (.ireturn, 1) := by decide +kernel
abbrev b_R_doorWanted : ByteArray := prog_11_method_73_code
def y_R_doorWanted : MethodName := ⟨"PassedOnAndBetterModel", "doorWanted", "(III)I"⟩
theorem m_R_doorWanted : MV y_R_doorWanted b_R_doorWanted 10 (some .int) 3 := ⟨mG 1372 (by decide +kernel) (by decide +kernel), mG 91 (by decide +kernel) (by decide +kernel), by decide +kernel⟩
theorem mi_R_doorWanted : Cond.instanceMethod y_R_doorWanted ∈ tbG := mG 1370 (by decide +kernel) (by decide +kernel)
theorem ms_R_doorWanted : Cond.selects y_R_doorWanted.cls y_R_doorWanted y_R_doorWanted ∈ tbG := mG 1371 (by decide +kernel) (by decide +kernel)
theorem d_R_doorWanted_0 : decode b_R_doorWanted 0 = .ok (.aload_n 0, 1) := by decide +kernel
theorem d_R_doorWanted_1 : decode b_R_doorWanted 1 = .ok (.iload_n 1, 1) := by decide +kernel
theorem d_R_doorWanted_2 : decode b_R_doorWanted 2 = .ok (.invokevirtual 76, 3) := by decide +kernel
theorem d_R_doorWanted_5 : decode b_R_doorWanted 5 = .ok (.ifCond .ne 7, 3) := by decide +kernel
theorem d_R_doorWanted_8 : decode b_R_doorWanted 8 = .ok (.iconst (-1), 1) := by decide +kernel
theorem d_R_doorWanted_9 : decode b_R_doorWanted 9 = .ok (.goto 7, 3) := by decide +kernel
theorem d_R_doorWanted_12 : decode b_R_doorWanted 12 = .ok (.iload_n 2, 1) := by decide +kernel
theorem d_R_doorWanted_13 : decode b_R_doorWanted 13 = .ok (.invokestatic 223, 3) := by decide +kernel
theorem d_R_doorWanted_16 : decode b_R_doorWanted 16 = .ok (.istore 4, 2) := by decide +kernel
theorem d_R_doorWanted_18 : decode b_R_doorWanted 18 = .ok (.iload 4, 2) := by decide +kernel
theorem d_R_doorWanted_20 : decode b_R_doorWanted 20 = .ok (.ifCond .ne 16, 3) := by decide +kernel
theorem d_R_doorWanted_23 : decode b_R_doorWanted 23 = .ok (.iload_n 3, 1) := by decide +kernel
theorem d_R_doorWanted_24 : decode b_R_doorWanted 24 = .ok (.iconst 0, 1) := by decide +kernel
theorem d_R_doorWanted_25 : decode b_R_doorWanted 25 = .ok (.iconst 1, 1) := by decide +kernel
theorem d_R_doorWanted_26 : decode b_R_doorWanted 26 = .ok (.invokestatic 98, 3) := by decide +kernel
theorem d_R_doorWanted_29 : decode b_R_doorWanted 29 = .ok (.ifCond .ne 7, 3) := by decide +kernel
theorem d_R_doorWanted_32 : decode b_R_doorWanted 32 = .ok (.bipush (-2), 2) := by decide +kernel
theorem d_R_doorWanted_34 : decode b_R_doorWanted 34 = .ok (.istore 4, 2) := by decide +kernel
theorem d_R_doorWanted_36 : decode b_R_doorWanted 36 = .ok (.iload 4, 2) := by decide +kernel
theorem d_R_doorWanted_38 : decode b_R_doorWanted 38 = .ok (.ifCond .eq 10, 3) := by decide +kernel
theorem d_R_doorWanted_41 : decode b_R_doorWanted 41 = .ok (.aload_n 0, 1) := by decide +kernel
theorem d_R_doorWanted_42 : decode b_R_doorWanted 42 = .ok (.iload 4, 2) := by decide +kernel
theorem d_R_doorWanted_44 : decode b_R_doorWanted 44 = .ok (.invokevirtual 87, 3) := by decide +kernel
theorem d_R_doorWanted_47 : decode b_R_doorWanted 47 = .ok (.ireturn, 1) := by decide +kernel
theorem d_R_doorWanted_48 : decode b_R_doorWanted 48 = .ok (.aload_n 0, 1) := by decide +kernel
theorem d_R_doorWanted_49 : decode b_R_doorWanted 49 = .ok (.getfield 19, 3) := by decide +kernel
theorem d_R_doorWanted_52 : decode b_R_doorWanted 52 = .ok (.iload_n 1, 1) := by decide +kernel
theorem d_R_doorWanted_53 : decode b_R_doorWanted 53 = .ok (.iaload, 1) := by decide +kernel
theorem d_R_doorWanted_54 : decode b_R_doorWanted 54 = .ok (.istore 5, 2) := by decide +kernel
theorem d_R_doorWanted_56 : decode b_R_doorWanted 56 = .ok (.bipush (-9), 2) := by decide +kernel
theorem d_R_doorWanted_58 : decode b_R_doorWanted 58 = .ok (.istore 6, 2) := by decide +kernel
theorem d_R_doorWanted_60 : decode b_R_doorWanted 60 = .ok (.bipush (-9), 2) := by decide +kernel
theorem d_R_doorWanted_62 : decode b_R_doorWanted 62 = .ok (.istore 7, 2) := by decide +kernel
theorem d_R_doorWanted_64 : decode b_R_doorWanted 64 = .ok (.iconst 1, 1) := by decide +kernel
theorem d_R_doorWanted_65 : decode b_R_doorWanted 65 = .ok (.istore 8, 2) := by decide +kernel
theorem d_R_doorWanted_67 : decode b_R_doorWanted 67 = .ok (.iload 8, 2) := by decide +kernel
theorem d_R_doorWanted_69 : decode b_R_doorWanted 69 = .ok (.bipush 99, 2) := by decide +kernel
theorem d_R_doorWanted_71 : decode b_R_doorWanted 71 = .ok (.if_icmp .gt 42, 3) := by decide +kernel
theorem d_R_doorWanted_74 : decode b_R_doorWanted 74 = .ok (.aload_n 0, 1) := by decide +kernel
theorem d_R_doorWanted_75 : decode b_R_doorWanted 75 = .ok (.getfield 19, 3) := by decide +kernel
theorem d_R_doorWanted_78 : decode b_R_doorWanted 78 = .ok (.iload_n 1, 1) := by decide +kernel
theorem d_R_doorWanted_79 : decode b_R_doorWanted 79 = .ok (.iload 8, 2) := by decide +kernel
theorem d_R_doorWanted_81 : decode b_R_doorWanted 81 = .ok (.iastore, 1) := by decide +kernel
theorem d_R_doorWanted_82 : decode b_R_doorWanted 82 = .ok (.aload_n 0, 1) := by decide +kernel
theorem d_R_doorWanted_83 : decode b_R_doorWanted 83 = .ok (.iload_n 2, 1) := by decide +kernel
theorem d_R_doorWanted_84 : decode b_R_doorWanted 84 = .ok (.invokevirtual 265, 3) := by decide +kernel
theorem d_R_doorWanted_87 : decode b_R_doorWanted 87 = .ok (.istore 9, 2) := by decide +kernel
theorem d_R_doorWanted_89 : decode b_R_doorWanted 89 = .ok (.iload 9, 2) := by decide +kernel
theorem d_R_doorWanted_91 : decode b_R_doorWanted 91 = .ok (.iload 7, 2) := by decide +kernel
theorem d_R_doorWanted_93 : decode b_R_doorWanted 93 = .ok (.if_icmp .gt 6, 3) := by decide +kernel
theorem d_R_doorWanted_96 : decode b_R_doorWanted 96 = .ok (.goto 11, 3) := by decide +kernel
theorem d_R_doorWanted_99 : decode b_R_doorWanted 99 = .ok (.iload 8, 2) := by decide +kernel
theorem d_R_doorWanted_101 : decode b_R_doorWanted 101 = .ok (.istore 6, 2) := by decide +kernel
theorem d_R_doorWanted_103 : decode b_R_doorWanted 103 = .ok (.iload 9, 2) := by decide +kernel
theorem d_R_doorWanted_105 : decode b_R_doorWanted 105 = .ok (.istore 7, 2) := by decide +kernel
theorem d_R_doorWanted_107 : decode b_R_doorWanted 107 = .ok (.iinc 8 1, 3) := by decide +kernel
theorem d_R_doorWanted_110 : decode b_R_doorWanted 110 = .ok (.goto (-43), 3) := by decide +kernel
theorem d_R_doorWanted_113 : decode b_R_doorWanted 113 = .ok (.aload_n 0, 1) := by decide +kernel
theorem d_R_doorWanted_114 : decode b_R_doorWanted 114 = .ok (.getfield 19, 3) := by decide +kernel
theorem d_R_doorWanted_117 : decode b_R_doorWanted 117 = .ok (.iload_n 1, 1) := by decide +kernel
theorem d_R_doorWanted_118 : decode b_R_doorWanted 118 = .ok (.iload 5, 2) := by decide +kernel
theorem d_R_doorWanted_120 : decode b_R_doorWanted 120 = .ok (.iastore, 1) := by decide +kernel
theorem d_R_doorWanted_121 : decode b_R_doorWanted 121 = .ok (.iload_n 3, 1) := by decide +kernel
theorem d_R_doorWanted_122 : decode b_R_doorWanted 122 = .ok (.ifCond .ne 8, 3) := by decide +kernel
theorem d_R_doorWanted_125 : decode b_R_doorWanted 125 = .ok (.iload 6, 2) := by decide +kernel
theorem d_R_doorWanted_127 : decode b_R_doorWanted 127 = .ok (.goto 5, 3) := by decide +kernel
theorem d_R_doorWanted_130 : decode b_R_doorWanted 130 = .ok (.iload 7, 2) := by decide +kernel
theorem d_R_doorWanted_132 : decode b_R_doorWanted 132 = .ok (.ireturn, 1) := by decide +kernel
abbrev b_R_worthWithout : ByteArray := prog_11_method_74_code
def y_R_worthWithout : MethodName := ⟨"PassedOnAndBetterModel", "worthWithout", "(II)I"⟩
theorem m_R_worthWithout : MV y_R_worthWithout b_R_worthWithout 5 (some .int) 2 := ⟨mG 1384 (by decide +kernel) (by decide +kernel), mG 91 (by decide +kernel) (by decide +kernel), by decide +kernel⟩
theorem mi_R_worthWithout : Cond.instanceMethod y_R_worthWithout ∈ tbG := mG 1383 (by decide +kernel) (by decide +kernel)
theorem ms_R_worthWithout : Cond.selects y_R_worthWithout.cls y_R_worthWithout y_R_worthWithout ∈ tbG := mG 72 (by decide +kernel) (by decide +kernel)
theorem d_R_worthWithout_0 : decode b_R_worthWithout 0 = .ok (.aload_n 0, 1) := by decide +kernel
theorem d_R_worthWithout_1 : decode b_R_worthWithout 1 = .ok (.invokevirtual 242, 3) := by decide +kernel
theorem d_R_worthWithout_4 : decode b_R_worthWithout 4 = .ok (.aload_n 0, 1) := by decide +kernel
theorem d_R_worthWithout_5 : decode b_R_worthWithout 5 = .ok (.getfield 22, 3) := by decide +kernel
theorem d_R_worthWithout_8 : decode b_R_worthWithout 8 = .ok (.iload_n 1, 1) := by decide +kernel
theorem d_R_worthWithout_9 : decode b_R_worthWithout 9 = .ok (.iaload, 1) := by decide +kernel
theorem d_R_worthWithout_10 : decode b_R_worthWithout 10 = .ok (.istore_n 3, 1) := by decide +kernel
theorem d_R_worthWithout_11 : decode b_R_worthWithout 11 = .ok (.iconst 0, 1) := by decide +kernel
theorem d_R_worthWithout_12 : decode b_R_worthWithout 12 = .ok (.istore 4, 2) := by decide +kernel
theorem d_R_worthWithout_14 : decode b_R_worthWithout 14 = .ok (.iload 4, 2) := by decide +kernel
theorem d_R_worthWithout_16 : decode b_R_worthWithout 16 = .ok (.aload_n 0, 1) := by decide +kernel
theorem d_R_worthWithout_17 : decode b_R_worthWithout 17 = .ok (.getfield 73, 3) := by decide +kernel
theorem d_R_worthWithout_20 : decode b_R_worthWithout 20 = .ok (.if_icmp .ge 39, 3) := by decide +kernel
theorem d_R_worthWithout_23 : decode b_R_worthWithout 23 = .ok (.aload_n 0, 1) := by decide +kernel
theorem d_R_worthWithout_24 : decode b_R_worthWithout 24 = .ok (.getfield 22, 3) := by decide +kernel
theorem d_R_worthWithout_27 : decode b_R_worthWithout 27 = .ok (.iload 4, 2) := by decide +kernel
theorem d_R_worthWithout_29 : decode b_R_worthWithout 29 = .ok (.iaload, 1) := by decide +kernel
theorem d_R_worthWithout_30 : decode b_R_worthWithout 30 = .ok (.iload_n 1, 1) := by decide +kernel
theorem d_R_worthWithout_31 : decode b_R_worthWithout 31 = .ok (.if_icmp .ne 22, 3) := by decide +kernel
theorem d_R_worthWithout_34 : decode b_R_worthWithout 34 = .ok (.aload_n 0, 1) := by decide +kernel
theorem d_R_worthWithout_35 : decode b_R_worthWithout 35 = .ok (.getfield 22, 3) := by decide +kernel
theorem d_R_worthWithout_38 : decode b_R_worthWithout 38 = .ok (.iload 4, 2) := by decide +kernel
theorem d_R_worthWithout_40 : decode b_R_worthWithout 40 = .ok (.iload_n 3, 1) := by decide +kernel
theorem d_R_worthWithout_41 : decode b_R_worthWithout 41 = .ok (.iload 4, 2) := by decide +kernel
theorem d_R_worthWithout_43 : decode b_R_worthWithout 43 = .ok (.if_icmp .ne 8, 3) := by decide +kernel
theorem d_R_worthWithout_46 : decode b_R_worthWithout 46 = .ok (.bipush (-9), 2) := by decide +kernel
theorem d_R_worthWithout_48 : decode b_R_worthWithout 48 = .ok (.goto 4, 3) := by decide +kernel
theorem d_R_worthWithout_51 : decode b_R_worthWithout 51 = .ok (.iload_n 3, 1) := by decide +kernel
theorem d_R_worthWithout_52 : decode b_R_worthWithout 52 = .ok (.iastore, 1) := by decide +kernel
theorem d_R_worthWithout_53 : decode b_R_worthWithout 53 = .ok (.iinc 4 1, 3) := by decide +kernel
theorem d_R_worthWithout_56 : decode b_R_worthWithout 56 = .ok (.goto (-42), 3) := by decide +kernel
theorem d_R_worthWithout_59 : decode b_R_worthWithout 59 = .ok (.iconst 0, 1) := by decide +kernel
theorem d_R_worthWithout_60 : decode b_R_worthWithout 60 = .ok (.istore 4, 2) := by decide +kernel
theorem d_R_worthWithout_62 : decode b_R_worthWithout 62 = .ok (.iload 4, 2) := by decide +kernel
theorem d_R_worthWithout_64 : decode b_R_worthWithout 64 = .ok (.aload_n 0, 1) := by decide +kernel
theorem d_R_worthWithout_65 : decode b_R_worthWithout 65 = .ok (.getfield 67, 3) := by decide +kernel
theorem d_R_worthWithout_68 : decode b_R_worthWithout 68 = .ok (.if_icmp .ge 31, 3) := by decide +kernel
theorem d_R_worthWithout_71 : decode b_R_worthWithout 71 = .ok (.aload_n 0, 1) := by decide +kernel
theorem d_R_worthWithout_72 : decode b_R_worthWithout 72 = .ok (.getfield 31, 3) := by decide +kernel
theorem d_R_worthWithout_75 : decode b_R_worthWithout 75 = .ok (.iload 4, 2) := by decide +kernel
theorem d_R_worthWithout_77 : decode b_R_worthWithout 77 = .ok (.iaload, 1) := by decide +kernel
theorem d_R_worthWithout_78 : decode b_R_worthWithout 78 = .ok (.iload_n 1, 1) := by decide +kernel
theorem d_R_worthWithout_79 : decode b_R_worthWithout 79 = .ok (.if_icmp .ne 14, 3) := by decide +kernel
theorem d_R_worthWithout_82 : decode b_R_worthWithout 82 = .ok (.iload_n 3, 1) := by decide +kernel
theorem d_R_worthWithout_83 : decode b_R_worthWithout 83 = .ok (.ifCond .lt 10, 3) := by decide +kernel
theorem d_R_worthWithout_86 : decode b_R_worthWithout 86 = .ok (.aload_n 0, 1) := by decide +kernel
theorem d_R_worthWithout_87 : decode b_R_worthWithout 87 = .ok (.iload 4, 2) := by decide +kernel
theorem d_R_worthWithout_89 : decode b_R_worthWithout 89 = .ok (.iload_n 3, 1) := by decide +kernel
theorem d_R_worthWithout_90 : decode b_R_worthWithout 90 = .ok (.invokevirtual 145, 3) := by decide +kernel
theorem d_R_worthWithout_93 : decode b_R_worthWithout 93 = .ok (.iinc 4 1, 3) := by decide +kernel
theorem d_R_worthWithout_96 : decode b_R_worthWithout 96 = .ok (.goto (-34), 3) := by decide +kernel
theorem d_R_worthWithout_99 : decode b_R_worthWithout 99 = .ok (.aload_n 0, 1) := by decide +kernel
theorem d_R_worthWithout_100 : decode b_R_worthWithout 100 = .ok (.bipush (-9), 2) := by decide +kernel
theorem d_R_worthWithout_102 : decode b_R_worthWithout 102 = .ok (.iload_n 2, 1) := by decide +kernel
theorem d_R_worthWithout_103 : decode b_R_worthWithout 103 = .ok (.invokevirtual 245, 3) := by decide +kernel
theorem d_R_worthWithout_106 : decode b_R_worthWithout 106 = .ok (.istore 4, 2) := by decide +kernel
theorem d_R_worthWithout_108 : decode b_R_worthWithout 108 = .ok (.aload_n 0, 1) := by decide +kernel
theorem d_R_worthWithout_109 : decode b_R_worthWithout 109 = .ok (.invokevirtual 249, 3) := by decide +kernel
theorem d_R_worthWithout_112 : decode b_R_worthWithout 112 = .ok (.iload 4, 2) := by decide +kernel
theorem d_R_worthWithout_114 : decode b_R_worthWithout 114 = .ok (.ireturn, 1) := by decide +kernel
abbrev b_R_passedOver : ByteArray := prog_11_method_75_code
def y_R_passedOver : MethodName := ⟨"PassedOnAndBetterModel", "passedOver", "(I)I"⟩
theorem m_R_passedOver : MV y_R_passedOver b_R_passedOver 7 (some .int) 1 := ⟨mG 1380 (by decide +kernel) (by decide +kernel), mG 91 (by decide +kernel) (by decide +kernel), by decide +kernel⟩
theorem mi_R_passedOver : Cond.instanceMethod y_R_passedOver ∈ tbG := mG 1378 (by decide +kernel) (by decide +kernel)
theorem ms_R_passedOver : Cond.selects y_R_passedOver.cls y_R_passedOver y_R_passedOver ∈ tbG := mG 1379 (by decide +kernel) (by decide +kernel)
theorem d_R_passedOver_0 : decode b_R_passedOver 0 = .ok (.iload_n 1, 1) := by decide +kernel
theorem d_R_passedOver_1 : decode b_R_passedOver 1 = .ok (.invokestatic 223, 3) := by decide +kernel
theorem d_R_passedOver_4 : decode b_R_passedOver 4 = .ok (.istore_n 2, 1) := by decide +kernel
theorem d_R_passedOver_5 : decode b_R_passedOver 5 = .ok (.iload_n 2, 1) := by decide +kernel
theorem d_R_passedOver_6 : decode b_R_passedOver 6 = .ok (.ifCond .eq 9, 3) := by decide +kernel
theorem d_R_passedOver_9 : decode b_R_passedOver 9 = .ok (.aload_n 0, 1) := by decide +kernel
theorem d_R_passedOver_10 : decode b_R_passedOver 10 = .ok (.iload_n 2, 1) := by decide +kernel
theorem d_R_passedOver_11 : decode b_R_passedOver 11 = .ok (.invokevirtual 87, 3) := by decide +kernel
theorem d_R_passedOver_14 : decode b_R_passedOver 14 = .ok (.ireturn, 1) := by decide +kernel
theorem d_R_passedOver_15 : decode b_R_passedOver 15 = .ok (.bipush (-9), 2) := by decide +kernel
theorem d_R_passedOver_17 : decode b_R_passedOver 17 = .ok (.istore_n 3, 1) := by decide +kernel
theorem d_R_passedOver_18 : decode b_R_passedOver 18 = .ok (.bipush (-9), 2) := by decide +kernel
theorem d_R_passedOver_20 : decode b_R_passedOver 20 = .ok (.istore 4, 2) := by decide +kernel
theorem d_R_passedOver_22 : decode b_R_passedOver 22 = .ok (.iconst 0, 1) := by decide +kernel
theorem d_R_passedOver_23 : decode b_R_passedOver 23 = .ok (.istore 5, 2) := by decide +kernel
theorem d_R_passedOver_25 : decode b_R_passedOver 25 = .ok (.iload 5, 2) := by decide +kernel
theorem d_R_passedOver_27 : decode b_R_passedOver 27 = .ok (.aload_n 0, 1) := by decide +kernel
theorem d_R_passedOver_28 : decode b_R_passedOver 28 = .ok (.getfield 73, 3) := by decide +kernel
theorem d_R_passedOver_31 : decode b_R_passedOver 31 = .ok (.if_icmp .ge 43, 3) := by decide +kernel
theorem d_R_passedOver_34 : decode b_R_passedOver 34 = .ok (.aload_n 0, 1) := by decide +kernel
theorem d_R_passedOver_35 : decode b_R_passedOver 35 = .ok (.getfield 73, 3) := by decide +kernel
theorem d_R_passedOver_38 : decode b_R_passedOver 38 = .ok (.iconst 1, 1) := by decide +kernel
theorem d_R_passedOver_39 : decode b_R_passedOver 39 = .ok (.if_icmp .le 35, 3) := by decide +kernel
theorem d_R_passedOver_42 : decode b_R_passedOver 42 = .ok (.aload_n 0, 1) := by decide +kernel
theorem d_R_passedOver_43 : decode b_R_passedOver 43 = .ok (.iload 5, 2) := by decide +kernel
theorem d_R_passedOver_45 : decode b_R_passedOver 45 = .ok (.iload_n 1, 1) := by decide +kernel
theorem d_R_passedOver_46 : decode b_R_passedOver 46 = .ok (.invokevirtual 268, 3) := by decide +kernel
theorem d_R_passedOver_49 : decode b_R_passedOver 49 = .ok (.istore 6, 2) := by decide +kernel
theorem d_R_passedOver_51 : decode b_R_passedOver 51 = .ok (.iload 6, 2) := by decide +kernel
theorem d_R_passedOver_53 : decode b_R_passedOver 53 = .ok (.iload 4, 2) := by decide +kernel
theorem d_R_passedOver_55 : decode b_R_passedOver 55 = .ok (.if_icmp .gt 6, 3) := by decide +kernel
theorem d_R_passedOver_58 : decode b_R_passedOver 58 = .ok (.goto 10, 3) := by decide +kernel
theorem d_R_passedOver_61 : decode b_R_passedOver 61 = .ok (.iload 5, 2) := by decide +kernel
theorem d_R_passedOver_63 : decode b_R_passedOver 63 = .ok (.istore_n 3, 1) := by decide +kernel
theorem d_R_passedOver_64 : decode b_R_passedOver 64 = .ok (.iload 6, 2) := by decide +kernel
theorem d_R_passedOver_66 : decode b_R_passedOver 66 = .ok (.istore 4, 2) := by decide +kernel
theorem d_R_passedOver_68 : decode b_R_passedOver 68 = .ok (.iinc 5 1, 3) := by decide +kernel
theorem d_R_passedOver_71 : decode b_R_passedOver 71 = .ok (.goto (-46), 3) := by decide +kernel
theorem d_R_passedOver_74 : decode b_R_passedOver 74 = .ok (.iload_n 3, 1) := by decide +kernel
theorem d_R_passedOver_75 : decode b_R_passedOver 75 = .ok (.ireturn, 1) := by decide +kernel
abbrev b_R_chained : ByteArray := prog_11_method_76_code
def y_R_chained : MethodName := ⟨"PassedOnAndBetterModel", "chained", "(I)I"⟩
theorem m_R_chained : MV y_R_chained b_R_chained 4 (some .int) 1 := ⟨mG 1392 (by decide +kernel) (by decide +kernel), mG 91 (by decide +kernel) (by decide +kernel), by decide +kernel⟩
theorem mi_R_chained : Cond.instanceMethod y_R_chained ∈ tbG := mG 1391 (by decide +kernel) (by decide +kernel)
theorem ms_R_chained : Cond.selects y_R_chained.cls y_R_chained y_R_chained ∈ tbG := mG 73 (by decide +kernel) (by decide +kernel)
theorem d_R_chained_0 : decode b_R_chained 0 = .ok (.iconst 0, 1) := by decide +kernel
theorem d_R_chained_1 : decode b_R_chained 1 = .ok (.istore_n 2, 1) := by decide +kernel
theorem d_R_chained_2 : decode b_R_chained 2 = .ok (.iload_n 1, 1) := by decide +kernel
theorem d_R_chained_3 : decode b_R_chained 3 = .ok (.istore_n 3, 1) := by decide +kernel
theorem d_R_chained_4 : decode b_R_chained 4 = .ok (.iload_n 3, 1) := by decide +kernel
theorem d_R_chained_5 : decode b_R_chained 5 = .ok (.ifCond .lt 27, 3) := by decide +kernel
theorem d_R_chained_8 : decode b_R_chained 8 = .ok (.iload_n 2, 1) := by decide +kernel
theorem d_R_chained_9 : decode b_R_chained 9 = .ok (.iload_n 3, 1) := by decide +kernel
theorem d_R_chained_10 : decode b_R_chained 10 = .ok (.invokestatic 194, 3) := by decide +kernel
theorem d_R_chained_13 : decode b_R_chained 13 = .ok (.ifCond .ne 19, 3) := by decide +kernel
theorem d_R_chained_16 : decode b_R_chained 16 = .ok (.iload_n 2, 1) := by decide +kernel
theorem d_R_chained_17 : decode b_R_chained 17 = .ok (.iconst 1, 1) := by decide +kernel
theorem d_R_chained_18 : decode b_R_chained 18 = .ok (.iload_n 3, 1) := by decide +kernel
theorem d_R_chained_19 : decode b_R_chained 19 = .ok (.ishl, 1) := by decide +kernel
theorem d_R_chained_20 : decode b_R_chained 20 = .ok (.ior, 1) := by decide +kernel
theorem d_R_chained_21 : decode b_R_chained 21 = .ok (.istore_n 2, 1) := by decide +kernel
theorem d_R_chained_22 : decode b_R_chained 22 = .ok (.aload_n 0, 1) := by decide +kernel
theorem d_R_chained_23 : decode b_R_chained 23 = .ok (.getfield 22, 3) := by decide +kernel
theorem d_R_chained_26 : decode b_R_chained 26 = .ok (.iload_n 3, 1) := by decide +kernel
theorem d_R_chained_27 : decode b_R_chained 27 = .ok (.iaload, 1) := by decide +kernel
theorem d_R_chained_28 : decode b_R_chained 28 = .ok (.istore_n 3, 1) := by decide +kernel
theorem d_R_chained_29 : decode b_R_chained 29 = .ok (.goto (-25), 3) := by decide +kernel
theorem d_R_chained_32 : decode b_R_chained 32 = .ok (.iload_n 3, 1) := by decide +kernel
theorem d_R_chained_33 : decode b_R_chained 33 = .ok (.ifCond .ge 7, 3) := by decide +kernel
theorem d_R_chained_36 : decode b_R_chained 36 = .ok (.iload_n 2, 1) := by decide +kernel
theorem d_R_chained_37 : decode b_R_chained 37 = .ok (.goto 8, 3) := by decide +kernel
theorem d_R_chained_40 : decode b_R_chained 40 = .ok (.iload_n 2, 1) := by decide +kernel
theorem d_R_chained_41 : decode b_R_chained 41 = .ok (.sipush 512, 3) := by decide +kernel
theorem d_R_chained_44 : decode b_R_chained 44 = .ok (.ior, 1) := by decide +kernel
theorem d_R_chained_45 : decode b_R_chained 45 = .ok (.ireturn, 1) := by decide +kernel
abbrev b_R_chain : ByteArray := prog_11_method_77_code
def y_R_chain : MethodName := ⟨"PassedOnAndBetterModel", "chain", "(II)I"⟩
theorem m_R_chain : MV y_R_chain b_R_chain 5 (some .int) 2 := ⟨mG 1388 (by decide +kernel) (by decide +kernel), mG 91 (by decide +kernel) (by decide +kernel), by decide +kernel⟩
theorem mi_R_chain : Cond.instanceMethod y_R_chain ∈ tbG := mG 1386 (by decide +kernel) (by decide +kernel)
theorem ms_R_chain : Cond.selects y_R_chain.cls y_R_chain y_R_chain ∈ tbG := mG 1387 (by decide +kernel) (by decide +kernel)
theorem d_R_chain_0 : decode b_R_chain 0 = .ok (.aload_n 0, 1) := by decide +kernel
theorem d_R_chain_1 : decode b_R_chain 1 = .ok (.iload_n 1, 1) := by decide +kernel
theorem d_R_chain_2 : decode b_R_chain 2 = .ok (.invokevirtual 76, 3) := by decide +kernel
theorem d_R_chain_5 : decode b_R_chain 5 = .ok (.ifCond .ne 7, 3) := by decide +kernel
theorem d_R_chain_8 : decode b_R_chain 8 = .ok (.iconst (-1), 1) := by decide +kernel
theorem d_R_chain_9 : decode b_R_chain 9 = .ok (.goto 18, 3) := by decide +kernel
theorem d_R_chain_12 : decode b_R_chain 12 = .ok (.iload_n 2, 1) := by decide +kernel
theorem d_R_chain_13 : decode b_R_chain 13 = .ok (.iconst 0, 1) := by decide +kernel
theorem d_R_chain_14 : decode b_R_chain 14 = .ok (.iconst 1, 1) := by decide +kernel
theorem d_R_chain_15 : decode b_R_chain 15 = .ok (.invokestatic 98, 3) := by decide +kernel
theorem d_R_chain_18 : decode b_R_chain 18 = .ok (.ifCond .ne 8, 3) := by decide +kernel
theorem d_R_chain_21 : decode b_R_chain 21 = .ok (.bipush (-2), 2) := by decide +kernel
theorem d_R_chain_23 : decode b_R_chain 23 = .ok (.goto 4, 3) := by decide +kernel
theorem d_R_chain_26 : decode b_R_chain 26 = .ok (.iconst 0, 1) := by decide +kernel
theorem d_R_chain_27 : decode b_R_chain 27 = .ok (.istore_n 3, 1) := by decide +kernel
theorem d_R_chain_28 : decode b_R_chain 28 = .ok (.iload_n 3, 1) := by decide +kernel
theorem d_R_chain_29 : decode b_R_chain 29 = .ok (.ifCond .eq 9, 3) := by decide +kernel
theorem d_R_chain_32 : decode b_R_chain 32 = .ok (.aload_n 0, 1) := by decide +kernel
theorem d_R_chain_33 : decode b_R_chain 33 = .ok (.iload_n 3, 1) := by decide +kernel
theorem d_R_chain_34 : decode b_R_chain 34 = .ok (.invokevirtual 87, 3) := by decide +kernel
theorem d_R_chain_37 : decode b_R_chain 37 = .ok (.ireturn, 1) := by decide +kernel
theorem d_R_chain_38 : decode b_R_chain 38 = .ok (.aload_n 0, 1) := by decide +kernel
theorem d_R_chain_39 : decode b_R_chain 39 = .ok (.iload_n 1, 1) := by decide +kernel
theorem d_R_chain_40 : decode b_R_chain 40 = .ok (.invokevirtual 271, 3) := by decide +kernel
theorem d_R_chain_43 : decode b_R_chain 43 = .ok (.istore 4, 2) := by decide +kernel
theorem d_R_chain_45 : decode b_R_chain 45 = .ok (.iload_n 2, 1) := by decide +kernel
theorem d_R_chain_46 : decode b_R_chain 46 = .ok (.ifCond .ne 14, 3) := by decide +kernel
theorem d_R_chain_49 : decode b_R_chain 49 = .ok (.iload 4, 2) := by decide +kernel
theorem d_R_chain_51 : decode b_R_chain 51 = .ok (.bipush 63, 2) := by decide +kernel
theorem d_R_chain_53 : decode b_R_chain 53 = .ok (.iand, 1) := by decide +kernel
theorem d_R_chain_54 : decode b_R_chain 54 = .ok (.invokestatic 258, 3) := by decide +kernel
theorem d_R_chain_57 : decode b_R_chain 57 = .ok (.goto 8, 3) := by decide +kernel
theorem d_R_chain_60 : decode b_R_chain 60 = .ok (.iload 4, 2) := by decide +kernel
theorem d_R_chain_62 : decode b_R_chain 62 = .ok (.bipush 9, 2) := by decide +kernel
theorem d_R_chain_64 : decode b_R_chain 64 = .ok (.ishr, 1) := by decide +kernel
theorem d_R_chain_65 : decode b_R_chain 65 = .ok (.ireturn, 1) := by decide +kernel
abbrev b_R_wayTo : ByteArray := prog_11_method_78_code
def y_R_wayTo : MethodName := ⟨"PassedOnAndBetterModel", "wayTo", "(II)I"⟩
theorem m_R_wayTo : MV y_R_wayTo b_R_wayTo 5 (some .int) 2 := ⟨mG 1400 (by decide +kernel) (by decide +kernel), mG 91 (by decide +kernel) (by decide +kernel), by decide +kernel⟩
theorem mi_R_wayTo : Cond.instanceMethod y_R_wayTo ∈ tbG := mG 1399 (by decide +kernel) (by decide +kernel)
theorem ms_R_wayTo : Cond.selects y_R_wayTo.cls y_R_wayTo y_R_wayTo ∈ tbG := mG 74 (by decide +kernel) (by decide +kernel)
theorem d_R_wayTo_0 : decode b_R_wayTo 0 = .ok (.iload_n 1, 1) := by decide +kernel
theorem d_R_wayTo_1 : decode b_R_wayTo 1 = .ok (.istore_n 3, 1) := by decide +kernel
theorem d_R_wayTo_2 : decode b_R_wayTo 2 = .ok (.iconst 1, 1) := by decide +kernel
theorem d_R_wayTo_3 : decode b_R_wayTo 3 = .ok (.istore 4, 2) := by decide +kernel
theorem d_R_wayTo_5 : decode b_R_wayTo 5 = .ok (.iload 4, 2) := by decide +kernel
theorem d_R_wayTo_7 : decode b_R_wayTo 7 = .ok (.bipush 6, 2) := by decide +kernel
theorem d_R_wayTo_9 : decode b_R_wayTo 9 = .ok (.if_icmp .gt 33, 3) := by decide +kernel
theorem d_R_wayTo_12 : decode b_R_wayTo 12 = .ok (.iload_n 3, 1) := by decide +kernel
theorem d_R_wayTo_13 : decode b_R_wayTo 13 = .ok (.ifCond .ge 8, 3) := by decide +kernel
theorem d_R_wayTo_16 : decode b_R_wayTo 16 = .ok (.bipush (-9), 2) := by decide +kernel
theorem d_R_wayTo_18 : decode b_R_wayTo 18 = .ok (.goto 9, 3) := by decide +kernel
theorem d_R_wayTo_21 : decode b_R_wayTo 21 = .ok (.aload_n 0, 1) := by decide +kernel
theorem d_R_wayTo_22 : decode b_R_wayTo 22 = .ok (.getfield 22, 3) := by decide +kernel
theorem d_R_wayTo_25 : decode b_R_wayTo 25 = .ok (.iload_n 3, 1) := by decide +kernel
theorem d_R_wayTo_26 : decode b_R_wayTo 26 = .ok (.iaload, 1) := by decide +kernel
theorem d_R_wayTo_27 : decode b_R_wayTo 27 = .ok (.istore_n 3, 1) := by decide +kernel
theorem d_R_wayTo_28 : decode b_R_wayTo 28 = .ok (.iload_n 3, 1) := by decide +kernel
theorem d_R_wayTo_29 : decode b_R_wayTo 29 = .ok (.iload_n 2, 1) := by decide +kernel
theorem d_R_wayTo_30 : decode b_R_wayTo 30 = .ok (.if_icmp .ne 6, 3) := by decide +kernel
theorem d_R_wayTo_33 : decode b_R_wayTo 33 = .ok (.iload 4, 2) := by decide +kernel
theorem d_R_wayTo_35 : decode b_R_wayTo 35 = .ok (.ireturn, 1) := by decide +kernel
theorem d_R_wayTo_36 : decode b_R_wayTo 36 = .ok (.iinc 4 1, 3) := by decide +kernel
theorem d_R_wayTo_39 : decode b_R_wayTo 39 = .ok (.goto (-34), 3) := by decide +kernel
theorem d_R_wayTo_42 : decode b_R_wayTo 42 = .ok (.bipush (-9), 2) := by decide +kernel
theorem d_R_wayTo_44 : decode b_R_wayTo 44 = .ok (.ireturn, 1) := by decide +kernel
abbrev b_R_circles : ByteArray := prog_11_method_79_code
def y_R_circles : MethodName := ⟨"PassedOnAndBetterModel", "circles", "()I"⟩
theorem m_R_circles : MV y_R_circles b_R_circles 3 (some .int) 0 := ⟨mG 1396 (by decide +kernel) (by decide +kernel), mG 91 (by decide +kernel) (by decide +kernel), by decide +kernel⟩
theorem mi_R_circles : Cond.instanceMethod y_R_circles ∈ tbG := mG 1394 (by decide +kernel) (by decide +kernel)
theorem ms_R_circles : Cond.selects y_R_circles.cls y_R_circles y_R_circles ∈ tbG := mG 1395 (by decide +kernel) (by decide +kernel)
theorem d_R_circles_0 : decode b_R_circles 0 = .ok (.iconst 0, 1) := by decide +kernel
theorem d_R_circles_1 : decode b_R_circles 1 = .ok (.istore_n 1, 1) := by decide +kernel
theorem d_R_circles_2 : decode b_R_circles 2 = .ok (.iconst 0, 1) := by decide +kernel
theorem d_R_circles_3 : decode b_R_circles 3 = .ok (.istore_n 2, 1) := by decide +kernel
theorem d_R_circles_4 : decode b_R_circles 4 = .ok (.iload_n 2, 1) := by decide +kernel
theorem d_R_circles_5 : decode b_R_circles 5 = .ok (.aload_n 0, 1) := by decide +kernel
theorem d_R_circles_6 : decode b_R_circles 6 = .ok (.getfield 73, 3) := by decide +kernel
theorem d_R_circles_9 : decode b_R_circles 9 = .ok (.if_icmp .ge 26, 3) := by decide +kernel
theorem d_R_circles_12 : decode b_R_circles 12 = .ok (.iload_n 1, 1) := by decide +kernel
theorem d_R_circles_13 : decode b_R_circles 13 = .ok (.aload_n 0, 1) := by decide +kernel
theorem d_R_circles_14 : decode b_R_circles 14 = .ok (.iload_n 2, 1) := by decide +kernel
theorem d_R_circles_15 : decode b_R_circles 15 = .ok (.iload_n 2, 1) := by decide +kernel
theorem d_R_circles_16 : decode b_R_circles 16 = .ok (.invokevirtual 274, 3) := by decide +kernel
theorem d_R_circles_19 : decode b_R_circles 19 = .ok (.ifCond .le 7, 3) := by decide +kernel
theorem d_R_circles_22 : decode b_R_circles 22 = .ok (.iconst 1, 1) := by decide +kernel
theorem d_R_circles_23 : decode b_R_circles 23 = .ok (.goto 4, 3) := by decide +kernel
theorem d_R_circles_26 : decode b_R_circles 26 = .ok (.iconst 0, 1) := by decide +kernel
theorem d_R_circles_27 : decode b_R_circles 27 = .ok (.iadd, 1) := by decide +kernel
theorem d_R_circles_28 : decode b_R_circles 28 = .ok (.istore_n 1, 1) := by decide +kernel
theorem d_R_circles_29 : decode b_R_circles 29 = .ok (.iinc 2 1, 3) := by decide +kernel
theorem d_R_circles_32 : decode b_R_circles 32 = .ok (.goto (-28), 3) := by decide +kernel
theorem d_R_circles_35 : decode b_R_circles 35 = .ok (.iload_n 1, 1) := by decide +kernel
theorem d_R_circles_36 : decode b_R_circles 36 = .ok (.ireturn, 1) := by decide +kernel
abbrev b_R_way : ByteArray := prog_11_method_80_code
def y_R_way : MethodName := ⟨"PassedOnAndBetterModel", "way", "(II)I"⟩
theorem m_R_way : MV y_R_way b_R_way 3 (some .int) 2 := ⟨mG 1404 (by decide +kernel) (by decide +kernel), mG 91 (by decide +kernel) (by decide +kernel), by decide +kernel⟩
theorem mi_R_way : Cond.instanceMethod y_R_way ∈ tbG := mG 1402 (by decide +kernel) (by decide +kernel)
theorem ms_R_way : Cond.selects y_R_way.cls y_R_way y_R_way ∈ tbG := mG 1403 (by decide +kernel) (by decide +kernel)
theorem d_R_way_0 : decode b_R_way 0 = .ok (.aload_n 0, 1) := by decide +kernel
theorem d_R_way_1 : decode b_R_way 1 = .ok (.iload_n 1, 1) := by decide +kernel
theorem d_R_way_2 : decode b_R_way 2 = .ok (.iload_n 2, 1) := by decide +kernel
theorem d_R_way_3 : decode b_R_way 3 = .ok (.invokevirtual 119, 3) := by decide +kernel
theorem d_R_way_6 : decode b_R_way 6 = .ok (.ifCond .eq 12, 3) := by decide +kernel
theorem d_R_way_9 : decode b_R_way 9 = .ok (.aload_n 0, 1) := by decide +kernel
theorem d_R_way_10 : decode b_R_way 10 = .ok (.iload_n 1, 1) := by decide +kernel
theorem d_R_way_11 : decode b_R_way 11 = .ok (.iload_n 2, 1) := by decide +kernel
theorem d_R_way_12 : decode b_R_way 12 = .ok (.invokevirtual 274, 3) := by decide +kernel
theorem d_R_way_15 : decode b_R_way 15 = .ok (.goto 8, 3) := by decide +kernel
theorem d_R_way_18 : decode b_R_way 18 = .ok (.aload_n 0, 1) := by decide +kernel
theorem d_R_way_19 : decode b_R_way 19 = .ok (.iconst (-1), 1) := by decide +kernel
theorem d_R_way_20 : decode b_R_way 20 = .ok (.invokevirtual 87, 3) := by decide +kernel
theorem d_R_way_23 : decode b_R_way 23 = .ok (.ireturn, 1) := by decide +kernel
abbrev b_R_firstOther : ByteArray := prog_11_method_81_code
def y_R_firstOther : MethodName := ⟨"PassedOnAndBetterModel", "firstOther", "(I[I)I"⟩
theorem m_R_firstOther : MV y_R_firstOther b_R_firstOther 5 (some .int) 2 := ⟨mG 1416 (by decide +kernel) (by decide +kernel), mG 91 (by decide +kernel) (by decide +kernel), by decide +kernel⟩
theorem mi_R_firstOther : Cond.instanceMethod y_R_firstOther ∈ tbG := mG 1415 (by decide +kernel) (by decide +kernel)
theorem ms_R_firstOther : Cond.selects y_R_firstOther.cls y_R_firstOther y_R_firstOther ∈ tbG := mG 76 (by decide +kernel) (by decide +kernel)
theorem d_R_firstOther_0 : decode b_R_firstOther 0 = .ok (.aload_n 0, 1) := by decide +kernel
theorem d_R_firstOther_1 : decode b_R_firstOther 1 = .ok (.invokevirtual 226, 3) := by decide +kernel
theorem d_R_firstOther_4 : decode b_R_firstOther 4 = .ok (.bipush (-9), 2) := by decide +kernel
theorem d_R_firstOther_6 : decode b_R_firstOther 6 = .ok (.istore_n 3, 1) := by decide +kernel
theorem d_R_firstOther_7 : decode b_R_firstOther 7 = .ok (.iconst 0, 1) := by decide +kernel
theorem d_R_firstOther_8 : decode b_R_firstOther 8 = .ok (.istore 4, 2) := by decide +kernel
theorem d_R_firstOther_10 : decode b_R_firstOther 10 = .ok (.iload 4, 2) := by decide +kernel
theorem d_R_firstOther_12 : decode b_R_firstOther 12 = .ok (.aload_n 0, 1) := by decide +kernel
theorem d_R_firstOther_13 : decode b_R_firstOther 13 = .ok (.getfield 277, 3) := by decide +kernel
theorem d_R_firstOther_16 : decode b_R_firstOther 16 = .ok (.if_icmp .ge 39, 3) := by decide +kernel
theorem d_R_firstOther_19 : decode b_R_firstOther 19 = .ok (.iload_n 3, 1) := by decide +kernel
theorem d_R_firstOther_20 : decode b_R_firstOther 20 = .ok (.ifCond .ge 35, 3) := by decide +kernel
theorem d_R_firstOther_23 : decode b_R_firstOther 23 = .ok (.aload_n 2, 1) := by decide +kernel
theorem d_R_firstOther_24 : decode b_R_firstOther 24 = .ok (.iload_n 1, 1) := by decide +kernel
theorem d_R_firstOther_25 : decode b_R_firstOther 25 = .ok (.iaload, 1) := by decide +kernel
theorem d_R_firstOther_26 : decode b_R_firstOther 26 = .ok (.aload_n 0, 1) := by decide +kernel
theorem d_R_firstOther_27 : decode b_R_firstOther 27 = .ok (.getfield 61, 3) := by decide +kernel
theorem d_R_firstOther_30 : decode b_R_firstOther 30 = .ok (.iload 4, 2) := by decide +kernel
theorem d_R_firstOther_32 : decode b_R_firstOther 32 = .ok (.iaload, 1) := by decide +kernel
theorem d_R_firstOther_33 : decode b_R_firstOther 33 = .ok (.if_icmp .ne 8, 3) := by decide +kernel
theorem d_R_firstOther_36 : decode b_R_firstOther 36 = .ok (.bipush (-9), 2) := by decide +kernel
theorem d_R_firstOther_38 : decode b_R_firstOther 38 = .ok (.goto 5, 3) := by decide +kernel
theorem d_R_firstOther_41 : decode b_R_firstOther 41 = .ok (.iload 4, 2) := by decide +kernel
theorem d_R_firstOther_43 : decode b_R_firstOther 43 = .ok (.istore_n 3, 1) := by decide +kernel
theorem d_R_firstOther_44 : decode b_R_firstOther 44 = .ok (.aload_n 0, 1) := by decide +kernel
theorem d_R_firstOther_45 : decode b_R_firstOther 45 = .ok (.iconst 0, 1) := by decide +kernel
theorem d_R_firstOther_46 : decode b_R_firstOther 46 = .ok (.invokevirtual 209, 3) := by decide +kernel
theorem d_R_firstOther_49 : decode b_R_firstOther 49 = .ok (.iinc 4 1, 3) := by decide +kernel
theorem d_R_firstOther_52 : decode b_R_firstOther 52 = .ok (.goto (-42), 3) := by decide +kernel
theorem d_R_firstOther_55 : decode b_R_firstOther 55 = .ok (.aload_n 0, 1) := by decide +kernel
theorem d_R_firstOther_56 : decode b_R_firstOther 56 = .ok (.invokevirtual 229, 3) := by decide +kernel
theorem d_R_firstOther_59 : decode b_R_firstOther 59 = .ok (.iload_n 3, 1) := by decide +kernel
theorem d_R_firstOther_60 : decode b_R_firstOther 60 = .ok (.ireturn, 1) := by decide +kernel
abbrev b_R_bitsFor : ByteArray := prog_11_method_82_code
def y_R_bitsFor : MethodName := ⟨"PassedOnAndBetterModel", "bitsFor", "([IIII)I"⟩
theorem m_R_bitsFor : MV y_R_bitsFor b_R_bitsFor 8 (some .int) 4 := ⟨mG 1412 (by decide +kernel) (by decide +kernel), mG 91 (by decide +kernel) (by decide +kernel), by decide +kernel⟩
theorem mi_R_bitsFor : Cond.instanceMethod y_R_bitsFor ∈ tbG := mG 1411 (by decide +kernel) (by decide +kernel)
theorem ms_R_bitsFor : Cond.selects y_R_bitsFor.cls y_R_bitsFor y_R_bitsFor ∈ tbG := mG 75 (by decide +kernel) (by decide +kernel)
theorem d_R_bitsFor_0 : decode b_R_bitsFor 0 = .ok (.aload_n 1, 1) := by decide +kernel
theorem d_R_bitsFor_1 : decode b_R_bitsFor 1 = .ok (.iload_n 2, 1) := by decide +kernel
theorem d_R_bitsFor_2 : decode b_R_bitsFor 2 = .ok (.iaload, 1) := by decide +kernel
theorem d_R_bitsFor_3 : decode b_R_bitsFor 3 = .ok (.istore 5, 2) := by decide +kernel
theorem d_R_bitsFor_5 : decode b_R_bitsFor 5 = .ok (.iconst 0, 1) := by decide +kernel
theorem d_R_bitsFor_6 : decode b_R_bitsFor 6 = .ok (.istore 6, 2) := by decide +kernel
theorem d_R_bitsFor_8 : decode b_R_bitsFor 8 = .ok (.iconst 0, 1) := by decide +kernel
theorem d_R_bitsFor_9 : decode b_R_bitsFor 9 = .ok (.istore 7, 2) := by decide +kernel
theorem d_R_bitsFor_11 : decode b_R_bitsFor 11 = .ok (.iload 7, 2) := by decide +kernel
theorem d_R_bitsFor_13 : decode b_R_bitsFor 13 = .ok (.iload_n 3, 1) := by decide +kernel
theorem d_R_bitsFor_14 : decode b_R_bitsFor 14 = .ok (.if_icmp .ge 40, 3) := by decide +kernel
theorem d_R_bitsFor_17 : decode b_R_bitsFor 17 = .ok (.aload_n 1, 1) := by decide +kernel
theorem d_R_bitsFor_18 : decode b_R_bitsFor 18 = .ok (.iload_n 2, 1) := by decide +kernel
theorem d_R_bitsFor_19 : decode b_R_bitsFor 19 = .ok (.iload 7, 2) := by decide +kernel
theorem d_R_bitsFor_21 : decode b_R_bitsFor 21 = .ok (.iastore, 1) := by decide +kernel
theorem d_R_bitsFor_22 : decode b_R_bitsFor 22 = .ok (.iload 6, 2) := by decide +kernel
theorem d_R_bitsFor_24 : decode b_R_bitsFor 24 = .ok (.aload_n 0, 1) := by decide +kernel
theorem d_R_bitsFor_25 : decode b_R_bitsFor 25 = .ok (.iload 4, 2) := by decide +kernel
theorem d_R_bitsFor_27 : decode b_R_bitsFor 27 = .ok (.aload_n 0, 1) := by decide +kernel
theorem d_R_bitsFor_28 : decode b_R_bitsFor 28 = .ok (.getfield 25, 3) := by decide +kernel
theorem d_R_bitsFor_31 : decode b_R_bitsFor 31 = .ok (.invokevirtual 280, 3) := by decide +kernel
theorem d_R_bitsFor_34 : decode b_R_bitsFor 34 = .ok (.ifCond .ge 10, 3) := by decide +kernel
theorem d_R_bitsFor_37 : decode b_R_bitsFor 37 = .ok (.iconst 1, 1) := by decide +kernel
theorem d_R_bitsFor_38 : decode b_R_bitsFor 38 = .ok (.iload 7, 2) := by decide +kernel
theorem d_R_bitsFor_40 : decode b_R_bitsFor 40 = .ok (.ishl, 1) := by decide +kernel
theorem d_R_bitsFor_41 : decode b_R_bitsFor 41 = .ok (.goto 4, 3) := by decide +kernel
theorem d_R_bitsFor_44 : decode b_R_bitsFor 44 = .ok (.iconst 0, 1) := by decide +kernel
theorem d_R_bitsFor_45 : decode b_R_bitsFor 45 = .ok (.ior, 1) := by decide +kernel
theorem d_R_bitsFor_46 : decode b_R_bitsFor 46 = .ok (.istore 6, 2) := by decide +kernel
theorem d_R_bitsFor_48 : decode b_R_bitsFor 48 = .ok (.iinc 7 1, 3) := by decide +kernel
theorem d_R_bitsFor_51 : decode b_R_bitsFor 51 = .ok (.goto (-40), 3) := by decide +kernel
theorem d_R_bitsFor_54 : decode b_R_bitsFor 54 = .ok (.aload_n 1, 1) := by decide +kernel
theorem d_R_bitsFor_55 : decode b_R_bitsFor 55 = .ok (.iload_n 2, 1) := by decide +kernel
theorem d_R_bitsFor_56 : decode b_R_bitsFor 56 = .ok (.iload 5, 2) := by decide +kernel
theorem d_R_bitsFor_58 : decode b_R_bitsFor 58 = .ok (.iastore, 1) := by decide +kernel
theorem d_R_bitsFor_59 : decode b_R_bitsFor 59 = .ok (.iload 6, 2) := by decide +kernel
theorem d_R_bitsFor_61 : decode b_R_bitsFor 61 = .ok (.ireturn, 1) := by decide +kernel
abbrev b_R_whatItWas : ByteArray := prog_11_method_83_code
def y_R_whatItWas : MethodName := ⟨"PassedOnAndBetterModel", "whatItWas", "(II)I"⟩
theorem m_R_whatItWas : MV y_R_whatItWas b_R_whatItWas 5 (some .int) 2 := ⟨mG 1408 (by decide +kernel) (by decide +kernel), mG 91 (by decide +kernel) (by decide +kernel), by decide +kernel⟩
theorem mi_R_whatItWas : Cond.instanceMethod y_R_whatItWas ∈ tbG := mG 1406 (by decide +kernel) (by decide +kernel)
theorem ms_R_whatItWas : Cond.selects y_R_whatItWas.cls y_R_whatItWas y_R_whatItWas ∈ tbG := mG 1407 (by decide +kernel) (by decide +kernel)
theorem d_R_whatItWas_0 : decode b_R_whatItWas 0 = .ok (.aload_n 0, 1) := by decide +kernel
theorem d_R_whatItWas_1 : decode b_R_whatItWas 1 = .ok (.iload_n 1, 1) := by decide +kernel
theorem d_R_whatItWas_2 : decode b_R_whatItWas 2 = .ok (.invokevirtual 142, 3) := by decide +kernel
theorem d_R_whatItWas_5 : decode b_R_whatItWas 5 = .ok (.ifCond .ne 7, 3) := by decide +kernel
theorem d_R_whatItWas_8 : decode b_R_whatItWas 8 = .ok (.iconst (-1), 1) := by decide +kernel
theorem d_R_whatItWas_9 : decode b_R_whatItWas 9 = .ok (.goto 18, 3) := by decide +kernel
theorem d_R_whatItWas_12 : decode b_R_whatItWas 12 = .ok (.iload_n 2, 1) := by decide +kernel
theorem d_R_whatItWas_13 : decode b_R_whatItWas 13 = .ok (.iconst 0, 1) := by decide +kernel
theorem d_R_whatItWas_14 : decode b_R_whatItWas 14 = .ok (.iconst 2, 1) := by decide +kernel
theorem d_R_whatItWas_15 : decode b_R_whatItWas 15 = .ok (.invokestatic 98, 3) := by decide +kernel
theorem d_R_whatItWas_18 : decode b_R_whatItWas 18 = .ok (.ifCond .ne 8, 3) := by decide +kernel
theorem d_R_whatItWas_21 : decode b_R_whatItWas 21 = .ok (.bipush (-2), 2) := by decide +kernel
theorem d_R_whatItWas_23 : decode b_R_whatItWas 23 = .ok (.goto 4, 3) := by decide +kernel
theorem d_R_whatItWas_26 : decode b_R_whatItWas 26 = .ok (.iconst 0, 1) := by decide +kernel
theorem d_R_whatItWas_27 : decode b_R_whatItWas 27 = .ok (.istore_n 3, 1) := by decide +kernel
theorem d_R_whatItWas_28 : decode b_R_whatItWas 28 = .ok (.iload_n 3, 1) := by decide +kernel
theorem d_R_whatItWas_29 : decode b_R_whatItWas 29 = .ok (.ifCond .eq 9, 3) := by decide +kernel
theorem d_R_whatItWas_32 : decode b_R_whatItWas 32 = .ok (.aload_n 0, 1) := by decide +kernel
theorem d_R_whatItWas_33 : decode b_R_whatItWas 33 = .ok (.iload_n 3, 1) := by decide +kernel
theorem d_R_whatItWas_34 : decode b_R_whatItWas 34 = .ok (.invokevirtual 87, 3) := by decide +kernel
theorem d_R_whatItWas_37 : decode b_R_whatItWas 37 = .ok (.ireturn, 1) := by decide +kernel
theorem d_R_whatItWas_38 : decode b_R_whatItWas 38 = .ok (.aload_n 0, 1) := by decide +kernel
theorem d_R_whatItWas_39 : decode b_R_whatItWas 39 = .ok (.getfield 31, 3) := by decide +kernel
theorem d_R_whatItWas_42 : decode b_R_whatItWas 42 = .ok (.iload_n 1, 1) := by decide +kernel
theorem d_R_whatItWas_43 : decode b_R_whatItWas 43 = .ok (.iaload, 1) := by decide +kernel
theorem d_R_whatItWas_44 : decode b_R_whatItWas 44 = .ok (.istore 4, 2) := by decide +kernel
theorem d_R_whatItWas_46 : decode b_R_whatItWas 46 = .ok (.iload_n 2, 1) := by decide +kernel
theorem d_R_whatItWas_47 : decode b_R_whatItWas 47 = .ok (.ifCond .ne 19, 3) := by decide +kernel
theorem d_R_whatItWas_50 : decode b_R_whatItWas 50 = .ok (.aload_n 0, 1) := by decide +kernel
theorem d_R_whatItWas_51 : decode b_R_whatItWas 51 = .ok (.aload_n 0, 1) := by decide +kernel
theorem d_R_whatItWas_52 : decode b_R_whatItWas 52 = .ok (.getfield 13, 3) := by decide +kernel
theorem d_R_whatItWas_55 : decode b_R_whatItWas 55 = .ok (.iload 4, 2) := by decide +kernel
theorem d_R_whatItWas_57 : decode b_R_whatItWas 57 = .ok (.bipush 6, 2) := by decide +kernel
theorem d_R_whatItWas_59 : decode b_R_whatItWas 59 = .ok (.iload_n 1, 1) := by decide +kernel
theorem d_R_whatItWas_60 : decode b_R_whatItWas 60 = .ok (.invokevirtual 284, 3) := by decide +kernel
theorem d_R_whatItWas_63 : decode b_R_whatItWas 63 = .ok (.goto 39, 3) := by decide +kernel
theorem d_R_whatItWas_66 : decode b_R_whatItWas 66 = .ok (.iload_n 2, 1) := by decide +kernel
theorem d_R_whatItWas_67 : decode b_R_whatItWas 67 = .ok (.iconst 1, 1) := by decide +kernel
theorem d_R_whatItWas_68 : decode b_R_whatItWas 68 = .ok (.if_icmp .ne 19, 3) := by decide +kernel
theorem d_R_whatItWas_71 : decode b_R_whatItWas 71 = .ok (.aload_n 0, 1) := by decide +kernel
theorem d_R_whatItWas_72 : decode b_R_whatItWas 72 = .ok (.aload_n 0, 1) := by decide +kernel
theorem d_R_whatItWas_73 : decode b_R_whatItWas 73 = .ok (.getfield 16, 3) := by decide +kernel
theorem d_R_whatItWas_76 : decode b_R_whatItWas 76 = .ok (.iload 4, 2) := by decide +kernel
theorem d_R_whatItWas_78 : decode b_R_whatItWas 78 = .ok (.bipush 10, 2) := by decide +kernel
theorem d_R_whatItWas_80 : decode b_R_whatItWas 80 = .ok (.iload_n 1, 1) := by decide +kernel
theorem d_R_whatItWas_81 : decode b_R_whatItWas 81 = .ok (.invokevirtual 284, 3) := by decide +kernel
theorem d_R_whatItWas_84 : decode b_R_whatItWas 84 = .ok (.goto 18, 3) := by decide +kernel
theorem d_R_whatItWas_87 : decode b_R_whatItWas 87 = .ok (.aload_n 0, 1) := by decide +kernel
theorem d_R_whatItWas_88 : decode b_R_whatItWas 88 = .ok (.aload_n 0, 1) := by decide +kernel
theorem d_R_whatItWas_89 : decode b_R_whatItWas 89 = .ok (.getfield 34, 3) := by decide +kernel
theorem d_R_whatItWas_92 : decode b_R_whatItWas 92 = .ok (.iload_n 1, 1) := by decide +kernel
theorem d_R_whatItWas_93 : decode b_R_whatItWas 93 = .ok (.bipush 13, 2) := by decide +kernel
theorem d_R_whatItWas_95 : decode b_R_whatItWas 95 = .ok (.iload_n 1, 1) := by decide +kernel
theorem d_R_whatItWas_96 : decode b_R_whatItWas 96 = .ok (.invokevirtual 284, 3) := by decide +kernel
theorem d_R_whatItWas_99 : decode b_R_whatItWas 99 = .ok (.invokestatic 258, 3) := by decide +kernel
theorem d_R_whatItWas_102 : decode b_R_whatItWas 102 = .ok (.ireturn, 1) := by decide +kernel
abbrev b_R_startsOf : ByteArray := prog_11_method_84_code
def y_R_startsOf : MethodName := ⟨"PassedOnAndBetterModel", "startsOf", "(I)I"⟩
theorem m_R_startsOf : MV y_R_startsOf b_R_startsOf 4 (some .int) 1 := ⟨mG 1424 (by decide +kernel) (by decide +kernel), mG 91 (by decide +kernel) (by decide +kernel), by decide +kernel⟩
theorem mi_R_startsOf : Cond.instanceMethod y_R_startsOf ∈ tbG := mG 1423 (by decide +kernel) (by decide +kernel)
theorem ms_R_startsOf : Cond.selects y_R_startsOf.cls y_R_startsOf y_R_startsOf ∈ tbG := mG 77 (by decide +kernel) (by decide +kernel)
theorem d_R_startsOf_0 : decode b_R_startsOf 0 = .ok (.iconst 0, 1) := by decide +kernel
theorem d_R_startsOf_1 : decode b_R_startsOf 1 = .ok (.istore_n 2, 1) := by decide +kernel
theorem d_R_startsOf_2 : decode b_R_startsOf 2 = .ok (.iconst 0, 1) := by decide +kernel
theorem d_R_startsOf_3 : decode b_R_startsOf 3 = .ok (.istore_n 3, 1) := by decide +kernel
theorem d_R_startsOf_4 : decode b_R_startsOf 4 = .ok (.iload_n 3, 1) := by decide +kernel
theorem d_R_startsOf_5 : decode b_R_startsOf 5 = .ok (.aload_n 0, 1) := by decide +kernel
theorem d_R_startsOf_6 : decode b_R_startsOf 6 = .ok (.getfield 73, 3) := by decide +kernel
theorem d_R_startsOf_9 : decode b_R_startsOf 9 = .ok (.if_icmp .ge 45, 3) := by decide +kernel
theorem d_R_startsOf_12 : decode b_R_startsOf 12 = .ok (.aload_n 0, 1) := by decide +kernel
theorem d_R_startsOf_13 : decode b_R_startsOf 13 = .ok (.invokevirtual 242, 3) := by decide +kernel
theorem d_R_startsOf_16 : decode b_R_startsOf 16 = .ok (.aload_n 0, 1) := by decide +kernel
theorem d_R_startsOf_17 : decode b_R_startsOf 17 = .ok (.iload_n 1, 1) := by decide +kernel
theorem d_R_startsOf_18 : decode b_R_startsOf 18 = .ok (.iload_n 3, 1) := by decide +kernel
theorem d_R_startsOf_19 : decode b_R_startsOf 19 = .ok (.invokevirtual 145, 3) := by decide +kernel
theorem d_R_startsOf_22 : decode b_R_startsOf 22 = .ok (.iload_n 2, 1) := by decide +kernel
theorem d_R_startsOf_23 : decode b_R_startsOf 23 = .ok (.aload_n 0, 1) := by decide +kernel
theorem d_R_startsOf_24 : decode b_R_startsOf 24 = .ok (.iload_n 1, 1) := by decide +kernel
theorem d_R_startsOf_25 : decode b_R_startsOf 25 = .ok (.aload_n 0, 1) := by decide +kernel
theorem d_R_startsOf_26 : decode b_R_startsOf 26 = .ok (.getfield 31, 3) := by decide +kernel
theorem d_R_startsOf_29 : decode b_R_startsOf 29 = .ok (.invokevirtual 280, 3) := by decide +kernel
theorem d_R_startsOf_32 : decode b_R_startsOf 32 = .ok (.ifCond .ge 9, 3) := by decide +kernel
theorem d_R_startsOf_35 : decode b_R_startsOf 35 = .ok (.iconst 1, 1) := by decide +kernel
theorem d_R_startsOf_36 : decode b_R_startsOf 36 = .ok (.iload_n 3, 1) := by decide +kernel
theorem d_R_startsOf_37 : decode b_R_startsOf 37 = .ok (.ishl, 1) := by decide +kernel
theorem d_R_startsOf_38 : decode b_R_startsOf 38 = .ok (.goto 4, 3) := by decide +kernel
theorem d_R_startsOf_41 : decode b_R_startsOf 41 = .ok (.iconst 0, 1) := by decide +kernel
theorem d_R_startsOf_42 : decode b_R_startsOf 42 = .ok (.ior, 1) := by decide +kernel
theorem d_R_startsOf_43 : decode b_R_startsOf 43 = .ok (.istore_n 2, 1) := by decide +kernel
theorem d_R_startsOf_44 : decode b_R_startsOf 44 = .ok (.aload_n 0, 1) := by decide +kernel
theorem d_R_startsOf_45 : decode b_R_startsOf 45 = .ok (.invokevirtual 249, 3) := by decide +kernel
theorem d_R_startsOf_48 : decode b_R_startsOf 48 = .ok (.iinc 3 1, 3) := by decide +kernel
theorem d_R_startsOf_51 : decode b_R_startsOf 51 = .ok (.goto (-47), 3) := by decide +kernel
theorem d_R_startsOf_54 : decode b_R_startsOf 54 = .ok (.iload_n 2, 1) := by decide +kernel
theorem d_R_startsOf_55 : decode b_R_startsOf 55 = .ok (.ireturn, 1) := by decide +kernel
abbrev b_R_whoHad : ByteArray := prog_11_method_85_code
def y_R_whoHad : MethodName := ⟨"PassedOnAndBetterModel", "whoHad", "(II)I"⟩
theorem m_R_whoHad : MV y_R_whoHad b_R_whoHad 4 (some .int) 2 := ⟨mG 1420 (by decide +kernel) (by decide +kernel), mG 91 (by decide +kernel) (by decide +kernel), by decide +kernel⟩
theorem mi_R_whoHad : Cond.instanceMethod y_R_whoHad ∈ tbG := mG 1418 (by decide +kernel) (by decide +kernel)
theorem ms_R_whoHad : Cond.selects y_R_whoHad.cls y_R_whoHad y_R_whoHad ∈ tbG := mG 1419 (by decide +kernel) (by decide +kernel)
theorem d_R_whoHad_0 : decode b_R_whoHad 0 = .ok (.aload_n 0, 1) := by decide +kernel
theorem d_R_whoHad_1 : decode b_R_whoHad 1 = .ok (.iload_n 1, 1) := by decide +kernel
theorem d_R_whoHad_2 : decode b_R_whoHad 2 = .ok (.invokevirtual 142, 3) := by decide +kernel
theorem d_R_whoHad_5 : decode b_R_whoHad 5 = .ok (.ifCond .ne 7, 3) := by decide +kernel
theorem d_R_whoHad_8 : decode b_R_whoHad 8 = .ok (.iconst (-1), 1) := by decide +kernel
theorem d_R_whoHad_9 : decode b_R_whoHad 9 = .ok (.goto 18, 3) := by decide +kernel
theorem d_R_whoHad_12 : decode b_R_whoHad 12 = .ok (.iload_n 2, 1) := by decide +kernel
theorem d_R_whoHad_13 : decode b_R_whoHad 13 = .ok (.iconst 0, 1) := by decide +kernel
theorem d_R_whoHad_14 : decode b_R_whoHad 14 = .ok (.iconst 1, 1) := by decide +kernel
theorem d_R_whoHad_15 : decode b_R_whoHad 15 = .ok (.invokestatic 98, 3) := by decide +kernel
theorem d_R_whoHad_18 : decode b_R_whoHad 18 = .ok (.ifCond .ne 8, 3) := by decide +kernel
theorem d_R_whoHad_21 : decode b_R_whoHad 21 = .ok (.bipush (-2), 2) := by decide +kernel
theorem d_R_whoHad_23 : decode b_R_whoHad 23 = .ok (.goto 4, 3) := by decide +kernel
theorem d_R_whoHad_26 : decode b_R_whoHad 26 = .ok (.iconst 0, 1) := by decide +kernel
theorem d_R_whoHad_27 : decode b_R_whoHad 27 = .ok (.istore_n 3, 1) := by decide +kernel
theorem d_R_whoHad_28 : decode b_R_whoHad 28 = .ok (.iload_n 3, 1) := by decide +kernel
theorem d_R_whoHad_29 : decode b_R_whoHad 29 = .ok (.ifCond .eq 9, 3) := by decide +kernel
theorem d_R_whoHad_32 : decode b_R_whoHad 32 = .ok (.aload_n 0, 1) := by decide +kernel
theorem d_R_whoHad_33 : decode b_R_whoHad 33 = .ok (.iload_n 3, 1) := by decide +kernel
theorem d_R_whoHad_34 : decode b_R_whoHad 34 = .ok (.invokevirtual 87, 3) := by decide +kernel
theorem d_R_whoHad_37 : decode b_R_whoHad 37 = .ok (.ireturn, 1) := by decide +kernel
theorem d_R_whoHad_38 : decode b_R_whoHad 38 = .ok (.iload_n 2, 1) := by decide +kernel
theorem d_R_whoHad_39 : decode b_R_whoHad 39 = .ok (.ifCond .ne 15, 3) := by decide +kernel
theorem d_R_whoHad_42 : decode b_R_whoHad 42 = .ok (.aload_n 0, 1) := by decide +kernel
theorem d_R_whoHad_43 : decode b_R_whoHad 43 = .ok (.iload_n 1, 1) := by decide +kernel
theorem d_R_whoHad_44 : decode b_R_whoHad 44 = .ok (.aload_n 0, 1) := by decide +kernel
theorem d_R_whoHad_45 : decode b_R_whoHad 45 = .ok (.getfield 31, 3) := by decide +kernel
theorem d_R_whoHad_48 : decode b_R_whoHad 48 = .ok (.invokevirtual 280, 3) := by decide +kernel
theorem d_R_whoHad_51 : decode b_R_whoHad 51 = .ok (.goto 8, 3) := by decide +kernel
theorem d_R_whoHad_54 : decode b_R_whoHad 54 = .ok (.aload_n 0, 1) := by decide +kernel
theorem d_R_whoHad_55 : decode b_R_whoHad 55 = .ok (.iload_n 1, 1) := by decide +kernel
theorem d_R_whoHad_56 : decode b_R_whoHad 56 = .ok (.invokevirtual 288, 3) := by decide +kernel
theorem d_R_whoHad_59 : decode b_R_whoHad 59 = .ok (.ireturn, 1) := by decide +kernel
abbrev b_R_worthWith : ByteArray := prog_11_method_86_code
def y_R_worthWith : MethodName := ⟨"PassedOnAndBetterModel", "worthWith", "(I)I"⟩
theorem m_R_worthWith : MV y_R_worthWith b_R_worthWith 4 (some .int) 1 := ⟨mG 1436 (by decide +kernel) (by decide +kernel), mG 91 (by decide +kernel) (by decide +kernel), by decide +kernel⟩
theorem mi_R_worthWith : Cond.instanceMethod y_R_worthWith ∈ tbG := mG 1435 (by decide +kernel) (by decide +kernel)
theorem ms_R_worthWith : Cond.selects y_R_worthWith.cls y_R_worthWith y_R_worthWith ∈ tbG := mG 79 (by decide +kernel) (by decide +kernel)
theorem d_R_worthWith_0 : decode b_R_worthWith 0 = .ok (.iconst 0, 1) := by decide +kernel
theorem d_R_worthWith_1 : decode b_R_worthWith 1 = .ok (.istore_n 2, 1) := by decide +kernel
theorem d_R_worthWith_2 : decode b_R_worthWith 2 = .ok (.iconst 0, 1) := by decide +kernel
theorem d_R_worthWith_3 : decode b_R_worthWith 3 = .ok (.istore_n 3, 1) := by decide +kernel
theorem d_R_worthWith_4 : decode b_R_worthWith 4 = .ok (.iload_n 3, 1) := by decide +kernel
theorem d_R_worthWith_5 : decode b_R_worthWith 5 = .ok (.aload_n 0, 1) := by decide +kernel
theorem d_R_worthWith_6 : decode b_R_worthWith 6 = .ok (.getfield 67, 3) := by decide +kernel
theorem d_R_worthWith_9 : decode b_R_worthWith 9 = .ok (.if_icmp .ge 32, 3) := by decide +kernel
theorem d_R_worthWith_12 : decode b_R_worthWith 12 = .ok (.iload_n 2, 1) := by decide +kernel
theorem d_R_worthWith_13 : decode b_R_worthWith 13 = .ok (.aload_n 0, 1) := by decide +kernel
theorem d_R_worthWith_14 : decode b_R_worthWith 14 = .ok (.getfield 31, 3) := by decide +kernel
theorem d_R_worthWith_17 : decode b_R_worthWith 17 = .ok (.iload_n 3, 1) := by decide +kernel
theorem d_R_worthWith_18 : decode b_R_worthWith 18 = .ok (.iaload, 1) := by decide +kernel
theorem d_R_worthWith_19 : decode b_R_worthWith 19 = .ok (.iload_n 1, 1) := by decide +kernel
theorem d_R_worthWith_20 : decode b_R_worthWith 20 = .ok (.if_icmp .ne 12, 3) := by decide +kernel
theorem d_R_worthWith_23 : decode b_R_worthWith 23 = .ok (.aload_n 0, 1) := by decide +kernel
theorem d_R_worthWith_24 : decode b_R_worthWith 24 = .ok (.getfield 25, 3) := by decide +kernel
theorem d_R_worthWith_27 : decode b_R_worthWith 27 = .ok (.iload_n 3, 1) := by decide +kernel
theorem d_R_worthWith_28 : decode b_R_worthWith 28 = .ok (.iaload, 1) := by decide +kernel
theorem d_R_worthWith_29 : decode b_R_worthWith 29 = .ok (.goto 4, 3) := by decide +kernel
theorem d_R_worthWith_32 : decode b_R_worthWith 32 = .ok (.iconst 0, 1) := by decide +kernel
theorem d_R_worthWith_33 : decode b_R_worthWith 33 = .ok (.iadd, 1) := by decide +kernel
theorem d_R_worthWith_34 : decode b_R_worthWith 34 = .ok (.istore_n 2, 1) := by decide +kernel
theorem d_R_worthWith_35 : decode b_R_worthWith 35 = .ok (.iinc 3 1, 3) := by decide +kernel
theorem d_R_worthWith_38 : decode b_R_worthWith 38 = .ok (.goto (-34), 3) := by decide +kernel
theorem d_R_worthWith_41 : decode b_R_worthWith 41 = .ok (.iload_n 2, 1) := by decide +kernel
theorem d_R_worthWith_42 : decode b_R_worthWith 42 = .ok (.ireturn, 1) := by decide +kernel
abbrev b_R_findGets : ByteArray := prog_11_method_87_code
def y_R_findGets : MethodName := ⟨"PassedOnAndBetterModel", "findGets", "(III)V"⟩
theorem m_R_findGets : MV y_R_findGets b_R_findGets 5 none 3 := ⟨mG 1432 (by decide +kernel) (by decide +kernel), mG 91 (by decide +kernel) (by decide +kernel), by decide +kernel⟩
theorem mi_R_findGets : Cond.instanceMethod y_R_findGets ∈ tbG := mG 1431 (by decide +kernel) (by decide +kernel)
theorem ms_R_findGets : Cond.selects y_R_findGets.cls y_R_findGets y_R_findGets ∈ tbG := mG 78 (by decide +kernel) (by decide +kernel)
theorem d_R_findGets_0 : decode b_R_findGets 0 = .ok (.iconst 0, 1) := by decide +kernel
theorem d_R_findGets_1 : decode b_R_findGets 1 = .ok (.istore 4, 2) := by decide +kernel
theorem d_R_findGets_3 : decode b_R_findGets 3 = .ok (.iload 4, 2) := by decide +kernel
theorem d_R_findGets_5 : decode b_R_findGets 5 = .ok (.iconst 4, 1) := by decide +kernel
theorem d_R_findGets_6 : decode b_R_findGets 6 = .ok (.if_icmp .ge 74, 3) := by decide +kernel
theorem d_R_findGets_9 : decode b_R_findGets 9 = .ok (.aload_n 0, 1) := by decide +kernel
theorem d_R_findGets_10 : decode b_R_findGets 10 = .ok (.invokevirtual 226, 3) := by decide +kernel
theorem d_R_findGets_13 : decode b_R_findGets 13 = .ok (.aload_n 0, 1) := by decide +kernel
theorem d_R_findGets_14 : decode b_R_findGets 14 = .ok (.iload 4, 2) := by decide +kernel
theorem d_R_findGets_16 : decode b_R_findGets 16 = .ok (.iconst 2, 1) := by decide +kernel
theorem d_R_findGets_17 : decode b_R_findGets 17 = .ok (.idiv, 1) := by decide +kernel
theorem d_R_findGets_18 : decode b_R_findGets 18 = .ok (.iload_n 1, 1) := by decide +kernel
theorem d_R_findGets_19 : decode b_R_findGets 19 = .ok (.ishl, 1) := by decide +kernel
theorem d_R_findGets_20 : decode b_R_findGets 20 = .ok (.iload 4, 2) := by decide +kernel
theorem d_R_findGets_22 : decode b_R_findGets 22 = .ok (.iconst 2, 1) := by decide +kernel
theorem d_R_findGets_23 : decode b_R_findGets 23 = .ok (.irem, 1) := by decide +kernel
theorem d_R_findGets_24 : decode b_R_findGets 24 = .ok (.iload_n 2, 1) := by decide +kernel
theorem d_R_findGets_25 : decode b_R_findGets 25 = .ok (.ishl, 1) := by decide +kernel
theorem d_R_findGets_26 : decode b_R_findGets 26 = .ok (.ior, 1) := by decide +kernel
theorem d_R_findGets_27 : decode b_R_findGets 27 = .ok (.putfield 191, 3) := by decide +kernel
theorem d_R_findGets_30 : decode b_R_findGets 30 = .ok (.aload_n 0, 1) := by decide +kernel
theorem d_R_findGets_31 : decode b_R_findGets 31 = .ok (.iload_n 3, 1) := by decide +kernel
theorem d_R_findGets_32 : decode b_R_findGets 32 = .ok (.invokevirtual 129, 3) := by decide +kernel
theorem d_R_findGets_35 : decode b_R_findGets 35 = .ok (.aload_n 0, 1) := by decide +kernel
theorem d_R_findGets_36 : decode b_R_findGets 36 = .ok (.iconst 0, 1) := by decide +kernel
theorem d_R_findGets_37 : decode b_R_findGets 37 = .ok (.putfield 191, 3) := by decide +kernel
theorem d_R_findGets_40 : decode b_R_findGets 40 = .ok (.aload_n 0, 1) := by decide +kernel
theorem d_R_findGets_41 : decode b_R_findGets 41 = .ok (.getfield 64, 3) := by decide +kernel
theorem d_R_findGets_44 : decode b_R_findGets 44 = .ok (.iconst 2, 1) := by decide +kernel
theorem d_R_findGets_45 : decode b_R_findGets 45 = .ok (.iload 4, 2) := by decide +kernel
theorem d_R_findGets_47 : decode b_R_findGets 47 = .ok (.imul, 1) := by decide +kernel
theorem d_R_findGets_48 : decode b_R_findGets 48 = .ok (.aload_n 0, 1) := by decide +kernel
theorem d_R_findGets_49 : decode b_R_findGets 49 = .ok (.iload_n 1, 1) := by decide +kernel
theorem d_R_findGets_50 : decode b_R_findGets 50 = .ok (.invokevirtual 291, 3) := by decide +kernel
theorem d_R_findGets_53 : decode b_R_findGets 53 = .ok (.iastore, 1) := by decide +kernel
theorem d_R_findGets_54 : decode b_R_findGets 54 = .ok (.aload_n 0, 1) := by decide +kernel
theorem d_R_findGets_55 : decode b_R_findGets 55 = .ok (.getfield 64, 3) := by decide +kernel
theorem d_R_findGets_58 : decode b_R_findGets 58 = .ok (.iconst 2, 1) := by decide +kernel
theorem d_R_findGets_59 : decode b_R_findGets 59 = .ok (.iload 4, 2) := by decide +kernel
theorem d_R_findGets_61 : decode b_R_findGets 61 = .ok (.imul, 1) := by decide +kernel
theorem d_R_findGets_62 : decode b_R_findGets 62 = .ok (.iconst 1, 1) := by decide +kernel
theorem d_R_findGets_63 : decode b_R_findGets 63 = .ok (.iadd, 1) := by decide +kernel
theorem d_R_findGets_64 : decode b_R_findGets 64 = .ok (.aload_n 0, 1) := by decide +kernel
theorem d_R_findGets_65 : decode b_R_findGets 65 = .ok (.iload_n 2, 1) := by decide +kernel
theorem d_R_findGets_66 : decode b_R_findGets 66 = .ok (.invokevirtual 291, 3) := by decide +kernel
theorem d_R_findGets_69 : decode b_R_findGets 69 = .ok (.iastore, 1) := by decide +kernel
theorem d_R_findGets_70 : decode b_R_findGets 70 = .ok (.aload_n 0, 1) := by decide +kernel
theorem d_R_findGets_71 : decode b_R_findGets 71 = .ok (.invokevirtual 229, 3) := by decide +kernel
theorem d_R_findGets_74 : decode b_R_findGets 74 = .ok (.iinc 4 1, 3) := by decide +kernel
theorem d_R_findGets_77 : decode b_R_findGets 77 = .ok (.goto (-74), 3) := by decide +kernel
theorem d_R_findGets_80 : decode b_R_findGets 80 = .ok (.return_, 1) := by decide +kernel
abbrev b_R_two : ByteArray := prog_11_method_88_code
def y_R_two : MethodName := ⟨"PassedOnAndBetterModel", "two", "(III)I"⟩
theorem m_R_two : MV y_R_two b_R_two 6 (some .int) 3 := ⟨mG 1428 (by decide +kernel) (by decide +kernel), mG 91 (by decide +kernel) (by decide +kernel), by decide +kernel⟩
theorem mi_R_two : Cond.instanceMethod y_R_two ∈ tbG := mG 1426 (by decide +kernel) (by decide +kernel)
theorem ms_R_two : Cond.selects y_R_two.cls y_R_two y_R_two ∈ tbG := mG 1427 (by decide +kernel) (by decide +kernel)
theorem d_R_two_0 : decode b_R_two 0 = .ok (.aload_n 0, 1) := by decide +kernel
theorem d_R_two_1 : decode b_R_two 1 = .ok (.iload_n 1, 1) := by decide +kernel
theorem d_R_two_2 : decode b_R_two 2 = .ok (.iload_n 2, 1) := by decide +kernel
theorem d_R_two_3 : decode b_R_two 3 = .ok (.invokevirtual 119, 3) := by decide +kernel
theorem d_R_two_6 : decode b_R_two 6 = .ok (.ifCond .ne 7, 3) := by decide +kernel
theorem d_R_two_9 : decode b_R_two 9 = .ok (.iconst (-1), 1) := by decide +kernel
theorem d_R_two_10 : decode b_R_two 10 = .ok (.goto 7, 3) := by decide +kernel
theorem d_R_two_13 : decode b_R_two 13 = .ok (.iload_n 3, 1) := by decide +kernel
theorem d_R_two_14 : decode b_R_two 14 = .ok (.invokestatic 223, 3) := by decide +kernel
theorem d_R_two_17 : decode b_R_two 17 = .ok (.istore 4, 2) := by decide +kernel
theorem d_R_two_19 : decode b_R_two 19 = .ok (.iload 4, 2) := by decide +kernel
theorem d_R_two_21 : decode b_R_two 21 = .ok (.ifCond .eq 10, 3) := by decide +kernel
theorem d_R_two_24 : decode b_R_two 24 = .ok (.aload_n 0, 1) := by decide +kernel
theorem d_R_two_25 : decode b_R_two 25 = .ok (.iload 4, 2) := by decide +kernel
theorem d_R_two_27 : decode b_R_two 27 = .ok (.invokevirtual 87, 3) := by decide +kernel
theorem d_R_two_30 : decode b_R_two 30 = .ok (.ireturn, 1) := by decide +kernel
theorem d_R_two_31 : decode b_R_two 31 = .ok (.aload_n 0, 1) := by decide +kernel
theorem d_R_two_32 : decode b_R_two 32 = .ok (.iload_n 1, 1) := by decide +kernel
theorem d_R_two_33 : decode b_R_two 33 = .ok (.iload_n 2, 1) := by decide +kernel
theorem d_R_two_34 : decode b_R_two 34 = .ok (.iload_n 3, 1) := by decide +kernel
theorem d_R_two_35 : decode b_R_two 35 = .ok (.invokevirtual 294, 3) := by decide +kernel
theorem d_R_two_38 : decode b_R_two 38 = .ok (.iconst 0, 1) := by decide +kernel
theorem d_R_two_39 : decode b_R_two 39 = .ok (.istore 5, 2) := by decide +kernel
theorem d_R_two_41 : decode b_R_two 41 = .ok (.iload 5, 2) := by decide +kernel
theorem d_R_two_43 : decode b_R_two 43 = .ok (.iconst 4, 1) := by decide +kernel
theorem d_R_two_44 : decode b_R_two 44 = .ok (.if_icmp .ge 72, 3) := by decide +kernel
theorem d_R_two_47 : decode b_R_two 47 = .ok (.aload_n 0, 1) := by decide +kernel
theorem d_R_two_48 : decode b_R_two 48 = .ok (.getfield 64, 3) := by decide +kernel
theorem d_R_two_51 : decode b_R_two 51 = .ok (.iconst 2, 1) := by decide +kernel
theorem d_R_two_52 : decode b_R_two 52 = .ok (.iload 5, 2) := by decide +kernel
theorem d_R_two_54 : decode b_R_two 54 = .ok (.iconst 2, 1) := by decide +kernel
theorem d_R_two_55 : decode b_R_two 55 = .ok (.ixor, 1) := by decide +kernel
theorem d_R_two_56 : decode b_R_two 56 = .ok (.imul, 1) := by decide +kernel
theorem d_R_two_57 : decode b_R_two 57 = .ok (.iaload, 1) := by decide +kernel
theorem d_R_two_58 : decode b_R_two 58 = .ok (.aload_n 0, 1) := by decide +kernel
theorem d_R_two_59 : decode b_R_two 59 = .ok (.getfield 64, 3) := by decide +kernel
theorem d_R_two_62 : decode b_R_two 62 = .ok (.iconst 2, 1) := by decide +kernel
theorem d_R_two_63 : decode b_R_two 63 = .ok (.iload 5, 2) := by decide +kernel
theorem d_R_two_65 : decode b_R_two 65 = .ok (.imul, 1) := by decide +kernel
theorem d_R_two_66 : decode b_R_two 66 = .ok (.iaload, 1) := by decide +kernel
theorem d_R_two_67 : decode b_R_two 67 = .ok (.if_icmp .gt 43, 3) := by decide +kernel
theorem d_R_two_70 : decode b_R_two 70 = .ok (.aload_n 0, 1) := by decide +kernel
theorem d_R_two_71 : decode b_R_two 71 = .ok (.getfield 64, 3) := by decide +kernel
theorem d_R_two_74 : decode b_R_two 74 = .ok (.iconst 2, 1) := by decide +kernel
theorem d_R_two_75 : decode b_R_two 75 = .ok (.iload 5, 2) := by decide +kernel
theorem d_R_two_77 : decode b_R_two 77 = .ok (.iconst 1, 1) := by decide +kernel
theorem d_R_two_78 : decode b_R_two 78 = .ok (.ixor, 1) := by decide +kernel
theorem d_R_two_79 : decode b_R_two 79 = .ok (.imul, 1) := by decide +kernel
theorem d_R_two_80 : decode b_R_two 80 = .ok (.iconst 1, 1) := by decide +kernel
theorem d_R_two_81 : decode b_R_two 81 = .ok (.iadd, 1) := by decide +kernel
theorem d_R_two_82 : decode b_R_two 82 = .ok (.iaload, 1) := by decide +kernel
theorem d_R_two_83 : decode b_R_two 83 = .ok (.aload_n 0, 1) := by decide +kernel
theorem d_R_two_84 : decode b_R_two 84 = .ok (.getfield 64, 3) := by decide +kernel
theorem d_R_two_87 : decode b_R_two 87 = .ok (.iconst 2, 1) := by decide +kernel
theorem d_R_two_88 : decode b_R_two 88 = .ok (.iload 5, 2) := by decide +kernel
theorem d_R_two_90 : decode b_R_two 90 = .ok (.imul, 1) := by decide +kernel
theorem d_R_two_91 : decode b_R_two 91 = .ok (.iconst 1, 1) := by decide +kernel
theorem d_R_two_92 : decode b_R_two 92 = .ok (.iadd, 1) := by decide +kernel
theorem d_R_two_93 : decode b_R_two 93 = .ok (.iaload, 1) := by decide +kernel
theorem d_R_two_94 : decode b_R_two 94 = .ok (.if_icmp .gt 16, 3) := by decide +kernel
theorem d_R_two_97 : decode b_R_two 97 = .ok (.bipush 10, 2) := by decide +kernel
theorem d_R_two_99 : decode b_R_two 99 = .ok (.iload 5, 2) := by decide +kernel
theorem d_R_two_101 : decode b_R_two 101 = .ok (.iconst 2, 1) := by decide +kernel
theorem d_R_two_102 : decode b_R_two 102 = .ok (.idiv, 1) := by decide +kernel
theorem d_R_two_103 : decode b_R_two 103 = .ok (.imul, 1) := by decide +kernel
theorem d_R_two_104 : decode b_R_two 104 = .ok (.iload 5, 2) := by decide +kernel
theorem d_R_two_106 : decode b_R_two 106 = .ok (.iconst 2, 1) := by decide +kernel
theorem d_R_two_107 : decode b_R_two 107 = .ok (.irem, 1) := by decide +kernel
theorem d_R_two_108 : decode b_R_two 108 = .ok (.iadd, 1) := by decide +kernel
theorem d_R_two_109 : decode b_R_two 109 = .ok (.ireturn, 1) := by decide +kernel
theorem d_R_two_110 : decode b_R_two 110 = .ok (.iinc 5 1, 3) := by decide +kernel
theorem d_R_two_113 : decode b_R_two 113 = .ok (.goto (-72), 3) := by decide +kernel
theorem d_R_two_116 : decode b_R_two 116 = .ok (.bipush (-9), 2) := by decide +kernel
theorem d_R_two_118 : decode b_R_two 118 = .ok (.ireturn, 1) := by decide +kernel
abbrev b_R_lowestOf : ByteArray := prog_11_method_3_code
def y_R_lowestOf : MethodName := ⟨"PassedOnAndBetterModel", "lowestOf", "(I)J"⟩
theorem m_R_lowestOf : MV y_R_lowestOf b_R_lowestOf 2 (some .long) 1 := ⟨mG 1444 (by decide +kernel) (by decide +kernel), mG 91 (by decide +kernel) (by decide +kernel), by decide +kernel⟩
theorem mi_R_lowestOf : Cond.instanceMethod y_R_lowestOf ∈ tbG := mG 1443 (by decide +kernel) (by decide +kernel)
theorem ms_R_lowestOf : Cond.selects y_R_lowestOf.cls y_R_lowestOf y_R_lowestOf ∈ tbG := mG 80 (by decide +kernel) (by decide +kernel)
theorem d_R_lowestOf_0 : decode b_R_lowestOf 0 = .ok (.aload_n 0, 1) := by decide +kernel
theorem d_R_lowestOf_1 : decode b_R_lowestOf 1 = .ok (.getfield 7, 3) := by decide +kernel
theorem d_R_lowestOf_4 : decode b_R_lowestOf 4 = .ok (.iload_n 1, 1) := by decide +kernel
theorem d_R_lowestOf_5 : decode b_R_lowestOf 5 = .ok (.ineg, 1) := by decide +kernel
theorem d_R_lowestOf_6 : decode b_R_lowestOf 6 = .ok (.dup2, 1) := by decide +kernel
theorem d_R_lowestOf_7 : decode b_R_lowestOf 7 = .ok (.iaload, 1) := by decide +kernel
theorem d_R_lowestOf_8 : decode b_R_lowestOf 8 = .ok (.iconst 1, 1) := by decide +kernel
theorem d_R_lowestOf_9 : decode b_R_lowestOf 9 = .ok (.iadd, 1) := by decide +kernel
theorem d_R_lowestOf_10 : decode b_R_lowestOf 10 = .ok (.iastore, 1) := by decide +kernel
theorem d_R_lowestOf_11 : decode b_R_lowestOf 11 = .ok (.ldc2_w 71, 3) := by decide +kernel
theorem d_R_lowestOf_14 : decode b_R_lowestOf 14 = .ok (.iload_n 1, 1) := by decide +kernel
theorem d_R_lowestOf_15 : decode b_R_lowestOf 15 = .ok (.i2l, 1) := by decide +kernel
theorem d_R_lowestOf_16 : decode b_R_lowestOf 16 = .ok (.lsub, 1) := by decide +kernel
theorem d_R_lowestOf_17 : decode b_R_lowestOf 17 = .ok (.lreturn, 1) := by decide +kernel
abbrev b_R_divisor : ByteArray := prog_11_method_89_code
def y_R_divisor : MethodName := ⟨"PassedOnAndBetterModel", "divisor", "(JJ)J"⟩
theorem m_R_divisor : MV y_R_divisor b_R_divisor 10 (some .long) 2 := ⟨mG 1451 (by decide +kernel) (by decide +kernel), mG 91 (by decide +kernel) (by decide +kernel), by decide +kernel⟩
theorem mi_R_divisor : Cond.static y_R_divisor ∈ tbG := mG 1450 (by decide +kernel) (by decide +kernel)
theorem d_R_divisor_0 : decode b_R_divisor 0 = .ok (.lload_n 0, 1) := by decide +kernel
theorem d_R_divisor_1 : decode b_R_divisor 1 = .ok (.lstore 4, 2) := by decide +kernel
theorem d_R_divisor_3 : decode b_R_divisor 3 = .ok (.lload_n 2, 1) := by decide +kernel
theorem d_R_divisor_4 : decode b_R_divisor 4 = .ok (.lstore 6, 2) := by decide +kernel
theorem d_R_divisor_6 : decode b_R_divisor 6 = .ok (.lload 6, 2) := by decide +kernel
theorem d_R_divisor_8 : decode b_R_divisor 8 = .ok (.lconst 0, 1) := by decide +kernel
theorem d_R_divisor_9 : decode b_R_divisor 9 = .ok (.lcmp, 1) := by decide +kernel
theorem d_R_divisor_10 : decode b_R_divisor 10 = .ok (.ifCond .eq 21, 3) := by decide +kernel
theorem d_R_divisor_13 : decode b_R_divisor 13 = .ok (.lload 4, 2) := by decide +kernel
theorem d_R_divisor_15 : decode b_R_divisor 15 = .ok (.lload 6, 2) := by decide +kernel
theorem d_R_divisor_17 : decode b_R_divisor 17 = .ok (.lrem, 1) := by decide +kernel
theorem d_R_divisor_18 : decode b_R_divisor 18 = .ok (.lstore 8, 2) := by decide +kernel
theorem d_R_divisor_20 : decode b_R_divisor 20 = .ok (.lload 6, 2) := by decide +kernel
theorem d_R_divisor_22 : decode b_R_divisor 22 = .ok (.lstore 4, 2) := by decide +kernel
theorem d_R_divisor_24 : decode b_R_divisor 24 = .ok (.lload 8, 2) := by decide +kernel
theorem d_R_divisor_26 : decode b_R_divisor 26 = .ok (.lstore 6, 2) := by decide +kernel
theorem d_R_divisor_28 : decode b_R_divisor 28 = .ok (.goto (-22), 3) := by decide +kernel
theorem d_R_divisor_31 : decode b_R_divisor 31 = .ok (.lload 4, 2) := by decide +kernel
theorem d_R_divisor_33 : decode b_R_divisor 33 = .ok (.lreturn, 1) := by decide +kernel
abbrev b_R_partOf : ByteArray := prog_11_method_90_code
def y_R_partOf : MethodName := ⟨"PassedOnAndBetterModel", "partOf", "(JJI)J"⟩
theorem m_R_partOf : MV y_R_partOf b_R_partOf 5 (some .long) 3 := ⟨mG 1448 (by decide +kernel) (by decide +kernel), mG 91 (by decide +kernel) (by decide +kernel), by decide +kernel⟩
theorem mi_R_partOf : Cond.static y_R_partOf ∈ tbG := mG 1447 (by decide +kernel) (by decide +kernel)
theorem d_R_partOf_0 : decode b_R_partOf 0 = .ok (.iload 4, 2) := by decide +kernel
theorem d_R_partOf_2 : decode b_R_partOf 2 = .ok (.ifCond .ne 7, 3) := by decide +kernel
theorem d_R_partOf_5 : decode b_R_partOf 5 = .ok (.lload_n 0, 1) := by decide +kernel
theorem d_R_partOf_6 : decode b_R_partOf 6 = .ok (.goto 4, 3) := by decide +kernel
theorem d_R_partOf_9 : decode b_R_partOf 9 = .ok (.lload_n 2, 1) := by decide +kernel
theorem d_R_partOf_10 : decode b_R_partOf 10 = .ok (.lload_n 0, 1) := by decide +kernel
theorem d_R_partOf_11 : decode b_R_partOf 11 = .ok (.lload_n 2, 1) := by decide +kernel
theorem d_R_partOf_12 : decode b_R_partOf 12 = .ok (.invokestatic 297, 3) := by decide +kernel
theorem d_R_partOf_15 : decode b_R_partOf 15 = .ok (.ldiv, 1) := by decide +kernel
theorem d_R_partOf_16 : decode b_R_partOf 16 = .ok (.lreturn, 1) := by decide +kernel
abbrev b_R_lost : ByteArray := prog_11_method_91_code
def y_R_lost : MethodName := ⟨"PassedOnAndBetterModel", "lost", "(IIIII)J"⟩
theorem m_R_lost : MV y_R_lost b_R_lost 15 (some .long) 5 := ⟨mG 1440 (by decide +kernel) (by decide +kernel), mG 91 (by decide +kernel) (by decide +kernel), by decide +kernel⟩
theorem mi_R_lost : Cond.instanceMethod y_R_lost ∈ tbG := mG 1438 (by decide +kernel) (by decide +kernel)
theorem ms_R_lost : Cond.selects y_R_lost.cls y_R_lost y_R_lost ∈ tbG := mG 1439 (by decide +kernel) (by decide +kernel)
theorem d_R_lost_0 : decode b_R_lost 0 = .ok (.aload_n 0, 1) := by decide +kernel
theorem d_R_lost_1 : decode b_R_lost 1 = .ok (.iload_n 1, 1) := by decide +kernel
theorem d_R_lost_2 : decode b_R_lost 2 = .ok (.invokevirtual 142, 3) := by decide +kernel
theorem d_R_lost_5 : decode b_R_lost 5 = .ok (.ifCond .eq 11, 3) := by decide +kernel
theorem d_R_lost_8 : decode b_R_lost 8 = .ok (.aload_n 0, 1) := by decide +kernel
theorem d_R_lost_9 : decode b_R_lost 9 = .ok (.iload_n 2, 1) := by decide +kernel
theorem d_R_lost_10 : decode b_R_lost 10 = .ok (.invokevirtual 76, 3) := by decide +kernel
theorem d_R_lost_13 : decode b_R_lost 13 = .ok (.ifCond .ne 7, 3) := by decide +kernel
theorem d_R_lost_16 : decode b_R_lost 16 = .ok (.iconst (-1), 1) := by decide +kernel
theorem d_R_lost_17 : decode b_R_lost 17 = .ok (.goto 52, 3) := by decide +kernel
theorem d_R_lost_20 : decode b_R_lost 20 = .ok (.iload_n 3, 1) := by decide +kernel
theorem d_R_lost_21 : decode b_R_lost 21 = .ok (.ifCond .lt 9, 3) := by decide +kernel
theorem d_R_lost_24 : decode b_R_lost 24 = .ok (.iload 4, 2) := by decide +kernel
theorem d_R_lost_26 : decode b_R_lost 26 = .ok (.iconst 2, 1) := by decide +kernel
theorem d_R_lost_27 : decode b_R_lost 27 = .ok (.if_icmp .ge 8, 3) := by decide +kernel
theorem d_R_lost_30 : decode b_R_lost 30 = .ok (.bipush (-4), 2) := by decide +kernel
theorem d_R_lost_32 : decode b_R_lost 32 = .ok (.goto 37, 3) := by decide +kernel
theorem d_R_lost_35 : decode b_R_lost 35 = .ok (.iload_n 3, 1) := by decide +kernel
theorem d_R_lost_36 : decode b_R_lost 36 = .ok (.bipush 8, 2) := by decide +kernel
theorem d_R_lost_38 : decode b_R_lost 38 = .ok (.if_icmp .gt 10, 3) := by decide +kernel
theorem d_R_lost_41 : decode b_R_lost 41 = .ok (.iload 4, 2) := by decide +kernel
theorem d_R_lost_43 : decode b_R_lost 43 = .ok (.bipush 20, 2) := by decide +kernel
theorem d_R_lost_45 : decode b_R_lost 45 = .ok (.if_icmp .le 8, 3) := by decide +kernel
theorem d_R_lost_48 : decode b_R_lost 48 = .ok (.bipush (-6), 2) := by decide +kernel
theorem d_R_lost_50 : decode b_R_lost 50 = .ok (.goto 19, 3) := by decide +kernel
theorem d_R_lost_53 : decode b_R_lost 53 = .ok (.iload 5, 2) := by decide +kernel
theorem d_R_lost_55 : decode b_R_lost 55 = .ok (.iconst 0, 1) := by decide +kernel
theorem d_R_lost_56 : decode b_R_lost 56 = .ok (.iconst 1, 1) := by decide +kernel
theorem d_R_lost_57 : decode b_R_lost 57 = .ok (.invokestatic 98, 3) := by decide +kernel
theorem d_R_lost_60 : decode b_R_lost 60 = .ok (.ifCond .ne 8, 3) := by decide +kernel
theorem d_R_lost_63 : decode b_R_lost 63 = .ok (.bipush (-2), 2) := by decide +kernel
theorem d_R_lost_65 : decode b_R_lost 65 = .ok (.goto 4, 3) := by decide +kernel
theorem d_R_lost_68 : decode b_R_lost 68 = .ok (.iconst 0, 1) := by decide +kernel
theorem d_R_lost_69 : decode b_R_lost 69 = .ok (.istore 6, 2) := by decide +kernel
theorem d_R_lost_71 : decode b_R_lost 71 = .ok (.iload 6, 2) := by decide +kernel
theorem d_R_lost_73 : decode b_R_lost 73 = .ok (.ifCond .eq 10, 3) := by decide +kernel
theorem d_R_lost_76 : decode b_R_lost 76 = .ok (.aload_n 0, 1) := by decide +kernel
theorem d_R_lost_77 : decode b_R_lost 77 = .ok (.iload 6, 2) := by decide +kernel
theorem d_R_lost_79 : decode b_R_lost 79 = .ok (.invokevirtual 301, 3) := by decide +kernel
theorem d_R_lost_82 : decode b_R_lost 82 = .ok (.lreturn, 1) := by decide +kernel
theorem d_R_lost_83 : decode b_R_lost 83 = .ok (.lconst 0, 1) := by decide +kernel
theorem d_R_lost_84 : decode b_R_lost 84 = .ok (.lstore 7, 2) := by decide +kernel
theorem d_R_lost_86 : decode b_R_lost 86 = .ok (.lconst 1, 1) := by decide +kernel
theorem d_R_lost_87 : decode b_R_lost 87 = .ok (.lstore 9, 2) := by decide +kernel
theorem d_R_lost_89 : decode b_R_lost 89 = .ok (.iconst 0, 1) := by decide +kernel
theorem d_R_lost_90 : decode b_R_lost 90 = .ok (.istore 11, 2) := by decide +kernel
theorem d_R_lost_92 : decode b_R_lost 92 = .ok (.iload 11, 2) := by decide +kernel
theorem d_R_lost_94 : decode b_R_lost 94 = .ok (.iload_n 3, 1) := by decide +kernel
theorem d_R_lost_95 : decode b_R_lost 95 = .ok (.if_icmp .ge 17, 3) := by decide +kernel
theorem d_R_lost_98 : decode b_R_lost 98 = .ok (.lload 9, 2) := by decide +kernel
theorem d_R_lost_100 : decode b_R_lost 100 = .ok (.iload 4, 2) := by decide +kernel
theorem d_R_lost_102 : decode b_R_lost 102 = .ok (.i2l, 1) := by decide +kernel
theorem d_R_lost_103 : decode b_R_lost 103 = .ok (.lmul, 1) := by decide +kernel
theorem d_R_lost_104 : decode b_R_lost 104 = .ok (.lstore 9, 2) := by decide +kernel
theorem d_R_lost_106 : decode b_R_lost 106 = .ok (.iinc 11 1, 3) := by decide +kernel
theorem d_R_lost_109 : decode b_R_lost 109 = .ok (.goto (-17), 3) := by decide +kernel
theorem d_R_lost_112 : decode b_R_lost 112 = .ok (.iconst 0, 1) := by decide +kernel
theorem d_R_lost_113 : decode b_R_lost 113 = .ok (.istore 11, 2) := by decide +kernel
theorem d_R_lost_115 : decode b_R_lost 115 = .ok (.iload 11, 2) := by decide +kernel
theorem d_R_lost_117 : decode b_R_lost 117 = .ok (.iconst 1, 1) := by decide +kernel
theorem d_R_lost_118 : decode b_R_lost 118 = .ok (.iload_n 3, 1) := by decide +kernel
theorem d_R_lost_119 : decode b_R_lost 119 = .ok (.ishl, 1) := by decide +kernel
theorem d_R_lost_120 : decode b_R_lost 120 = .ok (.if_icmp .ge 91, 3) := by decide +kernel
theorem d_R_lost_123 : decode b_R_lost 123 = .ok (.aload_n 0, 1) := by decide +kernel
theorem d_R_lost_124 : decode b_R_lost 124 = .ok (.invokevirtual 226, 3) := by decide +kernel
theorem d_R_lost_127 : decode b_R_lost 127 = .ok (.lconst 1, 1) := by decide +kernel
theorem d_R_lost_128 : decode b_R_lost 128 = .ok (.lstore 12, 2) := by decide +kernel
theorem d_R_lost_130 : decode b_R_lost 130 = .ok (.iconst 0, 1) := by decide +kernel
theorem d_R_lost_131 : decode b_R_lost 131 = .ok (.istore 14, 2) := by decide +kernel
theorem d_R_lost_133 : decode b_R_lost 133 = .ok (.iload 14, 2) := by decide +kernel
theorem d_R_lost_135 : decode b_R_lost 135 = .ok (.iload_n 3, 1) := by decide +kernel
theorem d_R_lost_136 : decode b_R_lost 136 = .ok (.if_icmp .ge 44, 3) := by decide +kernel
theorem d_R_lost_139 : decode b_R_lost 139 = .ok (.lload 12, 2) := by decide +kernel
theorem d_R_lost_141 : decode b_R_lost 141 = .ok (.iload 11, 2) := by decide +kernel
theorem d_R_lost_143 : decode b_R_lost 143 = .ok (.iload 14, 2) := by decide +kernel
theorem d_R_lost_145 : decode b_R_lost 145 = .ok (.invokestatic 194, 3) := by decide +kernel
theorem d_R_lost_148 : decode b_R_lost 148 = .ok (.ifCond .eq 7, 3) := by decide +kernel
theorem d_R_lost_151 : decode b_R_lost 151 = .ok (.lconst 1, 1) := by decide +kernel
theorem d_R_lost_152 : decode b_R_lost 152 = .ok (.goto 8, 3) := by decide +kernel
theorem d_R_lost_155 : decode b_R_lost 155 = .ok (.iload 4, 2) := by decide +kernel
theorem d_R_lost_157 : decode b_R_lost 157 = .ok (.iconst 1, 1) := by decide +kernel
theorem d_R_lost_158 : decode b_R_lost 158 = .ok (.isub, 1) := by decide +kernel
theorem d_R_lost_159 : decode b_R_lost 159 = .ok (.i2l, 1) := by decide +kernel
theorem d_R_lost_160 : decode b_R_lost 160 = .ok (.lmul, 1) := by decide +kernel
theorem d_R_lost_161 : decode b_R_lost 161 = .ok (.lstore 12, 2) := by decide +kernel
theorem d_R_lost_163 : decode b_R_lost 163 = .ok (.aload_n 0, 1) := by decide +kernel
theorem d_R_lost_164 : decode b_R_lost 164 = .ok (.iload 11, 2) := by decide +kernel
theorem d_R_lost_166 : decode b_R_lost 166 = .ok (.iload 14, 2) := by decide +kernel
theorem d_R_lost_168 : decode b_R_lost 168 = .ok (.invokestatic 194, 3) := by decide +kernel
theorem d_R_lost_171 : decode b_R_lost 171 = .ok (.invokevirtual 209, 3) := by decide +kernel
theorem d_R_lost_174 : decode b_R_lost 174 = .ok (.iinc 14 1, 3) := by decide +kernel
theorem d_R_lost_177 : decode b_R_lost 177 = .ok (.goto (-44), 3) := by decide +kernel
theorem d_R_lost_180 : decode b_R_lost 180 = .ok (.lload 7, 2) := by decide +kernel
theorem d_R_lost_182 : decode b_R_lost 182 = .ok (.aload_n 0, 1) := by decide +kernel
theorem d_R_lost_183 : decode b_R_lost 183 = .ok (.getfield 31, 3) := by decide +kernel
theorem d_R_lost_186 : decode b_R_lost 186 = .ok (.iload_n 1, 1) := by decide +kernel
theorem d_R_lost_187 : decode b_R_lost 187 = .ok (.iaload, 1) := by decide +kernel
theorem d_R_lost_188 : decode b_R_lost 188 = .ok (.iload_n 2, 1) := by decide +kernel
theorem d_R_lost_189 : decode b_R_lost 189 = .ok (.if_icmp .ne 8, 3) := by decide +kernel
theorem d_R_lost_192 : decode b_R_lost 192 = .ok (.lload 12, 2) := by decide +kernel
theorem d_R_lost_194 : decode b_R_lost 194 = .ok (.goto 4, 3) := by decide +kernel
theorem d_R_lost_197 : decode b_R_lost 197 = .ok (.lconst 0, 1) := by decide +kernel
theorem d_R_lost_198 : decode b_R_lost 198 = .ok (.ladd, 1) := by decide +kernel
theorem d_R_lost_199 : decode b_R_lost 199 = .ok (.lstore 7, 2) := by decide +kernel
theorem d_R_lost_201 : decode b_R_lost 201 = .ok (.aload_n 0, 1) := by decide +kernel
theorem d_R_lost_202 : decode b_R_lost 202 = .ok (.invokevirtual 229, 3) := by decide +kernel
theorem d_R_lost_205 : decode b_R_lost 205 = .ok (.iinc 11 1, 3) := by decide +kernel
theorem d_R_lost_208 : decode b_R_lost 208 = .ok (.goto (-93), 3) := by decide +kernel
theorem d_R_lost_211 : decode b_R_lost 211 = .ok (.lload 7, 2) := by decide +kernel
theorem d_R_lost_213 : decode b_R_lost 213 = .ok (.lload 9, 2) := by decide +kernel
theorem d_R_lost_215 : decode b_R_lost 215 = .ok (.iload 5, 2) := by decide +kernel
theorem d_R_lost_217 : decode b_R_lost 217 = .ok (.invokestatic 305, 3) := by decide +kernel
theorem d_R_lost_220 : decode b_R_lost 220 = .ok (.lreturn, 1) := by decide +kernel
abbrev b_R_added : ByteArray := prog_11_method_92_code
def y_R_added : MethodName := ⟨"PassedOnAndBetterModel", "added", "(II)I"⟩
theorem m_R_added : MV y_R_added b_R_added 7 (some .int) 2 := ⟨mG 1455 (by decide +kernel) (by decide +kernel), mG 91 (by decide +kernel) (by decide +kernel), by decide +kernel⟩
theorem mi_R_added : Cond.instanceMethod y_R_added ∈ tbG := mG 1453 (by decide +kernel) (by decide +kernel)
theorem ms_R_added : Cond.selects y_R_added.cls y_R_added y_R_added ∈ tbG := mG 1454 (by decide +kernel) (by decide +kernel)
theorem d_R_added_0 : decode b_R_added 0 = .ok (.iload_n 1, 1) := by decide +kernel
theorem d_R_added_1 : decode b_R_added 1 = .ok (.iconst (-1), 1) := by decide +kernel
theorem d_R_added_2 : decode b_R_added 2 = .ok (.if_icmp .eq 15, 3) := by decide +kernel
theorem d_R_added_5 : decode b_R_added 5 = .ok (.aload_n 0, 1) := by decide +kernel
theorem d_R_added_6 : decode b_R_added 6 = .ok (.iload_n 1, 1) := by decide +kernel
theorem d_R_added_7 : decode b_R_added 7 = .ok (.invokevirtual 76, 3) := by decide +kernel
theorem d_R_added_10 : decode b_R_added 10 = .ok (.ifCond .ne 7, 3) := by decide +kernel
theorem d_R_added_13 : decode b_R_added 13 = .ok (.iconst (-1), 1) := by decide +kernel
theorem d_R_added_14 : decode b_R_added 14 = .ok (.goto 7, 3) := by decide +kernel
theorem d_R_added_17 : decode b_R_added 17 = .ok (.iload_n 2, 1) := by decide +kernel
theorem d_R_added_18 : decode b_R_added 18 = .ok (.invokestatic 223, 3) := by decide +kernel
theorem d_R_added_21 : decode b_R_added 21 = .ok (.istore_n 3, 1) := by decide +kernel
theorem d_R_added_22 : decode b_R_added 22 = .ok (.iload_n 3, 1) := by decide +kernel
theorem d_R_added_23 : decode b_R_added 23 = .ok (.ifCond .eq 9, 3) := by decide +kernel
theorem d_R_added_26 : decode b_R_added 26 = .ok (.aload_n 0, 1) := by decide +kernel
theorem d_R_added_27 : decode b_R_added 27 = .ok (.iload_n 3, 1) := by decide +kernel
theorem d_R_added_28 : decode b_R_added 28 = .ok (.invokevirtual 87, 3) := by decide +kernel
theorem d_R_added_31 : decode b_R_added 31 = .ok (.ireturn, 1) := by decide +kernel
theorem d_R_added_32 : decode b_R_added 32 = .ok (.aload_n 0, 1) := by decide +kernel
theorem d_R_added_33 : decode b_R_added 33 = .ok (.invokevirtual 226, 3) := by decide +kernel
theorem d_R_added_36 : decode b_R_added 36 = .ok (.aload_n 0, 1) := by decide +kernel
theorem d_R_added_37 : decode b_R_added 37 = .ok (.iload_n 2, 1) := by decide +kernel
theorem d_R_added_38 : decode b_R_added 38 = .ok (.invokevirtual 129, 3) := by decide +kernel
theorem d_R_added_41 : decode b_R_added 41 = .ok (.aload_n 0, 1) := by decide +kernel
theorem d_R_added_42 : decode b_R_added 42 = .ok (.invokevirtual 229, 3) := by decide +kernel
theorem d_R_added_45 : decode b_R_added 45 = .ok (.iload_n 1, 1) := by decide +kernel
theorem d_R_added_46 : decode b_R_added 46 = .ok (.ifCond .lt 10, 3) := by decide +kernel
theorem d_R_added_49 : decode b_R_added 49 = .ok (.aload_n 0, 1) := by decide +kernel
theorem d_R_added_50 : decode b_R_added 50 = .ok (.getfield 43, 3) := by decide +kernel
theorem d_R_added_53 : decode b_R_added 53 = .ok (.iload_n 1, 1) := by decide +kernel
theorem d_R_added_54 : decode b_R_added 54 = .ok (.iaload, 1) := by decide +kernel
theorem d_R_added_55 : decode b_R_added 55 = .ok (.ireturn, 1) := by decide +kernel
theorem d_R_added_56 : decode b_R_added 56 = .ok (.aload_n 0, 1) := by decide +kernel
theorem d_R_added_57 : decode b_R_added 57 = .ok (.getfield 43, 3) := by decide +kernel
theorem d_R_added_60 : decode b_R_added 60 = .ok (.iconst 0, 1) := by decide +kernel
theorem d_R_added_61 : decode b_R_added 61 = .ok (.iaload, 1) := by decide +kernel
theorem d_R_added_62 : decode b_R_added 62 = .ok (.istore 4, 2) := by decide +kernel
theorem d_R_added_64 : decode b_R_added 64 = .ok (.aload_n 0, 1) := by decide +kernel
theorem d_R_added_65 : decode b_R_added 65 = .ok (.getfield 43, 3) := by decide +kernel
theorem d_R_added_68 : decode b_R_added 68 = .ok (.iconst 0, 1) := by decide +kernel
theorem d_R_added_69 : decode b_R_added 69 = .ok (.iaload, 1) := by decide +kernel
theorem d_R_added_70 : decode b_R_added 70 = .ok (.istore 5, 2) := by decide +kernel
theorem d_R_added_72 : decode b_R_added 72 = .ok (.iconst 1, 1) := by decide +kernel
theorem d_R_added_73 : decode b_R_added 73 = .ok (.istore 6, 2) := by decide +kernel
theorem d_R_added_75 : decode b_R_added 75 = .ok (.iload 6, 2) := by decide +kernel
theorem d_R_added_77 : decode b_R_added 77 = .ok (.aload_n 0, 1) := by decide +kernel
theorem d_R_added_78 : decode b_R_added 78 = .ok (.getfield 73, 3) := by decide +kernel
theorem d_R_added_81 : decode b_R_added 81 = .ok (.if_icmp .ge 61, 3) := by decide +kernel
theorem d_R_added_84 : decode b_R_added 84 = .ok (.aload_n 0, 1) := by decide +kernel
theorem d_R_added_85 : decode b_R_added 85 = .ok (.getfield 43, 3) := by decide +kernel
theorem d_R_added_88 : decode b_R_added 88 = .ok (.iload 6, 2) := by decide +kernel
theorem d_R_added_90 : decode b_R_added 90 = .ok (.iaload, 1) := by decide +kernel
theorem d_R_added_91 : decode b_R_added 91 = .ok (.iload 4, 2) := by decide +kernel
theorem d_R_added_93 : decode b_R_added 93 = .ok (.if_icmp .ge 13, 3) := by decide +kernel
theorem d_R_added_96 : decode b_R_added 96 = .ok (.aload_n 0, 1) := by decide +kernel
theorem d_R_added_97 : decode b_R_added 97 = .ok (.getfield 43, 3) := by decide +kernel
theorem d_R_added_100 : decode b_R_added 100 = .ok (.iload 6, 2) := by decide +kernel
theorem d_R_added_102 : decode b_R_added 102 = .ok (.iaload, 1) := by decide +kernel
theorem d_R_added_103 : decode b_R_added 103 = .ok (.goto 5, 3) := by decide +kernel
theorem d_R_added_106 : decode b_R_added 106 = .ok (.iload 4, 2) := by decide +kernel
theorem d_R_added_108 : decode b_R_added 108 = .ok (.istore 4, 2) := by decide +kernel
theorem d_R_added_110 : decode b_R_added 110 = .ok (.aload_n 0, 1) := by decide +kernel
theorem d_R_added_111 : decode b_R_added 111 = .ok (.getfield 43, 3) := by decide +kernel
theorem d_R_added_114 : decode b_R_added 114 = .ok (.iload 6, 2) := by decide +kernel
theorem d_R_added_116 : decode b_R_added 116 = .ok (.iaload, 1) := by decide +kernel
theorem d_R_added_117 : decode b_R_added 117 = .ok (.iload 5, 2) := by decide +kernel
theorem d_R_added_119 : decode b_R_added 119 = .ok (.if_icmp .le 13, 3) := by decide +kernel
theorem d_R_added_122 : decode b_R_added 122 = .ok (.aload_n 0, 1) := by decide +kernel
theorem d_R_added_123 : decode b_R_added 123 = .ok (.getfield 43, 3) := by decide +kernel
theorem d_R_added_126 : decode b_R_added 126 = .ok (.iload 6, 2) := by decide +kernel
theorem d_R_added_128 : decode b_R_added 128 = .ok (.iaload, 1) := by decide +kernel
theorem d_R_added_129 : decode b_R_added 129 = .ok (.goto 5, 3) := by decide +kernel
theorem d_R_added_132 : decode b_R_added 132 = .ok (.iload 5, 2) := by decide +kernel
theorem d_R_added_134 : decode b_R_added 134 = .ok (.istore 5, 2) := by decide +kernel
theorem d_R_added_136 : decode b_R_added 136 = .ok (.iinc 6 1, 3) := by decide +kernel
theorem d_R_added_139 : decode b_R_added 139 = .ok (.goto (-64), 3) := by decide +kernel
theorem d_R_added_142 : decode b_R_added 142 = .ok (.iload 5, 2) := by decide +kernel
theorem d_R_added_144 : decode b_R_added 144 = .ok (.iload 4, 2) := by decide +kernel
theorem d_R_added_146 : decode b_R_added 146 = .ok (.isub, 1) := by decide +kernel
theorem d_R_added_147 : decode b_R_added 147 = .ok (.ireturn, 1) := by decide +kernel
abbrev b_R_dearest : ByteArray := prog_11_method_93_code
def y_R_dearest : MethodName := ⟨"PassedOnAndBetterModel", "dearest", "(I)I"⟩
theorem m_R_dearest : MV y_R_dearest b_R_dearest 4 (some .int) 1 := ⟨mG 1459 (by decide +kernel) (by decide +kernel), mG 91 (by decide +kernel) (by decide +kernel), by decide +kernel⟩
theorem mi_R_dearest : Cond.instanceMethod y_R_dearest ∈ tbG := mG 1457 (by decide +kernel) (by decide +kernel)
theorem ms_R_dearest : Cond.selects y_R_dearest.cls y_R_dearest y_R_dearest ∈ tbG := mG 1458 (by decide +kernel) (by decide +kernel)
theorem d_R_dearest_0 : decode b_R_dearest 0 = .ok (.iload_n 1, 1) := by decide +kernel
theorem d_R_dearest_1 : decode b_R_dearest 1 = .ok (.iconst 0, 1) := by decide +kernel
theorem d_R_dearest_2 : decode b_R_dearest 2 = .ok (.iconst 1, 1) := by decide +kernel
theorem d_R_dearest_3 : decode b_R_dearest 3 = .ok (.invokestatic 98, 3) := by decide +kernel
theorem d_R_dearest_6 : decode b_R_dearest 6 = .ok (.ifCond .ne 10, 3) := by decide +kernel
theorem d_R_dearest_9 : decode b_R_dearest 9 = .ok (.aload_n 0, 1) := by decide +kernel
theorem d_R_dearest_10 : decode b_R_dearest 10 = .ok (.bipush (-2), 2) := by decide +kernel
theorem d_R_dearest_12 : decode b_R_dearest 12 = .ok (.invokevirtual 87, 3) := by decide +kernel
theorem d_R_dearest_15 : decode b_R_dearest 15 = .ok (.ireturn, 1) := by decide +kernel
theorem d_R_dearest_16 : decode b_R_dearest 16 = .ok (.bipush (-9), 2) := by decide +kernel
theorem d_R_dearest_18 : decode b_R_dearest 18 = .ok (.istore_n 2, 1) := by decide +kernel
theorem d_R_dearest_19 : decode b_R_dearest 19 = .ok (.iconst 0, 1) := by decide +kernel
theorem d_R_dearest_20 : decode b_R_dearest 20 = .ok (.istore_n 3, 1) := by decide +kernel
theorem d_R_dearest_21 : decode b_R_dearest 21 = .ok (.iload_n 3, 1) := by decide +kernel
theorem d_R_dearest_22 : decode b_R_dearest 22 = .ok (.aload_n 0, 1) := by decide +kernel
theorem d_R_dearest_23 : decode b_R_dearest 23 = .ok (.getfield 67, 3) := by decide +kernel
theorem d_R_dearest_26 : decode b_R_dearest 26 = .ok (.if_icmp .ge 52, 3) := by decide +kernel
theorem d_R_dearest_29 : decode b_R_dearest 29 = .ok (.iload_n 2, 1) := by decide +kernel
theorem d_R_dearest_30 : decode b_R_dearest 30 = .ok (.ifCond .lt 40, 3) := by decide +kernel
theorem d_R_dearest_33 : decode b_R_dearest 33 = .ok (.iload_n 1, 1) := by decide +kernel
theorem d_R_dearest_34 : decode b_R_dearest 34 = .ok (.ifCond .ne 21, 3) := by decide +kernel
theorem d_R_dearest_37 : decode b_R_dearest 37 = .ok (.aload_n 0, 1) := by decide +kernel
theorem d_R_dearest_38 : decode b_R_dearest 38 = .ok (.getfield 25, 3) := by decide +kernel
theorem d_R_dearest_41 : decode b_R_dearest 41 = .ok (.iload_n 3, 1) := by decide +kernel
theorem d_R_dearest_42 : decode b_R_dearest 42 = .ok (.iaload, 1) := by decide +kernel
theorem d_R_dearest_43 : decode b_R_dearest 43 = .ok (.aload_n 0, 1) := by decide +kernel
theorem d_R_dearest_44 : decode b_R_dearest 44 = .ok (.getfield 25, 3) := by decide +kernel
theorem d_R_dearest_47 : decode b_R_dearest 47 = .ok (.iload_n 2, 1) := by decide +kernel
theorem d_R_dearest_48 : decode b_R_dearest 48 = .ok (.iaload, 1) := by decide +kernel
theorem d_R_dearest_49 : decode b_R_dearest 49 = .ok (.if_icmp .le 23, 3) := by decide +kernel
theorem d_R_dearest_52 : decode b_R_dearest 52 = .ok (.goto 18, 3) := by decide +kernel
theorem d_R_dearest_55 : decode b_R_dearest 55 = .ok (.aload_n 0, 1) := by decide +kernel
theorem d_R_dearest_56 : decode b_R_dearest 56 = .ok (.getfield 28, 3) := by decide +kernel
theorem d_R_dearest_59 : decode b_R_dearest 59 = .ok (.iload_n 3, 1) := by decide +kernel
theorem d_R_dearest_60 : decode b_R_dearest 60 = .ok (.iaload, 1) := by decide +kernel
theorem d_R_dearest_61 : decode b_R_dearest 61 = .ok (.aload_n 0, 1) := by decide +kernel
theorem d_R_dearest_62 : decode b_R_dearest 62 = .ok (.getfield 28, 3) := by decide +kernel
theorem d_R_dearest_65 : decode b_R_dearest 65 = .ok (.iload_n 2, 1) := by decide +kernel
theorem d_R_dearest_66 : decode b_R_dearest 66 = .ok (.iaload, 1) := by decide +kernel
theorem d_R_dearest_67 : decode b_R_dearest 67 = .ok (.if_icmp .le 5, 3) := by decide +kernel
theorem d_R_dearest_70 : decode b_R_dearest 70 = .ok (.iload_n 3, 1) := by decide +kernel
theorem d_R_dearest_71 : decode b_R_dearest 71 = .ok (.istore_n 2, 1) := by decide +kernel
theorem d_R_dearest_72 : decode b_R_dearest 72 = .ok (.iinc 3 1, 3) := by decide +kernel
theorem d_R_dearest_75 : decode b_R_dearest 75 = .ok (.goto (-54), 3) := by decide +kernel
theorem d_R_dearest_78 : decode b_R_dearest 78 = .ok (.iload_n 2, 1) := by decide +kernel
theorem d_R_dearest_79 : decode b_R_dearest 79 = .ok (.ireturn, 1) := by decide +kernel
abbrev b_R_tooLarge : ByteArray := prog_11_method_94_code
def y_R_tooLarge : MethodName := ⟨"PassedOnAndBetterModel", "tooLarge", "(I)I"⟩
theorem m_R_tooLarge : MV y_R_tooLarge b_R_tooLarge 4 (some .int) 1 := ⟨mG 1463 (by decide +kernel) (by decide +kernel), mG 91 (by decide +kernel) (by decide +kernel), by decide +kernel⟩
theorem mi_R_tooLarge : Cond.instanceMethod y_R_tooLarge ∈ tbG := mG 1461 (by decide +kernel) (by decide +kernel)
theorem ms_R_tooLarge : Cond.selects y_R_tooLarge.cls y_R_tooLarge y_R_tooLarge ∈ tbG := mG 1462 (by decide +kernel) (by decide +kernel)
theorem d_R_tooLarge_0 : decode b_R_tooLarge 0 = .ok (.aload_n 0, 1) := by decide +kernel
theorem d_R_tooLarge_1 : decode b_R_tooLarge 1 = .ok (.iload_n 1, 1) := by decide +kernel
theorem d_R_tooLarge_2 : decode b_R_tooLarge 2 = .ok (.invokevirtual 142, 3) := by decide +kernel
theorem d_R_tooLarge_5 : decode b_R_tooLarge 5 = .ok (.ifCond .ne 9, 3) := by decide +kernel
theorem d_R_tooLarge_8 : decode b_R_tooLarge 8 = .ok (.aload_n 0, 1) := by decide +kernel
theorem d_R_tooLarge_9 : decode b_R_tooLarge 9 = .ok (.iconst (-1), 1) := by decide +kernel
theorem d_R_tooLarge_10 : decode b_R_tooLarge 10 = .ok (.invokevirtual 87, 3) := by decide +kernel
theorem d_R_tooLarge_13 : decode b_R_tooLarge 13 = .ok (.ireturn, 1) := by decide +kernel
theorem d_R_tooLarge_14 : decode b_R_tooLarge 14 = .ok (.iconst 0, 1) := by decide +kernel
theorem d_R_tooLarge_15 : decode b_R_tooLarge 15 = .ok (.istore_n 2, 1) := by decide +kernel
theorem d_R_tooLarge_16 : decode b_R_tooLarge 16 = .ok (.iconst 0, 1) := by decide +kernel
theorem d_R_tooLarge_17 : decode b_R_tooLarge 17 = .ok (.istore_n 3, 1) := by decide +kernel
theorem d_R_tooLarge_18 : decode b_R_tooLarge 18 = .ok (.iload_n 3, 1) := by decide +kernel
theorem d_R_tooLarge_19 : decode b_R_tooLarge 19 = .ok (.aload_n 0, 1) := by decide +kernel
theorem d_R_tooLarge_20 : decode b_R_tooLarge 20 = .ok (.getfield 73, 3) := by decide +kernel
theorem d_R_tooLarge_23 : decode b_R_tooLarge 23 = .ok (.if_icmp .ge 32, 3) := by decide +kernel
theorem d_R_tooLarge_26 : decode b_R_tooLarge 26 = .ok (.iload_n 2, 1) := by decide +kernel
theorem d_R_tooLarge_27 : decode b_R_tooLarge 27 = .ok (.aload_n 0, 1) := by decide +kernel
theorem d_R_tooLarge_28 : decode b_R_tooLarge 28 = .ok (.getfield 28, 3) := by decide +kernel
theorem d_R_tooLarge_31 : decode b_R_tooLarge 31 = .ok (.iload_n 1, 1) := by decide +kernel
theorem d_R_tooLarge_32 : decode b_R_tooLarge 32 = .ok (.iaload, 1) := by decide +kernel
theorem d_R_tooLarge_33 : decode b_R_tooLarge 33 = .ok (.aload_n 0, 1) := by decide +kernel
theorem d_R_tooLarge_34 : decode b_R_tooLarge 34 = .ok (.getfield 19, 3) := by decide +kernel
theorem d_R_tooLarge_37 : decode b_R_tooLarge 37 = .ok (.iload_n 3, 1) := by decide +kernel
theorem d_R_tooLarge_38 : decode b_R_tooLarge 38 = .ok (.iaload, 1) := by decide +kernel
theorem d_R_tooLarge_39 : decode b_R_tooLarge 39 = .ok (.if_icmp .le 7, 3) := by decide +kernel
theorem d_R_tooLarge_42 : decode b_R_tooLarge 42 = .ok (.iconst 1, 1) := by decide +kernel
theorem d_R_tooLarge_43 : decode b_R_tooLarge 43 = .ok (.goto 4, 3) := by decide +kernel
theorem d_R_tooLarge_46 : decode b_R_tooLarge 46 = .ok (.iconst 0, 1) := by decide +kernel
theorem d_R_tooLarge_47 : decode b_R_tooLarge 47 = .ok (.iadd, 1) := by decide +kernel
theorem d_R_tooLarge_48 : decode b_R_tooLarge 48 = .ok (.istore_n 2, 1) := by decide +kernel
theorem d_R_tooLarge_49 : decode b_R_tooLarge 49 = .ok (.iinc 3 1, 3) := by decide +kernel
theorem d_R_tooLarge_52 : decode b_R_tooLarge 52 = .ok (.goto (-34), 3) := by decide +kernel
theorem d_R_tooLarge_55 : decode b_R_tooLarge 55 = .ok (.iload_n 2, 1) := by decide +kernel
theorem d_R_tooLarge_56 : decode b_R_tooLarge 56 = .ok (.ireturn, 1) := by decide +kernel
abbrev b_R_hasty : ByteArray := prog_11_method_95_code
def y_R_hasty : MethodName := ⟨"PassedOnAndBetterModel", "hasty", "(I)I"⟩
theorem m_R_hasty : MV y_R_hasty b_R_hasty 4 (some .int) 1 := ⟨mG 1467 (by decide +kernel) (by decide +kernel), mG 91 (by decide +kernel) (by decide +kernel), by decide +kernel⟩
theorem mi_R_hasty : Cond.instanceMethod y_R_hasty ∈ tbG := mG 1465 (by decide +kernel) (by decide +kernel)
theorem ms_R_hasty : Cond.selects y_R_hasty.cls y_R_hasty y_R_hasty ∈ tbG := mG 1466 (by decide +kernel) (by decide +kernel)
theorem d_R_hasty_0 : decode b_R_hasty 0 = .ok (.iload_n 1, 1) := by decide +kernel
theorem d_R_hasty_1 : decode b_R_hasty 1 = .ok (.iconst 0, 1) := by decide +kernel
theorem d_R_hasty_2 : decode b_R_hasty 2 = .ok (.iconst 1, 1) := by decide +kernel
theorem d_R_hasty_3 : decode b_R_hasty 3 = .ok (.invokestatic 98, 3) := by decide +kernel
theorem d_R_hasty_6 : decode b_R_hasty 6 = .ok (.ifCond .ne 10, 3) := by decide +kernel
theorem d_R_hasty_9 : decode b_R_hasty 9 = .ok (.aload_n 0, 1) := by decide +kernel
theorem d_R_hasty_10 : decode b_R_hasty 10 = .ok (.bipush (-2), 2) := by decide +kernel
theorem d_R_hasty_12 : decode b_R_hasty 12 = .ok (.invokevirtual 87, 3) := by decide +kernel
theorem d_R_hasty_15 : decode b_R_hasty 15 = .ok (.ireturn, 1) := by decide +kernel
theorem d_R_hasty_16 : decode b_R_hasty 16 = .ok (.bipush (-9), 2) := by decide +kernel
theorem d_R_hasty_18 : decode b_R_hasty 18 = .ok (.istore_n 2, 1) := by decide +kernel
theorem d_R_hasty_19 : decode b_R_hasty 19 = .ok (.iconst 0, 1) := by decide +kernel
theorem d_R_hasty_20 : decode b_R_hasty 20 = .ok (.istore_n 3, 1) := by decide +kernel
theorem d_R_hasty_21 : decode b_R_hasty 21 = .ok (.iload_n 3, 1) := by decide +kernel
theorem d_R_hasty_22 : decode b_R_hasty 22 = .ok (.aload_n 0, 1) := by decide +kernel
theorem d_R_hasty_23 : decode b_R_hasty 23 = .ok (.getfield 73, 3) := by decide +kernel
theorem d_R_hasty_26 : decode b_R_hasty 26 = .ok (.if_icmp .ge 50, 3) := by decide +kernel
theorem d_R_hasty_29 : decode b_R_hasty 29 = .ok (.iload_n 2, 1) := by decide +kernel
theorem d_R_hasty_30 : decode b_R_hasty 30 = .ok (.ifCond .lt 38, 3) := by decide +kernel
theorem d_R_hasty_33 : decode b_R_hasty 33 = .ok (.iload_n 1, 1) := by decide +kernel
theorem d_R_hasty_34 : decode b_R_hasty 34 = .ok (.ifCond .ne 19, 3) := by decide +kernel
theorem d_R_hasty_37 : decode b_R_hasty 37 = .ok (.aload_n 0, 1) := by decide +kernel
theorem d_R_hasty_38 : decode b_R_hasty 38 = .ok (.iload_n 3, 1) := by decide +kernel
theorem d_R_hasty_39 : decode b_R_hasty 39 = .ok (.invokevirtual 200, 3) := by decide +kernel
theorem d_R_hasty_42 : decode b_R_hasty 42 = .ok (.aload_n 0, 1) := by decide +kernel
theorem d_R_hasty_43 : decode b_R_hasty 43 = .ok (.iload_n 2, 1) := by decide +kernel
theorem d_R_hasty_44 : decode b_R_hasty 44 = .ok (.invokevirtual 200, 3) := by decide +kernel
theorem d_R_hasty_47 : decode b_R_hasty 47 = .ok (.if_icmp .ge 23, 3) := by decide +kernel
theorem d_R_hasty_50 : decode b_R_hasty 50 = .ok (.goto 18, 3) := by decide +kernel
theorem d_R_hasty_53 : decode b_R_hasty 53 = .ok (.aload_n 0, 1) := by decide +kernel
theorem d_R_hasty_54 : decode b_R_hasty 54 = .ok (.getfield 19, 3) := by decide +kernel
theorem d_R_hasty_57 : decode b_R_hasty 57 = .ok (.iload_n 3, 1) := by decide +kernel
theorem d_R_hasty_58 : decode b_R_hasty 58 = .ok (.iaload, 1) := by decide +kernel
theorem d_R_hasty_59 : decode b_R_hasty 59 = .ok (.aload_n 0, 1) := by decide +kernel
theorem d_R_hasty_60 : decode b_R_hasty 60 = .ok (.getfield 19, 3) := by decide +kernel
theorem d_R_hasty_63 : decode b_R_hasty 63 = .ok (.iload_n 2, 1) := by decide +kernel
theorem d_R_hasty_64 : decode b_R_hasty 64 = .ok (.iaload, 1) := by decide +kernel
theorem d_R_hasty_65 : decode b_R_hasty 65 = .ok (.if_icmp .ge 5, 3) := by decide +kernel
theorem d_R_hasty_68 : decode b_R_hasty 68 = .ok (.iload_n 3, 1) := by decide +kernel
theorem d_R_hasty_69 : decode b_R_hasty 69 = .ok (.istore_n 2, 1) := by decide +kernel
theorem d_R_hasty_70 : decode b_R_hasty 70 = .ok (.iinc 3 1, 3) := by decide +kernel
theorem d_R_hasty_73 : decode b_R_hasty 73 = .ok (.goto (-52), 3) := by decide +kernel
theorem d_R_hasty_76 : decode b_R_hasty 76 = .ok (.iload_n 2, 1) := by decide +kernel
theorem d_R_hasty_77 : decode b_R_hasty 77 = .ok (.ireturn, 1) := by decide +kernel
