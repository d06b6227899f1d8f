abbrev b_G_begin : ByteArray := prog_4_method_2_code
def y_G_begin : MethodName := ⟨"PassedOnAndBetter$Gift", "begin", "(III)V"⟩
theorem m_G_begin : MV y_G_begin b_G_begin 4 none 3 := ⟨mG 173 (by decide +kernel) (by decide +kernel), mG 86 (by decide +kernel) (by decide +kernel), by decide +kernel⟩
theorem mi_G_begin : Cond.instanceMethod y_G_begin ∈ tbG := mG 172 (by decide +kernel) (by decide +kernel)
theorem ms_G_begin : Cond.selects y_G_begin.cls y_G_begin y_G_begin ∈ tbG := mG 0 (by decide +kernel) (by decide +kernel)
theorem d_G_begin_0 : decode b_G_begin 0 = .ok (.aload_n 0, 1) := by decide +kernel
theorem d_G_begin_1 : decode b_G_begin 1 = .ok (.iload_n 2, 1) := by decide +kernel
theorem d_G_begin_2 : decode b_G_begin 2 = .ok (.putfield 15, 3) := by decide +kernel
theorem d_G_begin_5 : decode b_G_begin 5 = .ok (.aload_n 0, 1) := by decide +kernel
theorem d_G_begin_6 : decode b_G_begin 6 = .ok (.iload_n 3, 1) := by decide +kernel
theorem d_G_begin_7 : decode b_G_begin 7 = .ok (.putfield 19, 3) := by decide +kernel
theorem d_G_begin_10 : decode b_G_begin 10 = .ok (.aload_n 0, 1) := by decide +kernel
theorem d_G_begin_11 : decode b_G_begin 11 = .ok (.iload_n 1, 1) := by decide +kernel
theorem d_G_begin_12 : decode b_G_begin 12 = .ok (.putfield 22, 3) := by decide +kernel
theorem d_G_begin_15 : decode b_G_begin 15 = .ok (.aload_n 0, 1) := by decide +kernel
theorem d_G_begin_16 : decode b_G_begin 16 = .ok (.iconst 0, 1) := by decide +kernel
theorem d_G_begin_17 : decode b_G_begin 17 = .ok (.putfield 25, 3) := by decide +kernel
theorem d_G_begin_20 : decode b_G_begin 20 = .ok (.aload_n 0, 1) := by decide +kernel
theorem d_G_begin_21 : decode b_G_begin 21 = .ok (.iconst 0, 1) := by decide +kernel
theorem d_G_begin_22 : decode b_G_begin 22 = .ok (.putfield 28, 3) := by decide +kernel
theorem d_G_begin_25 : decode b_G_begin 25 = .ok (.aload_n 0, 1) := by decide +kernel
theorem d_G_begin_26 : decode b_G_begin 26 = .ok (.iconst 0, 1) := by decide +kernel
theorem d_G_begin_27 : decode b_G_begin 27 = .ok (.putfield 32, 3) := by decide +kernel
theorem d_G_begin_30 : decode b_G_begin 30 = .ok (.return_, 1) := by decide +kernel
abbrev b_X_between : ByteArray := prog_1_method_54_code
def y_X_between : MethodName := ⟨"PassedOnAndBetter", "between", "(III)I"⟩
theorem m_X_between : MV y_X_between b_X_between 3 (some .int) 3 := ⟨mG 337 (by decide +kernel) (by decide +kernel), mG 83 (by decide +kernel) (by decide +kernel), by decide +kernel⟩
theorem mi_X_between : Cond.static y_X_between ∈ tbG := mG 336 (by decide +kernel) (by decide +kernel)
theorem d_X_between_0 : decode b_X_between 0 = .ok (.iload_n 0, 1) := by decide +kernel
theorem d_X_between_1 : decode b_X_between 1 = .ok (.iload_n 1, 1) := by decide +kernel
theorem d_X_between_2 : decode b_X_between 2 = .ok (.if_icmp .ge 6, 3) := by decide +kernel
theorem d_X_between_5 : decode b_X_between 5 = .ok (.bipush (-4), 2) := by decide +kernel
theorem d_X_between_7 : decode b_X_between 7 = .ok (.ireturn, 1) := by decide +kernel
theorem d_X_between_8 : decode b_X_between 8 = .ok (.iload_n 0, 1) := by decide +kernel
theorem d_X_between_9 : decode b_X_between 9 = .ok (.iload_n 2, 1) := by decide +kernel
theorem d_X_between_10 : decode b_X_between 10 = .ok (.if_icmp .le 8, 3) := by decide +kernel
theorem d_X_between_13 : decode b_X_between 13 = .ok (.bipush (-6), 2) := by decide +kernel
theorem d_X_between_15 : decode b_X_between 15 = .ok (.goto 4, 3) := by decide +kernel
theorem d_X_between_18 : decode b_X_between 18 = .ok (.iconst 0, 1) := by decide +kernel
theorem d_X_between_19 : decode b_X_between 19 = .ok (.ireturn, 1) := by decide +kernel
abbrev b_L_isFull : ByteArray := prog_6_method_2_code
def y_L_isFull : MethodName := ⟨"PassedOnAndBetter$Letters", "isFull", "()Z"⟩
theorem m_L_isFull : MV y_L_isFull b_L_isFull 1 (some .boolean) 0 := ⟨mG 341 (by decide +kernel) (by decide +kernel), mG 88 (by decide +kernel) (by decide +kernel), by decide +kernel⟩
theorem mi_L_isFull : Cond.instanceMethod y_L_isFull ∈ tbG := mG 339 (by decide +kernel) (by decide +kernel)
theorem ms_L_isFull : Cond.selects y_L_isFull.cls y_L_isFull y_L_isFull ∈ tbG := mG 340 (by decide +kernel) (by decide +kernel)
theorem d_L_isFull_0 : decode b_L_isFull 0 = .ok (.aload_n 0, 1) := by decide +kernel
theorem d_L_isFull_1 : decode b_L_isFull 1 = .ok (.getfield 15, 3) := by decide +kernel
theorem d_L_isFull_4 : decode b_L_isFull 4 = .ok (.bipush 96, 2) := by decide +kernel
theorem d_L_isFull_6 : decode b_L_isFull 6 = .ok (.if_icmp .lt 7, 3) := by decide +kernel
theorem d_L_isFull_9 : decode b_L_isFull 9 = .ok (.iconst 1, 1) := by decide +kernel
theorem d_L_isFull_10 : decode b_L_isFull 10 = .ok (.goto 4, 3) := by decide +kernel
theorem d_L_isFull_13 : decode b_L_isFull 13 = .ok (.iconst 0, 1) := by decide +kernel
theorem d_L_isFull_14 : decode b_L_isFull 14 = .ok (.ireturn, 1) := by decide +kernel
abbrev b_X_setCell : ByteArray := prog_1_method_56_code
def y_X_setCell : MethodName := ⟨"PassedOnAndBetter", "setCell", "([III)V"⟩
theorem m_X_setCell : MV y_X_setCell b_X_setCell 3 none 3 := ⟨mG 348 (by decide +kernel) (by decide +kernel), mG 83 (by decide +kernel) (by decide +kernel), by decide +kernel⟩
theorem mi_X_setCell : Cond.static y_X_setCell ∈ tbG := mG 347 (by decide +kernel) (by decide +kernel)
theorem d_X_setCell_0 : decode b_X_setCell 0 = .ok (.aload_n 0, 1) := by decide +kernel
theorem d_X_setCell_1 : decode b_X_setCell 1 = .ok (.ifnull 17, 3) := by decide +kernel
theorem d_X_setCell_4 : decode b_X_setCell 4 = .ok (.iload_n 1, 1) := by decide +kernel
theorem d_X_setCell_5 : decode b_X_setCell 5 = .ok (.ifCond .lt 13, 3) := by decide +kernel
theorem d_X_setCell_8 : decode b_X_setCell 8 = .ok (.iload_n 1, 1) := by decide +kernel
theorem d_X_setCell_9 : decode b_X_setCell 9 = .ok (.aload_n 0, 1) := by decide +kernel
theorem d_X_setCell_10 : decode b_X_setCell 10 = .ok (.arraylength, 1) := by decide +kernel
theorem d_X_setCell_11 : decode b_X_setCell 11 = .ok (.if_icmp .ge 7, 3) := by decide +kernel
theorem d_X_setCell_14 : decode b_X_setCell 14 = .ok (.aload_n 0, 1) := by decide +kernel
theorem d_X_setCell_15 : decode b_X_setCell 15 = .ok (.iload_n 1, 1) := by decide +kernel
theorem d_X_setCell_16 : decode b_X_setCell 16 = .ok (.iload_n 2, 1) := by decide +kernel
theorem d_X_setCell_17 : decode b_X_setCell 17 = .ok (.iastore, 1) := by decide +kernel
theorem d_X_setCell_18 : decode b_X_setCell 18 = .ok (.return_, 1) := by decide +kernel
abbrev b_L_put : ByteArray := prog_6_method_3_code
def y_L_put : MethodName := ⟨"PassedOnAndBetter$Letters", "put", "(I)I"⟩
theorem m_L_put : MV y_L_put b_L_put 2 (some .int) 1 := ⟨mG 345 (by decide +kernel) (by decide +kernel), mG 88 (by decide +kernel) (by decide +kernel), by decide +kernel⟩
theorem mi_L_put : Cond.instanceMethod y_L_put ∈ tbG := mG 343 (by decide +kernel) (by decide +kernel)
theorem ms_L_put : Cond.selects y_L_put.cls y_L_put y_L_put ∈ tbG := mG 344 (by decide +kernel) (by decide +kernel)
theorem d_L_put_0 : decode b_L_put 0 = .ok (.aload_n 0, 1) := by decide +kernel
theorem d_L_put_1 : decode b_L_put 1 = .ok (.getfield 11, 3) := by decide +kernel
theorem d_L_put_4 : decode b_L_put 4 = .ok (.aload_n 0, 1) := by decide +kernel
theorem d_L_put_5 : decode b_L_put 5 = .ok (.getfield 15, 3) := by decide +kernel
theorem d_L_put_8 : decode b_L_put 8 = .ok (.iload_n 1, 1) := by decide +kernel
theorem d_L_put_9 : decode b_L_put 9 = .ok (.invokestatic 19, 3) := by decide +kernel
theorem d_L_put_12 : decode b_L_put 12 = .ok (.aload_n 0, 1) := by decide +kernel
theorem d_L_put_13 : decode b_L_put 13 = .ok (.dup, 1) := by decide +kernel
theorem d_L_put_14 : decode b_L_put 14 = .ok (.getfield 15, 3) := by decide +kernel
theorem d_L_put_17 : decode b_L_put 17 = .ok (.iconst 1, 1) := by decide +kernel
theorem d_L_put_18 : decode b_L_put 18 = .ok (.iadd, 1) := by decide +kernel
theorem d_L_put_19 : decode b_L_put 19 = .ok (.putfield 15, 3) := by decide +kernel
theorem d_L_put_22 : decode b_L_put 22 = .ok (.aload_n 0, 1) := by decide +kernel
theorem d_L_put_23 : decode b_L_put 23 = .ok (.getfield 15, 3) := by decide +kernel
theorem d_L_put_26 : decode b_L_put 26 = .ok (.ireturn, 1) := by decide +kernel
abbrev b_X_cellOf : ByteArray := prog_1_method_55_code
def y_X_cellOf : MethodName := ⟨"PassedOnAndBetter", "cellOf", "([II)I"⟩
theorem m_X_cellOf : MV y_X_cellOf b_X_cellOf 2 (some .int) 2 := ⟨mG 355 (by decide +kernel) (by decide +kernel), mG 83 (by decide +kernel) (by decide +kernel), by decide +kernel⟩
theorem mi_X_cellOf : Cond.static y_X_cellOf ∈ tbG := mG 354 (by decide +kernel) (by decide +kernel)
theorem d_X_cellOf_0 : decode b_X_cellOf 0 = .ok (.aload_n 0, 1) := by decide +kernel
theorem d_X_cellOf_1 : decode b_X_cellOf 1 = .ok (.ifnull 19, 3) := by decide +kernel
theorem d_X_cellOf_4 : decode b_X_cellOf 4 = .ok (.iload_n 1, 1) := by decide +kernel
theorem d_X_cellOf_5 : decode b_X_cellOf 5 = .ok (.ifCond .lt 15, 3) := by decide +kernel
theorem d_X_cellOf_8 : decode b_X_cellOf 8 = .ok (.iload_n 1, 1) := by decide +kernel
theorem d_X_cellOf_9 : decode b_X_cellOf 9 = .ok (.aload_n 0, 1) := by decide +kernel
theorem d_X_cellOf_10 : decode b_X_cellOf 10 = .ok (.arraylength, 1) := by decide +kernel
theorem d_X_cellOf_11 : decode b_X_cellOf 11 = .ok (.if_icmp .ge 9, 3) := by decide +kernel
theorem d_X_cellOf_14 : decode b_X_cellOf 14 = .ok (.aload_n 0, 1) := by decide +kernel
theorem d_X_cellOf_15 : decode b_X_cellOf 15 = .ok (.iload_n 1, 1) := by decide +kernel
theorem d_X_cellOf_16 : decode b_X_cellOf 16 = .ok (.iaload, 1) := by decide +kernel
theorem d_X_cellOf_17 : decode b_X_cellOf 17 = .ok (.goto 4, 3) := by decide +kernel
theorem d_X_cellOf_20 : decode b_X_cellOf 20 = .ok (.iconst 0, 1) := by decide +kernel
theorem d_X_cellOf_21 : decode b_X_cellOf 21 = .ok (.ireturn, 1) := by decide +kernel
abbrev b_X_refuse : ByteArray := prog_1_method_45_code
def y_X_refuse : MethodName := ⟨"PassedOnAndBetter", "refuse", "(I)I"⟩
theorem m_X_refuse : MV y_X_refuse b_X_refuse 2 (some .int) 1 := ⟨mG 352 (by decide +kernel) (by decide +kernel), mG 83 (by decide +kernel) (by decide +kernel), by decide +kernel⟩
theorem mi_X_refuse : Cond.instanceMethod y_X_refuse ∈ tbG := mG 351 (by decide +kernel) (by decide +kernel)
theorem ms_X_refuse : Cond.selects y_X_refuse.cls y_X_refuse y_X_refuse ∈ tbG := mG 1 (by decide +kernel) (by decide +kernel)
theorem d_X_refuse_0 : decode b_X_refuse 0 = .ok (.aload_n 0, 1) := by decide +kernel
theorem d_X_refuse_1 : decode b_X_refuse 1 = .ok (.getfield 49, 3) := by decide +kernel
theorem d_X_refuse_4 : decode b_X_refuse 4 = .ok (.iload_n 1, 1) := by decide +kernel
theorem d_X_refuse_5 : decode b_X_refuse 5 = .ok (.ineg, 1) := by decide +kernel
theorem d_X_refuse_6 : decode b_X_refuse 6 = .ok (.aload_n 0, 1) := by decide +kernel
theorem d_X_refuse_7 : decode b_X_refuse 7 = .ok (.getfield 49, 3) := by decide +kernel
theorem d_X_refuse_10 : decode b_X_refuse 10 = .ok (.iload_n 1, 1) := by decide +kernel
theorem d_X_refuse_11 : decode b_X_refuse 11 = .ok (.ineg, 1) := by decide +kernel
theorem d_X_refuse_12 : decode b_X_refuse 12 = .ok (.invokestatic 295, 3) := by decide +kernel
theorem d_X_refuse_15 : decode b_X_refuse 15 = .ok (.iconst 1, 1) := by decide +kernel
theorem d_X_refuse_16 : decode b_X_refuse 16 = .ok (.iadd, 1) := by decide +kernel
theorem d_X_refuse_17 : decode b_X_refuse 17 = .ok (.invokestatic 312, 3) := by decide +kernel
theorem d_X_refuse_20 : decode b_X_refuse 20 = .ok (.iload_n 1, 1) := by decide +kernel
theorem d_X_refuse_21 : decode b_X_refuse 21 = .ok (.ireturn, 1) := by decide +kernel
abbrev b_X_feed : ByteArray := prog_1_method_2_code
def y_X_feed : MethodName := ⟨"PassedOnAndBetter", "feed", "(I)I"⟩
theorem m_X_feed : MV y_X_feed b_X_feed 3 (some .int) 1 := ⟨mG 334 (by decide +kernel) (by decide +kernel), mG 83 (by decide +kernel) (by decide +kernel), by decide +kernel⟩
theorem mi_X_feed : Cond.instanceMethod y_X_feed ∈ tbG := mG 332 (by decide +kernel) (by decide +kernel)
theorem ms_X_feed : Cond.selects y_X_feed.cls y_X_feed y_X_feed ∈ tbG := mG 333 (by decide +kernel) (by decide +kernel)
theorem d_X_feed_0 : decode b_X_feed 0 = .ok (.iload_n 1, 1) := by decide +kernel
theorem d_X_feed_1 : decode b_X_feed 1 = .ok (.iconst 0, 1) := by decide +kernel
theorem d_X_feed_2 : decode b_X_feed 2 = .ok (.sipush 255, 3) := by decide +kernel
theorem d_X_feed_5 : decode b_X_feed 5 = .ok (.invokestatic 57, 3) := by decide +kernel
theorem d_X_feed_8 : decode b_X_feed 8 = .ok (.istore_n 2, 1) := by decide +kernel
theorem d_X_feed_9 : decode b_X_feed 9 = .ok (.iload_n 2, 1) := by decide +kernel
theorem d_X_feed_10 : decode b_X_feed 10 = .ok (.ifCond .ne 16, 3) := by decide +kernel
theorem d_X_feed_13 : decode b_X_feed 13 = .ok (.aload_n 0, 1) := by decide +kernel
theorem d_X_feed_14 : decode b_X_feed 14 = .ok (.getfield 29, 3) := by decide +kernel
theorem d_X_feed_17 : decode b_X_feed 17 = .ok (.invokevirtual 61, 3) := by decide +kernel
theorem d_X_feed_20 : decode b_X_feed 20 = .ok (.ifCond .eq 6, 3) := by decide +kernel
theorem d_X_feed_23 : decode b_X_feed 23 = .ok (.bipush (-6), 2) := by decide +kernel
theorem d_X_feed_25 : decode b_X_feed 25 = .ok (.istore_n 2, 1) := by decide +kernel
theorem d_X_feed_26 : decode b_X_feed 26 = .ok (.iload_n 2, 1) := by decide +kernel
theorem d_X_feed_27 : decode b_X_feed 27 = .ok (.ifCond .ne 14, 3) := by decide +kernel
theorem d_X_feed_30 : decode b_X_feed 30 = .ok (.aload_n 0, 1) := by decide +kernel
theorem d_X_feed_31 : decode b_X_feed 31 = .ok (.getfield 29, 3) := by decide +kernel
theorem d_X_feed_34 : decode b_X_feed 34 = .ok (.iload_n 1, 1) := by decide +kernel
theorem d_X_feed_35 : decode b_X_feed 35 = .ok (.invokevirtual 65, 3) := by decide +kernel
theorem d_X_feed_38 : decode b_X_feed 38 = .ok (.goto 8, 3) := by decide +kernel
theorem d_X_feed_41 : decode b_X_feed 41 = .ok (.aload_n 0, 1) := by decide +kernel
theorem d_X_feed_42 : decode b_X_feed 42 = .ok (.iload_n 2, 1) := by decide +kernel
theorem d_X_feed_43 : decode b_X_feed 43 = .ok (.invokevirtual 69, 3) := by decide +kernel
theorem d_X_feed_46 : decode b_X_feed 46 = .ok (.ireturn, 1) := by decide +kernel
abbrev b_C_friendAt : ByteArray := prog_2_method_2_code
def y_C_friendAt : MethodName := ⟨"PassedOnAndBetter$Company", "friendAt", "(I)LPassedOnAndBetter$Friend;"⟩
theorem m_C_friendAt : MV y_C_friendAt b_C_friendAt 3 (some (.object "PassedOnAndBetter$Friend")) 1 := ⟨mG 372 (by decide +kernel) (by decide +kernel), mG 84 (by decide +kernel) (by decide +kernel), by decide +kernel⟩
theorem mi_C_friendAt : Cond.instanceMethod y_C_friendAt ∈ tbG := mG 370 (by decide +kernel) (by decide +kernel)
theorem ms_C_friendAt : Cond.selects y_C_friendAt.cls y_C_friendAt y_C_friendAt ∈ tbG := mG 371 (by decide +kernel) (by decide +kernel)
theorem d_C_friendAt_0 : decode b_C_friendAt 0 = .ok (.iload_n 1, 1) := by decide +kernel
theorem d_C_friendAt_1 : decode b_C_friendAt 1 = .ok (.ifCond .lt 12, 3) := by decide +kernel
theorem d_C_friendAt_4 : decode b_C_friendAt 4 = .ok (.iload_n 1, 1) := by decide +kernel
theorem d_C_friendAt_5 : decode b_C_friendAt 5 = .ok (.aload_n 0, 1) := by decide +kernel
theorem d_C_friendAt_6 : decode b_C_friendAt 6 = .ok (.getfield 11, 3) := by decide +kernel
theorem d_C_friendAt_9 : decode b_C_friendAt 9 = .ok (.arraylength, 1) := by decide +kernel
theorem d_C_friendAt_10 : decode b_C_friendAt 10 = .ok (.if_icmp .lt 8, 3) := by decide +kernel
theorem d_C_friendAt_13 : decode b_C_friendAt 13 = .ok (.aload_n 0, 1) := by decide +kernel
theorem d_C_friendAt_14 : decode b_C_friendAt 14 = .ok (.getfield 24, 3) := by decide +kernel
theorem d_C_friendAt_17 : decode b_C_friendAt 17 = .ok (.areturn, 1) := by decide +kernel
theorem d_C_friendAt_18 : decode b_C_friendAt 18 = .ok (.aload_n 0, 1) := by decide +kernel
theorem d_C_friendAt_19 : decode b_C_friendAt 19 = .ok (.getfield 11, 3) := by decide +kernel
theorem d_C_friendAt_22 : decode b_C_friendAt 22 = .ok (.iload_n 1, 1) := by decide +kernel
theorem d_C_friendAt_23 : decode b_C_friendAt 23 = .ok (.aaload, 1) := by decide +kernel
theorem d_C_friendAt_24 : decode b_C_friendAt 24 = .ok (.astore_n 2, 1) := by decide +kernel
theorem d_C_friendAt_25 : decode b_C_friendAt 25 = .ok (.aload_n 2, 1) := by decide +kernel
theorem d_C_friendAt_26 : decode b_C_friendAt 26 = .ok (.ifnonnull 10, 3) := by decide +kernel
theorem d_C_friendAt_29 : decode b_C_friendAt 29 = .ok (.aload_n 0, 1) := by decide +kernel
theorem d_C_friendAt_30 : decode b_C_friendAt 30 = .ok (.getfield 24, 3) := by decide +kernel
theorem d_C_friendAt_33 : decode b_C_friendAt 33 = .ok (.goto 4, 3) := by decide +kernel
theorem d_C_friendAt_36 : decode b_C_friendAt 36 = .ok (.aload_n 2, 1) := by decide +kernel
theorem d_C_friendAt_37 : decode b_C_friendAt 37 = .ok (.areturn, 1) := by decide +kernel
abbrev b_F_copyFrom : ByteArray := prog_3_method_4_code
def y_F_copyFrom : MethodName := ⟨"PassedOnAndBetter$Friend", "copyFrom", "(LPassedOnAndBetter$Friend;)V"⟩
theorem m_F_copyFrom : MV y_F_copyFrom b_F_copyFrom 2 none 1 := ⟨mG 376 (by decide +kernel) (by decide +kernel), mG 85 (by decide +kernel) (by decide +kernel), by decide +kernel⟩
theorem mi_F_copyFrom : Cond.instanceMethod y_F_copyFrom ∈ tbG := mG 374 (by decide +kernel) (by decide +kernel)
theorem ms_F_copyFrom : Cond.selects y_F_copyFrom.cls y_F_copyFrom y_F_copyFrom ∈ tbG := mG 375 (by decide +kernel) (by decide +kernel)
theorem d_F_copyFrom_0 : decode b_F_copyFrom 0 = .ok (.aload_n 1, 1) := by decide +kernel
theorem d_F_copyFrom_1 : decode b_F_copyFrom 1 = .ok (.ifnonnull 4, 3) := by decide +kernel
theorem d_F_copyFrom_4 : decode b_F_copyFrom 4 = .ok (.return_, 1) := by decide +kernel
theorem d_F_copyFrom_5 : decode b_F_copyFrom 5 = .ok (.aload_n 0, 1) := by decide +kernel
theorem d_F_copyFrom_6 : decode b_F_copyFrom 6 = .ok (.aload_n 1, 1) := by decide +kernel
theorem d_F_copyFrom_7 : decode b_F_copyFrom 7 = .ok (.getfield 9, 3) := by decide +kernel
theorem d_F_copyFrom_10 : decode b_F_copyFrom 10 = .ok (.putfield 9, 3) := by decide +kernel
theorem d_F_copyFrom_13 : decode b_F_copyFrom 13 = .ok (.aload_n 0, 1) := by decide +kernel
theorem d_F_copyFrom_14 : decode b_F_copyFrom 14 = .ok (.aload_n 1, 1) := by decide +kernel
theorem d_F_copyFrom_15 : decode b_F_copyFrom 15 = .ok (.getfield 15, 3) := by decide +kernel
theorem d_F_copyFrom_18 : decode b_F_copyFrom 18 = .ok (.putfield 15, 3) := by decide +kernel
theorem d_F_copyFrom_21 : decode b_F_copyFrom 21 = .ok (.aload_n 0, 1) := by decide +kernel
theorem d_F_copyFrom_22 : decode b_F_copyFrom 22 = .ok (.aload_n 1, 1) := by decide +kernel
theorem d_F_copyFrom_23 : decode b_F_copyFrom 23 = .ok (.getfield 18, 3) := by decide +kernel
theorem d_F_copyFrom_26 : decode b_F_copyFrom 26 = .ok (.putfield 18, 3) := by decide +kernel
theorem d_F_copyFrom_29 : decode b_F_copyFrom 29 = .ok (.aload_n 0, 1) := by decide +kernel
theorem d_F_copyFrom_30 : decode b_F_copyFrom 30 = .ok (.aload_n 1, 1) := by decide +kernel
theorem d_F_copyFrom_31 : decode b_F_copyFrom 31 = .ok (.getfield 21, 3) := by decide +kernel
theorem d_F_copyFrom_34 : decode b_F_copyFrom 34 = .ok (.putfield 21, 3) := by decide +kernel
theorem d_F_copyFrom_37 : decode b_F_copyFrom 37 = .ok (.aload_n 0, 1) := by decide +kernel
theorem d_F_copyFrom_38 : decode b_F_copyFrom 38 = .ok (.aload_n 1, 1) := by decide +kernel
theorem d_F_copyFrom_39 : decode b_F_copyFrom 39 = .ok (.getfield 24, 3) := by decide +kernel
theorem d_F_copyFrom_42 : decode b_F_copyFrom 42 = .ok (.putfield 24, 3) := by decide +kernel
theorem d_F_copyFrom_45 : decode b_F_copyFrom 45 = .ok (.aload_n 0, 1) := by decide +kernel
theorem d_F_copyFrom_46 : decode b_F_copyFrom 46 = .ok (.aload_n 1, 1) := by decide +kernel
theorem d_F_copyFrom_47 : decode b_F_copyFrom 47 = .ok (.getfield 27, 3) := by decide +kernel
theorem d_F_copyFrom_50 : decode b_F_copyFrom 50 = .ok (.putfield 27, 3) := by decide +kernel
theorem d_F_copyFrom_53 : decode b_F_copyFrom 53 = .ok (.aload_n 0, 1) := by decide +kernel
theorem d_F_copyFrom_54 : decode b_F_copyFrom 54 = .ok (.aload_n 1, 1) := by decide +kernel
theorem d_F_copyFrom_55 : decode b_F_copyFrom 55 = .ok (.getfield 30, 3) := by decide +kernel
theorem d_F_copyFrom_58 : decode b_F_copyFrom 58 = .ok (.putfield 30, 3) := by decide +kernel
theorem d_F_copyFrom_61 : decode b_F_copyFrom 61 = .ok (.aload_n 0, 1) := by decide +kernel
theorem d_F_copyFrom_62 : decode b_F_copyFrom 62 = .ok (.iconst 1, 1) := by decide +kernel
theorem d_F_copyFrom_63 : decode b_F_copyFrom 63 = .ok (.putfield 33, 3) := by decide +kernel
theorem d_F_copyFrom_66 : decode b_F_copyFrom 66 = .ok (.aload_n 0, 1) := by decide +kernel
theorem d_F_copyFrom_67 : decode b_F_copyFrom 67 = .ok (.iconst 0, 1) := by decide +kernel
theorem d_F_copyFrom_68 : decode b_F_copyFrom 68 = .ok (.putfield 36, 3) := by decide +kernel
theorem d_F_copyFrom_71 : decode b_F_copyFrom 71 = .ok (.return_, 1) := by decide +kernel
abbrev b_C_giftAt : ByteArray := prog_2_method_3_code
def y_C_giftAt : MethodName := ⟨"PassedOnAndBetter$Company", "giftAt", "(I)LPassedOnAndBetter$Gift;"⟩
theorem m_C_giftAt : MV y_C_giftAt b_C_giftAt 3 (some (.object "PassedOnAndBetter$Gift")) 1 := ⟨mG 380 (by decide +kernel) (by decide +kernel), mG 84 (by decide +kernel) (by decide +kernel), by decide +kernel⟩
theorem mi_C_giftAt : Cond.instanceMethod y_C_giftAt ∈ tbG := mG 378 (by decide +kernel) (by decide +kernel)
theorem ms_C_giftAt : Cond.selects y_C_giftAt.cls y_C_giftAt y_C_giftAt ∈ tbG := mG 379 (by decide +kernel) (by decide +kernel)
theorem d_C_giftAt_0 : decode b_C_giftAt 0 = .ok (.iload_n 1, 1) := by decide +kernel
theorem d_C_giftAt_1 : decode b_C_giftAt 1 = .ok (.ifCond .lt 12, 3) := by decide +kernel
theorem d_C_giftAt_4 : decode b_C_giftAt 4 = .ok (.iload_n 1, 1) := by decide +kernel
theorem d_C_giftAt_5 : decode b_C_giftAt 5 = .ok (.aload_n 0, 1) := by decide +kernel
theorem d_C_giftAt_6 : decode b_C_giftAt 6 = .ok (.getfield 19, 3) := by decide +kernel
theorem d_C_giftAt_9 : decode b_C_giftAt 9 = .ok (.arraylength, 1) := by decide +kernel
theorem d_C_giftAt_10 : decode b_C_giftAt 10 = .ok (.if_icmp .lt 8, 3) := by decide +kernel
theorem d_C_giftAt_13 : decode b_C_giftAt 13 = .ok (.aload_n 0, 1) := by decide +kernel
theorem d_C_giftAt_14 : decode b_C_giftAt 14 = .ok (.getfield 29, 3) := by decide +kernel
theorem d_C_giftAt_17 : decode b_C_giftAt 17 = .ok (.areturn, 1) := by decide +kernel
theorem d_C_giftAt_18 : decode b_C_giftAt 18 = .ok (.aload_n 0, 1) := by decide +kernel
theorem d_C_giftAt_19 : decode b_C_giftAt 19 = .ok (.getfield 19, 3) := by decide +kernel
theorem d_C_giftAt_22 : decode b_C_giftAt 22 = .ok (.iload_n 1, 1) := by decide +kernel
theorem d_C_giftAt_23 : decode b_C_giftAt 23 = .ok (.aaload, 1) := by decide +kernel
theorem d_C_giftAt_24 : decode b_C_giftAt 24 = .ok (.astore_n 2, 1) := by decide +kernel
theorem d_C_giftAt_25 : decode b_C_giftAt 25 = .ok (.aload_n 2, 1) := by decide +kernel
theorem d_C_giftAt_26 : decode b_C_giftAt 26 = .ok (.ifnonnull 10, 3) := by decide +kernel
theorem d_C_giftAt_29 : decode b_C_giftAt 29 = .ok (.aload_n 0, 1) := by decide +kernel
theorem d_C_giftAt_30 : decode b_C_giftAt 30 = .ok (.getfield 29, 3) := by decide +kernel
theorem d_C_giftAt_33 : decode b_C_giftAt 33 = .ok (.goto 4, 3) := by decide +kernel
theorem d_C_giftAt_36 : decode b_C_giftAt 36 = .ok (.aload_n 2, 1) := by decide +kernel
theorem d_C_giftAt_37 : decode b_C_giftAt 37 = .ok (.areturn, 1) := by decide +kernel
abbrev b_G_copyFrom : ByteArray := prog_4_method_3_code
def y_G_copyFrom : MethodName := ⟨"PassedOnAndBetter$Gift", "copyFrom", "(LPassedOnAndBetter$Gift;)V"⟩
theorem m_G_copyFrom : MV y_G_copyFrom b_G_copyFrom 2 none 1 := ⟨mG 384 (by decide +kernel) (by decide +kernel), mG 86 (by decide +kernel) (by decide +kernel), by decide +kernel⟩
theorem mi_G_copyFrom : Cond.instanceMethod y_G_copyFrom ∈ tbG := mG 382 (by decide +kernel) (by decide +kernel)
theorem ms_G_copyFrom : Cond.selects y_G_copyFrom.cls y_G_copyFrom y_G_copyFrom ∈ tbG := mG 383 (by decide +kernel) (by decide +kernel)
theorem d_G_copyFrom_0 : decode b_G_copyFrom 0 = .ok (.aload_n 1, 1) := by decide +kernel
theorem d_G_copyFrom_1 : decode b_G_copyFrom 1 = .ok (.ifnonnull 4, 3) := by decide +kernel
theorem d_G_copyFrom_4 : decode b_G_copyFrom 4 = .ok (.return_, 1) := by decide +kernel
theorem d_G_copyFrom_5 : decode b_G_copyFrom 5 = .ok (.aload_n 0, 1) := by decide +kernel
theorem d_G_copyFrom_6 : decode b_G_copyFrom 6 = .ok (.aload_n 1, 1) := by decide +kernel
theorem d_G_copyFrom_7 : decode b_G_copyFrom 7 = .ok (.getfield 15, 3) := by decide +kernel
theorem d_G_copyFrom_10 : decode b_G_copyFrom 10 = .ok (.putfield 15, 3) := by decide +kernel
theorem d_G_copyFrom_13 : decode b_G_copyFrom 13 = .ok (.aload_n 0, 1) := by decide +kernel
theorem d_G_copyFrom_14 : decode b_G_copyFrom 14 = .ok (.aload_n 1, 1) := by decide +kernel
theorem d_G_copyFrom_15 : decode b_G_copyFrom 15 = .ok (.getfield 19, 3) := by decide +kernel
theorem d_G_copyFrom_18 : decode b_G_copyFrom 18 = .ok (.putfield 19, 3) := by decide +kernel
theorem d_G_copyFrom_21 : decode b_G_copyFrom 21 = .ok (.aload_n 0, 1) := by decide +kernel
theorem d_G_copyFrom_22 : decode b_G_copyFrom 22 = .ok (.aload_n 1, 1) := by decide +kernel
theorem d_G_copyFrom_23 : decode b_G_copyFrom 23 = .ok (.getfield 22, 3) := by decide +kernel
theorem d_G_copyFrom_26 : decode b_G_copyFrom 26 = .ok (.putfield 22, 3) := by decide +kernel
theorem d_G_copyFrom_29 : decode b_G_copyFrom 29 = .ok (.aload_n 0, 1) := by decide +kernel
theorem d_G_copyFrom_30 : decode b_G_copyFrom 30 = .ok (.aload_n 1, 1) := by decide +kernel
theorem d_G_copyFrom_31 : decode b_G_copyFrom 31 = .ok (.getfield 25, 3) := by decide +kernel
theorem d_G_copyFrom_34 : decode b_G_copyFrom 34 = .ok (.putfield 25, 3) := by decide +kernel
theorem d_G_copyFrom_37 : decode b_G_copyFrom 37 = .ok (.aload_n 0, 1) := by decide +kernel
theorem d_G_copyFrom_38 : decode b_G_copyFrom 38 = .ok (.aload_n 1, 1) := by decide +kernel
theorem d_G_copyFrom_39 : decode b_G_copyFrom 39 = .ok (.getfield 28, 3) := by decide +kernel
theorem d_G_copyFrom_42 : decode b_G_copyFrom 42 = .ok (.putfield 28, 3) := by decide +kernel
theorem d_G_copyFrom_45 : decode b_G_copyFrom 45 = .ok (.aload_n 0, 1) := by decide +kernel
theorem d_G_copyFrom_46 : decode b_G_copyFrom 46 = .ok (.aload_n 1, 1) := by decide +kernel
theorem d_G_copyFrom_47 : decode b_G_copyFrom 47 = .ok (.getfield 32, 3) := by decide +kernel
theorem d_G_copyFrom_50 : decode b_G_copyFrom 50 = .ok (.putfield 32, 3) := by decide +kernel
theorem d_G_copyFrom_53 : decode b_G_copyFrom 53 = .ok (.return_, 1) := by decide +kernel
abbrev b_C_copyFrom : ByteArray := prog_2_method_8_code
def y_C_copyFrom : MethodName := ⟨"PassedOnAndBetter$Company", "copyFrom", "(LPassedOnAndBetter$Company;)V"⟩
theorem m_C_copyFrom : MV y_C_copyFrom b_C_copyFrom 3 none 1 := ⟨mG 368 (by decide +kernel) (by decide +kernel), mG 84 (by decide +kernel) (by decide +kernel), by decide +kernel⟩
theorem mi_C_copyFrom : Cond.instanceMethod y_C_copyFrom ∈ tbG := mG 366 (by decide +kernel) (by decide +kernel)
theorem ms_C_copyFrom : Cond.selects y_C_copyFrom.cls y_C_copyFrom y_C_copyFrom ∈ tbG := mG 367 (by decide +kernel) (by decide +kernel)
theorem d_C_copyFrom_0 : decode b_C_copyFrom 0 = .ok (.aload_n 1, 1) := by decide +kernel
theorem d_C_copyFrom_1 : decode b_C_copyFrom 1 = .ok (.ifnonnull 4, 3) := by decide +kernel
theorem d_C_copyFrom_4 : decode b_C_copyFrom 4 = .ok (.return_, 1) := by decide +kernel
theorem d_C_copyFrom_5 : decode b_C_copyFrom 5 = .ok (.aload_n 0, 1) := by decide +kernel
theorem d_C_copyFrom_6 : decode b_C_copyFrom 6 = .ok (.aload_n 1, 1) := by decide +kernel
theorem d_C_copyFrom_7 : decode b_C_copyFrom 7 = .ok (.getfield 33, 3) := by decide +kernel
theorem d_C_copyFrom_10 : decode b_C_copyFrom 10 = .ok (.putfield 33, 3) := by decide +kernel
theorem d_C_copyFrom_13 : decode b_C_copyFrom 13 = .ok (.aload_n 0, 1) := by decide +kernel
theorem d_C_copyFrom_14 : decode b_C_copyFrom 14 = .ok (.aload_n 1, 1) := by decide +kernel
theorem d_C_copyFrom_15 : decode b_C_copyFrom 15 = .ok (.getfield 37, 3) := by decide +kernel
theorem d_C_copyFrom_18 : decode b_C_copyFrom 18 = .ok (.putfield 37, 3) := by decide +kernel
theorem d_C_copyFrom_21 : decode b_C_copyFrom 21 = .ok (.aload_n 0, 1) := by decide +kernel
theorem d_C_copyFrom_22 : decode b_C_copyFrom 22 = .ok (.aload_n 1, 1) := by decide +kernel
theorem d_C_copyFrom_23 : decode b_C_copyFrom 23 = .ok (.getfield 40, 3) := by decide +kernel
theorem d_C_copyFrom_26 : decode b_C_copyFrom 26 = .ok (.putfield 40, 3) := by decide +kernel
theorem d_C_copyFrom_29 : decode b_C_copyFrom 29 = .ok (.iconst 0, 1) := by decide +kernel
theorem d_C_copyFrom_30 : decode b_C_copyFrom 30 = .ok (.istore_n 2, 1) := by decide +kernel
theorem d_C_copyFrom_31 : decode b_C_copyFrom 31 = .ok (.iload_n 2, 1) := by decide +kernel
theorem d_C_copyFrom_32 : decode b_C_copyFrom 32 = .ok (.aload_n 0, 1) := by decide +kernel
theorem d_C_copyFrom_33 : decode b_C_copyFrom 33 = .ok (.getfield 33, 3) := by decide +kernel
theorem d_C_copyFrom_36 : decode b_C_copyFrom 36 = .ok (.if_icmp .ge 22, 3) := by decide +kernel
theorem d_C_copyFrom_39 : decode b_C_copyFrom 39 = .ok (.aload_n 0, 1) := by decide +kernel
theorem d_C_copyFrom_40 : decode b_C_copyFrom 40 = .ok (.iload_n 2, 1) := by decide +kernel
theorem d_C_copyFrom_41 : decode b_C_copyFrom 41 = .ok (.invokevirtual 43, 3) := by decide +kernel
theorem d_C_copyFrom_44 : decode b_C_copyFrom 44 = .ok (.aload_n 1, 1) := by decide +kernel
theorem d_C_copyFrom_45 : decode b_C_copyFrom 45 = .ok (.iload_n 2, 1) := by decide +kernel
theorem d_C_copyFrom_46 : decode b_C_copyFrom 46 = .ok (.invokevirtual 43, 3) := by decide +kernel
theorem d_C_copyFrom_49 : decode b_C_copyFrom 49 = .ok (.invokevirtual 47, 3) := by decide +kernel
theorem d_C_copyFrom_52 : decode b_C_copyFrom 52 = .ok (.iinc 2 1, 3) := by decide +kernel
theorem d_C_copyFrom_55 : decode b_C_copyFrom 55 = .ok (.goto (-24), 3) := by decide +kernel
theorem d_C_copyFrom_58 : decode b_C_copyFrom 58 = .ok (.iconst 0, 1) := by decide +kernel
theorem d_C_copyFrom_59 : decode b_C_copyFrom 59 = .ok (.istore_n 2, 1) := by decide +kernel
theorem d_C_copyFrom_60 : decode b_C_copyFrom 60 = .ok (.iload_n 2, 1) := by decide +kernel
theorem d_C_copyFrom_61 : decode b_C_copyFrom 61 = .ok (.aload_n 0, 1) := by decide +kernel
theorem d_C_copyFrom_62 : decode b_C_copyFrom 62 = .ok (.getfield 37, 3) := by decide +kernel
theorem d_C_copyFrom_65 : decode b_C_copyFrom 65 = .ok (.if_icmp .ge 22, 3) := by decide +kernel
theorem d_C_copyFrom_68 : decode b_C_copyFrom 68 = .ok (.aload_n 0, 1) := by decide +kernel
theorem d_C_copyFrom_69 : decode b_C_copyFrom 69 = .ok (.iload_n 2, 1) := by decide +kernel
theorem d_C_copyFrom_70 : decode b_C_copyFrom 70 = .ok (.invokevirtual 51, 3) := by decide +kernel
theorem d_C_copyFrom_73 : decode b_C_copyFrom 73 = .ok (.aload_n 1, 1) := by decide +kernel
theorem d_C_copyFrom_74 : decode b_C_copyFrom 74 = .ok (.iload_n 2, 1) := by decide +kernel
theorem d_C_copyFrom_75 : decode b_C_copyFrom 75 = .ok (.invokevirtual 51, 3) := by decide +kernel
theorem d_C_copyFrom_78 : decode b_C_copyFrom 78 = .ok (.invokevirtual 55, 3) := by decide +kernel
theorem d_C_copyFrom_81 : decode b_C_copyFrom 81 = .ok (.iinc 2 1, 3) := by decide +kernel
theorem d_C_copyFrom_84 : decode b_C_copyFrom 84 = .ok (.goto (-24), 3) := by decide +kernel
theorem d_C_copyFrom_87 : decode b_C_copyFrom 87 = .ok (.return_, 1) := by decide +kernel
abbrev b_M_recall : ByteArray := prog_7_method_2_code
def y_M_recall : MethodName := ⟨"PassedOnAndBetter$Mind", "recall", "()LPassedOnAndBetter$Company;"⟩
theorem m_M_recall : MV y_M_recall b_M_recall 1 (some (.object "PassedOnAndBetter$Company")) 0 := ⟨mG 364 (by decide +kernel) (by decide +kernel), mG 90 (by decide +kernel) (by decide +kernel), by decide +kernel⟩
theorem mi_M_recall : Cond.instanceMethod y_M_recall ∈ tbG := mG 362 (by decide +kernel) (by decide +kernel)
theorem ms_M_recall : Cond.selects y_M_recall.cls y_M_recall y_M_recall ∈ tbG := mG 363 (by decide +kernel) (by decide +kernel)
theorem d_M_recall_0 : decode b_M_recall 0 = .ok (.aload_n 0, 1) := by decide +kernel
theorem d_M_recall_1 : decode b_M_recall 1 = .ok (.getfield 22, 3) := by decide +kernel
theorem d_M_recall_4 : decode b_M_recall 4 = .ok (.aload_n 0, 1) := by decide +kernel
theorem d_M_recall_5 : decode b_M_recall 5 = .ok (.getfield 9, 3) := by decide +kernel
theorem d_M_recall_8 : decode b_M_recall 8 = .ok (.invokevirtual 32, 3) := by decide +kernel
theorem d_M_recall_11 : decode b_M_recall 11 = .ok (.aload_n 0, 1) := by decide +kernel
theorem d_M_recall_12 : decode b_M_recall 12 = .ok (.getfield 22, 3) := by decide +kernel
theorem d_M_recall_15 : decode b_M_recall 15 = .ok (.areturn, 1) := by decide +kernel
abbrev b_L_letterAt : ByteArray := prog_6_method_6_code
def y_L_letterAt : MethodName := ⟨"PassedOnAndBetter$Letters", "letterAt", "(I)I"⟩
theorem m_L_letterAt : MV y_L_letterAt b_L_letterAt 2 (some .int) 1 := ⟨mG 396 (by decide +kernel) (by decide +kernel), mG 88 (by decide +kernel) (by decide +kernel), by decide +kernel⟩
theorem mi_L_letterAt : Cond.instanceMethod y_L_letterAt ∈ tbG := mG 395 (by decide +kernel) (by decide +kernel)
theorem ms_L_letterAt : Cond.selects y_L_letterAt.cls y_L_letterAt y_L_letterAt ∈ tbG := mG 3 (by decide +kernel) (by decide +kernel)
theorem d_L_letterAt_0 : decode b_L_letterAt 0 = .ok (.iload_n 1, 1) := by decide +kernel
theorem d_L_letterAt_1 : decode b_L_letterAt 1 = .ok (.aload_n 0, 1) := by decide +kernel
theorem d_L_letterAt_2 : decode b_L_letterAt 2 = .ok (.getfield 15, 3) := by decide +kernel
theorem d_L_letterAt_5 : decode b_L_letterAt 5 = .ok (.if_icmp .ge 14, 3) := by decide +kernel
theorem d_L_letterAt_8 : decode b_L_letterAt 8 = .ok (.aload_n 0, 1) := by decide +kernel
theorem d_L_letterAt_9 : decode b_L_letterAt 9 = .ok (.getfield 11, 3) := by decide +kernel
theorem d_L_letterAt_12 : decode b_L_letterAt 12 = .ok (.iload_n 1, 1) := by decide +kernel
theorem d_L_letterAt_13 : decode b_L_letterAt 13 = .ok (.invokestatic 38, 3) := by decide +kernel
theorem d_L_letterAt_16 : decode b_L_letterAt 16 = .ok (.goto 4, 3) := by decide +kernel
theorem d_L_letterAt_19 : decode b_L_letterAt 19 = .ok (.iconst (-1), 1) := by decide +kernel
theorem d_L_letterAt_20 : decode b_L_letterAt 20 = .ok (.ireturn, 1) := by decide +kernel
abbrev b_L_digitsBehind : ByteArray := prog_6_method_8_code
def y_L_digitsBehind : MethodName := ⟨"PassedOnAndBetter$Letters", "digitsBehind", "(I)I"⟩
theorem m_L_digitsBehind : MV y_L_digitsBehind b_L_digitsBehind 1 (some .int) 1 := ⟨mG 400 (by decide +kernel) (by decide +kernel), mG 88 (by decide +kernel) (by decide +kernel), by decide +kernel⟩
theorem mi_L_digitsBehind : Cond.static y_L_digitsBehind ∈ tbG := mG 399 (by decide +kernel) (by decide +kernel)
theorem d_L_digitsBehind_0 : decode b_L_digitsBehind 0 = .ok (.iload_n 0, 1) := by decide +kernel
theorem d_L_digitsBehind_1 : decode b_L_digitsBehind 1 = .ok (.tableswitch 71 100 110 #[63, 71, 59, 65, 67, 71, 71, 71, 71, 69, 61], 59) := by decide +kernel
theorem d_L_digitsBehind_60 : decode b_L_digitsBehind 60 = .ok (.iconst 4, 1) := by decide +kernel
theorem d_L_digitsBehind_61 : decode b_L_digitsBehind 61 = .ok (.ireturn, 1) := by decide +kernel
theorem d_L_digitsBehind_62 : decode b_L_digitsBehind 62 = .ok (.iconst 2, 1) := by decide +kernel
theorem d_L_digitsBehind_63 : decode b_L_digitsBehind 63 = .ok (.ireturn, 1) := by decide +kernel
theorem d_L_digitsBehind_64 : decode b_L_digitsBehind 64 = .ok (.iconst 3, 1) := by decide +kernel
theorem d_L_digitsBehind_65 : decode b_L_digitsBehind 65 = .ok (.ireturn, 1) := by decide +kernel
theorem d_L_digitsBehind_66 : decode b_L_digitsBehind 66 = .ok (.iconst 5, 1) := by decide +kernel
theorem d_L_digitsBehind_67 : decode b_L_digitsBehind 67 = .ok (.ireturn, 1) := by decide +kernel
theorem d_L_digitsBehind_68 : decode b_L_digitsBehind 68 = .ok (.iconst 2, 1) := by decide +kernel
theorem d_L_digitsBehind_69 : decode b_L_digitsBehind 69 = .ok (.ireturn, 1) := by decide +kernel
theorem d_L_digitsBehind_70 : decode b_L_digitsBehind 70 = .ok (.iconst 2, 1) := by decide +kernel
theorem d_L_digitsBehind_71 : decode b_L_digitsBehind 71 = .ok (.ireturn, 1) := by decide +kernel
theorem d_L_digitsBehind_72 : decode b_L_digitsBehind 72 = .ok (.iconst 0, 1) := by decide +kernel
theorem d_L_digitsBehind_73 : decode b_L_digitsBehind 73 = .ok (.ireturn, 1) := by decide +kernel
abbrev b_L_isDigit : ByteArray := prog_6_method_7_code
def y_L_isDigit : MethodName := ⟨"PassedOnAndBetter$Letters", "isDigit", "(I)Z"⟩
theorem m_L_isDigit : MV y_L_isDigit b_L_isDigit 3 (some .boolean) 1 := ⟨mG 404 (by decide +kernel) (by decide +kernel), mG 88 (by decide +kernel) (by decide +kernel), by decide +kernel⟩
theorem mi_L_isDigit : Cond.instanceMethod y_L_isDigit ∈ tbG := mG 403 (by decide +kernel) (by decide +kernel)
theorem ms_L_isDigit : Cond.selects y_L_isDigit.cls y_L_isDigit y_L_isDigit ∈ tbG := mG 4 (by decide +kernel) (by decide +kernel)
theorem d_L_isDigit_0 : decode b_L_isDigit 0 = .ok (.aload_n 0, 1) := by decide +kernel
theorem d_L_isDigit_1 : decode b_L_isDigit 1 = .ok (.iload_n 1, 1) := by decide +kernel
theorem d_L_isDigit_2 : decode b_L_isDigit 2 = .ok (.invokevirtual 31, 3) := by decide +kernel
theorem d_L_isDigit_5 : decode b_L_isDigit 5 = .ok (.istore_n 2, 1) := by decide +kernel
theorem d_L_isDigit_6 : decode b_L_isDigit 6 = .ok (.iload_n 2, 1) := by decide +kernel
theorem d_L_isDigit_7 : decode b_L_isDigit 7 = .ok (.bipush 48, 2) := by decide +kernel
theorem d_L_isDigit_9 : decode b_L_isDigit 9 = .ok (.if_icmp .lt 13, 3) := by decide +kernel
theorem d_L_isDigit_12 : decode b_L_isDigit 12 = .ok (.iload_n 2, 1) := by decide +kernel
theorem d_L_isDigit_13 : decode b_L_isDigit 13 = .ok (.bipush 57, 2) := by decide +kernel
theorem d_L_isDigit_15 : decode b_L_isDigit 15 = .ok (.if_icmp .gt 7, 3) := by decide +kernel
theorem d_L_isDigit_18 : decode b_L_isDigit 18 = .ok (.iconst 1, 1) := by decide +kernel
theorem d_L_isDigit_19 : decode b_L_isDigit 19 = .ok (.goto 4, 3) := by decide +kernel
theorem d_L_isDigit_22 : decode b_L_isDigit 22 = .ok (.iconst 0, 1) := by decide +kernel
theorem d_L_isDigit_23 : decode b_L_isDigit 23 = .ok (.ireturn, 1) := by decide +kernel
abbrev b_L_placeOfFormFault : ByteArray := prog_6_method_9_code
def y_L_placeOfFormFault : MethodName := ⟨"PassedOnAndBetter$Letters", "placeOfFormFault", "()I"⟩
theorem m_L_placeOfFormFault : MV y_L_placeOfFormFault b_L_placeOfFormFault 4 (some .int) 0 := ⟨mG 392 (by decide +kernel) (by decide +kernel), mG 88 (by decide +kernel) (by decide +kernel), by decide +kernel⟩
theorem mi_L_placeOfFormFault : Cond.instanceMethod y_L_placeOfFormFault ∈ tbG := mG 391 (by decide +kernel) (by decide +kernel)
theorem ms_L_placeOfFormFault : Cond.selects y_L_placeOfFormFault.cls y_L_placeOfFormFault y_L_placeOfFormFault ∈ tbG := mG 2 (by decide +kernel) (by decide +kernel)
theorem d_L_placeOfFormFault_0 : decode b_L_placeOfFormFault 0 = .ok (.aload_n 0, 1) := by decide +kernel
theorem d_L_placeOfFormFault_1 : decode b_L_placeOfFormFault 1 = .ok (.getfield 15, 3) := by decide +kernel
theorem d_L_placeOfFormFault_4 : decode b_L_placeOfFormFault 4 = .ok (.ifCond .ne 5, 3) := by decide +kernel
theorem d_L_placeOfFormFault_7 : decode b_L_placeOfFormFault 7 = .ok (.iconst 0, 1) := by decide +kernel
theorem d_L_placeOfFormFault_8 : decode b_L_placeOfFormFault 8 = .ok (.ireturn, 1) := by decide +kernel
theorem d_L_placeOfFormFault_9 : decode b_L_placeOfFormFault 9 = .ok (.iconst 0, 1) := by decide +kernel
theorem d_L_placeOfFormFault_10 : decode b_L_placeOfFormFault 10 = .ok (.istore_n 1, 1) := by decide +kernel
theorem d_L_placeOfFormFault_11 : decode b_L_placeOfFormFault 11 = .ok (.iload_n 1, 1) := by decide +kernel
theorem d_L_placeOfFormFault_12 : decode b_L_placeOfFormFault 12 = .ok (.aload_n 0, 1) := by decide +kernel
theorem d_L_placeOfFormFault_13 : decode b_L_placeOfFormFault 13 = .ok (.getfield 15, 3) := by decide +kernel
theorem d_L_placeOfFormFault_16 : decode b_L_placeOfFormFault 16 = .ok (.if_icmp .ge 65, 3) := by decide +kernel
theorem d_L_placeOfFormFault_19 : decode b_L_placeOfFormFault 19 = .ok (.aload_n 0, 1) := by decide +kernel
theorem d_L_placeOfFormFault_20 : decode b_L_placeOfFormFault 20 = .ok (.iload_n 1, 1) := by decide +kernel
theorem d_L_placeOfFormFault_21 : decode b_L_placeOfFormFault 21 = .ok (.invokevirtual 31, 3) := by decide +kernel
theorem d_L_placeOfFormFault_24 : decode b_L_placeOfFormFault 24 = .ok (.invokestatic 35, 3) := by decide +kernel
theorem d_L_placeOfFormFault_27 : decode b_L_placeOfFormFault 27 = .ok (.istore_n 2, 1) := by decide +kernel
theorem d_L_placeOfFormFault_28 : decode b_L_placeOfFormFault 28 = .ok (.iload_n 2, 1) := by decide +kernel
theorem d_L_placeOfFormFault_29 : decode b_L_placeOfFormFault 29 = .ok (.ifCond .ne 5, 3) := by decide +kernel
theorem d_L_placeOfFormFault_32 : decode b_L_placeOfFormFault 32 = .ok (.iload_n 1, 1) := by decide +kernel
theorem d_L_placeOfFormFault_33 : decode b_L_placeOfFormFault 33 = .ok (.ireturn, 1) := by decide +kernel
theorem d_L_placeOfFormFault_34 : decode b_L_placeOfFormFault 34 = .ok (.iconst 0, 1) := by decide +kernel
theorem d_L_placeOfFormFault_35 : decode b_L_placeOfFormFault 35 = .ok (.istore_n 3, 1) := by decide +kernel
theorem d_L_placeOfFormFault_36 : decode b_L_placeOfFormFault 36 = .ok (.iload_n 3, 1) := by decide +kernel
theorem d_L_placeOfFormFault_37 : decode b_L_placeOfFormFault 37 = .ok (.iload_n 2, 1) := by decide +kernel
theorem d_L_placeOfFormFault_38 : decode b_L_placeOfFormFault 38 = .ok (.if_icmp .ge 22, 3) := by decide +kernel
theorem d_L_placeOfFormFault_41 : decode b_L_placeOfFormFault 41 = .ok (.iinc 1 1, 3) := by decide +kernel
theorem d_L_placeOfFormFault_44 : decode b_L_placeOfFormFault 44 = .ok (.aload_n 0, 1) := by decide +kernel
theorem d_L_placeOfFormFault_45 : decode b_L_placeOfFormFault 45 = .ok (.iload_n 1, 1) := by decide +kernel
theorem d_L_placeOfFormFault_46 : decode b_L_placeOfFormFault 46 = .ok (.invokevirtual 42, 3) := by decide +kernel
theorem d_L_placeOfFormFault_49 : decode b_L_placeOfFormFault 49 = .ok (.ifCond .ne 5, 3) := by decide +kernel
theorem d_L_placeOfFormFault_52 : decode b_L_placeOfFormFault 52 = .ok (.iload_n 1, 1) := by decide +kernel
theorem d_L_placeOfFormFault_53 : decode b_L_placeOfFormFault 53 = .ok (.ireturn, 1) := by decide +kernel
theorem d_L_placeOfFormFault_54 : decode b_L_placeOfFormFault 54 = .ok (.iinc 3 1, 3) := by decide +kernel
theorem d_L_placeOfFormFault_57 : decode b_L_placeOfFormFault 57 = .ok (.goto (-21), 3) := by decide +kernel
theorem d_L_placeOfFormFault_60 : decode b_L_placeOfFormFault 60 = .ok (.iinc 1 1, 3) := by decide +kernel
theorem d_L_placeOfFormFault_63 : decode b_L_placeOfFormFault 63 = .ok (.aload_n 0, 1) := by decide +kernel
theorem d_L_placeOfFormFault_64 : decode b_L_placeOfFormFault 64 = .ok (.iload_n 1, 1) := by decide +kernel
theorem d_L_placeOfFormFault_65 : decode b_L_placeOfFormFault 65 = .ok (.invokevirtual 31, 3) := by decide +kernel
theorem d_L_placeOfFormFault_68 : decode b_L_placeOfFormFault 68 = .ok (.bipush 59, 2) := by decide +kernel
theorem d_L_placeOfFormFault_70 : decode b_L_placeOfFormFault 70 = .ok (.if_icmp .eq 5, 3) := by decide +kernel
theorem d_L_placeOfFormFault_73 : decode b_L_placeOfFormFault 73 = .ok (.iload_n 1, 1) := by decide +kernel
theorem d_L_placeOfFormFault_74 : decode b_L_placeOfFormFault 74 = .ok (.ireturn, 1) := by decide +kernel
theorem d_L_placeOfFormFault_75 : decode b_L_placeOfFormFault 75 = .ok (.iinc 1 1, 3) := by decide +kernel
theorem d_L_placeOfFormFault_78 : decode b_L_placeOfFormFault 78 = .ok (.goto (-67), 3) := by decide +kernel
theorem d_L_placeOfFormFault_81 : decode b_L_placeOfFormFault 81 = .ok (.iconst (-1), 1) := by decide +kernel
theorem d_L_placeOfFormFault_82 : decode b_L_placeOfFormFault 82 = .ok (.ireturn, 1) := by decide +kernel
abbrev b_L_digitAt : ByteArray := prog_6_method_10_code
def y_L_digitAt : MethodName := ⟨"PassedOnAndBetter$Letters", "digitAt", "(I)I"⟩
theorem m_L_digitAt : MV y_L_digitAt b_L_digitAt 2 (some .int) 1 := ⟨mG 416 (by decide +kernel) (by decide +kernel), mG 88 (by decide +kernel) (by decide +kernel), by decide +kernel⟩
theorem mi_L_digitAt : Cond.instanceMethod y_L_digitAt ∈ tbG := mG 415 (by decide +kernel) (by decide +kernel)
theorem ms_L_digitAt : Cond.selects y_L_digitAt.cls y_L_digitAt y_L_digitAt ∈ tbG := mG 7 (by decide +kernel) (by decide +kernel)
theorem d_L_digitAt_0 : decode b_L_digitAt 0 = .ok (.aload_n 0, 1) := by decide +kernel
theorem d_L_digitAt_1 : decode b_L_digitAt 1 = .ok (.iload_n 1, 1) := by decide +kernel
theorem d_L_digitAt_2 : decode b_L_digitAt 2 = .ok (.invokevirtual 31, 3) := by decide +kernel
theorem d_L_digitAt_5 : decode b_L_digitAt 5 = .ok (.bipush 48, 2) := by decide +kernel
theorem d_L_digitAt_7 : decode b_L_digitAt 7 = .ok (.isub, 1) := by decide +kernel
theorem d_L_digitAt_8 : decode b_L_digitAt 8 = .ok (.ireturn, 1) := by decide +kernel
abbrev b_L_twoDigitsAt : ByteArray := prog_6_method_11_code
def y_L_twoDigitsAt : MethodName := ⟨"PassedOnAndBetter$Letters", "twoDigitsAt", "(I)I"⟩
theorem m_L_twoDigitsAt : MV y_L_twoDigitsAt b_L_twoDigitsAt 2 (some .int) 1 := ⟨mG 420 (by decide +kernel) (by decide +kernel), mG 88 (by decide +kernel) (by decide +kernel), by decide +kernel⟩
theorem mi_L_twoDigitsAt : Cond.instanceMethod y_L_twoDigitsAt ∈ tbG := mG 419 (by decide +kernel) (by decide +kernel)
theorem ms_L_twoDigitsAt : Cond.selects y_L_twoDigitsAt.cls y_L_twoDigitsAt y_L_twoDigitsAt ∈ tbG := mG 8 (by decide +kernel) (by decide +kernel)
theorem d_L_twoDigitsAt_0 : decode b_L_twoDigitsAt 0 = .ok (.bipush 10, 2) := by decide +kernel
theorem d_L_twoDigitsAt_2 : decode b_L_twoDigitsAt 2 = .ok (.aload_n 0, 1) := by decide +kernel
theorem d_L_twoDigitsAt_3 : decode b_L_twoDigitsAt 3 = .ok (.iload_n 1, 1) := by decide +kernel
theorem d_L_twoDigitsAt_4 : decode b_L_twoDigitsAt 4 = .ok (.invokevirtual 46, 3) := by decide +kernel
theorem d_L_twoDigitsAt_7 : decode b_L_twoDigitsAt 7 = .ok (.imul, 1) := by decide +kernel
theorem d_L_twoDigitsAt_8 : decode b_L_twoDigitsAt 8 = .ok (.aload_n 0, 1) := by decide +kernel
theorem d_L_twoDigitsAt_9 : decode b_L_twoDigitsAt 9 = .ok (.iload_n 1, 1) := by decide +kernel
theorem d_L_twoDigitsAt_10 : decode b_L_twoDigitsAt 10 = .ok (.iconst 1, 1) := by decide +kernel
theorem d_L_twoDigitsAt_11 : decode b_L_twoDigitsAt 11 = .ok (.iadd, 1) := by decide +kernel
theorem d_L_twoDigitsAt_12 : decode b_L_twoDigitsAt 12 = .ok (.invokevirtual 46, 3) := by decide +kernel
theorem d_L_twoDigitsAt_15 : decode b_L_twoDigitsAt 15 = .ok (.iadd, 1) := by decide +kernel
theorem d_L_twoDigitsAt_16 : decode b_L_twoDigitsAt 16 = .ok (.ireturn, 1) := by decide +kernel
abbrev b_C_friendsAreFull : ByteArray := prog_2_method_6_code
def y_C_friendsAreFull : MethodName := ⟨"PassedOnAndBetter$Company", "friendsAreFull", "()Z"⟩
theorem m_C_friendsAreFull : MV y_C_friendsAreFull b_C_friendsAreFull 1 (some .boolean) 0 := ⟨mG 424 (by decide +kernel) (by decide +kernel), mG 84 (by decide +kernel) (by decide +kernel), by decide +kernel⟩
theorem mi_C_friendsAreFull : Cond.instanceMethod y_C_friendsAreFull ∈ tbG := mG 422 (by decide +kernel) (by decide +kernel)
theorem ms_C_friendsAreFull : Cond.selects y_C_friendsAreFull.cls y_C_friendsAreFull y_C_friendsAreFull ∈ tbG := mG 423 (by decide +kernel) (by decide +kernel)
theorem d_C_friendsAreFull_0 : decode b_C_friendsAreFull 0 = .ok (.aload_n 0, 1) := by decide +kernel
theorem d_C_friendsAreFull_1 : decode b_C_friendsAreFull 1 = .ok (.getfield 33, 3) := by decide +kernel
theorem d_C_friendsAreFull_4 : decode b_C_friendsAreFull 4 = .ok (.bipush 6, 2) := by decide +kernel
theorem d_C_friendsAreFull_6 : decode b_C_friendsAreFull 6 = .ok (.if_icmp .lt 7, 3) := by decide +kernel
theorem d_C_friendsAreFull_9 : decode b_C_friendsAreFull 9 = .ok (.iconst 1, 1) := by decide +kernel
theorem d_C_friendsAreFull_10 : decode b_C_friendsAreFull 10 = .ok (.goto 4, 3) := by decide +kernel
theorem d_C_friendsAreFull_13 : decode b_C_friendsAreFull 13 = .ok (.iconst 0, 1) := by decide +kernel
theorem d_C_friendsAreFull_14 : decode b_C_friendsAreFull 14 = .ok (.ireturn, 1) := by decide +kernel
abbrev b_K_waitsOf : ByteArray := prog_5_method_2_code
def y_K_waitsOf : MethodName := ⟨"PassedOnAndBetter$Kinds", "waitsOf", "(II)I"⟩
theorem m_K_waitsOf : MV y_K_waitsOf b_K_waitsOf 2 (some .int) 2 := ⟨mG 439 (by decide +kernel) (by decide +kernel), mG 92 (by decide +kernel) (by decide +kernel), by decide +kernel⟩
theorem mi_K_waitsOf : Cond.static y_K_waitsOf ∈ tbG := mG 438 (by decide +kernel) (by decide +kernel)
theorem d_K_waitsOf_0 : decode b_K_waitsOf 0 = .ok (.iload_n 0, 1) := by decide +kernel
theorem d_K_waitsOf_1 : decode b_K_waitsOf 1 = .ok (.tableswitch 48 1 5 #[35, 38, 41, 43, 46], 35) := by decide +kernel
theorem d_K_waitsOf_36 : decode b_K_waitsOf 36 = .ok (.bipush 12, 2) := by decide +kernel
theorem d_K_waitsOf_38 : decode b_K_waitsOf 38 = .ok (.ireturn, 1) := by decide +kernel
theorem d_K_waitsOf_39 : decode b_K_waitsOf 39 = .ok (.bipush 6, 2) := by decide +kernel
theorem d_K_waitsOf_41 : decode b_K_waitsOf 41 = .ok (.ireturn, 1) := by decide +kernel
theorem d_K_waitsOf_42 : decode b_K_waitsOf 42 = .ok (.iconst 3, 1) := by decide +kernel
theorem d_K_waitsOf_43 : decode b_K_waitsOf 43 = .ok (.ireturn, 1) := by decide +kernel
theorem d_K_waitsOf_44 : decode b_K_waitsOf 44 = .ok (.bipush 11, 2) := by decide +kernel
theorem d_K_waitsOf_46 : decode b_K_waitsOf 46 = .ok (.ireturn, 1) := by decide +kernel
theorem d_K_waitsOf_47 : decode b_K_waitsOf 47 = .ok (.iconst 1, 1) := by decide +kernel
theorem d_K_waitsOf_48 : decode b_K_waitsOf 48 = .ok (.ireturn, 1) := by decide +kernel
theorem d_K_waitsOf_49 : decode b_K_waitsOf 49 = .ok (.bipush 12, 2) := by decide +kernel
theorem d_K_waitsOf_51 : decode b_K_waitsOf 51 = .ok (.iload_n 1, 1) := by decide +kernel
theorem d_K_waitsOf_52 : decode b_K_waitsOf 52 = .ok (.isub, 1) := by decide +kernel
theorem d_K_waitsOf_53 : decode b_K_waitsOf 53 = .ok (.ireturn, 1) := by decide +kernel
abbrev b_K_addsOf : ByteArray := prog_5_method_3_code
def y_K_addsOf : MethodName := ⟨"PassedOnAndBetter$Kinds", "addsOf", "(II)I"⟩
theorem m_K_addsOf : MV y_K_addsOf b_K_addsOf 3 (some .int) 2 := ⟨mG 442 (by decide +kernel) (by decide +kernel), mG 92 (by decide +kernel) (by decide +kernel), by decide +kernel⟩
theorem mi_K_addsOf : Cond.static y_K_addsOf ∈ tbG := mG 441 (by decide +kernel) (by decide +kernel)
theorem d_K_addsOf_0 : decode b_K_addsOf 0 = .ok (.iload_n 1, 1) := by decide +kernel
theorem d_K_addsOf_1 : decode b_K_addsOf 1 = .ok (.iconst 1, 1) := by decide +kernel
theorem d_K_addsOf_2 : decode b_K_addsOf 2 = .ok (.iadd, 1) := by decide +kernel
theorem d_K_addsOf_3 : decode b_K_addsOf 3 = .ok (.istore_n 2, 1) := by decide +kernel
theorem d_K_addsOf_4 : decode b_K_addsOf 4 = .ok (.iload_n 0, 1) := by decide +kernel
theorem d_K_addsOf_5 : decode b_K_addsOf 5 = .ok (.tableswitch 49 1 5 #[35, 37, 39, 41, 45], 35) := by decide +kernel
theorem d_K_addsOf_40 : decode b_K_addsOf 40 = .ok (.iconst 1, 1) := by decide +kernel
theorem d_K_addsOf_41 : decode b_K_addsOf 41 = .ok (.ireturn, 1) := by decide +kernel
theorem d_K_addsOf_42 : decode b_K_addsOf 42 = .ok (.iconst 5, 1) := by decide +kernel
theorem d_K_addsOf_43 : decode b_K_addsOf 43 = .ok (.ireturn, 1) := by decide +kernel
theorem d_K_addsOf_44 : decode b_K_addsOf 44 = .ok (.iconst 2, 1) := by decide +kernel
theorem d_K_addsOf_45 : decode b_K_addsOf 45 = .ok (.ireturn, 1) := by decide +kernel
theorem d_K_addsOf_46 : decode b_K_addsOf 46 = .ok (.iconst 1, 1) := by decide +kernel
theorem d_K_addsOf_47 : decode b_K_addsOf 47 = .ok (.iload_n 1, 1) := by decide +kernel
theorem d_K_addsOf_48 : decode b_K_addsOf 48 = .ok (.iadd, 1) := by decide +kernel
theorem d_K_addsOf_49 : decode b_K_addsOf 49 = .ok (.ireturn, 1) := by decide +kernel
theorem d_K_addsOf_50 : decode b_K_addsOf 50 = .ok (.iload_n 2, 1) := by decide +kernel
theorem d_K_addsOf_51 : decode b_K_addsOf 51 = .ok (.iconst 2, 1) := by decide +kernel
theorem d_K_addsOf_52 : decode b_K_addsOf 52 = .ok (.idiv, 1) := by decide +kernel
theorem d_K_addsOf_53 : decode b_K_addsOf 53 = .ok (.ireturn, 1) := by decide +kernel
theorem d_K_addsOf_54 : decode b_K_addsOf 54 = .ok (.iload_n 2, 1) := by decide +kernel
theorem d_K_addsOf_55 : decode b_K_addsOf 55 = .ok (.ireturn, 1) := by decide +kernel
abbrev b_K_swellsOf : ByteArray := prog_5_method_4_code
def y_K_swellsOf : MethodName := ⟨"PassedOnAndBetter$Kinds", "swellsOf", "(II)I"⟩
theorem m_K_swellsOf : MV y_K_swellsOf b_K_swellsOf 3 (some .int) 2 := ⟨mG 445 (by decide +kernel) (by decide +kernel), mG 92 (by decide +kernel) (by decide +kernel), by decide +kernel⟩
theorem mi_K_swellsOf : Cond.static y_K_swellsOf ∈ tbG := mG 444 (by decide +kernel) (by decide +kernel)
theorem d_K_swellsOf_0 : decode b_K_swellsOf 0 = .ok (.iload_n 1, 1) := by decide +kernel
theorem d_K_swellsOf_1 : decode b_K_swellsOf 1 = .ok (.iconst 2, 1) := by decide +kernel
theorem d_K_swellsOf_2 : decode b_K_swellsOf 2 = .ok (.idiv, 1) := by decide +kernel
theorem d_K_swellsOf_3 : decode b_K_swellsOf 3 = .ok (.istore_n 2, 1) := by decide +kernel
theorem d_K_swellsOf_4 : decode b_K_swellsOf 4 = .ok (.iload_n 0, 1) := by decide +kernel
theorem d_K_swellsOf_5 : decode b_K_swellsOf 5 = .ok (.tableswitch 55 1 5 #[35, 37, 39, 42, 44], 35) := by decide +kernel
theorem d_K_swellsOf_40 : decode b_K_swellsOf 40 = .ok (.iconst 0, 1) := by decide +kernel
theorem d_K_swellsOf_41 : decode b_K_swellsOf 41 = .ok (.ireturn, 1) := by decide +kernel
theorem d_K_swellsOf_42 : decode b_K_swellsOf 42 = .ok (.iload_n 1, 1) := by decide +kernel
theorem d_K_swellsOf_43 : decode b_K_swellsOf 43 = .ok (.ireturn, 1) := by decide +kernel
theorem d_K_swellsOf_44 : decode b_K_swellsOf 44 = .ok (.bipush (-3), 2) := by decide +kernel
theorem d_K_swellsOf_46 : decode b_K_swellsOf 46 = .ok (.ireturn, 1) := by decide +kernel
theorem d_K_swellsOf_47 : decode b_K_swellsOf 47 = .ok (.iconst 4, 1) := by decide +kernel
theorem d_K_swellsOf_48 : decode b_K_swellsOf 48 = .ok (.ireturn, 1) := by decide +kernel
theorem d_K_swellsOf_49 : decode b_K_swellsOf 49 = .ok (.iload_n 2, 1) := by decide +kernel
theorem d_K_swellsOf_50 : decode b_K_swellsOf 50 = .ok (.iconst 2, 1) := by decide +kernel
theorem d_K_swellsOf_51 : decode b_K_swellsOf 51 = .ok (.if_icmp .ge 7, 3) := by decide +kernel
theorem d_K_swellsOf_54 : decode b_K_swellsOf 54 = .ok (.iload_n 2, 1) := by decide +kernel
theorem d_K_swellsOf_55 : decode b_K_swellsOf 55 = .ok (.goto 4, 3) := by decide +kernel
theorem d_K_swellsOf_58 : decode b_K_swellsOf 58 = .ok (.iconst 2, 1) := by decide +kernel
theorem d_K_swellsOf_59 : decode b_K_swellsOf 59 = .ok (.ireturn, 1) := by decide +kernel
theorem d_K_swellsOf_60 : decode b_K_swellsOf 60 = .ok (.iload_n 2, 1) := by decide +kernel
theorem d_K_swellsOf_61 : decode b_K_swellsOf 61 = .ok (.ireturn, 1) := by decide +kernel
abbrev b_F_become : ByteArray := prog_3_method_2_code
def y_F_become : MethodName := ⟨"PassedOnAndBetter$Friend", "become", "(II)V"⟩
theorem m_F_become : MV y_F_become b_F_become 3 none 2 := ⟨mG 436 (by decide +kernel) (by decide +kernel), mG 85 (by decide +kernel) (by decide +kernel), by decide +kernel⟩
theorem mi_F_become : Cond.instanceMethod y_F_become ∈ tbG := mG 434 (by decide +kernel) (by decide +kernel)
theorem ms_F_become : Cond.selects y_F_become.cls y_F_become y_F_become ∈ tbG := mG 435 (by decide +kernel) (by decide +kernel)
theorem d_F_become_0 : decode b_F_become 0 = .ok (.aload_n 0, 1) := by decide +kernel
theorem d_F_become_1 : decode b_F_become 1 = .ok (.iload_n 1, 1) := by decide +kernel
theorem d_F_become_2 : decode b_F_become 2 = .ok (.putfield 9, 3) := by decide +kernel
theorem d_F_become_5 : decode b_F_become 5 = .ok (.aload_n 0, 1) := by decide +kernel
theorem d_F_become_6 : decode b_F_become 6 = .ok (.iload_n 2, 1) := by decide +kernel
theorem d_F_become_7 : decode b_F_become 7 = .ok (.putfield 15, 3) := by decide +kernel
theorem d_F_become_10 : decode b_F_become 10 = .ok (.aload_n 0, 1) := by decide +kernel
theorem d_F_become_11 : decode b_F_become 11 = .ok (.aload_n 0, 1) := by decide +kernel
theorem d_F_become_12 : decode b_F_become 12 = .ok (.getfield 9, 3) := by decide +kernel
theorem d_F_become_15 : decode b_F_become 15 = .ok (.aload_n 0, 1) := by decide +kernel
theorem d_F_become_16 : decode b_F_become 16 = .ok (.getfield 15, 3) := by decide +kernel
theorem d_F_become_19 : decode b_F_become 19 = .ok (.invokestatic 39, 3) := by decide +kernel
theorem d_F_become_22 : decode b_F_become 22 = .ok (.putfield 24, 3) := by decide +kernel
theorem d_F_become_25 : decode b_F_become 25 = .ok (.aload_n 0, 1) := by decide +kernel
theorem d_F_become_26 : decode b_F_become 26 = .ok (.aload_n 0, 1) := by decide +kernel
theorem d_F_become_27 : decode b_F_become 27 = .ok (.getfield 9, 3) := by decide +kernel
theorem d_F_become_30 : decode b_F_become 30 = .ok (.aload_n 0, 1) := by decide +kernel
theorem d_F_become_31 : decode b_F_become 31 = .ok (.getfield 15, 3) := by decide +kernel
theorem d_F_become_34 : decode b_F_become 34 = .ok (.invokestatic 45, 3) := by decide +kernel
theorem d_F_become_37 : decode b_F_become 37 = .ok (.putfield 27, 3) := by decide +kernel
theorem d_F_become_40 : decode b_F_become 40 = .ok (.aload_n 0, 1) := by decide +kernel
theorem d_F_become_41 : decode b_F_become 41 = .ok (.aload_n 0, 1) := by decide +kernel
theorem d_F_become_42 : decode b_F_become 42 = .ok (.getfield 9, 3) := by decide +kernel
theorem d_F_become_45 : decode b_F_become 45 = .ok (.aload_n 0, 1) := by decide +kernel
theorem d_F_become_46 : decode b_F_become 46 = .ok (.getfield 15, 3) := by decide +kernel
theorem d_F_become_49 : decode b_F_become 49 = .ok (.invokestatic 48, 3) := by decide +kernel
theorem d_F_become_52 : decode b_F_become 52 = .ok (.putfield 30, 3) := by decide +kernel
theorem d_F_become_55 : decode b_F_become 55 = .ok (.return_, 1) := by decide +kernel
abbrev b_F_begin : ByteArray := prog_3_method_3_code
def y_F_begin : MethodName := ⟨"PassedOnAndBetter$Friend", "begin", "(III)V"⟩
theorem m_F_begin : MV y_F_begin b_F_begin 4 none 3 := ⟨mG 432 (by decide +kernel) (by decide +kernel), mG 85 (by decide +kernel) (by decide +kernel), by decide +kernel⟩
theorem mi_F_begin : Cond.instanceMethod y_F_begin ∈ tbG := mG 430 (by decide +kernel) (by decide +kernel)
theorem ms_F_begin : Cond.selects y_F_begin.cls y_F_begin y_F_begin ∈ tbG := mG 431 (by decide +kernel) (by decide +kernel)
theorem d_F_begin_0 : decode b_F_begin 0 = .ok (.aload_n 0, 1) := by decide +kernel
theorem d_F_begin_1 : decode b_F_begin 1 = .ok (.iload_n 1, 1) := by decide +kernel
theorem d_F_begin_2 : decode b_F_begin 2 = .ok (.iload_n 2, 1) := by decide +kernel
theorem d_F_begin_3 : decode b_F_begin 3 = .ok (.invokevirtual 51, 3) := by decide +kernel
theorem d_F_begin_6 : decode b_F_begin 6 = .ok (.aload_n 0, 1) := by decide +kernel
theorem d_F_begin_7 : decode b_F_begin 7 = .ok (.iload_n 3, 1) := by decide +kernel
theorem d_F_begin_8 : decode b_F_begin 8 = .ok (.putfield 18, 3) := by decide +kernel
theorem d_F_begin_11 : decode b_F_begin 11 = .ok (.aload_n 0, 1) := by decide +kernel
theorem d_F_begin_12 : decode b_F_begin 12 = .ok (.iconst (-1), 1) := by decide +kernel
theorem d_F_begin_13 : decode b_F_begin 13 = .ok (.putfield 21, 3) := by decide +kernel
theorem d_F_begin_16 : decode b_F_begin 16 = .ok (.aload_n 0, 1) := by decide +kernel
theorem d_F_begin_17 : decode b_F_begin 17 = .ok (.iconst 1, 1) := by decide +kernel
theorem d_F_begin_18 : decode b_F_begin 18 = .ok (.putfield 33, 3) := by decide +kernel
theorem d_F_begin_21 : decode b_F_begin 21 = .ok (.aload_n 0, 1) := by decide +kernel
theorem d_F_begin_22 : decode b_F_begin 22 = .ok (.iconst 0, 1) := by decide +kernel
theorem d_F_begin_23 : decode b_F_begin 23 = .ok (.putfield 36, 3) := by decide +kernel
theorem d_F_begin_26 : decode b_F_begin 26 = .ok (.return_, 1) := by decide +kernel
abbrev b_C_addFriend : ByteArray := prog_2_method_9_code
def y_C_addFriend : MethodName := ⟨"PassedOnAndBetter$Company", "addFriend", "(III)I"⟩
theorem m_C_addFriend : MV y_C_addFriend b_C_addFriend 5 (some .int) 3 := ⟨mG 428 (by decide +kernel) (by decide +kernel), mG 84 (by decide +kernel) (by decide +kernel), by decide +kernel⟩
theorem mi_C_addFriend : Cond.instanceMethod y_C_addFriend ∈ tbG := mG 426 (by decide +kernel) (by decide +kernel)
theorem ms_C_addFriend : Cond.selects y_C_addFriend.cls y_C_addFriend y_C_addFriend ∈ tbG := mG 427 (by decide +kernel) (by decide +kernel)
theorem d_C_addFriend_0 : decode b_C_addFriend 0 = .ok (.aload_n 0, 1) := by decide +kernel
theorem d_C_addFriend_1 : decode b_C_addFriend 1 = .ok (.getfield 33, 3) := by decide +kernel
theorem d_C_addFriend_4 : decode b_C_addFriend 4 = .ok (.istore 4, 2) := by decide +kernel
theorem d_C_addFriend_6 : decode b_C_addFriend 6 = .ok (.aload_n 0, 1) := by decide +kernel
theorem d_C_addFriend_7 : decode b_C_addFriend 7 = .ok (.iload 4, 2) := by decide +kernel
theorem d_C_addFriend_9 : decode b_C_addFriend 9 = .ok (.invokevirtual 43, 3) := by decide +kernel
theorem d_C_addFriend_12 : decode b_C_addFriend 12 = .ok (.iload_n 1, 1) := by decide +kernel
theorem d_C_addFriend_13 : decode b_C_addFriend 13 = .ok (.iload_n 2, 1) := by decide +kernel
theorem d_C_addFriend_14 : decode b_C_addFriend 14 = .ok (.iload_n 3, 1) := by decide +kernel
theorem d_C_addFriend_15 : decode b_C_addFriend 15 = .ok (.invokevirtual 58, 3) := by decide +kernel
theorem d_C_addFriend_18 : decode b_C_addFriend 18 = .ok (.aload_n 0, 1) := by decide +kernel
theorem d_C_addFriend_19 : decode b_C_addFriend 19 = .ok (.dup, 1) := by decide +kernel
theorem d_C_addFriend_20 : decode b_C_addFriend 20 = .ok (.getfield 33, 3) := by decide +kernel
theorem d_C_addFriend_23 : decode b_C_addFriend 23 = .ok (.iconst 1, 1) := by decide +kernel
theorem d_C_addFriend_24 : decode b_C_addFriend 24 = .ok (.iadd, 1) := by decide +kernel
theorem d_C_addFriend_25 : decode b_C_addFriend 25 = .ok (.putfield 33, 3) := by decide +kernel
theorem d_C_addFriend_28 : decode b_C_addFriend 28 = .ok (.iload 4, 2) := by decide +kernel
theorem d_C_addFriend_30 : decode b_C_addFriend 30 = .ok (.ireturn, 1) := by decide +kernel
abbrev b_L_tellFriend : ByteArray := prog_6_method_13_code
def y_L_tellFriend : MethodName := ⟨"PassedOnAndBetter$Letters", "tellFriend", "(LPassedOnAndBetter$Company;I)Z"⟩
theorem m_L_tellFriend : MV y_L_tellFriend b_L_tellFriend 5 (some .boolean) 2 := ⟨mG 412 (by decide +kernel) (by decide +kernel), mG 88 (by decide +kernel) (by decide +kernel), by decide +kernel⟩
theorem mi_L_tellFriend : Cond.instanceMethod y_L_tellFriend ∈ tbG := mG 411 (by decide +kernel) (by decide +kernel)
theorem ms_L_tellFriend : Cond.selects y_L_tellFriend.cls y_L_tellFriend y_L_tellFriend ∈ tbG := mG 6 (by decide +kernel) (by decide +kernel)
theorem d_L_tellFriend_0 : decode b_L_tellFriend 0 = .ok (.aload_n 0, 1) := by decide +kernel
theorem d_L_tellFriend_1 : decode b_L_tellFriend 1 = .ok (.iload_n 2, 1) := by decide +kernel
theorem d_L_tellFriend_2 : decode b_L_tellFriend 2 = .ok (.invokevirtual 46, 3) := by decide +kernel
theorem d_L_tellFriend_5 : decode b_L_tellFriend 5 = .ok (.istore_n 3, 1) := by decide +kernel
theorem d_L_tellFriend_6 : decode b_L_tellFriend 6 = .ok (.aload_n 0, 1) := by decide +kernel
theorem d_L_tellFriend_7 : decode b_L_tellFriend 7 = .ok (.iload_n 2, 1) := by decide +kernel
theorem d_L_tellFriend_8 : decode b_L_tellFriend 8 = .ok (.iconst 2, 1) := by decide +kernel
theorem d_L_tellFriend_9 : decode b_L_tellFriend 9 = .ok (.iadd, 1) := by decide +kernel
theorem d_L_tellFriend_10 : decode b_L_tellFriend 10 = .ok (.invokevirtual 67, 3) := by decide +kernel
theorem d_L_tellFriend_13 : decode b_L_tellFriend 13 = .ok (.istore 4, 2) := by decide +kernel
theorem d_L_tellFriend_15 : decode b_L_tellFriend 15 = .ok (.iload_n 3, 1) := by decide +kernel
theorem d_L_tellFriend_16 : decode b_L_tellFriend 16 = .ok (.iconst 5, 1) := by decide +kernel
theorem d_L_tellFriend_17 : decode b_L_tellFriend 17 = .ok (.if_icmp .gt 16, 3) := by decide +kernel
theorem d_L_tellFriend_20 : decode b_L_tellFriend 20 = .ok (.iload 4, 2) := by decide +kernel
theorem d_L_tellFriend_22 : decode b_L_tellFriend 22 = .ok (.iconst 1, 1) := by decide +kernel
theorem d_L_tellFriend_23 : decode b_L_tellFriend 23 = .ok (.if_icmp .lt 10, 3) := by decide +kernel
theorem d_L_tellFriend_26 : decode b_L_tellFriend 26 = .ok (.aload_n 1, 1) := by decide +kernel
theorem d_L_tellFriend_27 : decode b_L_tellFriend 27 = .ok (.invokevirtual 70, 3) := by decide +kernel
theorem d_L_tellFriend_30 : decode b_L_tellFriend 30 = .ok (.ifCond .eq 5, 3) := by decide +kernel
theorem d_L_tellFriend_33 : decode b_L_tellFriend 33 = .ok (.iconst 0, 1) := by decide +kernel
theorem d_L_tellFriend_34 : decode b_L_tellFriend 34 = .ok (.ireturn, 1) := by decide +kernel
theorem d_L_tellFriend_35 : decode b_L_tellFriend 35 = .ok (.aload_n 1, 1) := by decide +kernel
theorem d_L_tellFriend_36 : decode b_L_tellFriend 36 = .ok (.iload_n 3, 1) := by decide +kernel
theorem d_L_tellFriend_37 : decode b_L_tellFriend 37 = .ok (.aload_n 0, 1) := by decide +kernel
theorem d_L_tellFriend_38 : decode b_L_tellFriend 38 = .ok (.iload_n 2, 1) := by decide +kernel
theorem d_L_tellFriend_39 : decode b_L_tellFriend 39 = .ok (.iconst 1, 1) := by decide +kernel
theorem d_L_tellFriend_40 : decode b_L_tellFriend 40 = .ok (.iadd, 1) := by decide +kernel
theorem d_L_tellFriend_41 : decode b_L_tellFriend 41 = .ok (.invokevirtual 46, 3) := by decide +kernel
theorem d_L_tellFriend_44 : decode b_L_tellFriend 44 = .ok (.iload 4, 2) := by decide +kernel
theorem d_L_tellFriend_46 : decode b_L_tellFriend 46 = .ok (.invokevirtual 76, 3) := by decide +kernel
theorem d_L_tellFriend_49 : decode b_L_tellFriend 49 = .ok (.pop, 1) := by decide +kernel
theorem d_L_tellFriend_50 : decode b_L_tellFriend 50 = .ok (.iconst 1, 1) := by decide +kernel
theorem d_L_tellFriend_51 : decode b_L_tellFriend 51 = .ok (.ireturn, 1) := by decide +kernel
abbrev b_C_hasFriend : ByteArray := prog_2_method_4_code
def y_C_hasFriend : MethodName := ⟨"PassedOnAndBetter$Company", "hasFriend", "(I)Z"⟩
theorem m_C_hasFriend : MV y_C_hasFriend b_C_hasFriend 2 (some .boolean) 1 := ⟨mG 453 (by decide +kernel) (by decide +kernel), mG 84 (by decide +kernel) (by decide +kernel), by decide +kernel⟩
theorem mi_C_hasFriend : Cond.instanceMethod y_C_hasFriend ∈ tbG := mG 451 (by decide +kernel) (by decide +kernel)
theorem ms_C_hasFriend : Cond.selects y_C_hasFriend.cls y_C_hasFriend y_C_hasFriend ∈ tbG := mG 452 (by decide +kernel) (by decide +kernel)
theorem d_C_hasFriend_0 : decode b_C_hasFriend 0 = .ok (.iload_n 1, 1) := by decide +kernel
theorem d_C_hasFriend_1 : decode b_C_hasFriend 1 = .ok (.ifCond .lt 15, 3) := by decide +kernel
theorem d_C_hasFriend_4 : decode b_C_hasFriend 4 = .ok (.iload_n 1, 1) := by decide +kernel
theorem d_C_hasFriend_5 : decode b_C_hasFriend 5 = .ok (.aload_n 0, 1) := by decide +kernel
theorem d_C_hasFriend_6 : decode b_C_hasFriend 6 = .ok (.getfield 33, 3) := by decide +kernel
theorem d_C_hasFriend_9 : decode b_C_hasFriend 9 = .ok (.if_icmp .ge 7, 3) := by decide +kernel
theorem d_C_hasFriend_12 : decode b_C_hasFriend 12 = .ok (.iconst 1, 1) := by decide +kernel
theorem d_C_hasFriend_13 : decode b_C_hasFriend 13 = .ok (.goto 4, 3) := by decide +kernel
theorem d_C_hasFriend_16 : decode b_C_hasFriend 16 = .ok (.iconst 0, 1) := by decide +kernel
theorem d_C_hasFriend_17 : decode b_C_hasFriend 17 = .ok (.ireturn, 1) := by decide +kernel
abbrev b_C_turnNext : ByteArray := prog_2_method_11_code
def y_C_turnNext : MethodName := ⟨"PassedOnAndBetter$Company", "turnNext", "(II)I"⟩
theorem m_C_turnNext : MV y_C_turnNext b_C_turnNext 5 (some .int) 2 := ⟨mG 457 (by decide +kernel) (by decide +kernel), mG 84 (by decide +kernel) (by decide +kernel), by decide +kernel⟩
theorem mi_C_turnNext : Cond.instanceMethod y_C_turnNext ∈ tbG := mG 455 (by decide +kernel) (by decide +kernel)
theorem ms_C_turnNext : Cond.selects y_C_turnNext.cls y_C_turnNext y_C_turnNext ∈ tbG := mG 456 (by decide +kernel) (by decide +kernel)
theorem d_C_turnNext_0 : decode b_C_turnNext 0 = .ok (.aload_n 0, 1) := by decide +kernel
theorem d_C_turnNext_1 : decode b_C_turnNext 1 = .ok (.iload_n 1, 1) := by decide +kernel
theorem d_C_turnNext_2 : decode b_C_turnNext 2 = .ok (.invokevirtual 43, 3) := by decide +kernel
theorem d_C_turnNext_5 : decode b_C_turnNext 5 = .ok (.astore_n 3, 1) := by decide +kernel
theorem d_C_turnNext_6 : decode b_C_turnNext 6 = .ok (.aload_n 3, 1) := by decide +kernel
theorem d_C_turnNext_7 : decode b_C_turnNext 7 = .ok (.getfield 63, 3) := by decide +kernel
theorem d_C_turnNext_10 : decode b_C_turnNext 10 = .ok (.iload_n 2, 1) := by decide +kernel
theorem d_C_turnNext_11 : decode b_C_turnNext 11 = .ok (.if_icmp .ne 7, 3) := by decide +kernel
theorem d_C_turnNext_14 : decode b_C_turnNext 14 = .ok (.iconst 1, 1) := by decide +kernel
theorem d_C_turnNext_15 : decode b_C_turnNext 15 = .ok (.goto 4, 3) := by decide +kernel
theorem d_C_turnNext_18 : decode b_C_turnNext 18 = .ok (.iconst 0, 1) := by decide +kernel
theorem d_C_turnNext_19 : decode b_C_turnNext 19 = .ok (.istore 4, 2) := by decide +kernel
theorem d_C_turnNext_21 : decode b_C_turnNext 21 = .ok (.aload_n 3, 1) := by decide +kernel
theorem d_C_turnNext_22 : decode b_C_turnNext 22 = .ok (.iload 4, 2) := by decide +kernel
theorem d_C_turnNext_24 : decode b_C_turnNext 24 = .ok (.ifCond .eq 7, 3) := by decide +kernel
theorem d_C_turnNext_27 : decode b_C_turnNext 27 = .ok (.iconst (-1), 1) := by decide +kernel
theorem d_C_turnNext_28 : decode b_C_turnNext 28 = .ok (.goto 4, 3) := by decide +kernel
theorem d_C_turnNext_31 : decode b_C_turnNext 31 = .ok (.iload_n 2, 1) := by decide +kernel
theorem d_C_turnNext_32 : decode b_C_turnNext 32 = .ok (.putfield 63, 3) := by decide +kernel
theorem d_C_turnNext_35 : decode b_C_turnNext 35 = .ok (.iload 4, 2) := by decide +kernel
theorem d_C_turnNext_37 : decode b_C_turnNext 37 = .ok (.ifCond .eq 7, 3) := by decide +kernel
theorem d_C_turnNext_40 : decode b_C_turnNext 40 = .ok (.iconst 0, 1) := by decide +kernel
theorem d_C_turnNext_41 : decode b_C_turnNext 41 = .ok (.goto 4, 3) := by decide +kernel
theorem d_C_turnNext_44 : decode b_C_turnNext 44 = .ok (.iconst 1, 1) := by decide +kernel
theorem d_C_turnNext_45 : decode b_C_turnNext 45 = .ok (.ireturn, 1) := by decide +kernel
abbrev b_L_tellNext : ByteArray := prog_6_method_14_code
def y_L_tellNext : MethodName := ⟨"PassedOnAndBetter$Letters", "tellNext", "(LPassedOnAndBetter$Company;I)Z"⟩
theorem m_L_tellNext : MV y_L_tellNext b_L_tellNext 5 (some .boolean) 2 := ⟨mG 449 (by decide +kernel) (by decide +kernel), mG 88 (by decide +kernel) (by decide +kernel), by decide +kernel⟩
theorem mi_L_tellNext : Cond.instanceMethod y_L_tellNext ∈ tbG := mG 448 (by decide +kernel) (by decide +kernel)
theorem ms_L_tellNext : Cond.selects y_L_tellNext.cls y_L_tellNext y_L_tellNext ∈ tbG := mG 9 (by decide +kernel) (by decide +kernel)
theorem d_L_tellNext_0 : decode b_L_tellNext 0 = .ok (.aload_n 0, 1) := by decide +kernel
theorem d_L_tellNext_1 : decode b_L_tellNext 1 = .ok (.iload_n 2, 1) := by decide +kernel
theorem d_L_tellNext_2 : decode b_L_tellNext 2 = .ok (.invokevirtual 46, 3) := by decide +kernel
theorem d_L_tellNext_5 : decode b_L_tellNext 5 = .ok (.istore_n 3, 1) := by decide +kernel
theorem d_L_tellNext_6 : decode b_L_tellNext 6 = .ok (.aload_n 0, 1) := by decide +kernel
theorem d_L_tellNext_7 : decode b_L_tellNext 7 = .ok (.iload_n 2, 1) := by decide +kernel
theorem d_L_tellNext_8 : decode b_L_tellNext 8 = .ok (.iconst 1, 1) := by decide +kernel
theorem d_L_tellNext_9 : decode b_L_tellNext 9 = .ok (.iadd, 1) := by decide +kernel
theorem d_L_tellNext_10 : decode b_L_tellNext 10 = .ok (.invokevirtual 46, 3) := by decide +kernel
theorem d_L_tellNext_13 : decode b_L_tellNext 13 = .ok (.istore 4, 2) := by decide +kernel
theorem d_L_tellNext_15 : decode b_L_tellNext 15 = .ok (.aload_n 1, 1) := by decide +kernel
theorem d_L_tellNext_16 : decode b_L_tellNext 16 = .ok (.iload_n 3, 1) := by decide +kernel
theorem d_L_tellNext_17 : decode b_L_tellNext 17 = .ok (.invokevirtual 80, 3) := by decide +kernel
theorem d_L_tellNext_20 : decode b_L_tellNext 20 = .ok (.ifCond .eq 18, 3) := by decide +kernel
theorem d_L_tellNext_23 : decode b_L_tellNext 23 = .ok (.aload_n 1, 1) := by decide +kernel
theorem d_L_tellNext_24 : decode b_L_tellNext 24 = .ok (.iload 4, 2) := by decide +kernel
theorem d_L_tellNext_26 : decode b_L_tellNext 26 = .ok (.invokevirtual 80, 3) := by decide +kernel
theorem d_L_tellNext_29 : decode b_L_tellNext 29 = .ok (.ifCond .eq 9, 3) := by decide +kernel
theorem d_L_tellNext_32 : decode b_L_tellNext 32 = .ok (.iload_n 3, 1) := by decide +kernel
theorem d_L_tellNext_33 : decode b_L_tellNext 33 = .ok (.iload 4, 2) := by decide +kernel
theorem d_L_tellNext_35 : decode b_L_tellNext 35 = .ok (.if_icmp .ne 5, 3) := by decide +kernel
theorem d_L_tellNext_38 : decode b_L_tellNext 38 = .ok (.iconst 0, 1) := by decide +kernel
theorem d_L_tellNext_39 : decode b_L_tellNext 39 = .ok (.ireturn, 1) := by decide +kernel
theorem d_L_tellNext_40 : decode b_L_tellNext 40 = .ok (.aload_n 1, 1) := by decide +kernel
theorem d_L_tellNext_41 : decode b_L_tellNext 41 = .ok (.iload_n 3, 1) := by decide +kernel
theorem d_L_tellNext_42 : decode b_L_tellNext 42 = .ok (.iload 4, 2) := by decide +kernel
theorem d_L_tellNext_44 : decode b_L_tellNext 44 = .ok (.invokevirtual 83, 3) := by decide +kernel
theorem d_L_tellNext_47 : decode b_L_tellNext 47 = .ok (.pop, 1) := by decide +kernel
theorem d_L_tellNext_48 : decode b_L_tellNext 48 = .ok (.iconst 1, 1) := by decide +kernel
theorem d_L_tellNext_49 : decode b_L_tellNext 49 = .ok (.ireturn, 1) := by decide +kernel
abbrev b_L_tellDoor : ByteArray := prog_6_method_15_code
def y_L_tellDoor : MethodName := ⟨"PassedOnAndBetter$Letters", "tellDoor", "(LPassedOnAndBetter$Company;I)Z"⟩
theorem m_L_tellDoor : MV y_L_tellDoor b_L_tellDoor 5 (some .boolean) 2 := ⟨mG 461 (by decide +kernel) (by decide +kernel), mG 88 (by decide +kernel) (by decide +kernel), by decide +kernel⟩
theorem mi_L_tellDoor : Cond.instanceMethod y_L_tellDoor ∈ tbG := mG 460 (by decide +kernel) (by decide +kernel)
theorem ms_L_tellDoor : Cond.selects y_L_tellDoor.cls y_L_tellDoor y_L_tellDoor ∈ tbG := mG 10 (by decide +kernel) (by decide +kernel)
theorem d_L_tellDoor_0 : decode b_L_tellDoor 0 = .ok (.aload_n 0, 1) := by decide +kernel
theorem d_L_tellDoor_1 : decode b_L_tellDoor 1 = .ok (.iload_n 2, 1) := by decide +kernel
theorem d_L_tellDoor_2 : decode b_L_tellDoor 2 = .ok (.invokevirtual 46, 3) := by decide +kernel
theorem d_L_tellDoor_5 : decode b_L_tellDoor 5 = .ok (.istore_n 3, 1) := by decide +kernel
theorem d_L_tellDoor_6 : decode b_L_tellDoor 6 = .ok (.aload_n 0, 1) := by decide +kernel
theorem d_L_tellDoor_7 : decode b_L_tellDoor 7 = .ok (.iload_n 2, 1) := by decide +kernel
theorem d_L_tellDoor_8 : decode b_L_tellDoor 8 = .ok (.iconst 1, 1) := by decide +kernel
theorem d_L_tellDoor_9 : decode b_L_tellDoor 9 = .ok (.iadd, 1) := by decide +kernel
theorem d_L_tellDoor_10 : decode b_L_tellDoor 10 = .ok (.invokevirtual 67, 3) := by decide +kernel
theorem d_L_tellDoor_13 : decode b_L_tellDoor 13 = .ok (.istore 4, 2) := by decide +kernel
theorem d_L_tellDoor_15 : decode b_L_tellDoor 15 = .ok (.aload_n 1, 1) := by decide +kernel
theorem d_L_tellDoor_16 : decode b_L_tellDoor 16 = .ok (.iload_n 3, 1) := by decide +kernel
theorem d_L_tellDoor_17 : decode b_L_tellDoor 17 = .ok (.invokevirtual 80, 3) := by decide +kernel
theorem d_L_tellDoor_20 : decode b_L_tellDoor 20 = .ok (.ifCond .eq 9, 3) := by decide +kernel
theorem d_L_tellDoor_23 : decode b_L_tellDoor 23 = .ok (.iload 4, 2) := by decide +kernel
theorem d_L_tellDoor_25 : decode b_L_tellDoor 25 = .ok (.iconst 1, 1) := by decide +kernel
theorem d_L_tellDoor_26 : decode b_L_tellDoor 26 = .ok (.if_icmp .ge 5, 3) := by decide +kernel
theorem d_L_tellDoor_29 : decode b_L_tellDoor 29 = .ok (.iconst 0, 1) := by decide +kernel
theorem d_L_tellDoor_30 : decode b_L_tellDoor 30 = .ok (.ireturn, 1) := by decide +kernel
theorem d_L_tellDoor_31 : decode b_L_tellDoor 31 = .ok (.aload_n 1, 1) := by decide +kernel
theorem d_L_tellDoor_32 : decode b_L_tellDoor 32 = .ok (.iload_n 3, 1) := by decide +kernel
theorem d_L_tellDoor_33 : decode b_L_tellDoor 33 = .ok (.invokevirtual 87, 3) := by decide +kernel
theorem d_L_tellDoor_36 : decode b_L_tellDoor 36 = .ok (.iload 4, 2) := by decide +kernel
theorem d_L_tellDoor_38 : decode b_L_tellDoor 38 = .ok (.putfield 91, 3) := by decide +kernel
theorem d_L_tellDoor_41 : decode b_L_tellDoor 41 = .ok (.iconst 1, 1) := by decide +kernel
theorem d_L_tellDoor_42 : decode b_L_tellDoor 42 = .ok (.ireturn, 1) := by decide +kernel
abbrev b_C_giftsAreFull : ByteArray := prog_2_method_7_code
def y_C_giftsAreFull : MethodName := ⟨"PassedOnAndBetter$Company", "giftsAreFull", "()Z"⟩
theorem m_C_giftsAreFull : MV y_C_giftsAreFull b_C_giftsAreFull 1 (some .boolean) 0 := ⟨mG 470 (by decide +kernel) (by decide +kernel), mG 84 (by decide +kernel) (by decide +kernel), by decide +kernel⟩
theorem mi_C_giftsAreFull : Cond.instanceMethod y_C_giftsAreFull ∈ tbG := mG 468 (by decide +kernel) (by decide +kernel)
theorem ms_C_giftsAreFull : Cond.selects y_C_giftsAreFull.cls y_C_giftsAreFull y_C_giftsAreFull ∈ tbG := mG 469 (by decide +kernel) (by decide +kernel)
theorem d_C_giftsAreFull_0 : decode b_C_giftsAreFull 0 = .ok (.aload_n 0, 1) := by decide +kernel
theorem d_C_giftsAreFull_1 : decode b_C_giftsAreFull 1 = .ok (.getfield 37, 3) := by decide +kernel
theorem d_C_giftsAreFull_4 : decode b_C_giftsAreFull 4 = .ok (.iconst 4, 1) := by decide +kernel
theorem d_C_giftsAreFull_5 : decode b_C_giftsAreFull 5 = .ok (.if_icmp .lt 7, 3) := by decide +kernel
theorem d_C_giftsAreFull_8 : decode b_C_giftsAreFull 8 = .ok (.iconst 1, 1) := by decide +kernel
theorem d_C_giftsAreFull_9 : decode b_C_giftsAreFull 9 = .ok (.goto 4, 3) := by decide +kernel
theorem d_C_giftsAreFull_12 : decode b_C_giftsAreFull 12 = .ok (.iconst 0, 1) := by decide +kernel
theorem d_C_giftsAreFull_13 : decode b_C_giftsAreFull 13 = .ok (.ireturn, 1) := by decide +kernel
abbrev b_C_addGift : ByteArray := prog_2_method_10_code
def y_C_addGift : MethodName := ⟨"PassedOnAndBetter$Company", "addGift", "(III)I"⟩
theorem m_C_addGift : MV y_C_addGift b_C_addGift 5 (some .int) 3 := ⟨mG 474 (by decide +kernel) (by decide +kernel), mG 84 (by decide +kernel) (by decide +kernel), by decide +kernel⟩
theorem mi_C_addGift : Cond.instanceMethod y_C_addGift ∈ tbG := mG 472 (by decide +kernel) (by decide +kernel)
theorem ms_C_addGift : Cond.selects y_C_addGift.cls y_C_addGift y_C_addGift ∈ tbG := mG 473 (by decide +kernel) (by decide +kernel)
theorem d_C_addGift_0 : decode b_C_addGift 0 = .ok (.aload_n 0, 1) := by decide +kernel
theorem d_C_addGift_1 : decode b_C_addGift 1 = .ok (.getfield 37, 3) := by decide +kernel
theorem d_C_addGift_4 : decode b_C_addGift 4 = .ok (.istore 4, 2) := by decide +kernel
theorem d_C_addGift_6 : decode b_C_addGift 6 = .ok (.aload_n 0, 1) := by decide +kernel
theorem d_C_addGift_7 : decode b_C_addGift 7 = .ok (.iload 4, 2) := by decide +kernel
theorem d_C_addGift_9 : decode b_C_addGift 9 = .ok (.invokevirtual 51, 3) := by decide +kernel
theorem d_C_addGift_12 : decode b_C_addGift 12 = .ok (.iload_n 1, 1) := by decide +kernel
theorem d_C_addGift_13 : decode b_C_addGift 13 = .ok (.iload_n 2, 1) := by decide +kernel
theorem d_C_addGift_14 : decode b_C_addGift 14 = .ok (.iload_n 3, 1) := by decide +kernel
theorem d_C_addGift_15 : decode b_C_addGift 15 = .ok (.invokevirtual 62, 3) := by decide +kernel
theorem d_C_addGift_18 : decode b_C_addGift 18 = .ok (.aload_n 0, 1) := by decide +kernel
theorem d_C_addGift_19 : decode b_C_addGift 19 = .ok (.dup, 1) := by decide +kernel
theorem d_C_addGift_20 : decode b_C_addGift 20 = .ok (.getfield 37, 3) := by decide +kernel
theorem d_C_addGift_23 : decode b_C_addGift 23 = .ok (.iconst 1, 1) := by decide +kernel
theorem d_C_addGift_24 : decode b_C_addGift 24 = .ok (.iadd, 1) := by decide +kernel
theorem d_C_addGift_25 : decode b_C_addGift 25 = .ok (.putfield 37, 3) := by decide +kernel
theorem d_C_addGift_28 : decode b_C_addGift 28 = .ok (.iload 4, 2) := by decide +kernel
theorem d_C_addGift_30 : decode b_C_addGift 30 = .ok (.ireturn, 1) := by decide +kernel
abbrev b_L_tellGift : ByteArray := prog_6_method_16_code
def y_L_tellGift : MethodName := ⟨"PassedOnAndBetter$Letters", "tellGift", "(LPassedOnAndBetter$Company;I)Z"⟩
theorem m_L_tellGift : MV y_L_tellGift b_L_tellGift 5 (some .boolean) 2 := ⟨mG 466 (by decide +kernel) (by decide +kernel), mG 88 (by decide +kernel) (by decide +kernel), by decide +kernel⟩
theorem mi_L_tellGift : Cond.instanceMethod y_L_tellGift ∈ tbG := mG 465 (by decide +kernel) (by decide +kernel)
theorem ms_L_tellGift : Cond.selects y_L_tellGift.cls y_L_tellGift y_L_tellGift ∈ tbG := mG 11 (by decide +kernel) (by decide +kernel)
theorem d_L_tellGift_0 : decode b_L_tellGift 0 = .ok (.aload_n 0, 1) := by decide +kernel
theorem d_L_tellGift_1 : decode b_L_tellGift 1 = .ok (.iload_n 2, 1) := by decide +kernel
theorem d_L_tellGift_2 : decode b_L_tellGift 2 = .ok (.iconst 2, 1) := by decide +kernel
theorem d_L_tellGift_3 : decode b_L_tellGift 3 = .ok (.iadd, 1) := by decide +kernel
theorem d_L_tellGift_4 : decode b_L_tellGift 4 = .ok (.invokevirtual 67, 3) := by decide +kernel
theorem d_L_tellGift_7 : decode b_L_tellGift 7 = .ok (.istore_n 3, 1) := by decide +kernel
theorem d_L_tellGift_8 : decode b_L_tellGift 8 = .ok (.aload_n 0, 1) := by decide +kernel
theorem d_L_tellGift_9 : decode b_L_tellGift 9 = .ok (.iload_n 2, 1) := by decide +kernel
theorem d_L_tellGift_10 : decode b_L_tellGift 10 = .ok (.iconst 4, 1) := by decide +kernel
theorem d_L_tellGift_11 : decode b_L_tellGift 11 = .ok (.iadd, 1) := by decide +kernel
theorem d_L_tellGift_12 : decode b_L_tellGift 12 = .ok (.invokevirtual 46, 3) := by decide +kernel
theorem d_L_tellGift_15 : decode b_L_tellGift 15 = .ok (.istore 4, 2) := by decide +kernel
theorem d_L_tellGift_17 : decode b_L_tellGift 17 = .ok (.iload_n 3, 1) := by decide +kernel
theorem d_L_tellGift_18 : decode b_L_tellGift 18 = .ok (.iconst 1, 1) := by decide +kernel
theorem d_L_tellGift_19 : decode b_L_tellGift 19 = .ok (.if_icmp .lt 19, 3) := by decide +kernel
theorem d_L_tellGift_22 : decode b_L_tellGift 22 = .ok (.aload_n 1, 1) := by decide +kernel
theorem d_L_tellGift_23 : decode b_L_tellGift 23 = .ok (.iload 4, 2) := by decide +kernel
theorem d_L_tellGift_25 : decode b_L_tellGift 25 = .ok (.invokevirtual 80, 3) := by decide +kernel
theorem d_L_tellGift_28 : decode b_L_tellGift 28 = .ok (.ifCond .eq 10, 3) := by decide +kernel
theorem d_L_tellGift_31 : decode b_L_tellGift 31 = .ok (.aload_n 1, 1) := by decide +kernel
theorem d_L_tellGift_32 : decode b_L_tellGift 32 = .ok (.invokevirtual 96, 3) := by decide +kernel
theorem d_L_tellGift_35 : decode b_L_tellGift 35 = .ok (.ifCond .eq 5, 3) := by decide +kernel
theorem d_L_tellGift_38 : decode b_L_tellGift 38 = .ok (.iconst 0, 1) := by decide +kernel
theorem d_L_tellGift_39 : decode b_L_tellGift 39 = .ok (.ireturn, 1) := by decide +kernel
theorem d_L_tellGift_40 : decode b_L_tellGift 40 = .ok (.aload_n 1, 1) := by decide +kernel
theorem d_L_tellGift_41 : decode b_L_tellGift 41 = .ok (.iload 4, 2) := by decide +kernel
theorem d_L_tellGift_43 : decode b_L_tellGift 43 = .ok (.aload_n 0, 1) := by decide +kernel
theorem d_L_tellGift_44 : decode b_L_tellGift 44 = .ok (.iload_n 2, 1) := by decide +kernel
theorem d_L_tellGift_45 : decode b_L_tellGift 45 = .ok (.invokevirtual 67, 3) := by decide +kernel
theorem d_L_tellGift_48 : decode b_L_tellGift 48 = .ok (.iload_n 3, 1) := by decide +kernel
theorem d_L_tellGift_49 : decode b_L_tellGift 49 = .ok (.invokevirtual 99, 3) := by decide +kernel
theorem d_L_tellGift_52 : decode b_L_tellGift 52 = .ok (.pop, 1) := by decide +kernel
theorem d_L_tellGift_53 : decode b_L_tellGift 53 = .ok (.iconst 1, 1) := by decide +kernel
theorem d_L_tellGift_54 : decode b_L_tellGift 54 = .ok (.ireturn, 1) := by decide +kernel
abbrev b_C_hasGift : ByteArray := prog_2_method_5_code
def y_C_hasGift : MethodName := ⟨"PassedOnAndBetter$Company", "hasGift", "(I)Z"⟩
theorem m_C_hasGift : MV y_C_hasGift b_C_hasGift 2 (some .boolean) 1 := ⟨mG 483 (by decide +kernel) (by decide +kernel), mG 84 (by decide +kernel) (by decide +kernel), by decide +kernel⟩
theorem mi_C_hasGift : Cond.instanceMethod y_C_hasGift ∈ tbG := mG 481 (by decide +kernel) (by decide +kernel)
theorem ms_C_hasGift : Cond.selects y_C_hasGift.cls y_C_hasGift y_C_hasGift ∈ tbG := mG 482 (by decide +kernel) (by decide +kernel)
theorem d_C_hasGift_0 : decode b_C_hasGift 0 = .ok (.iload_n 1, 1) := by decide +kernel
theorem d_C_hasGift_1 : decode b_C_hasGift 1 = .ok (.ifCond .lt 15, 3) := by decide +kernel
theorem d_C_hasGift_4 : decode b_C_hasGift 4 = .ok (.iload_n 1, 1) := by decide +kernel
theorem d_C_hasGift_5 : decode b_C_hasGift 5 = .ok (.aload_n 0, 1) := by decide +kernel
theorem d_C_hasGift_6 : decode b_C_hasGift 6 = .ok (.getfield 37, 3) := by decide +kernel
theorem d_C_hasGift_9 : decode b_C_hasGift 9 = .ok (.if_icmp .ge 7, 3) := by decide +kernel
theorem d_C_hasGift_12 : decode b_C_hasGift 12 = .ok (.iconst 1, 1) := by decide +kernel
theorem d_C_hasGift_13 : decode b_C_hasGift 13 = .ok (.goto 4, 3) := by decide +kernel
theorem d_C_hasGift_16 : decode b_C_hasGift 16 = .ok (.iconst 0, 1) := by decide +kernel
theorem d_C_hasGift_17 : decode b_C_hasGift 17 = .ok (.ireturn, 1) := by decide +kernel
abbrev b_G_goTo : ByteArray := prog_4_method_4_code
def y_G_goTo : MethodName := ⟨"PassedOnAndBetter$Gift", "goTo", "(I)V"⟩
theorem m_G_goTo : MV y_G_goTo b_G_goTo 2 none 1 := ⟨mG 488 (by decide +kernel) (by decide +kernel), mG 86 (by decide +kernel) (by decide +kernel), by decide +kernel⟩
theorem mi_G_goTo : Cond.instanceMethod y_G_goTo ∈ tbG := mG 486 (by decide +kernel) (by decide +kernel)
theorem ms_G_goTo : Cond.selects y_G_goTo.cls y_G_goTo y_G_goTo ∈ tbG := mG 487 (by decide +kernel) (by decide +kernel)
theorem d_G_goTo_0 : decode b_G_goTo 0 = .ok (.aload_n 0, 1) := by decide +kernel
theorem d_G_goTo_1 : decode b_G_goTo 1 = .ok (.iload_n 1, 1) := by decide +kernel
theorem d_G_goTo_2 : decode b_G_goTo 2 = .ok (.putfield 22, 3) := by decide +kernel
theorem d_G_goTo_5 : decode b_G_goTo 5 = .ok (.aload_n 0, 1) := by decide +kernel
theorem d_G_goTo_6 : decode b_G_goTo 6 = .ok (.iconst 0, 1) := by decide +kernel
theorem d_G_goTo_7 : decode b_G_goTo 7 = .ok (.putfield 25, 3) := by decide +kernel
theorem d_G_goTo_10 : decode b_G_goTo 10 = .ok (.aload_n 0, 1) := by decide +kernel
theorem d_G_goTo_11 : decode b_G_goTo 11 = .ok (.iconst 0, 1) := by decide +kernel
theorem d_G_goTo_12 : decode b_G_goTo 12 = .ok (.putfield 28, 3) := by decide +kernel
theorem d_G_goTo_15 : decode b_G_goTo 15 = .ok (.return_, 1) := by decide +kernel
abbrev b_L_tellHands : ByteArray := prog_6_method_17_code
def y_L_tellHands : MethodName := ⟨"PassedOnAndBetter$Letters", "tellHands", "(LPassedOnAndBetter$Company;I)Z"⟩
theorem m_L_tellHands : MV y_L_tellHands b_L_tellHands 5 (some .boolean) 2 := ⟨mG 479 (by decide +kernel) (by decide +kernel), mG 88 (by decide +kernel) (by decide +kernel), by decide +kernel⟩
theorem mi_L_tellHands : Cond.instanceMethod y_L_tellHands ∈ tbG := mG 478 (by decide +kernel) (by decide +kernel)
theorem ms_L_tellHands : Cond.selects y_L_tellHands.cls y_L_tellHands y_L_tellHands ∈ tbG := mG 12 (by decide +kernel) (by decide +kernel)
theorem d_L_tellHands_0 : decode b_L_tellHands 0 = .ok (.aload_n 0, 1) := by decide +kernel
theorem d_L_tellHands_1 : decode b_L_tellHands 1 = .ok (.iload_n 2, 1) := by decide +kernel
theorem d_L_tellHands_2 : decode b_L_tellHands 2 = .ok (.invokevirtual 46, 3) := by decide +kernel
theorem d_L_tellHands_5 : decode b_L_tellHands 5 = .ok (.istore_n 3, 1) := by decide +kernel
theorem d_L_tellHands_6 : decode b_L_tellHands 6 = .ok (.aload_n 0, 1) := by decide +kernel
theorem d_L_tellHands_7 : decode b_L_tellHands 7 = .ok (.iload_n 2, 1) := by decide +kernel
theorem d_L_tellHands_8 : decode b_L_tellHands 8 = .ok (.iconst 1, 1) := by decide +kernel
theorem d_L_tellHands_9 : decode b_L_tellHands 9 = .ok (.iadd, 1) := by decide +kernel
theorem d_L_tellHands_10 : decode b_L_tellHands 10 = .ok (.invokevirtual 46, 3) := by decide +kernel
theorem d_L_tellHands_13 : decode b_L_tellHands 13 = .ok (.istore 4, 2) := by decide +kernel
theorem d_L_tellHands_15 : decode b_L_tellHands 15 = .ok (.aload_n 1, 1) := by decide +kernel
theorem d_L_tellHands_16 : decode b_L_tellHands 16 = .ok (.iload_n 3, 1) := by decide +kernel
theorem d_L_tellHands_17 : decode b_L_tellHands 17 = .ok (.invokevirtual 102, 3) := by decide +kernel
theorem d_L_tellHands_20 : decode b_L_tellHands 20 = .ok (.ifCond .eq 12, 3) := by decide +kernel
theorem d_L_tellHands_23 : decode b_L_tellHands 23 = .ok (.aload_n 1, 1) := by decide +kernel
theorem d_L_tellHands_24 : decode b_L_tellHands 24 = .ok (.iload 4, 2) := by decide +kernel
theorem d_L_tellHands_26 : decode b_L_tellHands 26 = .ok (.invokevirtual 80, 3) := by decide +kernel
theorem d_L_tellHands_29 : decode b_L_tellHands 29 = .ok (.ifCond .ne 5, 3) := by decide +kernel
theorem d_L_tellHands_32 : decode b_L_tellHands 32 = .ok (.iconst 0, 1) := by decide +kernel
theorem d_L_tellHands_33 : decode b_L_tellHands 33 = .ok (.ireturn, 1) := by decide +kernel
theorem d_L_tellHands_34 : decode b_L_tellHands 34 = .ok (.aload_n 1, 1) := by decide +kernel
theorem d_L_tellHands_35 : decode b_L_tellHands 35 = .ok (.iload_n 3, 1) := by decide +kernel
theorem d_L_tellHands_36 : decode b_L_tellHands 36 = .ok (.invokevirtual 105, 3) := by decide +kernel
theorem d_L_tellHands_39 : decode b_L_tellHands 39 = .ok (.iload 4, 2) := by decide +kernel
theorem d_L_tellHands_41 : decode b_L_tellHands 41 = .ok (.invokevirtual 109, 3) := by decide +kernel
theorem d_L_tellHands_44 : decode b_L_tellHands 44 = .ok (.iconst 1, 1) := by decide +kernel
theorem d_L_tellHands_45 : decode b_L_tellHands 45 = .ok (.ireturn, 1) := by decide +kernel
abbrev b_J_min : ByteArray := prog_13_method_69_code
def y_J_min : MethodName := ⟨"java/lang/Math", "min", "(II)I"⟩
theorem m_J_min : MV y_J_min b_J_min 2 (some .int) 2 := ⟨mG 507 (by decide +kernel) (by decide +kernel), mG 93 (by decide +kernel) (by decide +kernel), by decide +kernel⟩
theorem mi_J_min : Cond.static y_J_min ∈ tbG := mG 506 (by decide +kernel) (by decide +kernel)
theorem d_J_min_0 : decode b_J_min 0 = .ok (.iload_n 0, 1) := by decide +kernel
theorem d_J_min_1 : decode b_J_min 1 = .ok (.iload_n 1, 1) := by decide +kernel
theorem d_J_min_2 : decode b_J_min 2 = .ok (.if_icmp .gt 7, 3) := by decide +kernel
theorem d_J_min_5 : decode b_J_min 5 = .ok (.iload_n 0, 1) := by decide +kernel
theorem d_J_min_6 : decode b_J_min 6 = .ok (.goto 4, 3) := by decide +kernel
theorem d_J_min_9 : decode b_J_min 9 = .ok (.iload_n 1, 1) := by decide +kernel
theorem d_J_min_10 : decode b_J_min 10 = .ok (.ireturn, 1) := by decide +kernel
abbrev b_G_keep : ByteArray := prog_4_method_5_code
def y_G_keep : MethodName := ⟨"PassedOnAndBetter$Gift", "keep", "()V"⟩
theorem m_G_keep : MV y_G_keep b_G_keep 1 none 0 := ⟨mG 504 (by decide +kernel) (by decide +kernel), mG 86 (by decide +kernel) (by decide +kernel), by decide +kernel⟩
theorem mi_G_keep : Cond.instanceMethod y_G_keep ∈ tbG := mG 502 (by decide +kernel) (by decide +kernel)
theorem ms_G_keep : Cond.selects y_G_keep.cls y_G_keep y_G_keep ∈ tbG := mG 503 (by decide +kernel) (by decide +kernel)
theorem d_G_keep_0 : decode b_G_keep 0 = .ok (.aload_n 0, 1) := by decide +kernel
theorem d_G_keep_1 : decode b_G_keep 1 = .ok (.aload_n 0, 1) := by decide +kernel
theorem d_G_keep_2 : decode b_G_keep 2 = .ok (.getfield 25, 3) := by decide +kernel
theorem d_G_keep_5 : decode b_G_keep 5 = .ok (.iconst 1, 1) := by decide +kernel
theorem d_G_keep_6 : decode b_G_keep 6 = .ok (.iadd, 1) := by decide +kernel
theorem d_G_keep_7 : decode b_G_keep 7 = .ok (.bipush 99, 2) := by decide +kernel
theorem d_G_keep_9 : decode b_G_keep 9 = .ok (.invokestatic 35, 3) := by decide +kernel
theorem d_G_keep_12 : decode b_G_keep 12 = .ok (.putfield 25, 3) := by decide +kernel
theorem d_G_keep_15 : decode b_G_keep 15 = .ok (.return_, 1) := by decide +kernel
abbrev b_J_max : ByteArray := prog_13_method_65_code
def y_J_max : MethodName := ⟨"java/lang/Math", "max", "(II)I"⟩
theorem m_J_max : MV y_J_max b_J_max 2 (some .int) 2 := ⟨mG 515 (by decide +kernel) (by decide +kernel), mG 93 (by decide +kernel) (by decide +kernel), by decide +kernel⟩
theorem mi_J_max : Cond.static y_J_max ∈ tbG := mG 514 (by decide +kernel) (by decide +kernel)
theorem d_J_max_0 : decode b_J_max 0 = .ok (.iload_n 0, 1) := by decide +kernel
theorem d_J_max_1 : decode b_J_max 1 = .ok (.iload_n 1, 1) := by decide +kernel
theorem d_J_max_2 : decode b_J_max 2 = .ok (.if_icmp .lt 7, 3) := by decide +kernel
theorem d_J_max_5 : decode b_J_max 5 = .ok (.iload_n 0, 1) := by decide +kernel
theorem d_J_max_6 : decode b_J_max 6 = .ok (.goto 4, 3) := by decide +kernel
theorem d_J_max_9 : decode b_J_max 9 = .ok (.iload_n 1, 1) := by decide +kernel
theorem d_J_max_10 : decode b_J_max 10 = .ok (.ireturn, 1) := by decide +kernel
abbrev b_G_better : ByteArray := prog_4_method_7_code
def y_G_better : MethodName := ⟨"PassedOnAndBetter$Gift", "better", "(LPassedOnAndBetter$Friend;)V"⟩
theorem m_G_better : MV y_G_better b_G_better 3 none 1 := ⟨mG 512 (by decide +kernel) (by decide +kernel), mG 86 (by decide +kernel) (by decide +kernel), by decide +kernel⟩
theorem mi_G_better : Cond.instanceMethod y_G_better ∈ tbG := mG 511 (by decide +kernel) (by decide +kernel)
theorem ms_G_better : Cond.selects y_G_better.cls y_G_better y_G_better ∈ tbG := mG 14 (by decide +kernel) (by decide +kernel)
theorem d_G_better_0 : decode b_G_better 0 = .ok (.aload_n 1, 1) := by decide +kernel
theorem d_G_better_1 : decode b_G_better 1 = .ok (.ifnonnull 4, 3) := by decide +kernel
theorem d_G_better_4 : decode b_G_better 4 = .ok (.return_, 1) := by decide +kernel
theorem d_G_better_5 : decode b_G_better 5 = .ok (.aload_n 1, 1) := by decide +kernel
theorem d_G_better_6 : decode b_G_better 6 = .ok (.getfield 69, 3) := by decide +kernel
theorem d_G_better_9 : decode b_G_better 9 = .ok (.aload_n 1, 1) := by decide +kernel
theorem d_G_better_10 : decode b_G_better 10 = .ok (.getfield 72, 3) := by decide +kernel
theorem d_G_better_13 : decode b_G_better 13 = .ok (.imul, 1) := by decide +kernel
theorem d_G_better_14 : decode b_G_better 14 = .ok (.sipush 999, 3) := by decide +kernel
theorem d_G_better_17 : decode b_G_better 17 = .ok (.aload_n 0, 1) := by decide +kernel
theorem d_G_better_18 : decode b_G_better 18 = .ok (.getfield 15, 3) := by decide +kernel
theorem d_G_better_21 : decode b_G_better 21 = .ok (.isub, 1) := by decide +kernel
theorem d_G_better_22 : decode b_G_better 22 = .ok (.invokestatic 35, 3) := by decide +kernel
theorem d_G_better_25 : decode b_G_better 25 = .ok (.istore_n 2, 1) := by decide +kernel
theorem d_G_better_26 : decode b_G_better 26 = .ok (.aload_n 0, 1) := by decide +kernel
theorem d_G_better_27 : decode b_G_better 27 = .ok (.dup, 1) := by decide +kernel
theorem d_G_better_28 : decode b_G_better 28 = .ok (.getfield 15, 3) := by decide +kernel
theorem d_G_better_31 : decode b_G_better 31 = .ok (.iload_n 2, 1) := by decide +kernel
theorem d_G_better_32 : decode b_G_better 32 = .ok (.iadd, 1) := by decide +kernel
theorem d_G_better_33 : decode b_G_better 33 = .ok (.putfield 15, 3) := by decide +kernel
theorem d_G_better_36 : decode b_G_better 36 = .ok (.aload_n 1, 1) := by decide +kernel
theorem d_G_better_37 : decode b_G_better 37 = .ok (.dup, 1) := by decide +kernel
theorem d_G_better_38 : decode b_G_better 38 = .ok (.getfield 75, 3) := by decide +kernel
theorem d_G_better_41 : decode b_G_better 41 = .ok (.iload_n 2, 1) := by decide +kernel
theorem d_G_better_42 : decode b_G_better 42 = .ok (.iadd, 1) := by decide +kernel
theorem d_G_better_43 : decode b_G_better 43 = .ok (.putfield 75, 3) := by decide +kernel
theorem d_G_better_46 : decode b_G_better 46 = .ok (.aload_n 0, 1) := by decide +kernel
theorem d_G_better_47 : decode b_G_better 47 = .ok (.iconst 1, 1) := by decide +kernel
theorem d_G_better_48 : decode b_G_better 48 = .ok (.aload_n 0, 1) := by decide +kernel
theorem d_G_better_49 : decode b_G_better 49 = .ok (.getfield 19, 3) := by decide +kernel
theorem d_G_better_52 : decode b_G_better 52 = .ok (.aload_n 1, 1) := by decide +kernel
theorem d_G_better_53 : decode b_G_better 53 = .ok (.getfield 78, 3) := by decide +kernel
theorem d_G_better_56 : decode b_G_better 56 = .ok (.iadd, 1) := by decide +kernel
theorem d_G_better_57 : decode b_G_better 57 = .ok (.sipush 999, 3) := by decide +kernel
theorem d_G_better_60 : decode b_G_better 60 = .ok (.invokestatic 35, 3) := by decide +kernel
theorem d_G_better_63 : decode b_G_better 63 = .ok (.invokestatic 81, 3) := by decide +kernel
theorem d_G_better_66 : decode b_G_better 66 = .ok (.putfield 19, 3) := by decide +kernel
theorem d_G_better_69 : decode b_G_better 69 = .ok (.aload_n 0, 1) := by decide +kernel
theorem d_G_better_70 : decode b_G_better 70 = .ok (.iconst 1, 1) := by decide +kernel
theorem d_G_better_71 : decode b_G_better 71 = .ok (.putfield 28, 3) := by decide +kernel
theorem d_G_better_74 : decode b_G_better 74 = .ok (.return_, 1) := by decide +kernel
abbrev b_G_passMonth : ByteArray := prog_4_method_6_code
def y_G_passMonth : MethodName := ⟨"PassedOnAndBetter$Gift", "passMonth", "(LPassedOnAndBetter$Company;)V"⟩
theorem m_G_passMonth : MV y_G_passMonth b_G_passMonth 4 none 1 := ⟨mG 500 (by decide +kernel) (by decide +kernel), mG 86 (by decide +kernel) (by decide +kernel), by decide +kernel⟩
theorem mi_G_passMonth : Cond.instanceMethod y_G_passMonth ∈ tbG := mG 498 (by decide +kernel) (by decide +kernel)
theorem ms_G_passMonth : Cond.selects y_G_passMonth.cls y_G_passMonth y_G_passMonth ∈ tbG := mG 499 (by decide +kernel) (by decide +kernel)
theorem d_G_passMonth_0 : decode b_G_passMonth 0 = .ok (.aload_n 1, 1) := by decide +kernel
theorem d_G_passMonth_1 : decode b_G_passMonth 1 = .ok (.ifnonnull 4, 3) := by decide +kernel
theorem d_G_passMonth_4 : decode b_G_passMonth 4 = .ok (.return_, 1) := by decide +kernel
theorem d_G_passMonth_5 : decode b_G_passMonth 5 = .ok (.aload_n 0, 1) := by decide +kernel
theorem d_G_passMonth_6 : decode b_G_passMonth 6 = .ok (.invokevirtual 41, 3) := by decide +kernel
theorem d_G_passMonth_9 : decode b_G_passMonth 9 = .ok (.aload_n 1, 1) := by decide +kernel
theorem d_G_passMonth_10 : decode b_G_passMonth 10 = .ok (.aload_n 0, 1) := by decide +kernel
theorem d_G_passMonth_11 : decode b_G_passMonth 11 = .ok (.getfield 22, 3) := by decide +kernel
theorem d_G_passMonth_14 : decode b_G_passMonth 14 = .ok (.invokevirtual 44, 3) := by decide +kernel
theorem d_G_passMonth_17 : decode b_G_passMonth 17 = .ok (.astore_n 2, 1) := by decide +kernel
theorem d_G_passMonth_18 : decode b_G_passMonth 18 = .ok (.aload_n 0, 1) := by decide +kernel
theorem d_G_passMonth_19 : decode b_G_passMonth 19 = .ok (.getfield 25, 3) := by decide +kernel
theorem d_G_passMonth_22 : decode b_G_passMonth 22 = .ok (.aload_n 2, 1) := by decide +kernel
theorem d_G_passMonth_23 : decode b_G_passMonth 23 = .ok (.getfield 50, 3) := by decide +kernel
theorem d_G_passMonth_26 : decode b_G_passMonth 26 = .ok (.if_icmp .ge 4, 3) := by decide +kernel
theorem d_G_passMonth_29 : decode b_G_passMonth 29 = .ok (.return_, 1) := by decide +kernel
theorem d_G_passMonth_30 : decode b_G_passMonth 30 = .ok (.aload_n 0, 1) := by decide +kernel
theorem d_G_passMonth_31 : decode b_G_passMonth 31 = .ok (.getfield 28, 3) := by decide +kernel
theorem d_G_passMonth_34 : decode b_G_passMonth 34 = .ok (.ifCond .ne 8, 3) := by decide +kernel
theorem d_G_passMonth_37 : decode b_G_passMonth 37 = .ok (.aload_n 0, 1) := by decide +kernel
theorem d_G_passMonth_38 : decode b_G_passMonth 38 = .ok (.aload_n 2, 1) := by decide +kernel
theorem d_G_passMonth_39 : decode b_G_passMonth 39 = .ok (.invokevirtual 55, 3) := by decide +kernel
theorem d_G_passMonth_42 : decode b_G_passMonth 42 = .ok (.aload_n 2, 1) := by decide +kernel
theorem d_G_passMonth_43 : decode b_G_passMonth 43 = .ok (.getfield 59, 3) := by decide +kernel
theorem d_G_passMonth_46 : decode b_G_passMonth 46 = .ok (.istore_n 3, 1) := by decide +kernel
theorem d_G_passMonth_47 : decode b_G_passMonth 47 = .ok (.iload_n 3, 1) := by decide +kernel
theorem d_G_passMonth_48 : decode b_G_passMonth 48 = .ok (.iconst (-1), 1) := by decide +kernel
theorem d_G_passMonth_49 : decode b_G_passMonth 49 = .ok (.if_icmp .eq 38, 3) := by decide +kernel
theorem d_G_passMonth_52 : decode b_G_passMonth 52 = .ok (.aload_n 0, 1) := by decide +kernel
theorem d_G_passMonth_53 : decode b_G_passMonth 53 = .ok (.getfield 19, 3) := by decide +kernel
theorem d_G_passMonth_56 : decode b_G_passMonth 56 = .ok (.aload_n 1, 1) := by decide +kernel
theorem d_G_passMonth_57 : decode b_G_passMonth 57 = .ok (.iload_n 3, 1) := by decide +kernel
theorem d_G_passMonth_58 : decode b_G_passMonth 58 = .ok (.invokevirtual 44, 3) := by decide +kernel
theorem d_G_passMonth_61 : decode b_G_passMonth 61 = .ok (.getfield 62, 3) := by decide +kernel
theorem d_G_passMonth_64 : decode b_G_passMonth 64 = .ok (.if_icmp .gt 23, 3) := by decide +kernel
theorem d_G_passMonth_67 : decode b_G_passMonth 67 = .ok (.aload_n 0, 1) := by decide +kernel
theorem d_G_passMonth_68 : decode b_G_passMonth 68 = .ok (.iload_n 3, 1) := by decide +kernel
theorem d_G_passMonth_69 : decode b_G_passMonth 69 = .ok (.invokevirtual 65, 3) := by decide +kernel
theorem d_G_passMonth_72 : decode b_G_passMonth 72 = .ok (.aload_n 0, 1) := by decide +kernel
theorem d_G_passMonth_73 : decode b_G_passMonth 73 = .ok (.aload_n 0, 1) := by decide +kernel
theorem d_G_passMonth_74 : decode b_G_passMonth 74 = .ok (.getfield 32, 3) := by decide +kernel
theorem d_G_passMonth_77 : decode b_G_passMonth 77 = .ok (.iconst 1, 1) := by decide +kernel
theorem d_G_passMonth_78 : decode b_G_passMonth 78 = .ok (.iadd, 1) := by decide +kernel
theorem d_G_passMonth_79 : decode b_G_passMonth 79 = .ok (.bipush 99, 2) := by decide +kernel
theorem d_G_passMonth_81 : decode b_G_passMonth 81 = .ok (.invokestatic 35, 3) := by decide +kernel
theorem d_G_passMonth_84 : decode b_G_passMonth 84 = .ok (.putfield 32, 3) := by decide +kernel
theorem d_G_passMonth_87 : decode b_G_passMonth 87 = .ok (.return_, 1) := by decide +kernel
abbrev b_C_pass : ByteArray := prog_2_method_12_code
def y_C_pass : MethodName := ⟨"PassedOnAndBetter$Company", "pass", "(I)V"⟩
theorem m_C_pass : MV y_C_pass b_C_pass 4 none 1 := ⟨mG 496 (by decide +kernel) (by decide +kernel), mG 84 (by decide +kernel) (by decide +kernel), by decide +kernel⟩
theorem mi_C_pass : Cond.instanceMethod y_C_pass ∈ tbG := mG 494 (by decide +kernel) (by decide +kernel)
theorem ms_C_pass : Cond.selects y_C_pass.cls y_C_pass y_C_pass ∈ tbG := mG 495 (by decide +kernel) (by decide +kernel)
theorem d_C_pass_0 : decode b_C_pass 0 = .ok (.iconst 0, 1) := by decide +kernel
theorem d_C_pass_1 : decode b_C_pass 1 = .ok (.istore_n 2, 1) := by decide +kernel
theorem d_C_pass_2 : decode b_C_pass 2 = .ok (.iload_n 2, 1) := by decide +kernel
theorem d_C_pass_3 : decode b_C_pass 3 = .ok (.iload_n 1, 1) := by decide +kernel
theorem d_C_pass_4 : decode b_C_pass 4 = .ok (.if_icmp .ge 44, 3) := by decide +kernel
theorem d_C_pass_7 : decode b_C_pass 7 = .ok (.aload_n 0, 1) := by decide +kernel
theorem d_C_pass_8 : decode b_C_pass 8 = .ok (.dup, 1) := by decide +kernel
theorem d_C_pass_9 : decode b_C_pass 9 = .ok (.getfield 40, 3) := by decide +kernel
theorem d_C_pass_12 : decode b_C_pass 12 = .ok (.iconst 1, 1) := by decide +kernel
theorem d_C_pass_13 : decode b_C_pass 13 = .ok (.iadd, 1) := by decide +kernel
theorem d_C_pass_14 : decode b_C_pass 14 = .ok (.putfield 40, 3) := by decide +kernel
theorem d_C_pass_17 : decode b_C_pass 17 = .ok (.iconst 0, 1) := by decide +kernel
theorem d_C_pass_18 : decode b_C_pass 18 = .ok (.istore_n 3, 1) := by decide +kernel
theorem d_C_pass_19 : decode b_C_pass 19 = .ok (.iload_n 3, 1) := by decide +kernel
theorem d_C_pass_20 : decode b_C_pass 20 = .ok (.aload_n 0, 1) := by decide +kernel
theorem d_C_pass_21 : decode b_C_pass 21 = .ok (.getfield 37, 3) := by decide +kernel
theorem d_C_pass_24 : decode b_C_pass 24 = .ok (.if_icmp .ge 18, 3) := by decide +kernel
theorem d_C_pass_27 : decode b_C_pass 27 = .ok (.aload_n 0, 1) := by decide +kernel
theorem d_C_pass_28 : decode b_C_pass 28 = .ok (.iload_n 3, 1) := by decide +kernel
theorem d_C_pass_29 : decode b_C_pass 29 = .ok (.invokevirtual 51, 3) := by decide +kernel
theorem d_C_pass_32 : decode b_C_pass 32 = .ok (.aload_n 0, 1) := by decide +kernel
theorem d_C_pass_33 : decode b_C_pass 33 = .ok (.invokevirtual 66, 3) := by decide +kernel
theorem d_C_pass_36 : decode b_C_pass 36 = .ok (.iinc 3 1, 3) := by decide +kernel
theorem d_C_pass_39 : decode b_C_pass 39 = .ok (.goto (-20), 3) := by decide +kernel
theorem d_C_pass_42 : decode b_C_pass 42 = .ok (.iinc 2 1, 3) := by decide +kernel
theorem d_C_pass_45 : decode b_C_pass 45 = .ok (.goto (-43), 3) := by decide +kernel
theorem d_C_pass_48 : decode b_C_pass 48 = .ok (.return_, 1) := by decide +kernel
abbrev b_L_tellMonths : ByteArray := prog_6_method_18_code
def y_L_tellMonths : MethodName := ⟨"PassedOnAndBetter$Letters", "tellMonths", "(LPassedOnAndBetter$Company;I)Z"⟩
theorem m_L_tellMonths : MV y_L_tellMonths b_L_tellMonths 4 (some .boolean) 2 := ⟨mG 492 (by decide +kernel) (by decide +kernel), mG 88 (by decide +kernel) (by decide +kernel), by decide +kernel⟩
theorem mi_L_tellMonths : Cond.instanceMethod y_L_tellMonths ∈ tbG := mG 491 (by decide +kernel) (by decide +kernel)
theorem ms_L_tellMonths : Cond.selects y_L_tellMonths.cls y_L_tellMonths y_L_tellMonths ∈ tbG := mG 13 (by decide +kernel) (by decide +kernel)
theorem d_L_tellMonths_0 : decode b_L_tellMonths 0 = .ok (.aload_n 0, 1) := by decide +kernel
theorem d_L_tellMonths_1 : decode b_L_tellMonths 1 = .ok (.iload_n 2, 1) := by decide +kernel
theorem d_L_tellMonths_2 : decode b_L_tellMonths 2 = .ok (.invokevirtual 67, 3) := by decide +kernel
theorem d_L_tellMonths_5 : decode b_L_tellMonths 5 = .ok (.istore_n 3, 1) := by decide +kernel
theorem d_L_tellMonths_6 : decode b_L_tellMonths 6 = .ok (.iload_n 3, 1) := by decide +kernel
theorem d_L_tellMonths_7 : decode b_L_tellMonths 7 = .ok (.iconst 1, 1) := by decide +kernel
theorem d_L_tellMonths_8 : decode b_L_tellMonths 8 = .ok (.if_icmp .lt 21, 3) := by decide +kernel
theorem d_L_tellMonths_11 : decode b_L_tellMonths 11 = .ok (.iload_n 3, 1) := by decide +kernel
theorem d_L_tellMonths_12 : decode b_L_tellMonths 12 = .ok (.bipush 60, 2) := by decide +kernel
theorem d_L_tellMonths_14 : decode b_L_tellMonths 14 = .ok (.if_icmp .gt 15, 3) := by decide +kernel
theorem d_L_tellMonths_17 : decode b_L_tellMonths 17 = .ok (.aload_n 1, 1) := by decide +kernel
theorem d_L_tellMonths_18 : decode b_L_tellMonths 18 = .ok (.getfield 115, 3) := by decide +kernel
theorem d_L_tellMonths_21 : decode b_L_tellMonths 21 = .ok (.iload_n 3, 1) := by decide +kernel
theorem d_L_tellMonths_22 : decode b_L_tellMonths 22 = .ok (.iadd, 1) := by decide +kernel
theorem d_L_tellMonths_23 : decode b_L_tellMonths 23 = .ok (.sipush 999, 3) := by decide +kernel
theorem d_L_tellMonths_26 : decode b_L_tellMonths 26 = .ok (.if_icmp .le 5, 3) := by decide +kernel
theorem d_L_tellMonths_29 : decode b_L_tellMonths 29 = .ok (.iconst 0, 1) := by decide +kernel
theorem d_L_tellMonths_30 : decode b_L_tellMonths 30 = .ok (.ireturn, 1) := by decide +kernel
theorem d_L_tellMonths_31 : decode b_L_tellMonths 31 = .ok (.aload_n 1, 1) := by decide +kernel
theorem d_L_tellMonths_32 : decode b_L_tellMonths 32 = .ok (.iload_n 3, 1) := by decide +kernel
theorem d_L_tellMonths_33 : decode b_L_tellMonths 33 = .ok (.invokevirtual 118, 3) := by decide +kernel
theorem d_L_tellMonths_36 : decode b_L_tellMonths 36 = .ok (.iconst 1, 1) := by decide +kernel
theorem d_L_tellMonths_37 : decode b_L_tellMonths 37 = .ok (.ireturn, 1) := by decide +kernel
abbrev b_L_tellStatement : ByteArray := prog_6_method_12_code
def y_L_tellStatement : MethodName := ⟨"PassedOnAndBetter$Letters", "tellStatement", "(LPassedOnAndBetter$Company;I)Z"⟩
theorem m_L_tellStatement : MV y_L_tellStatement b_L_tellStatement 3 (some .boolean) 2 := ⟨mG 408 (by decide +kernel) (by decide +kernel), mG 88 (by decide +kernel) (by decide +kernel), by decide +kernel⟩
theorem mi_L_tellStatement : Cond.instanceMethod y_L_tellStatement ∈ tbG := mG 407 (by decide +kernel) (by decide +kernel)
theorem ms_L_tellStatement : Cond.selects y_L_tellStatement.cls y_L_tellStatement y_L_tellStatement ∈ tbG := mG 5 (by decide +kernel) (by decide +kernel)
theorem d_L_tellStatement_0 : decode b_L_tellStatement 0 = .ok (.aload_n 1, 1) := by decide +kernel
theorem d_L_tellStatement_1 : decode b_L_tellStatement 1 = .ok (.ifnonnull 5, 3) := by decide +kernel
theorem d_L_tellStatement_4 : decode b_L_tellStatement 4 = .ok (.iconst 0, 1) := by decide +kernel
theorem d_L_tellStatement_5 : decode b_L_tellStatement 5 = .ok (.ireturn, 1) := by decide +kernel
theorem d_L_tellStatement_6 : decode b_L_tellStatement 6 = .ok (.aload_n 0, 1) := by decide +kernel
theorem d_L_tellStatement_7 : decode b_L_tellStatement 7 = .ok (.iload_n 2, 1) := by decide +kernel
theorem d_L_tellStatement_8 : decode b_L_tellStatement 8 = .ok (.invokevirtual 31, 3) := by decide +kernel
theorem d_L_tellStatement_11 : decode b_L_tellStatement 11 = .ok (.tableswitch 111 100 110 #[75, 111, 57, 84, 93, 111, 111, 111, 111, 102, 66], 57) := by decide +kernel
theorem d_L_tellStatement_68 : decode b_L_tellStatement 68 = .ok (.aload_n 0, 1) := by decide +kernel
theorem d_L_tellStatement_69 : decode b_L_tellStatement 69 = .ok (.aload_n 1, 1) := by decide +kernel
theorem d_L_tellStatement_70 : decode b_L_tellStatement 70 = .ok (.iload_n 2, 1) := by decide +kernel
theorem d_L_tellStatement_71 : decode b_L_tellStatement 71 = .ok (.iconst 1, 1) := by decide +kernel
theorem d_L_tellStatement_72 : decode b_L_tellStatement 72 = .ok (.iadd, 1) := by decide +kernel
theorem d_L_tellStatement_73 : decode b_L_tellStatement 73 = .ok (.invokevirtual 49, 3) := by decide +kernel
theorem d_L_tellStatement_76 : decode b_L_tellStatement 76 = .ok (.ireturn, 1) := by decide +kernel
theorem d_L_tellStatement_77 : decode b_L_tellStatement 77 = .ok (.aload_n 0, 1) := by decide +kernel
theorem d_L_tellStatement_78 : decode b_L_tellStatement 78 = .ok (.aload_n 1, 1) := by decide +kernel
theorem d_L_tellStatement_79 : decode b_L_tellStatement 79 = .ok (.iload_n 2, 1) := by decide +kernel
theorem d_L_tellStatement_80 : decode b_L_tellStatement 80 = .ok (.iconst 1, 1) := by decide +kernel
theorem d_L_tellStatement_81 : decode b_L_tellStatement 81 = .ok (.iadd, 1) := by decide +kernel
theorem d_L_tellStatement_82 : decode b_L_tellStatement 82 = .ok (.invokevirtual 52, 3) := by decide +kernel
theorem d_L_tellStatement_85 : decode b_L_tellStatement 85 = .ok (.ireturn, 1) := by decide +kernel
theorem d_L_tellStatement_86 : decode b_L_tellStatement 86 = .ok (.aload_n 0, 1) := by decide +kernel
theorem d_L_tellStatement_87 : decode b_L_tellStatement 87 = .ok (.aload_n 1, 1) := by decide +kernel
theorem d_L_tellStatement_88 : decode b_L_tellStatement 88 = .ok (.iload_n 2, 1) := by decide +kernel
theorem d_L_tellStatement_89 : decode b_L_tellStatement 89 = .ok (.iconst 1, 1) := by decide +kernel
theorem d_L_tellStatement_90 : decode b_L_tellStatement 90 = .ok (.iadd, 1) := by decide +kernel
theorem d_L_tellStatement_91 : decode b_L_tellStatement 91 = .ok (.invokevirtual 55, 3) := by decide +kernel
theorem d_L_tellStatement_94 : decode b_L_tellStatement 94 = .ok (.ireturn, 1) := by decide +kernel
theorem d_L_tellStatement_95 : decode b_L_tellStatement 95 = .ok (.aload_n 0, 1) := by decide +kernel
theorem d_L_tellStatement_96 : decode b_L_tellStatement 96 = .ok (.aload_n 1, 1) := by decide +kernel
theorem d_L_tellStatement_97 : decode b_L_tellStatement 97 = .ok (.iload_n 2, 1) := by decide +kernel
theorem d_L_tellStatement_98 : decode b_L_tellStatement 98 = .ok (.iconst 1, 1) := by decide +kernel
theorem d_L_tellStatement_99 : decode b_L_tellStatement 99 = .ok (.iadd, 1) := by decide +kernel
theorem d_L_tellStatement_100 : decode b_L_tellStatement 100 = .ok (.invokevirtual 58, 3) := by decide +kernel
theorem d_L_tellStatement_103 : decode b_L_tellStatement 103 = .ok (.ireturn, 1) := by decide +kernel
theorem d_L_tellStatement_104 : decode b_L_tellStatement 104 = .ok (.aload_n 0, 1) := by decide +kernel
theorem d_L_tellStatement_105 : decode b_L_tellStatement 105 = .ok (.aload_n 1, 1) := by decide +kernel
theorem d_L_tellStatement_106 : decode b_L_tellStatement 106 = .ok (.iload_n 2, 1) := by decide +kernel
theorem d_L_tellStatement_107 : decode b_L_tellStatement 107 = .ok (.iconst 1, 1) := by decide +kernel
theorem d_L_tellStatement_108 : decode b_L_tellStatement 108 = .ok (.iadd, 1) := by decide +kernel
theorem d_L_tellStatement_109 : decode b_L_tellStatement 109 = .ok (.invokevirtual 61, 3) := by decide +kernel
theorem d_L_tellStatement_112 : decode b_L_tellStatement 112 = .ok (.ireturn, 1) := by decide +kernel
theorem d_L_tellStatement_113 : decode b_L_tellStatement 113 = .ok (.aload_n 0, 1) := by decide +kernel
theorem d_L_tellStatement_114 : decode b_L_tellStatement 114 = .ok (.aload_n 1, 1) := by decide +kernel
theorem d_L_tellStatement_115 : decode b_L_tellStatement 115 = .ok (.iload_n 2, 1) := by decide +kernel
theorem d_L_tellStatement_116 : decode b_L_tellStatement 116 = .ok (.iconst 1, 1) := by decide +kernel
theorem d_L_tellStatement_117 : decode b_L_tellStatement 117 = .ok (.iadd, 1) := by decide +kernel
theorem d_L_tellStatement_118 : decode b_L_tellStatement 118 = .ok (.invokevirtual 64, 3) := by decide +kernel
theorem d_L_tellStatement_121 : decode b_L_tellStatement 121 = .ok (.ireturn, 1) := by decide +kernel
theorem d_L_tellStatement_122 : decode b_L_tellStatement 122 = .ok (.iconst 0, 1) := by decide +kernel
theorem d_L_tellStatement_123 : decode b_L_tellStatement 123 = .ok (.ireturn, 1) := by decide +kernel
abbrev b_L_tellTo : ByteArray := prog_6_method_5_code
def y_L_tellTo : MethodName := ⟨"PassedOnAndBetter$Letters", "tellTo", "(LPassedOnAndBetter$Company;)I"⟩
theorem m_L_tellTo : MV y_L_tellTo b_L_tellTo 5 (some .int) 1 := ⟨mG 388 (by decide +kernel) (by decide +kernel), mG 88 (by decide +kernel) (by decide +kernel), by decide +kernel⟩
theorem mi_L_tellTo : Cond.instanceMethod y_L_tellTo ∈ tbG := mG 386 (by decide +kernel) (by decide +kernel)
theorem ms_L_tellTo : Cond.selects y_L_tellTo.cls y_L_tellTo y_L_tellTo ∈ tbG := mG 387 (by decide +kernel) (by decide +kernel)
theorem d_L_tellTo_0 : decode b_L_tellTo 0 = .ok (.aload_n 0, 1) := by decide +kernel
theorem d_L_tellTo_1 : decode b_L_tellTo 1 = .ok (.invokevirtual 23, 3) := by decide +kernel
theorem d_L_tellTo_4 : decode b_L_tellTo 4 = .ok (.istore_n 2, 1) := by decide +kernel
theorem d_L_tellTo_5 : decode b_L_tellTo 5 = .ok (.iload_n 2, 1) := by decide +kernel
theorem d_L_tellTo_6 : decode b_L_tellTo 6 = .ok (.iconst (-1), 1) := by decide +kernel
theorem d_L_tellTo_7 : decode b_L_tellTo 7 = .ok (.if_icmp .eq 9, 3) := by decide +kernel
theorem d_L_tellTo_10 : decode b_L_tellTo 10 = .ok (.sipush (-1000), 3) := by decide +kernel
theorem d_L_tellTo_13 : decode b_L_tellTo 13 = .ok (.iload_n 2, 1) := by decide +kernel
theorem d_L_tellTo_14 : decode b_L_tellTo 14 = .ok (.isub, 1) := by decide +kernel
theorem d_L_tellTo_15 : decode b_L_tellTo 15 = .ok (.ireturn, 1) := by decide +kernel
theorem d_L_tellTo_16 : decode b_L_tellTo 16 = .ok (.iconst 0, 1) := by decide +kernel
theorem d_L_tellTo_17 : decode b_L_tellTo 17 = .ok (.istore_n 3, 1) := by decide +kernel
theorem d_L_tellTo_18 : decode b_L_tellTo 18 = .ok (.iconst 0, 1) := by decide +kernel
theorem d_L_tellTo_19 : decode b_L_tellTo 19 = .ok (.istore 4, 2) := by decide +kernel
theorem d_L_tellTo_21 : decode b_L_tellTo 21 = .ok (.iload 4, 2) := by decide +kernel
theorem d_L_tellTo_23 : decode b_L_tellTo 23 = .ok (.aload_n 0, 1) := by decide +kernel
theorem d_L_tellTo_24 : decode b_L_tellTo 24 = .ok (.getfield 15, 3) := by decide +kernel
theorem d_L_tellTo_27 : decode b_L_tellTo 27 = .ok (.if_icmp .ge 42, 3) := by decide +kernel
theorem d_L_tellTo_30 : decode b_L_tellTo 30 = .ok (.aload_n 0, 1) := by decide +kernel
theorem d_L_tellTo_31 : decode b_L_tellTo 31 = .ok (.aload_n 1, 1) := by decide +kernel
theorem d_L_tellTo_32 : decode b_L_tellTo 32 = .ok (.iload 4, 2) := by decide +kernel
theorem d_L_tellTo_34 : decode b_L_tellTo 34 = .ok (.invokevirtual 27, 3) := by decide +kernel
theorem d_L_tellTo_37 : decode b_L_tellTo 37 = .ok (.ifCond .ne 10, 3) := by decide +kernel
theorem d_L_tellTo_40 : decode b_L_tellTo 40 = .ok (.sipush (-2000), 3) := by decide +kernel
theorem d_L_tellTo_43 : decode b_L_tellTo 43 = .ok (.iload 4, 2) := by decide +kernel
theorem d_L_tellTo_45 : decode b_L_tellTo 45 = .ok (.isub, 1) := by decide +kernel
theorem d_L_tellTo_46 : decode b_L_tellTo 46 = .ok (.ireturn, 1) := by decide +kernel
theorem d_L_tellTo_47 : decode b_L_tellTo 47 = .ok (.iinc 3 1, 3) := by decide +kernel
theorem d_L_tellTo_50 : decode b_L_tellTo 50 = .ok (.iload 4, 2) := by decide +kernel
theorem d_L_tellTo_52 : decode b_L_tellTo 52 = .ok (.aload_n 0, 1) := by decide +kernel
theorem d_L_tellTo_53 : decode b_L_tellTo 53 = .ok (.iload 4, 2) := by decide +kernel
theorem d_L_tellTo_55 : decode b_L_tellTo 55 = .ok (.invokevirtual 31, 3) := by decide +kernel
theorem d_L_tellTo_58 : decode b_L_tellTo 58 = .ok (.invokestatic 35, 3) := by decide +kernel
theorem d_L_tellTo_61 : decode b_L_tellTo 61 = .ok (.iconst 2, 1) := by decide +kernel
theorem d_L_tellTo_62 : decode b_L_tellTo 62 = .ok (.iadd, 1) := by decide +kernel
theorem d_L_tellTo_63 : decode b_L_tellTo 63 = .ok (.iadd, 1) := by decide +kernel
theorem d_L_tellTo_64 : decode b_L_tellTo 64 = .ok (.istore 4, 2) := by decide +kernel
theorem d_L_tellTo_66 : decode b_L_tellTo 66 = .ok (.goto (-45), 3) := by decide +kernel
theorem d_L_tellTo_69 : decode b_L_tellTo 69 = .ok (.iload_n 3, 1) := by decide +kernel
theorem d_L_tellTo_70 : decode b_L_tellTo 70 = .ok (.ireturn, 1) := by decide +kernel
abbrev b_L_drop : ByteArray := prog_6_method_4_code
def y_L_drop : MethodName := ⟨"PassedOnAndBetter$Letters", "drop", "()V"⟩
theorem m_L_drop : MV y_L_drop b_L_drop 1 none 0 := ⟨mG 520 (by decide +kernel) (by decide +kernel), mG 88 (by decide +kernel) (by decide +kernel), by decide +kernel⟩
theorem mi_L_drop : Cond.instanceMethod y_L_drop ∈ tbG := mG 518 (by decide +kernel) (by decide +kernel)
theorem ms_L_drop : Cond.selects y_L_drop.cls y_L_drop y_L_drop ∈ tbG := mG 519 (by decide +kernel) (by decide +kernel)
theorem d_L_drop_0 : decode b_L_drop 0 = .ok (.aload_n 0, 1) := by decide +kernel
theorem d_L_drop_1 : decode b_L_drop 1 = .ok (.iconst 0, 1) := by decide +kernel
theorem d_L_drop_2 : decode b_L_drop 2 = .ok (.putfield 15, 3) := by decide +kernel
theorem d_L_drop_5 : decode b_L_drop 5 = .ok (.return_, 1) := by decide +kernel
abbrev b_P_forget : ByteArray := prog_9_method_5_code
def y_P_forget : MethodName := ⟨"PassedOnAndBetter$Past", "forget", "()V"⟩
theorem m_P_forget : MV y_P_forget b_P_forget 1 none 0 := ⟨mG 525 (by decide +kernel) (by decide +kernel), mG 87 (by decide +kernel) (by decide +kernel), by decide +kernel⟩
theorem mi_P_forget : Cond.instanceMethod y_P_forget ∈ tbG := mG 523 (by decide +kernel) (by decide +kernel)
theorem ms_P_forget : Cond.selects y_P_forget.cls y_P_forget y_P_forget ∈ tbG := mG 524 (by decide +kernel) (by decide +kernel)
theorem d_P_forget_0 : decode b_P_forget 0 = .ok (.aload_n 0, 1) := by decide +kernel
theorem d_P_forget_1 : decode b_P_forget 1 = .ok (.iconst 0, 1) := by decide +kernel
theorem d_P_forget_2 : decode b_P_forget 2 = .ok (.putfield 20, 3) := by decide +kernel
theorem d_P_forget_5 : decode b_P_forget 5 = .ok (.return_, 1) := by decide +kernel
abbrev b_X_circle : ByteArray := prog_1_method_3_code
def y_X_circle : MethodName := ⟨"PassedOnAndBetter", "circle", "()I"⟩
theorem m_X_circle : MV y_X_circle b_X_circle 3 (some .int) 0 := ⟨mG 360 (by decide +kernel) (by decide +kernel), mG 83 (by decide +kernel) (by decide +kernel), by decide +kernel⟩
theorem mi_X_circle : Cond.instanceMethod y_X_circle ∈ tbG := mG 358 (by decide +kernel) (by decide +kernel)
theorem ms_X_circle : Cond.selects y_X_circle.cls y_X_circle y_X_circle ∈ tbG := mG 359 (by decide +kernel) (by decide +kernel)
theorem d_X_circle_0 : decode b_X_circle 0 = .ok (.aload_n 0, 1) := by decide +kernel
theorem d_X_circle_1 : decode b_X_circle 1 = .ok (.getfield 45, 3) := by decide +kernel
theorem d_X_circle_4 : decode b_X_circle 4 = .ok (.invokevirtual 72, 3) := by decide +kernel
theorem d_X_circle_7 : decode b_X_circle 7 = .ok (.astore_n 1, 1) := by decide +kernel
theorem d_X_circle_8 : decode b_X_circle 8 = .ok (.aload_n 0, 1) := by decide +kernel
theorem d_X_circle_9 : decode b_X_circle 9 = .ok (.getfield 29, 3) := by decide +kernel
theorem d_X_circle_12 : decode b_X_circle 12 = .ok (.aload_n 1, 1) := by decide +kernel
theorem d_X_circle_13 : decode b_X_circle 13 = .ok (.invokevirtual 76, 3) := by decide +kernel
theorem d_X_circle_16 : decode b_X_circle 16 = .ok (.istore_n 2, 1) := by decide +kernel
theorem d_X_circle_17 : decode b_X_circle 17 = .ok (.aload_n 0, 1) := by decide +kernel
theorem d_X_circle_18 : decode b_X_circle 18 = .ok (.getfield 29, 3) := by decide +kernel
theorem d_X_circle_21 : decode b_X_circle 21 = .ok (.invokevirtual 80, 3) := by decide +kernel
theorem d_X_circle_24 : decode b_X_circle 24 = .ok (.iload_n 2, 1) := by decide +kernel
theorem d_X_circle_25 : decode b_X_circle 25 = .ok (.ifCond .le 18, 3) := by decide +kernel
theorem d_X_circle_28 : decode b_X_circle 28 = .ok (.aload_n 0, 1) := by decide +kernel
theorem d_X_circle_29 : decode b_X_circle 29 = .ok (.getfield 10, 3) := by decide +kernel
theorem d_X_circle_32 : decode b_X_circle 32 = .ok (.aload_n 1, 1) := by decide +kernel
theorem d_X_circle_33 : decode b_X_circle 33 = .ok (.invokevirtual 83, 3) := by decide +kernel
theorem d_X_circle_36 : decode b_X_circle 36 = .ok (.aload_n 0, 1) := by decide +kernel
theorem d_X_circle_37 : decode b_X_circle 37 = .ok (.getfield 22, 3) := by decide +kernel
theorem d_X_circle_40 : decode b_X_circle 40 = .ok (.invokevirtual 87, 3) := by decide +kernel
theorem d_X_circle_43 : decode b_X_circle 43 = .ok (.iload_n 2, 1) := by decide +kernel
theorem d_X_circle_44 : decode b_X_circle 44 = .ok (.ireturn, 1) := by decide +kernel
abbrev b_X_friendNo : ByteArray := prog_1_method_48_code
def y_X_friendNo : MethodName := ⟨"PassedOnAndBetter", "friendNo", "(I)I"⟩
theorem m_X_friendNo : MV y_X_friendNo b_X_friendNo 2 (some .int) 1 := ⟨mG 533 (by decide +kernel) (by decide +kernel), mG 83 (by decide +kernel) (by decide +kernel), by decide +kernel⟩
theorem mi_X_friendNo : Cond.instanceMethod y_X_friendNo ∈ tbG := mG 532 (by decide +kernel) (by decide +kernel)
theorem ms_X_friendNo : Cond.selects y_X_friendNo.cls y_X_friendNo y_X_friendNo ∈ tbG := mG 15 (by decide +kernel) (by decide +kernel)
theorem d_X_friendNo_0 : decode b_X_friendNo 0 = .ok (.aload_n 0, 1) := by decide +kernel
theorem d_X_friendNo_1 : decode b_X_friendNo 1 = .ok (.getfield 10, 3) := by decide +kernel
theorem d_X_friendNo_4 : decode b_X_friendNo 4 = .ok (.iload_n 1, 1) := by decide +kernel
theorem d_X_friendNo_5 : decode b_X_friendNo 5 = .ok (.invokevirtual 318, 3) := by decide +kernel
theorem d_X_friendNo_8 : decode b_X_friendNo 8 = .ok (.ifCond .eq 7, 3) := by decide +kernel
theorem d_X_friendNo_11 : decode b_X_friendNo 11 = .ok (.iconst 0, 1) := by decide +kernel
theorem d_X_friendNo_12 : decode b_X_friendNo 12 = .ok (.goto 4, 3) := by decide +kernel
theorem d_X_friendNo_15 : decode b_X_friendNo 15 = .ok (.iconst (-1), 1) := by decide +kernel
theorem d_X_friendNo_16 : decode b_X_friendNo 16 = .ok (.ireturn, 1) := by decide +kernel
abbrev b_X_whatNo : ByteArray := prog_1_method_52_code
def y_X_whatNo : MethodName := ⟨"PassedOnAndBetter", "whatNo", "(II)I"⟩
theorem m_X_whatNo : MV y_X_whatNo b_X_whatNo 2 (some .int) 2 := ⟨mG 537 (by decide +kernel) (by decide +kernel), mG 83 (by decide +kernel) (by decide +kernel), by decide +kernel⟩
theorem mi_X_whatNo : Cond.static y_X_whatNo ∈ tbG := mG 536 (by decide +kernel) (by decide +kernel)
theorem d_X_whatNo_0 : decode b_X_whatNo 0 = .ok (.iload_n 0, 1) := by decide +kernel
theorem d_X_whatNo_1 : decode b_X_whatNo 1 = .ok (.ifCond .lt 12, 3) := by decide +kernel
theorem d_X_whatNo_4 : decode b_X_whatNo 4 = .ok (.iload_n 0, 1) := by decide +kernel
theorem d_X_whatNo_5 : decode b_X_whatNo 5 = .ok (.iload_n 1, 1) := by decide +kernel
theorem d_X_whatNo_6 : decode b_X_whatNo 6 = .ok (.if_icmp .gt 7, 3) := by decide +kernel
theorem d_X_whatNo_9 : decode b_X_whatNo 9 = .ok (.iconst 0, 1) := by decide +kernel
theorem d_X_whatNo_10 : decode b_X_whatNo 10 = .ok (.goto 5, 3) := by decide +kernel
theorem d_X_whatNo_13 : decode b_X_whatNo 13 = .ok (.bipush (-2), 2) := by decide +kernel
theorem d_X_whatNo_15 : decode b_X_whatNo 15 = .ok (.ireturn, 1) := by decide +kernel
abbrev b_X_first : ByteArray := prog_1_method_47_code
def y_X_first : MethodName := ⟨"PassedOnAndBetter", "first", "(III)I"⟩
theorem m_X_first : MV y_X_first b_X_first 3 (some .int) 3 := ⟨mG 540 (by decide +kernel) (by decide +kernel), mG 83 (by decide +kernel) (by decide +kernel), by decide +kernel⟩
theorem mi_X_first : Cond.static y_X_first ∈ tbG := mG 539 (by decide +kernel) (by decide +kernel)
theorem d_X_first_0 : decode b_X_first 0 = .ok (.iload_n 0, 1) := by decide +kernel
theorem d_X_first_1 : decode b_X_first 1 = .ok (.ifCond .eq 5, 3) := by decide +kernel
theorem d_X_first_4 : decode b_X_first 4 = .ok (.iload_n 0, 1) := by decide +kernel
theorem d_X_first_5 : decode b_X_first 5 = .ok (.ireturn, 1) := by decide +kernel
theorem d_X_first_6 : decode b_X_first 6 = .ok (.iload_n 1, 1) := by decide +kernel
theorem d_X_first_7 : decode b_X_first 7 = .ok (.ifCond .eq 7, 3) := by decide +kernel
theorem d_X_first_10 : decode b_X_first 10 = .ok (.iload_n 1, 1) := by decide +kernel
theorem d_X_first_11 : decode b_X_first 11 = .ok (.goto 4, 3) := by decide +kernel
theorem d_X_first_14 : decode b_X_first 14 = .ok (.iload_n 2, 1) := by decide +kernel
theorem d_X_first_15 : decode b_X_first 15 = .ok (.ireturn, 1) := by decide +kernel
abbrev b_C_holdsOf : ByteArray := prog_2_method_16_code
def y_C_holdsOf : MethodName := ⟨"PassedOnAndBetter$Company", "holdsOf", "(I)I"⟩
theorem m_C_holdsOf : MV y_C_holdsOf b_C_holdsOf 4 (some .int) 1 := ⟨mG 544 (by decide +kernel) (by decide +kernel), mG 84 (by decide +kernel) (by decide +kernel), by decide +kernel⟩
theorem mi_C_holdsOf : Cond.instanceMethod y_C_holdsOf ∈ tbG := mG 542 (by decide +kernel) (by decide +kernel)
theorem ms_C_holdsOf : Cond.selects y_C_holdsOf.cls y_C_holdsOf y_C_holdsOf ∈ tbG := mG 543 (by decide +kernel) (by decide +kernel)
theorem d_C_holdsOf_0 : decode b_C_holdsOf 0 = .ok (.iconst 0, 1) := by decide +kernel
theorem d_C_holdsOf_1 : decode b_C_holdsOf 1 = .ok (.istore_n 2, 1) := by decide +kernel
theorem d_C_holdsOf_2 : decode b_C_holdsOf 2 = .ok (.iconst 0, 1) := by decide +kernel
theorem d_C_holdsOf_3 : decode b_C_holdsOf 3 = .ok (.istore_n 3, 1) := by decide +kernel
theorem d_C_holdsOf_4 : decode b_C_holdsOf 4 = .ok (.iload_n 3, 1) := by decide +kernel
theorem d_C_holdsOf_5 : decode b_C_holdsOf 5 = .ok (.aload_n 0, 1) := by decide +kernel
theorem d_C_holdsOf_6 : decode b_C_holdsOf 6 = .ok (.getfield 37, 3) := by decide +kernel
theorem d_C_holdsOf_9 : decode b_C_holdsOf 9 = .ok (.if_icmp .ge 24, 3) := by decide +kernel
theorem d_C_holdsOf_12 : decode b_C_holdsOf 12 = .ok (.aload_n 0, 1) := by decide +kernel
theorem d_C_holdsOf_13 : decode b_C_holdsOf 13 = .ok (.iload_n 3, 1) := by decide +kernel
theorem d_C_holdsOf_14 : decode b_C_holdsOf 14 = .ok (.invokevirtual 51, 3) := by decide +kernel
theorem d_C_holdsOf_17 : decode b_C_holdsOf 17 = .ok (.getfield 79, 3) := by decide +kernel
theorem d_C_holdsOf_20 : decode b_C_holdsOf 20 = .ok (.iload_n 1, 1) := by decide +kernel
theorem d_C_holdsOf_21 : decode b_C_holdsOf 21 = .ok (.if_icmp .ne 6, 3) := by decide +kernel
theorem d_C_holdsOf_24 : decode b_C_holdsOf 24 = .ok (.iinc 2 1, 3) := by decide +kernel
theorem d_C_holdsOf_27 : decode b_C_holdsOf 27 = .ok (.iinc 3 1, 3) := by decide +kernel
theorem d_C_holdsOf_30 : decode b_C_holdsOf 30 = .ok (.goto (-26), 3) := by decide +kernel
theorem d_C_holdsOf_33 : decode b_C_holdsOf 33 = .ok (.iload_n 2, 1) := by decide +kernel
theorem d_C_holdsOf_34 : decode b_C_holdsOf 34 = .ok (.ireturn, 1) := by decide +kernel
abbrev b_F_tell : ByteArray := prog_3_method_5_code
def y_F_tell : MethodName := ⟨"PassedOnAndBetter$Friend", "tell", "(I)I"⟩
theorem m_F_tell : MV y_F_tell b_F_tell 2 (some .int) 1 := ⟨mG 549 (by decide +kernel) (by decide +kernel), mG 85 (by decide +kernel) (by decide +kernel), by decide +kernel⟩
theorem mi_F_tell : Cond.instanceMethod y_F_tell ∈ tbG := mG 547 (by decide +kernel) (by decide +kernel)
theorem ms_F_tell : Cond.selects y_F_tell.cls y_F_tell y_F_tell ∈ tbG := mG 548 (by decide +kernel) (by decide +kernel)
theorem d_F_tell_0 : decode b_F_tell 0 = .ok (.iload_n 1, 1) := by decide +kernel
theorem d_F_tell_1 : decode b_F_tell 1 = .ok (.tableswitch 82 0 5 #[39, 44, 49, 54, 72, 77], 39) := by decide +kernel
theorem d_F_tell_40 : decode b_F_tell 40 = .ok (.aload_n 0, 1) := by decide +kernel
theorem d_F_tell_41 : decode b_F_tell 41 = .ok (.getfield 9, 3) := by decide +kernel
theorem d_F_tell_44 : decode b_F_tell 44 = .ok (.ireturn, 1) := by decide +kernel
theorem d_F_tell_45 : decode b_F_tell 45 = .ok (.aload_n 0, 1) := by decide +kernel
theorem d_F_tell_46 : decode b_F_tell 46 = .ok (.getfield 15, 3) := by decide +kernel
theorem d_F_tell_49 : decode b_F_tell 49 = .ok (.ireturn, 1) := by decide +kernel
theorem d_F_tell_50 : decode b_F_tell 50 = .ok (.aload_n 0, 1) := by decide +kernel
theorem d_F_tell_51 : decode b_F_tell 51 = .ok (.getfield 18, 3) := by decide +kernel
theorem d_F_tell_54 : decode b_F_tell 54 = .ok (.ireturn, 1) := by decide +kernel
theorem d_F_tell_55 : decode b_F_tell 55 = .ok (.aload_n 0, 1) := by decide +kernel
theorem d_F_tell_56 : decode b_F_tell 56 = .ok (.getfield 21, 3) := by decide +kernel
theorem d_F_tell_59 : decode b_F_tell 59 = .ok (.iconst (-1), 1) := by decide +kernel
theorem d_F_tell_60 : decode b_F_tell 60 = .ok (.if_icmp .ne 8, 3) := by decide +kernel
theorem d_F_tell_63 : decode b_F_tell 63 = .ok (.bipush (-9), 2) := by decide +kernel
theorem d_F_tell_65 : decode b_F_tell 65 = .ok (.goto 7, 3) := by decide +kernel
theorem d_F_tell_68 : decode b_F_tell 68 = .ok (.aload_n 0, 1) := by decide +kernel
theorem d_F_tell_69 : decode b_F_tell 69 = .ok (.getfield 21, 3) := by decide +kernel
theorem d_F_tell_72 : decode b_F_tell 72 = .ok (.ireturn, 1) := by decide +kernel
theorem d_F_tell_73 : decode b_F_tell 73 = .ok (.aload_n 0, 1) := by decide +kernel
theorem d_F_tell_74 : decode b_F_tell 74 = .ok (.getfield 24, 3) := by decide +kernel
theorem d_F_tell_77 : decode b_F_tell 77 = .ok (.ireturn, 1) := by decide +kernel
theorem d_F_tell_78 : decode b_F_tell 78 = .ok (.aload_n 0, 1) := by decide +kernel
theorem d_F_tell_79 : decode b_F_tell 79 = .ok (.getfield 27, 3) := by decide +kernel
theorem d_F_tell_82 : decode b_F_tell 82 = .ok (.ireturn, 1) := by decide +kernel
theorem d_F_tell_83 : decode b_F_tell 83 = .ok (.iconst 0, 1) := by decide +kernel
theorem d_F_tell_84 : decode b_F_tell 84 = .ok (.aload_n 0, 1) := by decide +kernel
theorem d_F_tell_85 : decode b_F_tell 85 = .ok (.getfield 30, 3) := by decide +kernel
theorem d_F_tell_88 : decode b_F_tell 88 = .ok (.invokestatic 55, 3) := by decide +kernel
theorem d_F_tell_91 : decode b_F_tell 91 = .ok (.ireturn, 1) := by decide +kernel
abbrev b_X_friendOf : ByteArray := prog_1_method_4_code
def y_X_friendOf : MethodName := ⟨"PassedOnAndBetter", "friendOf", "(II)I"⟩
theorem m_X_friendOf : MV y_X_friendOf b_X_friendOf 4 (some .int) 2 := ⟨mG 529 (by decide +kernel) (by decide +kernel), mG 83 (by decide +kernel) (by decide +kernel), by decide +kernel⟩
theorem mi_X_friendOf : Cond.instanceMethod y_X_friendOf ∈ tbG := mG 527 (by decide +kernel) (by decide +kernel)
theorem ms_X_friendOf : Cond.selects y_X_friendOf.cls y_X_friendOf y_X_friendOf ∈ tbG := mG 528 (by decide +kernel) (by decide +kernel)
theorem d_X_friendOf_0 : decode b_X_friendOf 0 = .ok (.aload_n 0, 1) := by decide +kernel
theorem d_X_friendOf_1 : decode b_X_friendOf 1 = .ok (.iload_n 1, 1) := by decide +kernel
theorem d_X_friendOf_2 : decode b_X_friendOf 2 = .ok (.invokevirtual 90, 3) := by decide +kernel
theorem d_X_friendOf_5 : decode b_X_friendOf 5 = .ok (.iload_n 2, 1) := by decide +kernel
theorem d_X_friendOf_6 : decode b_X_friendOf 6 = .ok (.bipush 7, 2) := by decide +kernel
theorem d_X_friendOf_8 : decode b_X_friendOf 8 = .ok (.invokestatic 93, 3) := by decide +kernel
theorem d_X_friendOf_11 : decode b_X_friendOf 11 = .ok (.iconst 0, 1) := by decide +kernel
theorem d_X_friendOf_12 : decode b_X_friendOf 12 = .ok (.invokestatic 97, 3) := by decide +kernel
theorem d_X_friendOf_15 : decode b_X_friendOf 15 = .ok (.istore_n 3, 1) := by decide +kernel
theorem d_X_friendOf_16 : decode b_X_friendOf 16 = .ok (.iload_n 3, 1) := by decide +kernel
theorem d_X_friendOf_17 : decode b_X_friendOf 17 = .ok (.ifCond .eq 9, 3) := by decide +kernel
theorem d_X_friendOf_20 : decode b_X_friendOf 20 = .ok (.aload_n 0, 1) := by decide +kernel
theorem d_X_friendOf_21 : decode b_X_friendOf 21 = .ok (.iload_n 3, 1) := by decide +kernel
theorem d_X_friendOf_22 : decode b_X_friendOf 22 = .ok (.invokevirtual 69, 3) := by decide +kernel
theorem d_X_friendOf_25 : decode b_X_friendOf 25 = .ok (.ireturn, 1) := by decide +kernel
theorem d_X_friendOf_26 : decode b_X_friendOf 26 = .ok (.iload_n 2, 1) := by decide +kernel
theorem d_X_friendOf_27 : decode b_X_friendOf 27 = .ok (.bipush 7, 2) := by decide +kernel
theorem d_X_friendOf_29 : decode b_X_friendOf 29 = .ok (.if_icmp .ne 14, 3) := by decide +kernel
theorem d_X_friendOf_32 : decode b_X_friendOf 32 = .ok (.aload_n 0, 1) := by decide +kernel
theorem d_X_friendOf_33 : decode b_X_friendOf 33 = .ok (.getfield 10, 3) := by decide +kernel
theorem d_X_friendOf_36 : decode b_X_friendOf 36 = .ok (.iload_n 1, 1) := by decide +kernel
theorem d_X_friendOf_37 : decode b_X_friendOf 37 = .ok (.invokevirtual 100, 3) := by decide +kernel
theorem d_X_friendOf_40 : decode b_X_friendOf 40 = .ok (.goto 15, 3) := by decide +kernel
theorem d_X_friendOf_43 : decode b_X_friendOf 43 = .ok (.aload_n 0, 1) := by decide +kernel
theorem d_X_friendOf_44 : decode b_X_friendOf 44 = .ok (.getfield 10, 3) := by decide +kernel
theorem d_X_friendOf_47 : decode b_X_friendOf 47 = .ok (.iload_n 1, 1) := by decide +kernel
theorem d_X_friendOf_48 : decode b_X_friendOf 48 = .ok (.invokevirtual 103, 3) := by decide +kernel
theorem d_X_friendOf_51 : decode b_X_friendOf 51 = .ok (.iload_n 2, 1) := by decide +kernel
theorem d_X_friendOf_52 : decode b_X_friendOf 52 = .ok (.invokevirtual 107, 3) := by decide +kernel
theorem d_X_friendOf_55 : decode b_X_friendOf 55 = .ok (.ireturn, 1) := by decide +kernel
abbrev b_X_giftNo : ByteArray := prog_1_method_51_code
def y_X_giftNo : MethodName := ⟨"PassedOnAndBetter", "giftNo", "(I)I"⟩
theorem m_X_giftNo : MV y_X_giftNo b_X_giftNo 2 (some .int) 1 := ⟨mG 558 (by decide +kernel) (by decide +kernel), mG 83 (by decide +kernel) (by decide +kernel), by decide +kernel⟩
theorem mi_X_giftNo : Cond.instanceMethod y_X_giftNo ∈ tbG := mG 557 (by decide +kernel) (by decide +kernel)
theorem ms_X_giftNo : Cond.selects y_X_giftNo.cls y_X_giftNo y_X_giftNo ∈ tbG := mG 16 (by decide +kernel) (by decide +kernel)
theorem d_X_giftNo_0 : decode b_X_giftNo 0 = .ok (.aload_n 0, 1) := by decide +kernel
theorem d_X_giftNo_1 : decode b_X_giftNo 1 = .ok (.getfield 10, 3) := by decide +kernel
theorem d_X_giftNo_4 : decode b_X_giftNo 4 = .ok (.iload_n 1, 1) := by decide +kernel
theorem d_X_giftNo_5 : decode b_X_giftNo 5 = .ok (.invokevirtual 322, 3) := by decide +kernel
theorem d_X_giftNo_8 : decode b_X_giftNo 8 = .ok (.ifCond .eq 7, 3) := by decide +kernel
theorem d_X_giftNo_11 : decode b_X_giftNo 11 = .ok (.iconst 0, 1) := by decide +kernel
theorem d_X_giftNo_12 : decode b_X_giftNo 12 = .ok (.goto 4, 3) := by decide +kernel
theorem d_X_giftNo_15 : decode b_X_giftNo 15 = .ok (.iconst (-1), 1) := by decide +kernel
theorem d_X_giftNo_16 : decode b_X_giftNo 16 = .ok (.ireturn, 1) := by decide +kernel
abbrev b_G_tell : ByteArray := prog_4_method_8_code
def y_G_tell : MethodName := ⟨"PassedOnAndBetter$Gift", "tell", "(I)I"⟩
theorem m_G_tell : MV y_G_tell b_G_tell 2 (some .int) 1 := ⟨mG 564 (by decide +kernel) (by decide +kernel), mG 86 (by decide +kernel) (by decide +kernel), by decide +kernel⟩
theorem mi_G_tell : Cond.instanceMethod y_G_tell ∈ tbG := mG 562 (by decide +kernel) (by decide +kernel)
theorem ms_G_tell : Cond.selects y_G_tell.cls y_G_tell y_G_tell ∈ tbG := mG 563 (by decide +kernel) (by decide +kernel)
theorem d_G_tell_0 : decode b_G_tell 0 = .ok (.iload_n 1, 1) := by decide +kernel
theorem d_G_tell_1 : decode b_G_tell 1 = .ok (.tableswitch 68 0 4 #[35, 40, 45, 50, 55], 35) := by decide +kernel
theorem d_G_tell_36 : decode b_G_tell 36 = .ok (.aload_n 0, 1) := by decide +kernel
theorem d_G_tell_37 : decode b_G_tell 37 = .ok (.getfield 15, 3) := by decide +kernel
theorem d_G_tell_40 : decode b_G_tell 40 = .ok (.ireturn, 1) := by decide +kernel
theorem d_G_tell_41 : decode b_G_tell 41 = .ok (.aload_n 0, 1) := by decide +kernel
theorem d_G_tell_42 : decode b_G_tell 42 = .ok (.getfield 19, 3) := by decide +kernel
theorem d_G_tell_45 : decode b_G_tell 45 = .ok (.ireturn, 1) := by decide +kernel
theorem d_G_tell_46 : decode b_G_tell 46 = .ok (.aload_n 0, 1) := by decide +kernel
theorem d_G_tell_47 : decode b_G_tell 47 = .ok (.getfield 22, 3) := by decide +kernel
theorem d_G_tell_50 : decode b_G_tell 50 = .ok (.ireturn, 1) := by decide +kernel
theorem d_G_tell_51 : decode b_G_tell 51 = .ok (.aload_n 0, 1) := by decide +kernel
theorem d_G_tell_52 : decode b_G_tell 52 = .ok (.getfield 25, 3) := by decide +kernel
theorem d_G_tell_55 : decode b_G_tell 55 = .ok (.ireturn, 1) := by decide +kernel
theorem d_G_tell_56 : decode b_G_tell 56 = .ok (.aload_n 0, 1) := by decide +kernel
theorem d_G_tell_57 : decode b_G_tell 57 = .ok (.getfield 28, 3) := by decide +kernel
theorem d_G_tell_60 : decode b_G_tell 60 = .ok (.ifCond .eq 7, 3) := by decide +kernel
theorem d_G_tell_63 : decode b_G_tell 63 = .ok (.iconst 1, 1) := by decide +kernel
theorem d_G_tell_64 : decode b_G_tell 64 = .ok (.goto 4, 3) := by decide +kernel
theorem d_G_tell_67 : decode b_G_tell 67 = .ok (.iconst 0, 1) := by decide +kernel
theorem d_G_tell_68 : decode b_G_tell 68 = .ok (.ireturn, 1) := by decide +kernel
theorem d_G_tell_69 : decode b_G_tell 69 = .ok (.aload_n 0, 1) := by decide +kernel
theorem d_G_tell_70 : decode b_G_tell 70 = .ok (.getfield 32, 3) := by decide +kernel
theorem d_G_tell_73 : decode b_G_tell 73 = .ok (.ireturn, 1) := by decide +kernel
abbrev b_X_giftOf : ByteArray := prog_1_method_5_code
def y_X_giftOf : MethodName := ⟨"PassedOnAndBetter", "giftOf", "(II)I"⟩
theorem m_X_giftOf : MV y_X_giftOf b_X_giftOf 4 (some .int) 2 := ⟨mG 554 (by decide +kernel) (by decide +kernel), mG 83 (by decide +kernel) (by decide +kernel), by decide +kernel⟩
theorem mi_X_giftOf : Cond.instanceMethod y_X_giftOf ∈ tbG := mG 552 (by decide +kernel) (by decide +kernel)
theorem ms_X_giftOf : Cond.selects y_X_giftOf.cls y_X_giftOf y_X_giftOf ∈ tbG := mG 553 (by decide +kernel) (by decide +kernel)
theorem d_X_giftOf_0 : decode b_X_giftOf 0 = .ok (.aload_n 0, 1) := by decide +kernel
theorem d_X_giftOf_1 : decode b_X_giftOf 1 = .ok (.iload_n 1, 1) := by decide +kernel
theorem d_X_giftOf_2 : decode b_X_giftOf 2 = .ok (.invokevirtual 112, 3) := by decide +kernel
theorem d_X_giftOf_5 : decode b_X_giftOf 5 = .ok (.iload_n 2, 1) := by decide +kernel
theorem d_X_giftOf_6 : decode b_X_giftOf 6 = .ok (.iconst 5, 1) := by decide +kernel
theorem d_X_giftOf_7 : decode b_X_giftOf 7 = .ok (.invokestatic 93, 3) := by decide +kernel
theorem d_X_giftOf_10 : decode b_X_giftOf 10 = .ok (.iconst 0, 1) := by decide +kernel
theorem d_X_giftOf_11 : decode b_X_giftOf 11 = .ok (.invokestatic 97, 3) := by decide +kernel
theorem d_X_giftOf_14 : decode b_X_giftOf 14 = .ok (.istore_n 3, 1) := by decide +kernel
theorem d_X_giftOf_15 : decode b_X_giftOf 15 = .ok (.iload_n 3, 1) := by decide +kernel
theorem d_X_giftOf_16 : decode b_X_giftOf 16 = .ok (.ifCond .ne 18, 3) := by decide +kernel
theorem d_X_giftOf_19 : decode b_X_giftOf 19 = .ok (.aload_n 0, 1) := by decide +kernel
theorem d_X_giftOf_20 : decode b_X_giftOf 20 = .ok (.getfield 10, 3) := by decide +kernel
theorem d_X_giftOf_23 : decode b_X_giftOf 23 = .ok (.iload_n 1, 1) := by decide +kernel
theorem d_X_giftOf_24 : decode b_X_giftOf 24 = .ok (.invokevirtual 115, 3) := by decide +kernel
theorem d_X_giftOf_27 : decode b_X_giftOf 27 = .ok (.iload_n 2, 1) := by decide +kernel
theorem d_X_giftOf_28 : decode b_X_giftOf 28 = .ok (.invokevirtual 119, 3) := by decide +kernel
theorem d_X_giftOf_31 : decode b_X_giftOf 31 = .ok (.goto 8, 3) := by decide +kernel
theorem d_X_giftOf_34 : decode b_X_giftOf 34 = .ok (.aload_n 0, 1) := by decide +kernel
theorem d_X_giftOf_35 : decode b_X_giftOf 35 = .ok (.iload_n 3, 1) := by decide +kernel
theorem d_X_giftOf_36 : decode b_X_giftOf 36 = .ok (.invokevirtual 69, 3) := by decide +kernel
theorem d_X_giftOf_39 : decode b_X_giftOf 39 = .ok (.ireturn, 1) := by decide +kernel
abbrev b_X_friend : ByteArray := prog_1_method_6_code
def y_X_friend : MethodName := ⟨"PassedOnAndBetter", "friend", "(III)I"⟩
theorem m_X_friend : MV y_X_friend b_X_friend 5 (some .int) 3 := ⟨mG 568 (by decide +kernel) (by decide +kernel), mG 83 (by decide +kernel) (by decide +kernel), by decide +kernel⟩
theorem mi_X_friend : Cond.instanceMethod y_X_friend ∈ tbG := mG 566 (by decide +kernel) (by decide +kernel)
theorem ms_X_friend : Cond.selects y_X_friend.cls y_X_friend y_X_friend ∈ tbG := mG 567 (by decide +kernel) (by decide +kernel)
theorem d_X_friend_0 : decode b_X_friend 0 = .ok (.iload_n 1, 1) := by decide +kernel
theorem d_X_friend_1 : decode b_X_friend 1 = .ok (.iconst 5, 1) := by decide +kernel
theorem d_X_friend_2 : decode b_X_friend 2 = .ok (.invokestatic 93, 3) := by decide +kernel
theorem d_X_friend_5 : decode b_X_friend 5 = .ok (.istore 4, 2) := by decide +kernel
theorem d_X_friend_7 : decode b_X_friend 7 = .ok (.iload 4, 2) := by decide +kernel
theorem d_X_friend_9 : decode b_X_friend 9 = .ok (.ifCond .ne 16, 3) := by decide +kernel
theorem d_X_friend_12 : decode b_X_friend 12 = .ok (.iload_n 2, 1) := by decide +kernel
theorem d_X_friend_13 : decode b_X_friend 13 = .ok (.ifCond .lt 8, 3) := by decide +kernel
theorem d_X_friend_16 : decode b_X_friend 16 = .ok (.iload_n 3, 1) := by decide +kernel
theorem d_X_friend_17 : decode b_X_friend 17 = .ok (.iconst 1, 1) := by decide +kernel
theorem d_X_friend_18 : decode b_X_friend 18 = .ok (.if_icmp .ge 7, 3) := by decide +kernel
theorem d_X_friend_21 : decode b_X_friend 21 = .ok (.bipush (-4), 2) := by decide +kernel
theorem d_X_friend_23 : decode b_X_friend 23 = .ok (.istore 4, 2) := by decide +kernel
theorem d_X_friend_25 : decode b_X_friend 25 = .ok (.iload 4, 2) := by decide +kernel
theorem d_X_friend_27 : decode b_X_friend 27 = .ok (.ifCond .ne 29, 3) := by decide +kernel
theorem d_X_friend_30 : decode b_X_friend 30 = .ok (.iload_n 2, 1) := by decide +kernel
theorem d_X_friend_31 : decode b_X_friend 31 = .ok (.bipush 9, 2) := by decide +kernel
theorem d_X_friend_33 : decode b_X_friend 33 = .ok (.if_icmp .gt 19, 3) := by decide +kernel
theorem d_X_friend_36 : decode b_X_friend 36 = .ok (.iload_n 3, 1) := by decide +kernel
theorem d_X_friend_37 : decode b_X_friend 37 = .ok (.bipush 99, 2) := by decide +kernel
theorem d_X_friend_39 : decode b_X_friend 39 = .ok (.if_icmp .gt 13, 3) := by decide +kernel
theorem d_X_friend_42 : decode b_X_friend 42 = .ok (.aload_n 0, 1) := by decide +kernel
theorem d_X_friend_43 : decode b_X_friend 43 = .ok (.getfield 10, 3) := by decide +kernel
theorem d_X_friend_46 : decode b_X_friend 46 = .ok (.invokevirtual 122, 3) := by decide +kernel
theorem d_X_friend_49 : decode b_X_friend 49 = .ok (.ifCond .eq 7, 3) := by decide +kernel
theorem d_X_friend_52 : decode b_X_friend 52 = .ok (.bipush (-6), 2) := by decide +kernel
theorem d_X_friend_54 : decode b_X_friend 54 = .ok (.istore 4, 2) := by decide +kernel
theorem d_X_friend_56 : decode b_X_friend 56 = .ok (.iload 4, 2) := by decide +kernel
theorem d_X_friend_58 : decode b_X_friend 58 = .ok (.ifCond .eq 10, 3) := by decide +kernel
theorem d_X_friend_61 : decode b_X_friend 61 = .ok (.aload_n 0, 1) := by decide +kernel
theorem d_X_friend_62 : decode b_X_friend 62 = .ok (.iload 4, 2) := by decide +kernel
theorem d_X_friend_64 : decode b_X_friend 64 = .ok (.invokevirtual 69, 3) := by decide +kernel
theorem d_X_friend_67 : decode b_X_friend 67 = .ok (.ireturn, 1) := by decide +kernel
theorem d_X_friend_68 : decode b_X_friend 68 = .ok (.aload_n 0, 1) := by decide +kernel
theorem d_X_friend_69 : decode b_X_friend 69 = .ok (.getfield 22, 3) := by decide +kernel
theorem d_X_friend_72 : decode b_X_friend 72 = .ok (.invokevirtual 87, 3) := by decide +kernel
theorem d_X_friend_75 : decode b_X_friend 75 = .ok (.aload_n 0, 1) := by decide +kernel
theorem d_X_friend_76 : decode b_X_friend 76 = .ok (.getfield 10, 3) := by decide +kernel
theorem d_X_friend_79 : decode b_X_friend 79 = .ok (.iload_n 1, 1) := by decide +kernel
theorem d_X_friend_80 : decode b_X_friend 80 = .ok (.iload_n 2, 1) := by decide +kernel
theorem d_X_friend_81 : decode b_X_friend 81 = .ok (.iload_n 3, 1) := by decide +kernel
theorem d_X_friend_82 : decode b_X_friend 82 = .ok (.invokevirtual 125, 3) := by decide +kernel
theorem d_X_friend_85 : decode b_X_friend 85 = .ok (.ireturn, 1) := by decide +kernel
abbrev b_X_gift : ByteArray := prog_1_method_7_code
def y_X_gift : MethodName := ⟨"PassedOnAndBetter", "gift", "(III)I"⟩
theorem m_X_gift : MV y_X_gift b_X_gift 5 (some .int) 3 := ⟨mG 574 (by decide +kernel) (by decide +kernel), mG 83 (by decide +kernel) (by decide +kernel), by decide +kernel⟩
theorem mi_X_gift : Cond.instanceMethod y_X_gift ∈ tbG := mG 572 (by decide +kernel) (by decide +kernel)
theorem ms_X_gift : Cond.selects y_X_gift.cls y_X_gift y_X_gift ∈ tbG := mG 573 (by decide +kernel) (by decide +kernel)
theorem d_X_gift_0 : decode b_X_gift 0 = .ok (.aload_n 0, 1) := by decide +kernel
theorem d_X_gift_1 : decode b_X_gift 1 = .ok (.iload_n 1, 1) := by decide +kernel
theorem d_X_gift_2 : decode b_X_gift 2 = .ok (.invokevirtual 90, 3) := by decide +kernel
theorem d_X_gift_5 : decode b_X_gift 5 = .ok (.istore 4, 2) := by decide +kernel
theorem d_X_gift_7 : decode b_X_gift 7 = .ok (.iload 4, 2) := by decide +kernel
theorem d_X_gift_9 : decode b_X_gift 9 = .ok (.ifCond .ne 16, 3) := by decide +kernel
theorem d_X_gift_12 : decode b_X_gift 12 = .ok (.iload_n 2, 1) := by decide +kernel
theorem d_X_gift_13 : decode b_X_gift 13 = .ok (.ifCond .lt 8, 3) := by decide +kernel
theorem d_X_gift_16 : decode b_X_gift 16 = .ok (.iload_n 3, 1) := by decide +kernel
theorem d_X_gift_17 : decode b_X_gift 17 = .ok (.iconst 1, 1) := by decide +kernel
theorem d_X_gift_18 : decode b_X_gift 18 = .ok (.if_icmp .ge 7, 3) := by decide +kernel
theorem d_X_gift_21 : decode b_X_gift 21 = .ok (.bipush (-4), 2) := by decide +kernel
theorem d_X_gift_23 : decode b_X_gift 23 = .ok (.istore 4, 2) := by decide +kernel
theorem d_X_gift_25 : decode b_X_gift 25 = .ok (.iload 4, 2) := by decide +kernel
theorem d_X_gift_27 : decode b_X_gift 27 = .ok (.ifCond .ne 29, 3) := by decide +kernel
theorem d_X_gift_30 : decode b_X_gift 30 = .ok (.iload_n 2, 1) := by decide +kernel
theorem d_X_gift_31 : decode b_X_gift 31 = .ok (.bipush 99, 2) := by decide +kernel
theorem d_X_gift_33 : decode b_X_gift 33 = .ok (.if_icmp .gt 19, 3) := by decide +kernel
theorem d_X_gift_36 : decode b_X_gift 36 = .ok (.iload_n 3, 1) := by decide +kernel
theorem d_X_gift_37 : decode b_X_gift 37 = .ok (.bipush 99, 2) := by decide +kernel
theorem d_X_gift_39 : decode b_X_gift 39 = .ok (.if_icmp .gt 13, 3) := by decide +kernel
theorem d_X_gift_42 : decode b_X_gift 42 = .ok (.aload_n 0, 1) := by decide +kernel
theorem d_X_gift_43 : decode b_X_gift 43 = .ok (.getfield 10, 3) := by decide +kernel
theorem d_X_gift_46 : decode b_X_gift 46 = .ok (.invokevirtual 128, 3) := by decide +kernel
theorem d_X_gift_49 : decode b_X_gift 49 = .ok (.ifCond .eq 7, 3) := by decide +kernel
theorem d_X_gift_52 : decode b_X_gift 52 = .ok (.bipush (-6), 2) := by decide +kernel
theorem d_X_gift_54 : decode b_X_gift 54 = .ok (.istore 4, 2) := by decide +kernel
theorem d_X_gift_56 : decode b_X_gift 56 = .ok (.iload 4, 2) := by decide +kernel
theorem d_X_gift_58 : decode b_X_gift 58 = .ok (.ifCond .eq 10, 3) := by decide +kernel
theorem d_X_gift_61 : decode b_X_gift 61 = .ok (.aload_n 0, 1) := by decide +kernel
theorem d_X_gift_62 : decode b_X_gift 62 = .ok (.iload 4, 2) := by decide +kernel
theorem d_X_gift_64 : decode b_X_gift 64 = .ok (.invokevirtual 69, 3) := by decide +kernel
theorem d_X_gift_67 : decode b_X_gift 67 = .ok (.ireturn, 1) := by decide +kernel
theorem d_X_gift_68 : decode b_X_gift 68 = .ok (.aload_n 0, 1) := by decide +kernel
theorem d_X_gift_69 : decode b_X_gift 69 = .ok (.getfield 22, 3) := by decide +kernel
theorem d_X_gift_72 : decode b_X_gift 72 = .ok (.invokevirtual 87, 3) := by decide +kernel
theorem d_X_gift_75 : decode b_X_gift 75 = .ok (.aload_n 0, 1) := by decide +kernel
theorem d_X_gift_76 : decode b_X_gift 76 = .ok (.getfield 10, 3) := by decide +kernel
theorem d_X_gift_79 : decode b_X_gift 79 = .ok (.iload_n 1, 1) := by decide +kernel
theorem d_X_gift_80 : decode b_X_gift 80 = .ok (.iload_n 2, 1) := by decide +kernel
theorem d_X_gift_81 : decode b_X_gift 81 = .ok (.iload_n 3, 1) := by decide +kernel
theorem d_X_gift_82 : decode b_X_gift 82 = .ok (.invokevirtual 131, 3) := by decide +kernel
theorem d_X_gift_85 : decode b_X_gift 85 = .ok (.ireturn, 1) := by decide +kernel
abbrev b_X_twoFriendsNo : ByteArray := prog_1_method_50_code
def y_X_twoFriendsNo : MethodName := ⟨"PassedOnAndBetter", "twoFriendsNo", "(II)I"⟩
theorem m_X_twoFriendsNo : MV y_X_twoFriendsNo b_X_twoFriendsNo 3 (some .int) 2 := ⟨mG 584 (by decide +kernel) (by decide +kernel), mG 83 (by decide +kernel) (by decide +kernel), by decide +kernel⟩
theorem mi_X_twoFriendsNo : Cond.instanceMethod y_X_twoFriendsNo ∈ tbG := mG 583 (by decide +kernel) (by decide +kernel)
theorem ms_X_twoFriendsNo : Cond.selects y_X_twoFriendsNo.cls y_X_twoFriendsNo y_X_twoFriendsNo ∈ tbG := mG 17 (by decide +kernel) (by decide +kernel)
theorem d_X_twoFriendsNo_0 : decode b_X_twoFriendsNo 0 = .ok (.aload_n 0, 1) := by decide +kernel
theorem d_X_twoFriendsNo_1 : decode b_X_twoFriendsNo 1 = .ok (.iload_n 1, 1) := by decide +kernel
theorem d_X_twoFriendsNo_2 : decode b_X_twoFriendsNo 2 = .ok (.invokevirtual 90, 3) := by decide +kernel
theorem d_X_twoFriendsNo_5 : decode b_X_twoFriendsNo 5 = .ok (.aload_n 0, 1) := by decide +kernel
theorem d_X_twoFriendsNo_6 : decode b_X_twoFriendsNo 6 = .ok (.iload_n 2, 1) := by decide +kernel
theorem d_X_twoFriendsNo_7 : decode b_X_twoFriendsNo 7 = .ok (.invokevirtual 90, 3) := by decide +kernel
theorem d_X_twoFriendsNo_10 : decode b_X_twoFriendsNo 10 = .ok (.iload_n 1, 1) := by decide +kernel
theorem d_X_twoFriendsNo_11 : decode b_X_twoFriendsNo 11 = .ok (.iload_n 2, 1) := by decide +kernel
theorem d_X_twoFriendsNo_12 : decode b_X_twoFriendsNo 12 = .ok (.if_icmp .ne 7, 3) := by decide +kernel
theorem d_X_twoFriendsNo_15 : decode b_X_twoFriendsNo 15 = .ok (.iconst (-1), 1) := by decide +kernel
theorem d_X_twoFriendsNo_16 : decode b_X_twoFriendsNo 16 = .ok (.goto 4, 3) := by decide +kernel
theorem d_X_twoFriendsNo_19 : decode b_X_twoFriendsNo 19 = .ok (.iconst 0, 1) := by decide +kernel
theorem d_X_twoFriendsNo_20 : decode b_X_twoFriendsNo 20 = .ok (.invokestatic 97, 3) := by decide +kernel
theorem d_X_twoFriendsNo_23 : decode b_X_twoFriendsNo 23 = .ok (.ireturn, 1) := by decide +kernel
abbrev b_P_storedAt : ByteArray := prog_9_method_2_code
def y_P_storedAt : MethodName := ⟨"PassedOnAndBetter$Past", "storedAt", "(I)LPassedOnAndBetter$Company;"⟩
theorem m_P_storedAt : MV y_P_storedAt b_P_storedAt 3 (some (.object "PassedOnAndBetter$Company")) 1 := ⟨mG 592 (by decide +kernel) (by decide +kernel), mG 87 (by decide +kernel) (by decide +kernel), by decide +kernel⟩
theorem mi_P_storedAt : Cond.instanceMethod y_P_storedAt ∈ tbG := mG 591 (by decide +kernel) (by decide +kernel)
theorem ms_P_storedAt : Cond.selects y_P_storedAt.cls y_P_storedAt y_P_storedAt ∈ tbG := mG 18 (by decide +kernel) (by decide +kernel)
theorem d_P_storedAt_0 : decode b_P_storedAt 0 = .ok (.aload_n 0, 1) := by decide +kernel
theorem d_P_storedAt_1 : decode b_P_storedAt 1 = .ok (.getfield 16, 3) := by decide +kernel
theorem d_P_storedAt_4 : decode b_P_storedAt 4 = .ok (.iload_n 1, 1) := by decide +kernel
theorem d_P_storedAt_5 : decode b_P_storedAt 5 = .ok (.iadd, 1) := by decide +kernel
theorem d_P_storedAt_6 : decode b_P_storedAt 6 = .ok (.bipush 8, 2) := by decide +kernel
theorem d_P_storedAt_8 : decode b_P_storedAt 8 = .ok (.irem, 1) := by decide +kernel
theorem d_P_storedAt_9 : decode b_P_storedAt 9 = .ok (.istore_n 2, 1) := by decide +kernel
theorem d_P_storedAt_10 : decode b_P_storedAt 10 = .ok (.iload_n 2, 1) := by decide +kernel
theorem d_P_storedAt_11 : decode b_P_storedAt 11 = .ok (.ifCond .lt 21, 3) := by decide +kernel
theorem d_P_storedAt_14 : decode b_P_storedAt 14 = .ok (.iload_n 2, 1) := by decide +kernel
theorem d_P_storedAt_15 : decode b_P_storedAt 15 = .ok (.aload_n 0, 1) := by decide +kernel
theorem d_P_storedAt_16 : decode b_P_storedAt 16 = .ok (.getfield 11, 3) := by decide +kernel
theorem d_P_storedAt_19 : decode b_P_storedAt 19 = .ok (.arraylength, 1) := by decide +kernel
theorem d_P_storedAt_20 : decode b_P_storedAt 20 = .ok (.if_icmp .ge 12, 3) := by decide +kernel
theorem d_P_storedAt_23 : decode b_P_storedAt 23 = .ok (.aload_n 0, 1) := by decide +kernel
theorem d_P_storedAt_24 : decode b_P_storedAt 24 = .ok (.getfield 11, 3) := by decide +kernel
theorem d_P_storedAt_27 : decode b_P_storedAt 27 = .ok (.iload_n 2, 1) := by decide +kernel
theorem d_P_storedAt_28 : decode b_P_storedAt 28 = .ok (.aaload, 1) := by decide +kernel
theorem d_P_storedAt_29 : decode b_P_storedAt 29 = .ok (.goto 4, 3) := by decide +kernel
theorem d_P_storedAt_32 : decode b_P_storedAt 32 = .ok (.aconst_null, 1) := by decide +kernel
theorem d_P_storedAt_33 : decode b_P_storedAt 33 = .ok (.areturn, 1) := by decide +kernel
