section
-- ===== PART A: goes FIRST, ahead of the names: the tables' words, and 'selects' of the private methods out of them =====
/-- a private method of a class that the tables say can be made, by its rows of tables_1 -/
def lw_okq (q : MethodName × Nat) : Prop := (q.1.cls ≠ "java/lang/invoke/MethodHandle" ∧ q.1.cls ≠ "java/lang/invoke/VarHandle") ∧ Cond.instantiable q.1.cls q.2 ∈ tables_1 ∧ Cond.privateMethod q.1 ∈ tables_1 ∧ Cond.instanceMethod q.1 ∈ tables_1
theorem lw_p0 : lw_okq (⟨"PassedOnAndBetter$Gift", "begin", "(III)V"⟩, 6) := ⟨⟨by decide +kernel, by decide +kernel⟩, List.mem_of_getElem? (i := 83) (by decide +kernel), List.mem_of_getElem? (i := 89) (by decide +kernel), List.mem_of_getElem? (i := 90) (by decide +kernel)⟩
theorem lw_p1 : lw_okq (⟨"PassedOnAndBetter", "refuse", "(I)I"⟩, 8) := ⟨⟨by decide +kernel, by decide +kernel⟩, List.mem_of_getElem? (i := 14) (by decide +kernel), List.mem_of_getElem? (i := 268) (by decide +kernel), List.mem_of_getElem? (i := 269) (by decide +kernel)⟩
theorem lw_p2 : lw_okq (⟨"PassedOnAndBetter$Letters", "placeOfFormFault", "()I"⟩, 2) := ⟨⟨by decide +kernel, by decide +kernel⟩, List.mem_of_getElem? (i := 170) (by decide +kernel), List.mem_of_getElem? (i := 308) (by decide +kernel), List.mem_of_getElem? (i := 309) (by decide +kernel)⟩
theorem lw_p3 : lw_okq (⟨"PassedOnAndBetter$Letters", "letterAt", "(I)I"⟩, 2) := ⟨⟨by decide +kernel, by decide +kernel⟩, List.mem_of_getElem? (i := 170) (by decide +kernel), List.mem_of_getElem? (i := 312) (by decide +kernel), List.mem_of_getElem? (i := 313) (by decide +kernel)⟩
theorem lw_p4 : lw_okq (⟨"PassedOnAndBetter$Letters", "isDigit", "(I)Z"⟩, 2) := ⟨⟨by decide +kernel, by decide +kernel⟩, List.mem_of_getElem? (i := 170) (by decide +kernel), List.mem_of_getElem? (i := 320) (by decide +kernel), List.mem_of_getElem? (i := 321) (by decide +kernel)⟩
theorem lw_p5 : lw_okq (⟨"PassedOnAndBetter$Letters", "tellStatement", "(LPassedOnAndBetter$Company;I)Z"⟩, 2) := ⟨⟨by decide +kernel, by decide +kernel⟩, List.mem_of_getElem? (i := 170) (by decide +kernel), List.mem_of_getElem? (i := 324) (by decide +kernel), List.mem_of_getElem? (i := 325) (by decide +kernel)⟩
theorem lw_p6 : lw_okq (⟨"PassedOnAndBetter$Letters", "tellFriend", "(LPassedOnAndBetter$Company;I)Z"⟩, 2) := ⟨⟨by decide +kernel, by decide +kernel⟩, List.mem_of_getElem? (i := 170) (by decide +kernel), List.mem_of_getElem? (i := 328) (by decide +kernel), List.mem_of_getElem? (i := 329) (by decide +kernel)⟩
theorem lw_p7 : lw_okq (⟨"PassedOnAndBetter$Letters", "digitAt", "(I)I"⟩, 2) := ⟨⟨by decide +kernel, by decide +kernel⟩, List.mem_of_getElem? (i := 170) (by decide +kernel), List.mem_of_getElem? (i := 332) (by decide +kernel), List.mem_of_getElem? (i := 333) (by decide +kernel)⟩
theorem lw_p8 : lw_okq (⟨"PassedOnAndBetter$Letters", "twoDigitsAt", "(I)I"⟩, 2) := ⟨⟨by decide +kernel, by decide +kernel⟩, List.mem_of_getElem? (i := 170) (by decide +kernel), List.mem_of_getElem? (i := 336) (by decide +kernel), List.mem_of_getElem? (i := 337) (by decide +kernel)⟩
theorem lw_p9 : lw_okq (⟨"PassedOnAndBetter$Letters", "tellNext", "(LPassedOnAndBetter$Company;I)Z"⟩, 2) := ⟨⟨by decide +kernel, by decide +kernel⟩, List.mem_of_getElem? (i := 170) (by decide +kernel), List.mem_of_getElem? (i := 368) (by decide +kernel), List.mem_of_getElem? (i := 369) (by decide +kernel)⟩
theorem lw_p10 : lw_okq (⟨"PassedOnAndBetter$Letters", "tellDoor", "(LPassedOnAndBetter$Company;I)Z"⟩, 2) := ⟨⟨by decide +kernel, by decide +kernel⟩, List.mem_of_getElem? (i := 170) (by decide +kernel), List.mem_of_getElem? (i := 380) (by decide +kernel), List.mem_of_getElem? (i := 381) (by decide +kernel)⟩
theorem lw_p11 : lw_okq (⟨"PassedOnAndBetter$Letters", "tellGift", "(LPassedOnAndBetter$Company;I)Z"⟩, 2) := ⟨⟨by decide +kernel, by decide +kernel⟩, List.mem_of_getElem? (i := 170) (by decide +kernel), List.mem_of_getElem? (i := 385) (by decide +kernel), List.mem_of_getElem? (i := 386) (by decide +kernel)⟩
theorem lw_p12 : lw_okq (⟨"PassedOnAndBetter$Letters", "tellHands", "(LPassedOnAndBetter$Company;I)Z"⟩, 2) := ⟨⟨by decide +kernel, by decide +kernel⟩, List.mem_of_getElem? (i := 170) (by decide +kernel), List.mem_of_getElem? (i := 398) (by decide +kernel), List.mem_of_getElem? (i := 399) (by decide +kernel)⟩
theorem lw_p13 : lw_okq (⟨"PassedOnAndBetter$Letters", "tellMonths", "(LPassedOnAndBetter$Company;I)Z"⟩, 2) := ⟨⟨by decide +kernel, by decide +kernel⟩, List.mem_of_getElem? (i := 170) (by decide +kernel), List.mem_of_getElem? (i := 411) (by decide +kernel), List.mem_of_getElem? (i := 412) (by decide +kernel)⟩
theorem lw_p14 : lw_okq (⟨"PassedOnAndBetter$Gift", "better", "(LPassedOnAndBetter$Friend;)V"⟩, 6) := ⟨⟨by decide +kernel, by decide +kernel⟩, List.mem_of_getElem? (i := 83) (by decide +kernel), List.mem_of_getElem? (i := 429) (by decide +kernel), List.mem_of_getElem? (i := 430) (by decide +kernel)⟩
theorem lw_p15 : lw_okq (⟨"PassedOnAndBetter", "friendNo", "(I)I"⟩, 8) := ⟨⟨by decide +kernel, by decide +kernel⟩, List.mem_of_getElem? (i := 14) (by decide +kernel), List.mem_of_getElem? (i := 450) (by decide +kernel), List.mem_of_getElem? (i := 451) (by decide +kernel)⟩
def lw_privs_1 : List (MethodName × Nat) := [(⟨"PassedOnAndBetter$Gift", "begin", "(III)V"⟩, 6), (⟨"PassedOnAndBetter", "refuse", "(I)I"⟩, 8), (⟨"PassedOnAndBetter$Letters", "placeOfFormFault", "()I"⟩, 2), (⟨"PassedOnAndBetter$Letters", "letterAt", "(I)I"⟩, 2), (⟨"PassedOnAndBetter$Letters", "isDigit", "(I)Z"⟩, 2), (⟨"PassedOnAndBetter$Letters", "tellStatement", "(LPassedOnAndBetter$Company;I)Z"⟩, 2), (⟨"PassedOnAndBetter$Letters", "tellFriend", "(LPassedOnAndBetter$Company;I)Z"⟩, 2), (⟨"PassedOnAndBetter$Letters", "digitAt", "(I)I"⟩, 2), (⟨"PassedOnAndBetter$Letters", "twoDigitsAt", "(I)I"⟩, 2), (⟨"PassedOnAndBetter$Letters", "tellNext", "(LPassedOnAndBetter$Company;I)Z"⟩, 2), (⟨"PassedOnAndBetter$Letters", "tellDoor", "(LPassedOnAndBetter$Company;I)Z"⟩, 2), (⟨"PassedOnAndBetter$Letters", "tellGift", "(LPassedOnAndBetter$Company;I)Z"⟩, 2), (⟨"PassedOnAndBetter$Letters", "tellHands", "(LPassedOnAndBetter$Company;I)Z"⟩, 2), (⟨"PassedOnAndBetter$Letters", "tellMonths", "(LPassedOnAndBetter$Company;I)Z"⟩, 2), (⟨"PassedOnAndBetter$Gift", "better", "(LPassedOnAndBetter$Friend;)V"⟩, 6), (⟨"PassedOnAndBetter", "friendNo", "(I)I"⟩, 8)]
theorem lw_r1 : ∀ q ∈ lw_privs_1, lw_okq q := List.forall_mem_cons.mpr ⟨lw_p0, List.forall_mem_cons.mpr ⟨lw_p1, List.forall_mem_cons.mpr ⟨lw_p2, List.forall_mem_cons.mpr ⟨lw_p3, List.forall_mem_cons.mpr ⟨lw_p4, List.forall_mem_cons.mpr ⟨lw_p5, List.forall_mem_cons.mpr ⟨lw_p6, List.forall_mem_cons.mpr ⟨lw_p7, List.forall_mem_cons.mpr ⟨lw_p8, List.forall_mem_cons.mpr ⟨lw_p9, List.forall_mem_cons.mpr ⟨lw_p10, List.forall_mem_cons.mpr ⟨lw_p11, List.forall_mem_cons.mpr ⟨lw_p12, List.forall_mem_cons.mpr ⟨lw_p13, List.forall_mem_cons.mpr ⟨lw_p14, List.forall_mem_cons.mpr ⟨lw_p15, fun _ h => absurd h List.not_mem_nil⟩⟩⟩⟩⟩⟩⟩⟩⟩⟩⟩⟩⟩⟩⟩⟩
theorem lw_p16 : lw_okq (⟨"PassedOnAndBetter", "giftNo", "(I)I"⟩, 8) := ⟨⟨by decide +kernel, by decide +kernel⟩, List.mem_of_getElem? (i := 14) (by decide +kernel), List.mem_of_getElem? (i := 475) (by decide +kernel), List.mem_of_getElem? (i := 476) (by decide +kernel)⟩
theorem lw_p17 : lw_okq (⟨"PassedOnAndBetter", "twoFriendsNo", "(II)I"⟩, 8) := ⟨⟨by decide +kernel, by decide +kernel⟩, List.mem_of_getElem? (i := 14) (by decide +kernel), List.mem_of_getElem? (i := 501) (by decide +kernel), List.mem_of_getElem? (i := 502) (by decide +kernel)⟩
theorem lw_p18 : lw_okq (⟨"PassedOnAndBetter$Past", "storedAt", "(I)LPassedOnAndBetter$Company;"⟩, 3) := ⟨⟨by decide +kernel, by decide +kernel⟩, List.mem_of_getElem? (i := 150) (by decide +kernel), List.mem_of_getElem? (i := 509) (by decide +kernel), List.mem_of_getElem? (i := 510) (by decide +kernel)⟩
theorem lw_p19 : lw_okq (⟨"PassedOnAndBetter$Mind", "passGift", "(LPassedOnAndBetter$Gift;I)V"⟩, 5) := ⟨⟨by decide +kernel, by decide +kernel⟩, List.mem_of_getElem? (i := 201) (by decide +kernel), List.mem_of_getElem? (i := 554) (by decide +kernel), List.mem_of_getElem? (i := 555) (by decide +kernel)⟩
theorem lw_p20 : lw_okq (⟨"PassedOnAndBetter", "friendOrAllNo", "(I)I"⟩, 8) := ⟨⟨by decide +kernel, by decide +kernel⟩, List.mem_of_getElem? (i := 14) (by decide +kernel), List.mem_of_getElem? (i := 563) (by decide +kernel), List.mem_of_getElem? (i := 564) (by decide +kernel)⟩
theorem lw_p21 : lw_okq (⟨"PassedOnAndBetter$Mind", "arrival", "(III)I"⟩, 5) := ⟨⟨by decide +kernel, by decide +kernel⟩, List.mem_of_getElem? (i := 201) (by decide +kernel), List.mem_of_getElem? (i := 594) (by decide +kernel), List.mem_of_getElem? (i := 595) (by decide +kernel)⟩
theorem lw_p22 : lw_okq (⟨"PassedOnAndBetter$Mind", "worthWithNext", "(III)I"⟩, 5) := ⟨⟨by decide +kernel, by decide +kernel⟩, List.mem_of_getElem? (i := 201) (by decide +kernel), List.mem_of_getElem? (i := 624) (by decide +kernel), List.mem_of_getElem? (i := 625) (by decide +kernel)⟩
theorem lw_p23 : lw_okq (⟨"PassedOnAndBetter$Mind", "comesWithWidened", "(IIII)Z"⟩, 5) := ⟨⟨by decide +kernel, by decide +kernel⟩, List.mem_of_getElem? (i := 201) (by decide +kernel), List.mem_of_getElem? (i := 642) (by decide +kernel), List.mem_of_getElem? (i := 643) (by decide +kernel)⟩
theorem lw_p24 : lw_okq (⟨"PassedOnAndBetter$Mind", "holderOf", "(I)LPassedOnAndBetter$Friend;"⟩, 5) := ⟨⟨by decide +kernel, by decide +kernel⟩, List.mem_of_getElem? (i := 201) (by decide +kernel), List.mem_of_getElem? (i := 705) (by decide +kernel), List.mem_of_getElem? (i := 706) (by decide +kernel)⟩
theorem lw_p25 : lw_okq (⟨"PassedOnAndBetter$Mind", "worthsAreAsTold", "(I)Z"⟩, 5) := ⟨⟨by decide +kernel, by decide +kernel⟩, List.mem_of_getElem? (i := 201) (by decide +kernel), List.mem_of_getElem? (i := 710) (by decide +kernel), List.mem_of_getElem? (i := 711) (by decide +kernel)⟩
theorem lw_p26 : lw_okq (⟨"PassedOnAndBetter$Mind", "firstNotAsTold", "(I)I"⟩, 5) := ⟨⟨by decide +kernel, by decide +kernel⟩, List.mem_of_getElem? (i := 201) (by decide +kernel), List.mem_of_getElem? (i := 735) (by decide +kernel), List.mem_of_getElem? (i := 736) (by decide +kernel)⟩
theorem lw_p27 : lw_okq (⟨"PassedOnAndBetter", "refuseLong", "(I)J"⟩, 8) := ⟨⟨by decide +kernel, by decide +kernel⟩, List.mem_of_getElem? (i := 14) (by decide +kernel), List.mem_of_getElem? (i := 761) (by decide +kernel), List.mem_of_getElem? (i := 762) (by decide +kernel)⟩
theorem lw_p28 : lw_okq (⟨"PassedOnAndBetter$Mind", "passWithLost", "(LPassedOnAndBetter$Gift;II)V"⟩, 5) := ⟨⟨by decide +kernel, by decide +kernel⟩, List.mem_of_getElem? (i := 201) (by decide +kernel), List.mem_of_getElem? (i := 771) (by decide +kernel), List.mem_of_getElem? (i := 772) (by decide +kernel)⟩
theorem lw_p29 : lw_okq (⟨"PassedOnAndBetter$Mind", "drawNexts", "(I)I"⟩, 5) := ⟨⟨by decide +kernel, by decide +kernel⟩, List.mem_of_getElem? (i := 201) (by decide +kernel), List.mem_of_getElem? (i := 893) (by decide +kernel), List.mem_of_getElem? (i := 894) (by decide +kernel)⟩
theorem lw_p30 : lw_okq (⟨"PassedOnAndBetterModel", "no", "(I)I"⟩, 32) := ⟨⟨by decide +kernel, by decide +kernel⟩, List.mem_of_getElem? (i := 917) (by decide +kernel), List.mem_of_getElem? (i := 1027) (by decide +kernel), List.mem_of_getElem? (i := 1028) (by decide +kernel)⟩
theorem lw_p31 : lw_okq (⟨"PassedOnAndBetterModel", "statement", "()Z"⟩, 32) := ⟨⟨by decide +kernel, by decide +kernel⟩, List.mem_of_getElem? (i := 917) (by decide +kernel), List.mem_of_getElem? (i := 1035) (by decide +kernel), List.mem_of_getElem? (i := 1036) (by decide +kernel)⟩
def lw_privs_2 : List (MethodName × Nat) := [(⟨"PassedOnAndBetter", "giftNo", "(I)I"⟩, 8), (⟨"PassedOnAndBetter", "twoFriendsNo", "(II)I"⟩, 8), (⟨"PassedOnAndBetter$Past", "storedAt", "(I)LPassedOnAndBetter$Company;"⟩, 3), (⟨"PassedOnAndBetter$Mind", "passGift", "(LPassedOnAndBetter$Gift;I)V"⟩, 5), (⟨"PassedOnAndBetter", "friendOrAllNo", "(I)I"⟩, 8), (⟨"PassedOnAndBetter$Mind", "arrival", "(III)I"⟩, 5), (⟨"PassedOnAndBetter$Mind", "worthWithNext", "(III)I"⟩, 5), (⟨"PassedOnAndBetter$Mind", "comesWithWidened", "(IIII)Z"⟩, 5), (⟨"PassedOnAndBetter$Mind", "holderOf", "(I)LPassedOnAndBetter$Friend;"⟩, 5), (⟨"PassedOnAndBetter$Mind", "worthsAreAsTold", "(I)Z"⟩, 5), (⟨"PassedOnAndBetter$Mind", "firstNotAsTold", "(I)I"⟩, 5), (⟨"PassedOnAndBetter", "refuseLong", "(I)J"⟩, 8), (⟨"PassedOnAndBetter$Mind", "passWithLost", "(LPassedOnAndBetter$Gift;II)V"⟩, 5), (⟨"PassedOnAndBetter$Mind", "drawNexts", "(I)I"⟩, 5), (⟨"PassedOnAndBetterModel", "no", "(I)I"⟩, 32), (⟨"PassedOnAndBetterModel", "statement", "()Z"⟩, 32)]
theorem lw_r2 : ∀ q ∈ lw_privs_2, lw_okq q := List.forall_mem_cons.mpr ⟨lw_p16, List.forall_mem_cons.mpr ⟨lw_p17, List.forall_mem_cons.mpr ⟨lw_p18, List.forall_mem_cons.mpr ⟨lw_p19, List.forall_mem_cons.mpr ⟨lw_p20, List.forall_mem_cons.mpr ⟨lw_p21, List.forall_mem_cons.mpr ⟨lw_p22, List.forall_mem_cons.mpr ⟨lw_p23, List.forall_mem_cons.mpr ⟨lw_p24, List.forall_mem_cons.mpr ⟨lw_p25, List.forall_mem_cons.mpr ⟨lw_p26, List.forall_mem_cons.mpr ⟨lw_p27, List.forall_mem_cons.mpr ⟨lw_p28, List.forall_mem_cons.mpr ⟨lw_p29, List.forall_mem_cons.mpr ⟨lw_p30, List.forall_mem_cons.mpr ⟨lw_p31, fun _ h => absurd h List.not_mem_nil⟩⟩⟩⟩⟩⟩⟩⟩⟩⟩⟩⟩⟩⟩⟩⟩
theorem lw_p32 : lw_okq (⟨"PassedOnAndBetterModel", "nextLetter", "()I"⟩, 32) := ⟨⟨by decide +kernel, by decide +kernel⟩, List.mem_of_getElem? (i := 917) (by decide +kernel), List.mem_of_getElem? (i := 1039) (by decide +kernel), List.mem_of_getElem? (i := 1040) (by decide +kernel)⟩
theorem lw_p33 : lw_okq (⟨"PassedOnAndBetterModel", "readsAll", "(II)Z"⟩, 32) := ⟨⟨by decide +kernel, by decide +kernel⟩, List.mem_of_getElem? (i := 917) (by decide +kernel), List.mem_of_getElem? (i := 1043) (by decide +kernel), List.mem_of_getElem? (i := 1044) (by decide +kernel)⟩
theorem lw_p34 : lw_okq (⟨"PassedOnAndBetterModel", "readsDigits", "(II)Z"⟩, 32) := ⟨⟨by decide +kernel, by decide +kernel⟩, List.mem_of_getElem? (i := 917) (by decide +kernel), List.mem_of_getElem? (i := 1047) (by decide +kernel), List.mem_of_getElem? (i := 1048) (by decide +kernel)⟩
theorem lw_p35 : lw_okq (⟨"PassedOnAndBetterModel", "passesAll", "(IZ)V"⟩, 32) := ⟨⟨by decide +kernel, by decide +kernel⟩, List.mem_of_getElem? (i := 917) (by decide +kernel), List.mem_of_getElem? (i := 1054) (by decide +kernel), List.mem_of_getElem? (i := 1055) (by decide +kernel)⟩
theorem lw_p36 : lw_okq (⟨"PassedOnAndBetterModel", "passes", "([I)V"⟩, 32) := ⟨⟨by decide +kernel, by decide +kernel⟩, List.mem_of_getElem? (i := 917) (by decide +kernel), List.mem_of_getElem? (i := 1058) (by decide +kernel), List.mem_of_getElem? (i := 1059) (by decide +kernel)⟩
theorem lw_p37 : lw_okq (⟨"PassedOnAndBetterModel", "passOne", "(I)I"⟩, 32) := ⟨⟨by decide +kernel, by decide +kernel⟩, List.mem_of_getElem? (i := 917) (by decide +kernel), List.mem_of_getElem? (i := 1062) (by decide +kernel), List.mem_of_getElem? (i := 1063) (by decide +kernel)⟩
theorem lw_p38 : lw_okq (⟨"PassedOnAndBetterModel", "comes", "(I)Z"⟩, 32) := ⟨⟨by decide +kernel, by decide +kernel⟩, List.mem_of_getElem? (i := 917) (by decide +kernel), List.mem_of_getElem? (i := 1066) (by decide +kernel), List.mem_of_getElem? (i := 1067) (by decide +kernel)⟩
theorem lw_p39 : lw_okq (⟨"PassedOnAndBetterModel", "comesFriend", "(III)Z"⟩, 32) := ⟨⟨by decide +kernel, by decide +kernel⟩, List.mem_of_getElem? (i := 917) (by decide +kernel), List.mem_of_getElem? (i := 1070) (by decide +kernel), List.mem_of_getElem? (i := 1071) (by decide +kernel)⟩
theorem lw_p40 : lw_okq (⟨"PassedOnAndBetterModel", "addsFriend", "(III)V"⟩, 32) := ⟨⟨by decide +kernel, by decide +kernel⟩, List.mem_of_getElem? (i := 917) (by decide +kernel), List.mem_of_getElem? (i := 1074) (by decide +kernel), List.mem_of_getElem? (i := 1075) (by decide +kernel)⟩
theorem lw_p41 : lw_okq (⟨"PassedOnAndBetterModel", "comesGift", "(III)Z"⟩, 32) := ⟨⟨by decide +kernel, by decide +kernel⟩, List.mem_of_getElem? (i := 917) (by decide +kernel), List.mem_of_getElem? (i := 1078) (by decide +kernel), List.mem_of_getElem? (i := 1079) (by decide +kernel)⟩
theorem lw_p42 : lw_okq (⟨"PassedOnAndBetterModel", "isFriend", "(I)Z"⟩, 32) := ⟨⟨by decide +kernel, by decide +kernel⟩, List.mem_of_getElem? (i := 917) (by decide +kernel), List.mem_of_getElem? (i := 1082) (by decide +kernel), List.mem_of_getElem? (i := 1083) (by decide +kernel)⟩
theorem lw_p43 : lw_okq (⟨"PassedOnAndBetterModel", "addsGift", "(III)V"⟩, 32) := ⟨⟨by decide +kernel, by decide +kernel⟩, List.mem_of_getElem? (i := 917) (by decide +kernel), List.mem_of_getElem? (i := 1086) (by decide +kernel), List.mem_of_getElem? (i := 1087) (by decide +kernel)⟩
theorem lw_p44 : lw_okq (⟨"PassedOnAndBetterModel", "puts", "(II)V"⟩, 32) := ⟨⟨by decide +kernel, by decide +kernel⟩, List.mem_of_getElem? (i := 917) (by decide +kernel), List.mem_of_getElem? (i := 1090) (by decide +kernel), List.mem_of_getElem? (i := 1091) (by decide +kernel)⟩
theorem lw_p45 : lw_okq (⟨"PassedOnAndBetterModel", "comesNext", "(II)Z"⟩, 32) := ⟨⟨by decide +kernel, by decide +kernel⟩, List.mem_of_getElem? (i := 917) (by decide +kernel), List.mem_of_getElem? (i := 1094) (by decide +kernel), List.mem_of_getElem? (i := 1095) (by decide +kernel)⟩
theorem lw_p46 : lw_okq (⟨"PassedOnAndBetterModel", "areTwo", "(II)Z"⟩, 32) := ⟨⟨by decide +kernel, by decide +kernel⟩, List.mem_of_getElem? (i := 917) (by decide +kernel), List.mem_of_getElem? (i := 1098) (by decide +kernel), List.mem_of_getElem? (i := 1099) (by decide +kernel)⟩
theorem lw_p47 : lw_okq (⟨"PassedOnAndBetterModel", "turnsNext", "(II)V"⟩, 32) := ⟨⟨by decide +kernel, by decide +kernel⟩, List.mem_of_getElem? (i := 917) (by decide +kernel), List.mem_of_getElem? (i := 1102) (by decide +kernel), List.mem_of_getElem? (i := 1103) (by decide +kernel)⟩
def lw_privs_3 : List (MethodName × Nat) := [(⟨"PassedOnAndBetterModel", "nextLetter", "()I"⟩, 32), (⟨"PassedOnAndBetterModel", "readsAll", "(II)Z"⟩, 32), (⟨"PassedOnAndBetterModel", "readsDigits", "(II)Z"⟩, 32), (⟨"PassedOnAndBetterModel", "passesAll", "(IZ)V"⟩, 32), (⟨"PassedOnAndBetterModel", "passes", "([I)V"⟩, 32), (⟨"PassedOnAndBetterModel", "passOne", "(I)I"⟩, 32), (⟨"PassedOnAndBetterModel", "comes", "(I)Z"⟩, 32), (⟨"PassedOnAndBetterModel", "comesFriend", "(III)Z"⟩, 32), (⟨"PassedOnAndBetterModel", "addsFriend", "(III)V"⟩, 32), (⟨"PassedOnAndBetterModel", "comesGift", "(III)Z"⟩, 32), (⟨"PassedOnAndBetterModel", "isFriend", "(I)Z"⟩, 32), (⟨"PassedOnAndBetterModel", "addsGift", "(III)V"⟩, 32), (⟨"PassedOnAndBetterModel", "puts", "(II)V"⟩, 32), (⟨"PassedOnAndBetterModel", "comesNext", "(II)Z"⟩, 32), (⟨"PassedOnAndBetterModel", "areTwo", "(II)Z"⟩, 32), (⟨"PassedOnAndBetterModel", "turnsNext", "(II)V"⟩, 32)]
theorem lw_r3 : ∀ q ∈ lw_privs_3, lw_okq q := List.forall_mem_cons.mpr ⟨lw_p32, List.forall_mem_cons.mpr ⟨lw_p33, List.forall_mem_cons.mpr ⟨lw_p34, List.forall_mem_cons.mpr ⟨lw_p35, List.forall_mem_cons.mpr ⟨lw_p36, List.forall_mem_cons.mpr ⟨lw_p37, List.forall_mem_cons.mpr ⟨lw_p38, List.forall_mem_cons.mpr ⟨lw_p39, List.forall_mem_cons.mpr ⟨lw_p40, List.forall_mem_cons.mpr ⟨lw_p41, List.forall_mem_cons.mpr ⟨lw_p42, List.forall_mem_cons.mpr ⟨lw_p43, List.forall_mem_cons.mpr ⟨lw_p44, List.forall_mem_cons.mpr ⟨lw_p45, List.forall_mem_cons.mpr ⟨lw_p46, List.forall_mem_cons.mpr ⟨lw_p47, fun _ h => absurd h List.not_mem_nil⟩⟩⟩⟩⟩⟩⟩⟩⟩⟩⟩⟩⟩⟩⟩⟩
theorem lw_p48 : lw_okq (⟨"PassedOnAndBetterModel", "isGift", "(I)Z"⟩, 32) := ⟨⟨by decide +kernel, by decide +kernel⟩, List.mem_of_getElem? (i := 917) (by decide +kernel), List.mem_of_getElem? (i := 1106) (by decide +kernel), List.mem_of_getElem? (i := 1107) (by decide +kernel)⟩
theorem lw_p49 : lw_okq (⟨"PassedOnAndBetterModel", "comesMonths", "(I)Z"⟩, 32) := ⟨⟨by decide +kernel, by decide +kernel⟩, List.mem_of_getElem? (i := 917) (by decide +kernel), List.mem_of_getElem? (i := 1110) (by decide +kernel), List.mem_of_getElem? (i := 1111) (by decide +kernel)⟩
theorem lw_p50 : lw_okq (⟨"PassedOnAndBetterModel", "goes", "(I)V"⟩, 32) := ⟨⟨by decide +kernel, by decide +kernel⟩, List.mem_of_getElem? (i := 917) (by decide +kernel), List.mem_of_getElem? (i := 1114) (by decide +kernel), List.mem_of_getElem? (i := 1115) (by decide +kernel)⟩
theorem lw_p51 : lw_okq (⟨"PassedOnAndBetterModel", "goesMonth", "(Z)V"⟩, 32) := ⟨⟨by decide +kernel, by decide +kernel⟩, List.mem_of_getElem? (i := 917) (by decide +kernel), List.mem_of_getElem? (i := 1118) (by decide +kernel), List.mem_of_getElem? (i := 1119) (by decide +kernel)⟩
theorem lw_p52 : lw_okq (⟨"PassedOnAndBetterModel", "goesOn", "(IZ)V"⟩, 32) := ⟨⟨by decide +kernel, by decide +kernel⟩, List.mem_of_getElem? (i := 917) (by decide +kernel), List.mem_of_getElem? (i := 1122) (by decide +kernel), List.mem_of_getElem? (i := 1123) (by decide +kernel)⟩
theorem lw_p53 : lw_okq (⟨"PassedOnAndBetterModel", "waitsOf", "(I)I"⟩, 32) := ⟨⟨by decide +kernel, by decide +kernel⟩, List.mem_of_getElem? (i := 917) (by decide +kernel), List.mem_of_getElem? (i := 1129) (by decide +kernel), List.mem_of_getElem? (i := 1130) (by decide +kernel)⟩
theorem lw_p54 : lw_okq (⟨"PassedOnAndBetterModel", "betters", "(I)V"⟩, 32) := ⟨⟨by decide +kernel, by decide +kernel⟩, List.mem_of_getElem? (i := 917) (by decide +kernel), List.mem_of_getElem? (i := 1133) (by decide +kernel), List.mem_of_getElem? (i := 1134) (by decide +kernel)⟩
theorem lw_p55 : lw_okq (⟨"PassedOnAndBetterModel", "addsOf", "(I)I"⟩, 32) := ⟨⟨by decide +kernel, by decide +kernel⟩, List.mem_of_getElem? (i := 917) (by decide +kernel), List.mem_of_getElem? (i := 1137) (by decide +kernel), List.mem_of_getElem? (i := 1138) (by decide +kernel)⟩
theorem lw_p56 : lw_okq (⟨"PassedOnAndBetterModel", "sizeBehind", "(I)I"⟩, 32) := ⟨⟨by decide +kernel, by decide +kernel⟩, List.mem_of_getElem? (i := 917) (by decide +kernel), List.mem_of_getElem? (i := 1144) (by decide +kernel), List.mem_of_getElem? (i := 1145) (by decide +kernel)⟩
theorem lw_p57 : lw_okq (⟨"PassedOnAndBetterModel", "swellsOf", "(I)I"⟩, 32) := ⟨⟨by decide +kernel, by decide +kernel⟩, List.mem_of_getElem? (i := 917) (by decide +kernel), List.mem_of_getElem? (i := 1148) (by decide +kernel), List.mem_of_getElem? (i := 1149) (by decide +kernel)⟩
theorem lw_p58 : lw_okq (⟨"PassedOnAndBetterModel", "holds", "(I)I"⟩, 32) := ⟨⟨by decide +kernel, by decide +kernel⟩, List.mem_of_getElem? (i := 917) (by decide +kernel), List.mem_of_getElem? (i := 1168) (by decide +kernel), List.mem_of_getElem? (i := 1169) (by decide +kernel)⟩
theorem lw_p59 : lw_okq (⟨"PassedOnAndBetterModel", "keepsBack", "()V"⟩, 32) := ⟨⟨by decide +kernel, by decide +kernel⟩, List.mem_of_getElem? (i := 917) (by decide +kernel), List.mem_of_getElem? (i := 1188) (by decide +kernel), List.mem_of_getElem? (i := 1189) (by decide +kernel)⟩
theorem lw_p60 : lw_okq (⟨"PassedOnAndBetterModel", "thinks", "()V"⟩, 32) := ⟨⟨by decide +kernel, by decide +kernel⟩, List.mem_of_getElem? (i := 917) (by decide +kernel), List.mem_of_getElem? (i := 1214) (by decide +kernel), List.mem_of_getElem? (i := 1215) (by decide +kernel)⟩
theorem lw_p61 : lw_okq (⟨"PassedOnAndBetterModel", "forgets", "()V"⟩, 32) := ⟨⟨by decide +kernel, by decide +kernel⟩, List.mem_of_getElem? (i := 917) (by decide +kernel), List.mem_of_getElem? (i := 1218) (by decide +kernel), List.mem_of_getElem? (i := 1219) (by decide +kernel)⟩
theorem lw_p62 : lw_okq (⟨"PassedOnAndBetterModel", "givenAt", "(IZ)I"⟩, 32) := ⟨⟨by decide +kernel, by decide +kernel⟩, List.mem_of_getElem? (i := 917) (by decide +kernel), List.mem_of_getElem? (i := 1230) (by decide +kernel), List.mem_of_getElem? (i := 1231) (by decide +kernel)⟩
theorem lw_p63 : lw_okq (⟨"PassedOnAndBetterModel", "comesAt", "(III)I"⟩, 32) := ⟨⟨by decide +kernel, by decide +kernel⟩, List.mem_of_getElem? (i := 917) (by decide +kernel), List.mem_of_getElem? (i := 1238) (by decide +kernel), List.mem_of_getElem? (i := 1239) (by decide +kernel)⟩
def lw_privs_4 : List (MethodName × Nat) := [(⟨"PassedOnAndBetterModel", "isGift", "(I)Z"⟩, 32), (⟨"PassedOnAndBetterModel", "comesMonths", "(I)Z"⟩, 32), (⟨"PassedOnAndBetterModel", "goes", "(I)V"⟩, 32), (⟨"PassedOnAndBetterModel", "goesMonth", "(Z)V"⟩, 32), (⟨"PassedOnAndBetterModel", "goesOn", "(IZ)V"⟩, 32), (⟨"PassedOnAndBetterModel", "waitsOf", "(I)I"⟩, 32), (⟨"PassedOnAndBetterModel", "betters", "(I)V"⟩, 32), (⟨"PassedOnAndBetterModel", "addsOf", "(I)I"⟩, 32), (⟨"PassedOnAndBetterModel", "sizeBehind", "(I)I"⟩, 32), (⟨"PassedOnAndBetterModel", "swellsOf", "(I)I"⟩, 32), (⟨"PassedOnAndBetterModel", "holds", "(I)I"⟩, 32), (⟨"PassedOnAndBetterModel", "keepsBack", "()V"⟩, 32), (⟨"PassedOnAndBetterModel", "thinks", "()V"⟩, 32), (⟨"PassedOnAndBetterModel", "forgets", "()V"⟩, 32), (⟨"PassedOnAndBetterModel", "givenAt", "(IZ)I"⟩, 32), (⟨"PassedOnAndBetterModel", "comesAt", "(III)I"⟩, 32)]
theorem lw_r4 : ∀ q ∈ lw_privs_4, lw_okq q := List.forall_mem_cons.mpr ⟨lw_p48, List.forall_mem_cons.mpr ⟨lw_p49, List.forall_mem_cons.mpr ⟨lw_p50, List.forall_mem_cons.mpr ⟨lw_p51, List.forall_mem_cons.mpr ⟨lw_p52, List.forall_mem_cons.mpr ⟨lw_p53, List.forall_mem_cons.mpr ⟨lw_p54, List.forall_mem_cons.mpr ⟨lw_p55, List.forall_mem_cons.mpr ⟨lw_p56, List.forall_mem_cons.mpr ⟨lw_p57, List.forall_mem_cons.mpr ⟨lw_p58, List.forall_mem_cons.mpr ⟨lw_p59, List.forall_mem_cons.mpr ⟨lw_p60, List.forall_mem_cons.mpr ⟨lw_p61, List.forall_mem_cons.mpr ⟨lw_p62, List.forall_mem_cons.mpr ⟨lw_p63, fun _ h => absurd h List.not_mem_nil⟩⟩⟩⟩⟩⟩⟩⟩⟩⟩⟩⟩⟩⟩⟩⟩
theorem lw_p64 : lw_okq (⟨"PassedOnAndBetterModel", "isStuck", "(I)Z"⟩, 32) := ⟨⟨by decide +kernel, by decide +kernel⟩, List.mem_of_getElem? (i := 917) (by decide +kernel), List.mem_of_getElem? (i := 1246) (by decide +kernel), List.mem_of_getElem? (i := 1247) (by decide +kernel)⟩
theorem lw_p65 : lw_okq (⟨"PassedOnAndBetterModel", "worthFrom", "(III)I"⟩, 32) := ⟨⟨by decide +kernel, by decide +kernel⟩, List.mem_of_getElem? (i := 917) (by decide +kernel), List.mem_of_getElem? (i := 1254) (by decide +kernel), List.mem_of_getElem? (i := 1255) (by decide +kernel)⟩
theorem lw_p66 : lw_okq (⟨"PassedOnAndBetterModel", "changes", "()V"⟩, 32) := ⟨⟨by decide +kernel, by decide +kernel⟩, List.mem_of_getElem? (i := 917) (by decide +kernel), List.mem_of_getElem? (i := 1258) (by decide +kernel), List.mem_of_getElem? (i := 1259) (by decide +kernel)⟩
theorem lw_p67 : lw_okq (⟨"PassedOnAndBetterModel", "worthIn", "(II)I"⟩, 32) := ⟨⟨by decide +kernel, by decide +kernel⟩, List.mem_of_getElem? (i := 917) (by decide +kernel), List.mem_of_getElem? (i := 1262) (by decide +kernel), List.mem_of_getElem? (i := 1263) (by decide +kernel)⟩
theorem lw_p68 : lw_okq (⟨"PassedOnAndBetterModel", "changesBack", "()V"⟩, 32) := ⟨⟨by decide +kernel, by decide +kernel⟩, List.mem_of_getElem? (i := 917) (by decide +kernel), List.mem_of_getElem? (i := 1266) (by decide +kernel), List.mem_of_getElem? (i := 1267) (by decide +kernel)⟩
theorem lw_p69 : lw_okq (⟨"PassedOnAndBetterModel", "worthNext", "(III)I"⟩, 32) := ⟨⟨by decide +kernel, by decide +kernel⟩, List.mem_of_getElem? (i := 917) (by decide +kernel), List.mem_of_getElem? (i := 1274) (by decide +kernel), List.mem_of_getElem? (i := 1275) (by decide +kernel)⟩
theorem lw_p70 : lw_okq (⟨"PassedOnAndBetterModel", "comesWide", "(IIII)Z"⟩, 32) := ⟨⟨by decide +kernel, by decide +kernel⟩, List.mem_of_getElem? (i := 917) (by decide +kernel), List.mem_of_getElem? (i := 1285) (by decide +kernel), List.mem_of_getElem? (i := 1286) (by decide +kernel)⟩
theorem lw_p71 : lw_okq (⟨"PassedOnAndBetterModel", "handsIn", "(I)I"⟩, 32) := ⟨⟨by decide +kernel, by decide +kernel⟩, List.mem_of_getElem? (i := 917) (by decide +kernel), List.mem_of_getElem? (i := 1293) (by decide +kernel), List.mem_of_getElem? (i := 1294) (by decide +kernel)⟩
theorem lw_p72 : lw_okq (⟨"PassedOnAndBetterModel", "worthWithout", "(II)I"⟩, 32) := ⟨⟨by decide +kernel, by decide +kernel⟩, List.mem_of_getElem? (i := 917) (by decide +kernel), List.mem_of_getElem? (i := 1301) (by decide +kernel), List.mem_of_getElem? (i := 1302) (by decide +kernel)⟩
theorem lw_p73 : lw_okq (⟨"PassedOnAndBetterModel", "chained", "(I)I"⟩, 32) := ⟨⟨by decide +kernel, by decide +kernel⟩, List.mem_of_getElem? (i := 917) (by decide +kernel), List.mem_of_getElem? (i := 1309) (by decide +kernel), List.mem_of_getElem? (i := 1310) (by decide +kernel)⟩
theorem lw_p74 : lw_okq (⟨"PassedOnAndBetterModel", "wayTo", "(II)I"⟩, 32) := ⟨⟨by decide +kernel, by decide +kernel⟩, List.mem_of_getElem? (i := 917) (by decide +kernel), List.mem_of_getElem? (i := 1317) (by decide +kernel), List.mem_of_getElem? (i := 1318) (by decide +kernel)⟩
theorem lw_p75 : lw_okq (⟨"PassedOnAndBetterModel", "bitsFor", "([IIII)I"⟩, 32) := ⟨⟨by decide +kernel, by decide +kernel⟩, List.mem_of_getElem? (i := 917) (by decide +kernel), List.mem_of_getElem? (i := 1329) (by decide +kernel), List.mem_of_getElem? (i := 1330) (by decide +kernel)⟩
theorem lw_p76 : lw_okq (⟨"PassedOnAndBetterModel", "firstOther", "(I[I)I"⟩, 32) := ⟨⟨by decide +kernel, by decide +kernel⟩, List.mem_of_getElem? (i := 917) (by decide +kernel), List.mem_of_getElem? (i := 1333) (by decide +kernel), List.mem_of_getElem? (i := 1334) (by decide +kernel)⟩
theorem lw_p77 : lw_okq (⟨"PassedOnAndBetterModel", "startsOf", "(I)I"⟩, 32) := ⟨⟨by decide +kernel, by decide +kernel⟩, List.mem_of_getElem? (i := 917) (by decide +kernel), List.mem_of_getElem? (i := 1341) (by decide +kernel), List.mem_of_getElem? (i := 1342) (by decide +kernel)⟩
theorem lw_p78 : lw_okq (⟨"PassedOnAndBetterModel", "findGets", "(III)V"⟩, 32) := ⟨⟨by decide +kernel, by decide +kernel⟩, List.mem_of_getElem? (i := 917) (by decide +kernel), List.mem_of_getElem? (i := 1349) (by decide +kernel), List.mem_of_getElem? (i := 1350) (by decide +kernel)⟩
theorem lw_p79 : lw_okq (⟨"PassedOnAndBetterModel", "worthWith", "(I)I"⟩, 32) := ⟨⟨by decide +kernel, by decide +kernel⟩, List.mem_of_getElem? (i := 917) (by decide +kernel), List.mem_of_getElem? (i := 1353) (by decide +kernel), List.mem_of_getElem? (i := 1354) (by decide +kernel)⟩
def lw_privs_5 : List (MethodName × Nat) := [(⟨"PassedOnAndBetterModel", "isStuck", "(I)Z"⟩, 32), (⟨"PassedOnAndBetterModel", "worthFrom", "(III)I"⟩, 32), (⟨"PassedOnAndBetterModel", "changes", "()V"⟩, 32), (⟨"PassedOnAndBetterModel", "worthIn", "(II)I"⟩, 32), (⟨"PassedOnAndBetterModel", "changesBack", "()V"⟩, 32), (⟨"PassedOnAndBetterModel", "worthNext", "(III)I"⟩, 32), (⟨"PassedOnAndBetterModel", "comesWide", "(IIII)Z"⟩, 32), (⟨"PassedOnAndBetterModel", "handsIn", "(I)I"⟩, 32), (⟨"PassedOnAndBetterModel", "worthWithout", "(II)I"⟩, 32), (⟨"PassedOnAndBetterModel", "chained", "(I)I"⟩, 32), (⟨"PassedOnAndBetterModel", "wayTo", "(II)I"⟩, 32), (⟨"PassedOnAndBetterModel", "bitsFor", "([IIII)I"⟩, 32), (⟨"PassedOnAndBetterModel", "firstOther", "(I[I)I"⟩, 32), (⟨"PassedOnAndBetterModel", "startsOf", "(I)I"⟩, 32), (⟨"PassedOnAndBetterModel", "findGets", "(III)V"⟩, 32), (⟨"PassedOnAndBetterModel", "worthWith", "(I)I"⟩, 32)]
theorem lw_r5 : ∀ q ∈ lw_privs_5, lw_okq q := List.forall_mem_cons.mpr ⟨lw_p64, List.forall_mem_cons.mpr ⟨lw_p65, List.forall_mem_cons.mpr ⟨lw_p66, List.forall_mem_cons.mpr ⟨lw_p67, List.forall_mem_cons.mpr ⟨lw_p68, List.forall_mem_cons.mpr ⟨lw_p69, List.forall_mem_cons.mpr ⟨lw_p70, List.forall_mem_cons.mpr ⟨lw_p71, List.forall_mem_cons.mpr ⟨lw_p72, List.forall_mem_cons.mpr ⟨lw_p73, List.forall_mem_cons.mpr ⟨lw_p74, List.forall_mem_cons.mpr ⟨lw_p75, List.forall_mem_cons.mpr ⟨lw_p76, List.forall_mem_cons.mpr ⟨lw_p77, List.forall_mem_cons.mpr ⟨lw_p78, List.forall_mem_cons.mpr ⟨lw_p79, fun _ h => absurd h List.not_mem_nil⟩⟩⟩⟩⟩⟩⟩⟩⟩⟩⟩⟩⟩⟩⟩⟩
theorem lw_p80 : lw_okq (⟨"PassedOnAndBetterModel", "lowestOf", "(I)J"⟩, 32) := ⟨⟨by decide +kernel, by decide +kernel⟩, List.mem_of_getElem? (i := 917) (by decide +kernel), List.mem_of_getElem? (i := 1361) (by decide +kernel), List.mem_of_getElem? (i := 1362) (by decide +kernel)⟩
theorem lw_p81 : lw_okq (⟨"PassedOnAndBetterModel", "draw", "(I)I"⟩, 32) := ⟨⟨by decide +kernel, by decide +kernel⟩, List.mem_of_getElem? (i := 917) (by decide +kernel), List.mem_of_getElem? (i := 1420) (by decide +kernel), List.mem_of_getElem? (i := 1421) (by decide +kernel)⟩
def lw_privs_6 : List (MethodName × Nat) := [(⟨"PassedOnAndBetterModel", "lowestOf", "(I)J"⟩, 32), (⟨"PassedOnAndBetterModel", "draw", "(I)I"⟩, 32)]
theorem lw_r6 : ∀ q ∈ lw_privs_6, lw_okq q := List.forall_mem_cons.mpr ⟨lw_p80, List.forall_mem_cons.mpr ⟨lw_p81, fun _ h => absurd h List.not_mem_nil⟩⟩
def lw_privs : List (MethodName × Nat) := lw_privs_1 ++ (lw_privs_2 ++ (lw_privs_3 ++ (lw_privs_4 ++ (lw_privs_5 ++ (lw_privs_6)))))
def lw_tbl : List Cond := k2_sels lw_privs ++ tables_1
theorem lw_privs_ok : ∀ q ∈ lw_privs, lw_okq q := by
  show ∀ q ∈ lw_privs_1 ++ (lw_privs_2 ++ (lw_privs_3 ++ (lw_privs_4 ++ (lw_privs_5 ++ (lw_privs_6))))), lw_okq q
  exact List.forall_mem_append.mpr ⟨lw_r1, List.forall_mem_append.mpr ⟨lw_r2, List.forall_mem_append.mpr ⟨lw_r3, List.forall_mem_append.mpr ⟨lw_r4, List.forall_mem_append.mpr ⟨lw_r5, lw_r6⟩⟩⟩⟩⟩
end
section
/-! names: the classes and their fields -/
def R_C : String := "PassedOnAndBetter$Company"
def T_C : u_T := fun k => match k with
  | 0 => ("PassedOnAndBetter$Company", "friendRow", "[LPassedOnAndBetter$Friend;", true)
  | 1 => ("PassedOnAndBetter$Company", "giftRow", "[LPassedOnAndBetter$Gift;", true)
  | 2 => ("PassedOnAndBetter$Company", "noFriend", "LPassedOnAndBetter$Friend;", true)
  | 3 => ("PassedOnAndBetter$Company", "noGift", "LPassedOnAndBetter$Gift;", true)
  | 4 => ("PassedOnAndBetter$Company", "friends", "I", false)
  | 5 => ("PassedOnAndBetter$Company", "gifts", "I", false)
  | _ => ("PassedOnAndBetter$Company", "month", "I", false)
def t_C : Nat → FieldType := fun k => match k with
  | 0 => .array (.object "PassedOnAndBetter$Friend")
  | 1 => .array (.object "PassedOnAndBetter$Gift")
  | 2 => .object "PassedOnAndBetter$Friend"
  | 3 => .object "PassedOnAndBetter$Gift"
  | 4 => .int
  | 5 => .int
  | _ => .int
theorem n_C : ∀ a, a < 7 → ∀ b, b < 7 → a ≠ b → (T_C a).2.1 ≠ (T_C b).2.1 := by decide +kernel
theorem t_C_ok : ∀ k, k < 7 → parseFieldDescriptor (T_C k).2.2.1 = some (t_C k) := by decide +kernel
def R_F : String := "PassedOnAndBetter$Friend"
def T_F : u_T := fun k => match k with
  | 0 => ("PassedOnAndBetter$Friend", "kind", "I", false)
  | 1 => ("PassedOnAndBetter$Friend", "figure", "I", false)
  | 2 => ("PassedOnAndBetter$Friend", "door", "I", false)
  | 3 => ("PassedOnAndBetter$Friend", "next", "I", false)
  | 4 => ("PassedOnAndBetter$Friend", "waits", "I", false)
  | 5 => ("PassedOnAndBetter$Friend", "adds", "I", false)
  | 6 => ("PassedOnAndBetter$Friend", "swells", "I", false)
  | 7 => ("PassedOnAndBetter$Friend", "times", "I", false)
  | _ => ("PassedOnAndBetter$Friend", "brought", "I", false)
def t_F : Nat → FieldType := fun k => match k with
  | 0 => .int
  | 1 => .int
  | 2 => .int
  | 3 => .int
  | 4 => .int
  | 5 => .int
  | 6 => .int
  | 7 => .int
  | _ => .int
theorem n_F : ∀ a, a < 9 → ∀ b, b < 9 → a ≠ b → (T_F a).2.1 ≠ (T_F b).2.1 := by decide +kernel
theorem t_F_ok : ∀ k, k < 9 → parseFieldDescriptor (T_F k).2.2.1 = some (t_F k) := by decide +kernel
def R_G : String := "PassedOnAndBetter$Gift"
def T_G : u_T := fun k => match k with
  | 0 => ("PassedOnAndBetter$Gift", "worth", "I", false)
  | 1 => ("PassedOnAndBetter$Gift", "size", "I", false)
  | 2 => ("PassedOnAndBetter$Gift", "with", "I", false)
  | 3 => ("PassedOnAndBetter$Gift", "kept", "I", false)
  | 4 => ("PassedOnAndBetter$Gift", "bettered", "Z", false)
  | _ => ("PassedOnAndBetter$Gift", "passed", "I", false)
def t_G : Nat → FieldType := fun k => match k with
  | 0 => .int
  | 1 => .int
  | 2 => .int
  | 3 => .int
  | 4 => .boolean
  | _ => .int
theorem n_G : ∀ a, a < 6 → ∀ b, b < 6 → a ≠ b → (T_G a).2.1 ≠ (T_G b).2.1 := by decide +kernel
theorem t_G_ok : ∀ k, k < 6 → parseFieldDescriptor (T_G k).2.2.1 = some (t_G k) := by decide +kernel
def R_L : String := "PassedOnAndBetter$Letters"
def T_L : u_T := fun k => match k with
  | 0 => ("PassedOnAndBetter$Letters", "cells", "[I", true)
  | _ => ("PassedOnAndBetter$Letters", "told", "I", false)
def t_L : Nat → FieldType := fun k => match k with
  | 0 => .array (.int)
  | _ => .int
theorem n_L : ∀ a, a < 2 → ∀ b, b < 2 → a ≠ b → (T_L a).2.1 ≠ (T_L b).2.1 := by decide +kernel
theorem t_L_ok : ∀ k, k < 2 → parseFieldDescriptor (T_L k).2.2.1 = some (t_L k) := by decide +kernel
def R_M : String := "PassedOnAndBetter$Mind"
def T_M : u_T := fun k => match k with
  | 0 => ("PassedOnAndBetter$Mind", "now", "LPassedOnAndBetter$Company;", true)
  | 1 => ("PassedOnAndBetter$Mind", "numbers", "LPassedOnAndBetter$Numbers;", true)
  | 2 => ("PassedOnAndBetter$Mind", "thought", "LPassedOnAndBetter$Company;", true)
  | 3 => ("PassedOnAndBetter$Mind", "oneHas", "[I", true)
  | _ => ("PassedOnAndBetter$Mind", "otherHas", "[I", true)
def t_M : Nat → FieldType := fun k => match k with
  | 0 => .object "PassedOnAndBetter$Company"
  | 1 => .object "PassedOnAndBetter$Numbers"
  | 2 => .object "PassedOnAndBetter$Company"
  | 3 => .array (.int)
  | _ => .array (.int)
theorem n_M : ∀ a, a < 5 → ∀ b, b < 5 → a ≠ b → (T_M a).2.1 ≠ (T_M b).2.1 := by decide +kernel
theorem t_M_ok : ∀ k, k < 5 → parseFieldDescriptor (T_M k).2.2.1 = some (t_M k) := by decide +kernel
def R_N : String := "PassedOnAndBetter$Numbers"
def T_N : u_T := fun k => match k with
  | 0 => ("PassedOnAndBetter$Numbers", "cells", "[I", true)
  | _ => ("PassedOnAndBetter$Numbers", "told", "I", false)
def t_N : Nat → FieldType := fun k => match k with
  | 0 => .array (.int)
  | _ => .int
theorem n_N : ∀ a, a < 2 → ∀ b, b < 2 → a ≠ b → (T_N a).2.1 ≠ (T_N b).2.1 := by decide +kernel
theorem t_N_ok : ∀ k, k < 2 → parseFieldDescriptor (T_N k).2.2.1 = some (t_N k) := by decide +kernel
def R_P : String := "PassedOnAndBetter$Past"
def T_P : u_T := fun k => match k with
  | 0 => ("PassedOnAndBetter$Past", "before", "[LPassedOnAndBetter$Company;", true)
  | 1 => ("PassedOnAndBetter$Past", "start", "I", false)
  | _ => ("PassedOnAndBetter$Past", "held", "I", false)
def t_P : Nat → FieldType := fun k => match k with
  | 0 => .array (.object "PassedOnAndBetter$Company")
  | 1 => .int
  | _ => .int
theorem n_P : ∀ a, a < 3 → ∀ b, b < 3 → a ≠ b → (T_P a).2.1 ≠ (T_P b).2.1 := by decide +kernel
theorem t_P_ok : ∀ k, k < 3 → parseFieldDescriptor (T_P k).2.2.1 = some (t_P k) := by decide +kernel
def R_X : String := "PassedOnAndBetter"
def T_X : u_T := fun k => match k with
  | 0 => ("PassedOnAndBetter", "now", "LPassedOnAndBetter$Company;", true)
  | 1 => ("PassedOnAndBetter", "pictured", "LPassedOnAndBetter$Company;", true)
  | 2 => ("PassedOnAndBetter", "past", "LPassedOnAndBetter$Past;", true)
  | 3 => ("PassedOnAndBetter", "letters", "LPassedOnAndBetter$Letters;", true)
  | 4 => ("PassedOnAndBetter", "numbers", "LPassedOnAndBetter$Numbers;", true)
  | 5 => ("PassedOnAndBetter", "mind", "LPassedOnAndBetter$Mind;", true)
  | 6 => ("PassedOnAndBetter", "refusals", "[I", true)
  | _ => ("PassedOnAndBetter", "hasPicture", "Z", false)
def t_X : Nat → FieldType := fun k => match k with
  | 0 => .object "PassedOnAndBetter$Company"
  | 1 => .object "PassedOnAndBetter$Company"
  | 2 => .object "PassedOnAndBetter$Past"
  | 3 => .object "PassedOnAndBetter$Letters"
  | 4 => .object "PassedOnAndBetter$Numbers"
  | 5 => .object "PassedOnAndBetter$Mind"
  | 6 => .array (.int)
  | _ => .boolean
theorem n_X : ∀ a, a < 8 → ∀ b, b < 8 → a ≠ b → (T_X a).2.1 ≠ (T_X b).2.1 := by decide +kernel
theorem t_X_ok : ∀ k, k < 8 → parseFieldDescriptor (T_X k).2.2.1 = some (t_X k) := by decide +kernel
def R_R : String := "PassedOnAndBetterModel"
def T_R : u_T := fun k => match k with
  | 0 => ("PassedOnAndBetterModel", "refused", "[I", true)
  | 1 => ("PassedOnAndBetterModel", "kind", "[I", true)
  | 2 => ("PassedOnAndBetterModel", "figure", "[I", true)
  | 3 => ("PassedOnAndBetterModel", "door", "[I", true)
  | 4 => ("PassedOnAndBetterModel", "next", "[I", true)
  | 5 => ("PassedOnAndBetterModel", "worth", "[I", true)
  | 6 => ("PassedOnAndBetterModel", "size", "[I", true)
  | 7 => ("PassedOnAndBetterModel", "holder", "[I", true)
  | 8 => ("PassedOnAndBetterModel", "kept", "[I", true)
  | 9 => ("PassedOnAndBetterModel", "bettered", "[I", true)
  | 10 => ("PassedOnAndBetterModel", "given", "[I", true)
  | 11 => ("PassedOnAndBetterModel", "friends", "I", false)
  | 12 => ("PassedOnAndBetterModel", "gifts", "I", false)
  | 13 => ("PassedOnAndBetterModel", "month", "I", false)
  | 14 => ("PassedOnAndBetterModel", "twice", "I", false)
  | 15 => ("PassedOnAndBetterModel", "added", "[I", true)
  | 16 => ("PassedOnAndBetterModel", "tape", "[I", true)
  | 17 => ("PassedOnAndBetterModel", "letter", "[I", true)
  | 18 => ("PassedOnAndBetterModel", "letterAt", "[I", true)
  | 19 => ("PassedOnAndBetterModel", "told", "[I", true)
  | 20 => ("PassedOnAndBetterModel", "taped", "I", false)
  | 21 => ("PassedOnAndBetterModel", "reading", "I", false)
  | 22 => ("PassedOnAndBetterModel", "statements", "I", false)
  | 23 => ("PassedOnAndBetterModel", "store", "[I", true)
  | 24 => ("PassedOnAndBetterModel", "hasImage", "Z", false)
  | 25 => ("PassedOnAndBetterModel", "isKeeping", "Z", false)
  | 26 => ("PassedOnAndBetterModel", "cursor", "I", false)
  | 27 => ("PassedOnAndBetterModel", "backs", "I", false)
  | 28 => ("PassedOnAndBetterModel", "row", "[I", true)
  | 29 => ("PassedOnAndBetterModel", "rowMany", "I", false)
  | 30 => ("PassedOnAndBetterModel", "gets", "[I", true)
  | _ => ("PassedOnAndBetterModel", "lots", "I", false)
def t_R : Nat → FieldType := fun k => match k with
  | 0 => .array (.int)
  | 1 => .array (.int)
  | 2 => .array (.int)
  | 3 => .array (.int)
  | 4 => .array (.int)
  | 5 => .array (.int)
  | 6 => .array (.int)
  | 7 => .array (.int)
  | 8 => .array (.int)
  | 9 => .array (.int)
  | 10 => .array (.int)
  | 11 => .int
  | 12 => .int
  | 13 => .int
  | 14 => .int
  | 15 => .array (.int)
  | 16 => .array (.int)
  | 17 => .array (.int)
  | 18 => .array (.int)
  | 19 => .array (.int)
  | 20 => .int
  | 21 => .int
  | 22 => .int
  | 23 => .array (.int)
  | 24 => .boolean
  | 25 => .boolean
  | 26 => .int
  | 27 => .int
  | 28 => .array (.int)
  | 29 => .int
  | 30 => .array (.int)
  | _ => .int
theorem n_R : ∀ a, a < 32 → ∀ b, b < 32 → a ≠ b → (T_R a).2.1 ≠ (T_R b).2.1 := by decide +kernel
theorem t_R_ok : ∀ k, k < 32 → parseFieldDescriptor (T_R k).2.2.1 = some (t_R k) := by decide +kernel
abbrev wCls : List vw_C := [(R_C, T_C, 7), (R_F, T_F, 9), (R_G, T_G, 6), (R_L, T_L, 2), (R_M, T_M, 5), (R_N, T_N, 2), (R_P, T_P, 3), (R_X, T_X, 8), (R_R, T_R, 32)]
/-- the words that every method is given -/
def tbG : List Cond := lw_tbl.filter goodWord
theorem mG {w : Cond} (i : Nat) (h : lw_tbl[i]? = some w) (g : goodWord w = true) : w ∈ tbG := List.mem_filter.mpr ⟨List.mem_of_getElem? h, g⟩
theorem giG {y : MethodName} {c : ByteArray} {n : Nat} {r : Option FieldType} (h : Cond.code y c n r ∈ tbG) : GoodIn tbG (.code y c n r :: tbG) := by
  intro w hw
  rcases List.mem_cons.mp hw with rfl | hw
  · exact ⟨h, good_of_word (List.mem_filter.mp h).2⟩
  · exact ⟨hw, good_of_word (List.mem_filter.mp hw).2⟩
set_option maxRecDepth 20000 in
theorem i_C : ∀ w ∈ u_ws R_C T_C 7, w ∈ tbG := by
  have h : ∀ k, k < 7 → u_lay R_C T_C k ∈ tbG := by
    intro k hk
    match k, hk with
    | 0, _ => exact mG 216 (by decide +kernel) (by decide +kernel)
    | 1, _ => exact mG 218 (by decide +kernel) (by decide +kernel)
    | 2, _ => exact mG 220 (by decide +kernel) (by decide +kernel)
    | 3, _ => exact mG 222 (by decide +kernel) (by decide +kernel)
    | 4, _ => exact mG 224 (by decide +kernel) (by decide +kernel)
    | 5, _ => exact mG 226 (by decide +kernel) (by decide +kernel)
    | 6, _ => exact mG 228 (by decide +kernel) (by decide +kernel)
    | k + 7, h => exact absurd h (by omega)
  intro w hw
  obtain ⟨k, hk, rfl⟩ := List.mem_map.mp hw
  exact h k (List.mem_range.mp hk)
set_option maxRecDepth 20000 in
theorem i_F : ∀ w ∈ u_ws R_F T_F 9, w ∈ tbG := by
  have h : ∀ k, k < 9 → u_lay R_F T_F k ∈ tbG := by
    intro k hk
    match k, hk with
    | 0, _ => exact mG 146 (by decide +kernel) (by decide +kernel)
    | 1, _ => exact mG 148 (by decide +kernel) (by decide +kernel)
    | 2, _ => exact mG 150 (by decide +kernel) (by decide +kernel)
    | 3, _ => exact mG 152 (by decide +kernel) (by decide +kernel)
    | 4, _ => exact mG 154 (by decide +kernel) (by decide +kernel)
    | 5, _ => exact mG 156 (by decide +kernel) (by decide +kernel)
    | 6, _ => exact mG 158 (by decide +kernel) (by decide +kernel)
    | 7, _ => exact mG 160 (by decide +kernel) (by decide +kernel)
    | 8, _ => exact mG 162 (by decide +kernel) (by decide +kernel)
    | k + 9, h => exact absurd h (by omega)
  intro w hw
  obtain ⟨k, hk, rfl⟩ := List.mem_map.mp hw
  exact h k (List.mem_range.mp hk)
set_option maxRecDepth 20000 in
theorem i_G : ∀ w ∈ u_ws R_G T_G 6, w ∈ tbG := by
  have h : ∀ k, k < 6 → u_lay R_G T_G k ∈ tbG := by
    intro k hk
    match k, hk with
    | 0, _ => exact mG 190 (by decide +kernel) (by decide +kernel)
    | 1, _ => exact mG 192 (by decide +kernel) (by decide +kernel)
    | 2, _ => exact mG 194 (by decide +kernel) (by decide +kernel)
    | 3, _ => exact mG 196 (by decide +kernel) (by decide +kernel)
    | 4, _ => exact mG 198 (by decide +kernel) (by decide +kernel)
    | 5, _ => exact mG 200 (by decide +kernel) (by decide +kernel)
    | k + 6, h => exact absurd h (by omega)
  intro w hw
  obtain ⟨k, hk, rfl⟩ := List.mem_map.mp hw
  exact h k (List.mem_range.mp hk)
set_option maxRecDepth 20000 in
theorem i_L : ∀ w ∈ u_ws R_L T_L 2, w ∈ tbG := by
  have h : ∀ k, k < 2 → u_lay R_L T_L k ∈ tbG := by
    intro k hk
    match k, hk with
    | 0, _ => exact mG 260 (by decide +kernel) (by decide +kernel)
    | 1, _ => exact mG 262 (by decide +kernel) (by decide +kernel)
    | k + 2, h => exact absurd h (by omega)
  intro w hw
  obtain ⟨k, hk, rfl⟩ := List.mem_map.mp hw
  exact h k (List.mem_range.mp hk)
set_option maxRecDepth 20000 in
theorem i_M : ∀ w ∈ u_ws R_M T_M 5, w ∈ tbG := by
  have h : ∀ k, k < 5 → u_lay R_M T_M k ∈ tbG := by
    intro k hk
    match k, hk with
    | 0, _ => exact mG 295 (by decide +kernel) (by decide +kernel)
    | 1, _ => exact mG 297 (by decide +kernel) (by decide +kernel)
    | 2, _ => exact mG 299 (by decide +kernel) (by decide +kernel)
    | 3, _ => exact mG 301 (by decide +kernel) (by decide +kernel)
    | 4, _ => exact mG 303 (by decide +kernel) (by decide +kernel)
    | k + 5, h => exact absurd h (by omega)
  intro w hw
  obtain ⟨k, hk, rfl⟩ := List.mem_map.mp hw
  exact h k (List.mem_range.mp hk)
set_option maxRecDepth 20000 in
theorem i_N : ∀ w ∈ u_ws R_N T_N 2, w ∈ tbG := by
  have h : ∀ k, k < 2 → u_lay R_N T_N k ∈ tbG := by
    intro k hk
    match k, hk with
    | 0, _ => exact mG 277 (by decide +kernel) (by decide +kernel)
    | 1, _ => exact mG 279 (by decide +kernel) (by decide +kernel)
    | k + 2, h => exact absurd h (by omega)
  intro w hw
  obtain ⟨k, hk, rfl⟩ := List.mem_map.mp hw
  exact h k (List.mem_range.mp hk)
set_option maxRecDepth 20000 in
theorem i_P : ∀ w ∈ u_ws R_P T_P 3, w ∈ tbG := by
  have h : ∀ k, k < 3 → u_lay R_P T_P k ∈ tbG := by
    intro k hk
    match k, hk with
    | 0, _ => exact mG 244 (by decide +kernel) (by decide +kernel)
    | 1, _ => exact mG 246 (by decide +kernel) (by decide +kernel)
    | 2, _ => exact mG 248 (by decide +kernel) (by decide +kernel)
    | k + 3, h => exact absurd h (by omega)
  intro w hw
  obtain ⟨k, hk, rfl⟩ := List.mem_map.mp hw
  exact h k (List.mem_range.mp hk)
set_option maxRecDepth 20000 in
theorem i_X : ∀ w ∈ u_ws R_X T_X 8, w ∈ tbG := by
  have h : ∀ k, k < 8 → u_lay R_X T_X k ∈ tbG := by
    intro k hk
    match k, hk with
    | 0, _ => exact mG 314 (by decide +kernel) (by decide +kernel)
    | 1, _ => exact mG 316 (by decide +kernel) (by decide +kernel)
    | 2, _ => exact mG 318 (by decide +kernel) (by decide +kernel)
    | 3, _ => exact mG 320 (by decide +kernel) (by decide +kernel)
    | 4, _ => exact mG 322 (by decide +kernel) (by decide +kernel)
    | 5, _ => exact mG 324 (by decide +kernel) (by decide +kernel)
    | 6, _ => exact mG 326 (by decide +kernel) (by decide +kernel)
    | 7, _ => exact mG 328 (by decide +kernel) (by decide +kernel)
    | k + 8, h => exact absurd h (by omega)
  intro w hw
  obtain ⟨k, hk, rfl⟩ := List.mem_map.mp hw
  exact h k (List.mem_range.mp hk)
set_option maxRecDepth 20000 in
theorem i_R : ∀ w ∈ u_ws R_R T_R 32, w ∈ tbG := by
  have h : ∀ k, k < 32 → u_lay R_R T_R k ∈ tbG := by
    intro k hk
    match k, hk with
    | 0, _ => exact mG 1036 (by decide +kernel) (by decide +kernel)
    | 1, _ => exact mG 1038 (by decide +kernel) (by decide +kernel)
    | 2, _ => exact mG 1040 (by decide +kernel) (by decide +kernel)
    | 3, _ => exact mG 1042 (by decide +kernel) (by decide +kernel)
    | 4, _ => exact mG 1044 (by decide +kernel) (by decide +kernel)
    | 5, _ => exact mG 1046 (by decide +kernel) (by decide +kernel)
    | 6, _ => exact mG 1048 (by decide +kernel) (by decide +kernel)
    | 7, _ => exact mG 1050 (by decide +kernel) (by decide +kernel)
    | 8, _ => exact mG 1052 (by decide +kernel) (by decide +kernel)
    | 9, _ => exact mG 1054 (by decide +kernel) (by decide +kernel)
    | 10, _ => exact mG 1056 (by decide +kernel) (by decide +kernel)
    | 11, _ => exact mG 1058 (by decide +kernel) (by decide +kernel)
    | 12, _ => exact mG 1060 (by decide +kernel) (by decide +kernel)
    | 13, _ => exact mG 1062 (by decide +kernel) (by decide +kernel)
    | 14, _ => exact mG 1064 (by decide +kernel) (by decide +kernel)
    | 15, _ => exact mG 1066 (by decide +kernel) (by decide +kernel)
    | 16, _ => exact mG 1068 (by decide +kernel) (by decide +kernel)
    | 17, _ => exact mG 1070 (by decide +kernel) (by decide +kernel)
    | 18, _ => exact mG 1072 (by decide +kernel) (by decide +kernel)
    | 19, _ => exact mG 1074 (by decide +kernel) (by decide +kernel)
    | 20, _ => exact mG 1076 (by decide +kernel) (by decide +kernel)
    | 21, _ => exact mG 1078 (by decide +kernel) (by decide +kernel)
    | 22, _ => exact mG 1080 (by decide +kernel) (by decide +kernel)
    | 23, _ => exact mG 1082 (by decide +kernel) (by decide +kernel)
    | 24, _ => exact mG 1084 (by decide +kernel) (by decide +kernel)
    | 25, _ => exact mG 1086 (by decide +kernel) (by decide +kernel)
    | 26, _ => exact mG 1088 (by decide +kernel) (by decide +kernel)
    | 27, _ => exact mG 1090 (by decide +kernel) (by decide +kernel)
    | 28, _ => exact mG 1092 (by decide +kernel) (by decide +kernel)
    | 29, _ => exact mG 1094 (by decide +kernel) (by decide +kernel)
    | 30, _ => exact mG 1096 (by decide +kernel) (by decide +kernel)
    | 31, _ => exact mG 1098 (by decide +kernel) (by decide +kernel)
    | k + 32, h => exact absurd h (by omega)
  intro w hw
  obtain ⟨k, hk, rfl⟩ := List.mem_map.mp hw
  exact h k (List.mem_range.mp hk)
end
section
/-! the world: an integer memory over 196 cells whose references never change (0..10 companies, 11.. their rows of friends, 22.. of gifts, 33.. friends (7 each, the last stands in), 110.. gifts (5 each), 165 the object, 166 refusals, 167 past, 168 its row, 169 letters, 170 its row, 171 numbers, 172 its row, 173 mind, 174, 175 its rows, 176 the reference, 177.. its rows) -/
abbrev Mm : Type := Nat → Nat → Int32
def mU (σ : Mm) (o k : Nat) (v : Int32) : Mm := fun q => if q = o then upd (σ o) k v else σ q
theorem mU_at (σ : Mm) (o k : Nat) (v : Int32) : mU σ o k v o = upd (σ o) k v := if_pos rfl
theorem mU_off (σ : Mm) (o k : Nat) (v : Int32) {q : Nat} (h : q ≠ o) : mU σ o k v q = σ q := if_neg h
theorem mU_get (σ : Mm) (o k : Nat) (v : Int32) (q j : Nat) : mU σ o k v q j = if q = o ∧ j = k then v else σ q j := by
  by_cases h : q = o
  · subst h
    rw [mU_at]
    by_cases h2 : j = k
    · subst h2; simp [upd]
    · simp [upd, h2]
  · rw [mU_off _ _ _ _ h]; simp [h]
abbrev Cy : Type := ClassId × ClassId × ClassId × ClassId
def aL (o : Nat) : Nat := match o with
  | 166 => 7 | 170 => 96 | 172 => 12 | 174 => 4 | 175 => 4 | 177 => 7
  | 178 => 6 | 179 => 6 | 180 => 6 | 181 => 6 | 182 => 4 | 183 => 4 | 184 => 4 | 185 => 4 | 186 => 4 | 187 => 4
  | 188 => 6 | 189 => 96 | 190 => 48 | 191 => 48 | 192 => 144 | 193 => 561 | 194 => 12 | 195 => 8 | _ => 0
abbrev iA (o : Nat) : Prop := o = 166 ∨ o = 170 ∨ o = 172 ∨ o = 174 ∨ o = 175 ∨ (177 ≤ o ∧ o < 196)
abbrev iC (o : Nat) : Prop := o < 11
abbrev iF (o : Nat) : Prop := 33 ≤ o ∧ o < 110
abbrev iG (o : Nat) : Prop := 110 ≤ o ∧ o < 165
def wE (cy : Cy) (ad : Nat → Nat) (r : Nat → Int32) (o : Nat) : va_E :=
  if o < 11 then .inr (0, [.ref (ad (11 + o)), .ref (ad (22 + o)), .ref (ad (39 + 7 * o)), .ref (ad (114 + 5 * o)), .int (r 4), .int (r 5), .int (r 6)])
  else if o < 22 then .inl (cy.2.1, 6, .inr (.inr (.inr (.inr (fun k => some (ad (33 + 7 * (o - 11) + k)))))))
  else if o < 33 then .inl (cy.2.2.1, 4, .inr (.inr (.inr (.inr (fun k => some (ad (110 + 5 * (o - 22) + k)))))))
  else if o < 110 then .inr (1, [.int (r 0), .int (r 1), .int (r 2), .int (r 3), .int (r 4), .int (r 5), .int (r 6), .int (r 7), .int (r 8)])
  else if o < 165 then .inr (2, [.int (r 0), .int (r 1), .int (r 2), .int (r 3), .int (r 4), .int (r 5)])
  else if o = 165 then .inr (7, [.ref (ad 0), .ref (ad 1), .ref (ad 167), .ref (ad 169), .ref (ad 171), .ref (ad 173), .ref (ad 166), .int (r 7)])
  else if o = 167 then .inr (6, [.ref (ad 168), .int (r 1), .int (r 2)])
  else if o = 168 then .inl (cy.2.2.2, 8, .inr (.inr (.inr (.inr (fun k => some (ad (3 + k)))))))
  else if o = 169 then .inr (3, [.ref (ad 170), .int (r 1)])
  else if o = 171 then .inr (5, [.ref (ad 172), .int (r 1)])
  else if o = 173 then .inr (4, [.ref (ad 0), .ref (ad 171), .ref (ad 2), .ref (ad 174), .ref (ad 175)])
  else if o = 176 then .inr (8, [.ref (ad 177), .ref (ad 178), .ref (ad 179), .ref (ad 180), .ref (ad 181), .ref (ad 182), .ref (ad 183), .ref (ad 184), .ref (ad 185), .ref (ad 186), .ref (ad 187), .int (r 11), .int (r 12), .int (r 13), .int (r 14), .ref (ad 188), .ref (ad 189), .ref (ad 190), .ref (ad 191), .ref (ad 192), .int (r 20), .int (r 21), .int (r 22), .ref (ad 193), .int (r 24), .int (r 25), .int (r 26), .int (r 27), .ref (ad 194), .int (r 29), .ref (ad 195), .int (r 31)])
  else .inl (cy.1, aL o, .inl r)
theorem wE_C {cy : Cy} {ad : Nat → Nat} {r : Nat → Int32} {o : Nat} (h : iC o) : wE cy ad r o = .inr (0, [.ref (ad (11 + o)), .ref (ad (22 + o)), .ref (ad (39 + 7 * o)), .ref (ad (114 + 5 * o)), .int (r 4), .int (r 5), .int (r 6)]) := if_pos h
theorem wE_FR {cy : Cy} {ad : Nat → Nat} {r : Nat → Int32} {o : Nat} (h : iC o) : wE cy ad r (11 + o) = .inl (cy.2.1, 6, .inr (.inr (.inr (.inr (fun k => some (ad (33 + 7 * o + k))))))) := by
  have h : o < 11 := h
  unfold wE
  rw [if_neg (by omega), if_pos (by omega), show 11 + o - 11 = o by omega]
theorem wE_GR {cy : Cy} {ad : Nat → Nat} {r : Nat → Int32} {o : Nat} (h : iC o) : wE cy ad r (22 + o) = .inl (cy.2.2.1, 4, .inr (.inr (.inr (.inr (fun k => some (ad (110 + 5 * o + k))))))) := by
  have h : o < 11 := h
  unfold wE
  rw [if_neg (by omega), if_neg (by omega), if_pos (by omega), show 22 + o - 22 = o by omega]
theorem wE_F {cy : Cy} {ad : Nat → Nat} {r : Nat → Int32} {o : Nat} (h : iF o) : wE cy ad r o = .inr (1, [.int (r 0), .int (r 1), .int (r 2), .int (r 3), .int (r 4), .int (r 5), .int (r 6), .int (r 7), .int (r 8)]) := by
  have h1 := h.1
  have h2 := h.2
  unfold wE
  rw [if_neg (by omega), if_neg (by omega), if_neg (by omega), if_pos (by omega)]
theorem wE_G {cy : Cy} {ad : Nat → Nat} {r : Nat → Int32} {o : Nat} (h : iG o) : wE cy ad r o = .inr (2, [.int (r 0), .int (r 1), .int (r 2), .int (r 3), .int (r 4), .int (r 5)]) := by
  have h1 := h.1
  have h2 := h.2
  unfold wE
  rw [if_neg (by omega), if_neg (by omega), if_neg (by omega), if_neg (by omega), if_pos (by omega)]
theorem wE_A {cy : Cy} {ad : Nat → Nat} {r : Nat → Int32} {o : Nat} (h : iA o) : wE cy ad r o = .inl (cy.1, aL o, .inl r) := by
  have h : o = 166 ∨ o = 170 ∨ o = 172 ∨ o = 174 ∨ o = 175 ∨ (177 ≤ o ∧ o < 196) := h
  unfold wE
  rw [if_neg (by omega), if_neg (by omega), if_neg (by omega), if_neg (by omega), if_neg (by omega), if_neg (by omega), if_neg (by omega), if_neg (by omega), if_neg (by omega), if_neg (by omega), if_neg (by omega), if_neg (by omega)]
theorem iA_lt {o : Nat} (h : iA o) : o < 196 := by
  have h : o = 166 ∨ o = 170 ∨ o = 172 ∨ o = 174 ∨ o = 175 ∨ (177 ≤ o ∧ o < 196) := h
  omega
def wl (cy : Cy) (ad : Nat → Nat) (σ : Mm) : va_W := (List.range 196).map (fun o => (ad o, wE cy ad (σ o) o))
theorem wl_at {cy : Cy} {ad : Nat → Nat} {σ : Mm} {o : Nat} (h : o < 196) : (wl cy ad σ)[o]? = some (ad o, wE cy ad (σ o) o) := by
  unfold wl
  rw [List.getElem?_map, List.getElem?_range h]
  rfl
theorem wl_len (cy : Cy) (ad : Nat → Nat) (σ : Mm) : (wl cy ad σ).length = 196 := by unfold wl; simp
theorem wl_set {cy : Cy} {ad : Nat → Nat} {σ : Mm} {o k : Nat} {v : Int32} {e : va_E} (h : o < 196) (he : wE cy ad (upd (σ o) k v) o = e) : (wl cy ad σ).set o (ad o, e) = wl cy ad (mU σ o k v) := by
  apply List.ext_getElem?
  intro j
  by_cases hj : j < 196
  · by_cases e1 : j = o
    · subst e1
      rw [List.getElem?_set_self (by rw [wl_len]; exact hj), wl_at hj, mU_at, he]
    · rw [List.getElem?_set_ne (Ne.symm e1), wl_at hj, wl_at hj, mU_off _ _ _ _ e1]
  · rw [List.getElem?_eq_none (by rw [List.length_set, wl_len]; omega), List.getElem?_eq_none (by rw [wl_len]; omega)]
abbrev AdI (ad : Nat → Nat) : Prop := ∀ i j : Nat, i < 196 → j < 196 → ad i = ad j → i = j
def Aad (ad : Nat → Nat) : Nat → Prop := fun q => ∃ i : Nat, i < 196 ∧ q = ad i
theorem wl_D {cy : Cy} {ad : Nat → Nat} {σ : Mm} {A : Nat → Prop} (h : AdI ad) (hA : ∀ q, Aad ad q → A q) : va_D A (wl cy ad σ) := by
  have key : ∀ (i : Nat) (p : Nat × va_E), (wl cy ad σ)[i]? = some p → i < 196 ∧ p.1 = ad i := by
    intro i p hp
    have hi : i < 196 := by
      have := (List.getElem?_eq_some_iff.mp hp).1
      rw [wl_len] at this
      exact this
    rw [wl_at hi] at hp
    cases hp
    exact ⟨hi, rfl⟩
  refine ⟨fun i j p q hi hj hpq => ?_, fun k q hk => ?_⟩
  · obtain ⟨h1, h2⟩ := key i p hi
    obtain ⟨h3, h4⟩ := key j q hj
    exact h i j h1 h3 (by rw [← h2, ← h4]; exact hpq)
  · obtain ⟨h1, h2⟩ := key k q hk
    exact hA _ ⟨k, h1, h2⟩
def vc (ad : Nat → Nat) : Value → Value
  | .ref a => .ref (ad a)
  | v => v
theorem vc_cat (ad : Nat → Nat) (v : Value) : (vc ad v).category = v.category := by cases v <;> rfl
theorem vc_cats (ad : Nat → Nat) (st : List Value) : ((st.map (vc ad)).map fun v => v.category).sum = (st.map fun v => v.category).sum := by
  rw [List.map_map]
  congr 1
  exact List.map_congr_left fun v _ => vc_cat ad v
def lc (ad : Nat → Nat) (L : List (Nat × Value)) : List (Nat × Value) := L.map fun q => (q.1, vc ad q.2)
theorem lc_args (ad : Nat → Nat) (as : List Value) : ∀ i, lc ad (lv_args i as) = lv_args i (as.map (vc ad)) := by
  induction as with
  | nil => intro i; rfl
  | cons v vs ih =>
    intro i
    show (i, vc ad v) :: lc ad (lv_args (if v.category = 2 then i + 2 else i + 1) vs) = (i, vc ad v) :: lv_args (if (vc ad v).category = 2 then i + 2 else i + 1) (vs.map (vc ad))
    rw [ih, vc_cat]
theorem lc_at {ad : Nat → Nat} {L : List (Nat × Value)} {j i : Nat} {v : Value} (h : L[j]? = some (i, v)) : (lc ad L)[j]? = some (i, vc ad v) := by
  unfold lc
  rw [List.getElem?_map, h]
  rfl
def stA (L : List (Nat × Value)) (i : Nat) (v : Value) : List (Nat × Value) := (i, v) :: L.filter (fun q => !(q.1 == i) && !(q.1 + 1 == i && q.2.category == 2))
def stB (L : List (Nat × Value)) (i : Nat) (v : Value) : List (Nat × Value) := (i, v) :: L.filter (fun q => !(q.1 == i) && (!(q.1 == i + 1) && !(q.1 + 1 == i && q.2.category == 2)))
theorem lc_stA {ad : Nat → Nat} {L : List (Nat × Value)} {i : Nat} {v : Value} : (i, vc ad v) :: (lc ad L).filter (fun q => !(q.1 == i) && !(q.1 + 1 == i && q.2.category == 2)) = lc ad (stA L i v) := by
  unfold stA lc
  rw [List.map_cons, List.filter_map]
  congr 2
  apply List.filter_congr
  intro q _
  simp [vc_cat]
theorem lc_stB {ad : Nat → Nat} {L : List (Nat × Value)} {i : Nat} {v : Value} : (i, vc ad v) :: (lc ad L).filter (fun q => !(q.1 == i) && (!(q.1 == i + 1) && !(q.1 + 1 == i && q.2.category == 2))) = lc ad (stB L i v) := by
  unfold stB lc
  rw [List.map_cons, List.filter_map]
  congr 2
  apply List.filter_congr
  intro q _
  simp [vc_cat]
def tyz (cy : Cy) : List (ClassId × FieldType) := [(cy.1, .int), (cy.2.1, .object R_F), (cy.2.2.1, .object R_G), (cy.2.2.2, .object R_C)]
/-! nest words -/
def nw_0 : Cond := (Jvm.Cond.methodLinkNest "PassedOnAndBetter$Letters" (19 : Nat) ({ cls := "PassedOnAndBetter", name := "setCell", desc := "([III)V" } : Jvm.MethodName) "PassedOnAndBetter")
def nw_1 : Cond := (Jvm.Cond.methodLinkNest "PassedOnAndBetter$Letters" (38 : Nat) ({ cls := "PassedOnAndBetter", name := "cellOf", desc := "([II)I" } : Jvm.MethodName) "PassedOnAndBetter")
def nw_2 : Cond := (Jvm.Cond.methodLinkNest "PassedOnAndBetter$Company" (62 : Nat) ({ cls := "PassedOnAndBetter$Gift", name := "begin", desc := "(III)V" } : Jvm.MethodName) "PassedOnAndBetter")
def nw_3 : Cond := (Jvm.Cond.methodLinkNest "PassedOnAndBetter$Numbers" (23 : Nat) ({ cls := "PassedOnAndBetter", name := "cellOf", desc := "([II)I" } : Jvm.MethodName) "PassedOnAndBetter")
def nw_4 : Cond := (Jvm.Cond.methodLinkNest "PassedOnAndBetter$Mind" (161 : Nat) ({ cls := "PassedOnAndBetter", name := "setCell", desc := "([III)V" } : Jvm.MethodName) "PassedOnAndBetter")
def nw_5 : Cond := (Jvm.Cond.methodLinkNest "PassedOnAndBetter$Mind" (165 : Nat) ({ cls := "PassedOnAndBetter", name := "cellOf", desc := "([II)I" } : Jvm.MethodName) "PassedOnAndBetter")
def nw_6 : Cond := (Jvm.Cond.methodLinkNest "PassedOnAndBetter$Mind" (176 : Nat) ({ cls := "PassedOnAndBetter", name := "power", desc := "(II)J" } : Jvm.MethodName) "PassedOnAndBetter")
def nw_7 : Cond := (Jvm.Cond.methodLinkNest "PassedOnAndBetter$Numbers" (17 : Nat) ({ cls := "PassedOnAndBetter", name := "setCell", desc := "([III)V" } : Jvm.MethodName) "PassedOnAndBetter")
def KU (D : va_G) (cy : Cy) (s : State) : Prop := va_K D wCls (tyz cy) s ∧ va_Nw nw_0 s ∧ va_Nw nw_1 s ∧ va_Nw nw_2 s ∧ va_Nw nw_3 s ∧ va_Nw nw_4 s ∧ va_Nw nw_5 s ∧ va_Nw nw_6 s ∧ va_Nw nw_7 s
theorem KU.warm {D : va_G} {cy : Cy} {s U : State} (hW : s.WarmedH U.vm) (h : KU D cy s) : KU D cy U := by
  obtain ⟨hk, h0, h1, h2, h3, h4, h5, h6, h7⟩ := h
  exact ⟨va_K.moved hW.alike hk, va_Nw.warmM hW h0, va_Nw.warmM hW h1, va_Nw.warmM hW h2, va_Nw.warmM hW h3, va_Nw.warmM hW h4, va_Nw.warmM hW h5, va_Nw.warmM hW h6, va_Nw.warmM hW h7⟩
theorem KU.blind {D : va_G} {cy : Cy} {s U : State} (hv : s.vm = U.vm) (h : KU D cy s) : KU D cy U := by
  obtain ⟨hk, h0, h1, h2, h3, h4, h5, h6, h7⟩ := h
  exact ⟨va_K.moved (u := s) (U := U) (by rw [hv]; exact Vm.Alike.refl U.vm) hk, va_Nw.same rfl hv h0, va_Nw.same rfl hv h1, va_Nw.same rfl hv h2, va_Nw.same rfl hv h3, va_Nw.same rfl hv h4, va_Nw.same rfl hv h5, va_Nw.same rfl hv h6, va_Nw.same rfl hv h7⟩
end
section
/-! the judgement G: the machine at an instruction, the memory as a function; a row an instruction -/
abbrev Zt : Type := Program × Env × Room × State × MethodId × Array Value × List Frame × Method × Code × (State → Prop) × va_G × Cy × (Nat → Nat) × (Nat → Prop) × Nat × Nat
def G (l : Launch) (z : Zt) (cc : ByteArray) (nL pc : Nat) (L : List (Nat × Value)) (st : List Value) (σ : Mm) : Prop := match z with
  | (p, e, R, s, m, args, below, meth, c, Q, D, cy, ad, A, k, n) => ∀ (ls : Array Slot) (H : Heap) (locs : List Loc), lv_has ls nL (lc ad L) → va_P D wCls (wl cy ad σ) H → va_S A s.heap H locs → W p l e R s m args below meth c H locs k n Q (F0 m pc ls (st.map (vc ad)))
def ZOk (z : Zt) (cc : ByteArray) (nL : Nat) (own : String) (fr lo : Nat) : Prop := match z with
  | (p, _, R, s, m, args, _, meth, c, _, D, cy, ad, A, k, n) => p.tables.exec = Jvm.exec ∧ c.code = cc ∧ c.maxLocals = nL ∧ s.vm.findClass own = some m.cls ∧ (∀ w ∈ tbG, w.before args s = true) ∧ meth.locks = false ∧ R.frames = fr ∧ R.locals = lo ∧ (k ≤ R.cells ∧ n ≤ R.slots) ∧ KU D cy s ∧ AdI ad ∧ ∀ q, Aad ad q → A q
/-- a method's end -/
def mQ (D : va_G) (cy : Cy) (ad : Nat → Nat) (σ : Mm) (r : Option Value) : Array Value → State → Outcome → State → Prop := fun _ st oc t => (oc = .returned (r.map (vc ad)) ∧ va_P D wCls (wl cy ad σ) t.heap) ∧ va_F (Aad ad) st t
def ZR (z : Zt) (ret : Option FieldType) (σ : Mm) (r : Option Value) : Prop := match z with
  | (_, _, _, s, _, args, below, meth, _, Q, D, cy, ad, A, k, n) => meth.sig.returnType = ret ∧ A = Aad ad ∧ Q = MQ below (mQ D cy ad σ r) args s k n A
def Cm (l : Launch) (y : MethodName) (cc : ByteArray) (maxL : Nat) (ret : Option FieldType) (fr lo : Nat) (as : List Value) (σ σ' : Mm) (r : Option Value) : Prop :=
  ∀ (D : va_G) (cy : Cy) (ad : Nat → Nat), AdI ad → Met l y (.code y cc maxL ret :: tbG) ({ frames := fr, cells := 0, slots := 0, locals := lo }) (va_Pc (as.map (vc ad)) (fun U => va_P D wCls (wl cy ad σ) U.heap ∧ KU D cy U)) (mQ D cy ad σ' r) 0 0 (Aad ad)
theorem Cm.of {l : Launch} {y : MethodName} {cc : ByteArray} {maxL : Nat} {ret : Option FieldType} {fr lo : Nat} {as : List Value} {σ σ' : Mm} {r : Option Value} {own : String} (hy : plainName y.cls = true) (ho : y.cls = own) (hn : ∀ ad, (lg_sl (as.map (vc ad))).length ≤ maxL)
    (body : ∀ z : Zt, ZOk z cc maxL own fr lo → ZR z ret σ' r → G l z cc maxL 0 (lv_args 0 as) [] σ) : Cm l y cc maxL ret fr lo as σ σ' r := by
  intro D cy ad hI
  refine Met.ofW (cc := cc) (maxL := maxL) (ret := ret) hy rfl ?_
  intro p e s m args below meth c s₁ B hml hv
  obtain ⟨rfl, hP, hK⟩ := hv
  have hts := atoms_spec (ws := .code y cc maxL ret :: tbG) B.pre
  have hown : s.vm.findClass own = some m.cls := ho ▸ findClass_of_methodNamed B.named
  have hb := body (p, e, (headSpec (.code y cc maxL ret :: tbG) ({ frames := fr, cells := 0, slots := 0, locals := lo })).room, s, m, (as.map (vc ad)).toArray, below, meth, c, MQ below (mQ D cy ad σ' r) (as.map (vc ad)).toArray s 0 0 (Aad ad), D, cy, ad, Aad ad, 0, 0)
    ⟨B.exec, B.bytes, hml, hown, fun w hw => hts w (List.mem_cons_of_mem _ hw), B.notSynchronized, rfl, rfl, ⟨Nat.le_refl _, Nat.le_refl _⟩, hK, hI, fun q h => h⟩ ⟨B.returns, rfl, rfl⟩
  have hl := lv_entry (as.map (vc ad)) (n := maxL) (hn ad)
  rw [lg_entry_eq]
  generalize (lg_sl (as.map (vc ad)) ++ List.replicate (maxL - (lg_sl (as.map (vc ad))).length) Slot.unset).toArray = ls at hl ⊢
  rw [← lc_args] at hl
  exact hb ls s.heap [] hl hP va_S.rf
section ROWS
variable {l : Launch} {z : Zt} {cc : ByteArray} {nL pc fr lo : Nat} {own : String} {L : List (Nat × Value)} {st : List Value} {σ : Mm}
/-- fewer locals, in another order -/
theorem g_sub {L' : List (Nat × Value)} (ks : List Nat) (h : lv_pick L ks = L') (k : G l z cc nL pc L' st σ) : G l z cc nL pc L st σ := by
  obtain ⟨p, e, R, s, m, args, below, meth, c, Q, D, cy, ad, A, kc, ks'⟩ := z
  intro ls H locs hl hP hS
  refine k ls H locs ?_ hP hS
  refine lv_sub hl ks ?_
  rw [← h]
  clear h
  unfold lv_pick lc
  induction ks with
  | nil => rfl
  | cons i ks ih =>
    simp only [List.filterMap_cons, List.getElem?_map]
    simp only [List.getElem?_map] at ih
    cases L[i]? <;> simp [ih]
theorem g_goto (hz : ZOk z cc nL own fr lo) {off : Int} {tgt : Nat} (d : decode cc pc = .ok (.goto off, 3)) (ht : (pc : Int) + off = (tgt : Int)) (k : G l z cc nL tgt L st σ) : G l z cc nL pc L st σ := by
  obtain ⟨p, e, R, s, m, args, below, meth, c, Q, D, cy, ad, A, kc, ks'⟩ := z
  exact fun ls H locs hl hP hS => lv_goto hz.1 hz.2.1 d ht (k ls H locs hl hP hS)
theorem g_iconst (hz : ZOk z cc nL own fr lo) {n : Int} {v : Int32} (d : decode cc pc = .ok (.iconst n, 1)) (hv : Int32.ofInt n = v) (k : G l z cc nL (pc + 1) L (.int v :: st) σ) : G l z cc nL pc L st σ := by
  obtain ⟨p, e, R, s, m, args, below, meth, c, Q, D, cy, ad, A, kc, ks'⟩ := z
  exact fun ls H locs hl hP hS => lv_iconst hz.1 hz.2.1 d hv (k ls H locs hl hP hS)
theorem g_bipush (hz : ZOk z cc nL own fr lo) {n : Int} {v : Int32} (d : decode cc pc = .ok (.bipush n, 2)) (hv : (Int8.ofInt n).toInt32 = v) (k : G l z cc nL (pc + 2) L (.int v :: st) σ) : G l z cc nL pc L st σ := by
  obtain ⟨p, e, R, s, m, args, below, meth, c, Q, D, cy, ad, A, kc, ks'⟩ := z
  exact fun ls H locs hl hP hS => lv_bipush hz.1 hz.2.1 d hv (k ls H locs hl hP hS)
theorem g_sipush (hz : ZOk z cc nL own fr lo) {n : Int} {v : Int32} (d : decode cc pc = .ok (.sipush n, 3)) (hv : (Int16.ofInt n).toInt32 = v) (k : G l z cc nL (pc + 3) L (.int v :: st) σ) : G l z cc nL pc L st σ := by
  obtain ⟨p, e, R, s, m, args, below, meth, c, Q, D, cy, ad, A, kc, ks'⟩ := z
  exact fun ls H locs hl hP hS => lv_sipush hz.1 hz.2.1 d hv (k ls H locs hl hP hS)
theorem g_ldc (hz : ZOk z cc nL own fr lo) {ix : Nat} {v : Int32} (lk : Cond.constant own ix v ∈ tbG) (d : decode cc pc = .ok (.ldc ix, 2)) (k : G l z cc nL (pc + 2) L (.int v :: st) σ) : G l z cc nL pc L st σ := by
  obtain ⟨p, e, R, s, m, args, below, meth, c, Q, D, cy, ad, A, kc, ks'⟩ := z
  exact fun ls H locs hl hP hS => lv_ldc hz.1 hz.2.1 hz.2.2.2.1 (hz.2.2.2.2.1 _ lk) d (k ls H locs hl hP hS)
theorem g_ldcw (hz : ZOk z cc nL own fr lo) {ix : Nat} {v : Int32} (lk : Cond.constant own ix v ∈ tbG) (d : decode cc pc = .ok (.ldc_w ix, 3)) (k : G l z cc nL (pc + 3) L (.int v :: st) σ) : G l z cc nL pc L st σ := by
  obtain ⟨p, e, R, s, m, args, below, meth, c, Q, D, cy, ad, A, kc, ks'⟩ := z
  exact fun ls H locs hl hP hS => lv_ldcw hz.1 hz.2.1 hz.2.2.2.1 (hz.2.2.2.2.1 _ lk) d (k ls H locs hl hP hS)
theorem g_ldc2 (hz : ZOk z cc nL own fr lo) {ix : Nat} {v : Int64} (lk : Cond.constantLong own ix v ∈ tbG) (d : decode cc pc = .ok (.ldc2_w ix, 3)) (k : G l z cc nL (pc + 3) L (.long v :: st) σ) : G l z cc nL pc L st σ := by
  obtain ⟨p, e, R, s, m, args, below, meth, c, Q, D, cy, ad, A, kc, ks'⟩ := z
  exact fun ls H locs hl hP hS => lv_ldc2 hz.1 hz.2.1 hz.2.2.2.1 (hz.2.2.2.2.1 _ lk) d (k ls H locs hl hP hS)
theorem g_lconst (hz : ZOk z cc nL own fr lo) {n : Fin 2} {v : Int64} (d : decode cc pc = .ok (.lconst n, 1)) (hv : Int64.ofNat (n : Nat) = v) (k : G l z cc nL (pc + 1) L (.long v :: st) σ) : G l z cc nL pc L st σ := by
  obtain ⟨p, e, R, s, m, args, below, meth, c, Q, D, cy, ad, A, kc, ks'⟩ := z
  exact fun ls H locs hl hP hS => lv_lconst hz.1 hz.2.1 d hv (k ls H locs hl hP hS)
theorem g_iload_n (hz : ZOk z cc nL own fr lo) {i : Fin 4} {j : Nat} {x : Int32} (q : Nat) (d : decode cc pc = .ok (.iload_n i, 1)) (hj : L[q]? = some (j, .int x)) (hi : (i : Nat) = j) (k : G l z cc nL (pc + 1) L (.int x :: st) σ) : G l z cc nL pc L st σ := by
  obtain ⟨p, e, R, s, m, args, below, meth, c, Q, D, cy, ad, A, kc, ks'⟩ := z
  exact fun ls H locs hl hP hS => lv_iload_n hz.1 hz.2.1 d hi (lv_at hl q (lc_at hj)) (k ls H locs hl hP hS)
theorem g_iload (hz : ZOk z cc nL own fr lo) {i : Nat} {x : Int32} (q : Nat) (d : decode cc pc = .ok (.iload i, 2)) (hj : L[q]? = some (i, .int x)) (k : G l z cc nL (pc + 2) L (.int x :: st) σ) : G l z cc nL pc L st σ := by
  obtain ⟨p, e, R, s, m, args, below, meth, c, Q, D, cy, ad, A, kc, ks'⟩ := z
  exact fun ls H locs hl hP hS => lv_iload hz.1 hz.2.1 d (lv_at hl q (lc_at hj)) (k ls H locs hl hP hS)
theorem g_lload_n (hz : ZOk z cc nL own fr lo) {i : Fin 4} {j : Nat} {x : Int64} (q : Nat) (d : decode cc pc = .ok (.lload_n i, 1)) (hj : L[q]? = some (j, .long x)) (hi : (i : Nat) = j) (k : G l z cc nL (pc + 1) L (.long x :: st) σ) : G l z cc nL pc L st σ := by
  obtain ⟨p, e, R, s, m, args, below, meth, c, Q, D, cy, ad, A, kc, ks'⟩ := z
  exact fun ls H locs hl hP hS => lv_lload_n hz.1 hz.2.1 d hi (lv_at hl q (lc_at hj)) (k ls H locs hl hP hS)
theorem g_lload (hz : ZOk z cc nL own fr lo) {i : Nat} {x : Int64} (q : Nat) (d : decode cc pc = .ok (.lload i, 2)) (hj : L[q]? = some (i, .long x)) (k : G l z cc nL (pc + 2) L (.long x :: st) σ) : G l z cc nL pc L st σ := by
  obtain ⟨p, e, R, s, m, args, below, meth, c, Q, D, cy, ad, A, kc, ks'⟩ := z
  exact fun ls H locs hl hP hS => lv_lload hz.1 hz.2.1 d (lv_at hl q (lc_at hj)) (k ls H locs hl hP hS)
theorem g_aload_n (hz : ZOk z cc nL own fr lo) {i : Fin 4} {j x : Nat} (q : Nat) (d : decode cc pc = .ok (.aload_n i, 1)) (hj : L[q]? = some (j, .ref x)) (hi : (i : Nat) = j) (k : G l z cc nL (pc + 1) L (.ref x :: st) σ) : G l z cc nL pc L st σ := by
  obtain ⟨p, e, R, s, m, args, below, meth, c, Q, D, cy, ad, A, kc, ks'⟩ := z
  exact fun ls H locs hl hP hS => lv_aload_n hz.1 hz.2.1 d hi (lv_at hl q (lc_at hj)) (k ls H locs hl hP hS)
theorem g_aload (hz : ZOk z cc nL own fr lo) {i x : Nat} (q : Nat) (d : decode cc pc = .ok (.aload i, 2)) (hj : L[q]? = some (i, .ref x)) (k : G l z cc nL (pc + 2) L (.ref x :: st) σ) : G l z cc nL pc L st σ := by
  obtain ⟨p, e, R, s, m, args, below, meth, c, Q, D, cy, ad, A, kc, ks'⟩ := z
  exact fun ls H locs hl hP hS => lv_aload hz.1 hz.2.1 d (lv_at hl q (lc_at hj)) (k ls H locs hl hP hS)
theorem g_istore_n (hz : ZOk z cc nL own fr lo) {i : Fin 4} {j : Nat} {x : Int32} {L' : List (Nat × Value)} (d : decode cc pc = .ok (.istore_n i, 1)) (hi : (i : Nat) = j) (hn : j < nL) (h : stA L j (.int x) = L') (k : G l z cc nL (pc + 1) L' st σ) : G l z cc nL pc L (.int x :: st) σ := by
  obtain ⟨p, e, R, s, m, args, below, meth, c, Q, D, cy, ad, A, kc, ks'⟩ := z
  subst h
  exact fun ls H locs hl hP hS => lv_istore_n hz.1 hz.2.1 d hi hl hn (lc_stA (v := .int x)) (fun ls' hl' => k ls' H locs hl' hP hS)
theorem g_istore (hz : ZOk z cc nL own fr lo) {i : Nat} {x : Int32} {L' : List (Nat × Value)} (d : decode cc pc = .ok (.istore i, 2)) (hn : i < nL) (h : stA L i (.int x) = L') (k : G l z cc nL (pc + 2) L' st σ) : G l z cc nL pc L (.int x :: st) σ := by
  obtain ⟨p, e, R, s, m, args, below, meth, c, Q, D, cy, ad, A, kc, ks'⟩ := z
  subst h
  exact fun ls H locs hl hP hS => lv_istore hz.1 hz.2.1 d hl hn (lc_stA (v := .int x)) (fun ls' hl' => k ls' H locs hl' hP hS)
theorem g_lstore_n (hz : ZOk z cc nL own fr lo) {i : Fin 4} {j : Nat} {x : Int64} {L' : List (Nat × Value)} (d : decode cc pc = .ok (.lstore_n i, 1)) (hi : (i : Nat) = j) (hn : j + 1 < nL) (h : stB L j (.long x) = L') (k : G l z cc nL (pc + 1) L' st σ) : G l z cc nL pc L (.long x :: st) σ := by
  obtain ⟨p, e, R, s, m, args, below, meth, c, Q, D, cy, ad, A, kc, ks'⟩ := z
  subst h
  exact fun ls H locs hl hP hS => lv_lstore_n hz.1 hz.2.1 d hi hl hn (lc_stB (v := .long x)) (fun ls' hl' => k ls' H locs hl' hP hS)
theorem g_lstore (hz : ZOk z cc nL own fr lo) {i : Nat} {x : Int64} {L' : List (Nat × Value)} (d : decode cc pc = .ok (.lstore i, 2)) (hn : i + 1 < nL) (h : stB L i (.long x) = L') (k : G l z cc nL (pc + 2) L' st σ) : G l z cc nL pc L (.long x :: st) σ := by
  obtain ⟨p, e, R, s, m, args, below, meth, c, Q, D, cy, ad, A, kc, ks'⟩ := z
  subst h
  exact fun ls H locs hl hP hS => lv_lstore hz.1 hz.2.1 d hl hn (lc_stB (v := .long x)) (fun ls' hl' => k ls' H locs hl' hP hS)
theorem g_astore_n (hz : ZOk z cc nL own fr lo) {i : Fin 4} {j x : Nat} {L' : List (Nat × Value)} (d : decode cc pc = .ok (.astore_n i, 1)) (hi : (i : Nat) = j) (hn : j < nL) (h : stA L j (.ref x) = L') (k : G l z cc nL (pc + 1) L' st σ) : G l z cc nL pc L (.ref x :: st) σ := by
  obtain ⟨p, e, R, s, m, args, below, meth, c, Q, D, cy, ad, A, kc, ks'⟩ := z
  subst h
  exact fun ls H locs hl hP hS => lv_astore_n hz.1 hz.2.1 d hi hl hn (lc_stA (v := .ref x)) (fun ls' hl' => k ls' H locs hl' hP hS)
theorem g_astore (hz : ZOk z cc nL own fr lo) {i x : Nat} {L' : List (Nat × Value)} (d : decode cc pc = .ok (.astore i, 2)) (hn : i < nL) (h : stA L i (.ref x) = L') (k : G l z cc nL (pc + 2) L' st σ) : G l z cc nL pc L (.ref x :: st) σ := by
  obtain ⟨p, e, R, s, m, args, below, meth, c, Q, D, cy, ad, A, kc, ks'⟩ := z
  subst h
  exact fun ls H locs hl hP hS => lv_astore hz.1 hz.2.1 d hl hn (lc_stA (v := .ref x)) (fun ls' hl' => k ls' H locs hl' hP hS)
theorem g_iinc (hz : ZOk z cc nL own fr lo) {i : Nat} {n : Int} {x v : Int32} {L' : List (Nat × Value)} (q : Nat) (d : decode cc pc = .ok (.iinc i n, 3)) (hj : L[q]? = some (i, .int x)) (hv : x + Int32.ofInt n = v) (hn : i < nL) (h : stA L i (.int v) = L') (k : G l z cc nL (pc + 3) L' st σ) : G l z cc nL pc L st σ := by
  obtain ⟨p, e, R, s, m, args, below, meth, c, Q, D, cy, ad, A, kc, ks'⟩ := z
  subst h
  exact fun ls H locs hl hP hS => lv_iinc hz.1 hz.2.1 d hl (lc_at hj) hv hn (lc_stA (v := .int v)) (fun ls' hl' => k ls' H locs hl' hP hS)
theorem g_iadd (hz : ZOk z cc nL own fr lo) {x y : Int32} (d : decode cc pc = .ok (.iadd, 1)) (k : G l z cc nL (pc + 1) L (.int (x + y) :: st) σ) : G l z cc nL pc L (.int y :: .int x :: st) σ := by
  obtain ⟨p, e, R, s, m, args, below, meth, c, Q, D, cy, ad, A, kc, ks'⟩ := z
  exact fun ls H locs hl hP hS => lv_iadd hz.1 hz.2.1 d (k ls H locs hl hP hS)
theorem g_isub (hz : ZOk z cc nL own fr lo) {x y : Int32} (d : decode cc pc = .ok (.isub, 1)) (k : G l z cc nL (pc + 1) L (.int (x - y) :: st) σ) : G l z cc nL pc L (.int y :: .int x :: st) σ := by
  obtain ⟨p, e, R, s, m, args, below, meth, c, Q, D, cy, ad, A, kc, ks'⟩ := z
  exact fun ls H locs hl hP hS => lv_isub hz.1 hz.2.1 d (k ls H locs hl hP hS)
theorem g_imul (hz : ZOk z cc nL own fr lo) {x y : Int32} (d : decode cc pc = .ok (.imul, 1)) (k : G l z cc nL (pc + 1) L (.int (x * y) :: st) σ) : G l z cc nL pc L (.int y :: .int x :: st) σ := by
  obtain ⟨p, e, R, s, m, args, below, meth, c, Q, D, cy, ad, A, kc, ks'⟩ := z
  exact fun ls H locs hl hP hS => lv_imul hz.1 hz.2.1 d (k ls H locs hl hP hS)
theorem g_iand (hz : ZOk z cc nL own fr lo) {x y : Int32} (d : decode cc pc = .ok (.iand, 1)) (k : G l z cc nL (pc + 1) L (.int (x &&& y) :: st) σ) : G l z cc nL pc L (.int y :: .int x :: st) σ := by
  obtain ⟨p, e, R, s, m, args, below, meth, c, Q, D, cy, ad, A, kc, ks'⟩ := z
  exact fun ls H locs hl hP hS => lv_iand hz.1 hz.2.1 d (k ls H locs hl hP hS)
theorem g_ior (hz : ZOk z cc nL own fr lo) {x y : Int32} (d : decode cc pc = .ok (.ior, 1)) (k : G l z cc nL (pc + 1) L (.int (x ||| y) :: st) σ) : G l z cc nL pc L (.int y :: .int x :: st) σ := by
  obtain ⟨p, e, R, s, m, args, below, meth, c, Q, D, cy, ad, A, kc, ks'⟩ := z
  exact fun ls H locs hl hP hS => lv_ior hz.1 hz.2.1 d (k ls H locs hl hP hS)
theorem g_ixor (hz : ZOk z cc nL own fr lo) {x y : Int32} (d : decode cc pc = .ok (.ixor, 1)) (k : G l z cc nL (pc + 1) L (.int (x ^^^ y) :: st) σ) : G l z cc nL pc L (.int y :: .int x :: st) σ := by
  obtain ⟨p, e, R, s, m, args, below, meth, c, Q, D, cy, ad, A, kc, ks'⟩ := z
  exact fun ls H locs hl hP hS => lv_ixor hz.1 hz.2.1 d (k ls H locs hl hP hS)
theorem g_ishl (hz : ZOk z cc nL own fr lo) {x y : Int32} (d : decode cc pc = .ok (.ishl, 1)) (k : G l z cc nL (pc + 1) L (.int (x <<< (y &&& 31)) :: st) σ) : G l z cc nL pc L (.int y :: .int x :: st) σ := by
  obtain ⟨p, e, R, s, m, args, below, meth, c, Q, D, cy, ad, A, kc, ks'⟩ := z
  exact fun ls H locs hl hP hS => lv_ishl hz.1 hz.2.1 d (k ls H locs hl hP hS)
theorem g_ishr (hz : ZOk z cc nL own fr lo) {x y : Int32} (d : decode cc pc = .ok (.ishr, 1)) (k : G l z cc nL (pc + 1) L (.int (x >>> (y &&& 31)) :: st) σ) : G l z cc nL pc L (.int y :: .int x :: st) σ := by
  obtain ⟨p, e, R, s, m, args, below, meth, c, Q, D, cy, ad, A, kc, ks'⟩ := z
  exact fun ls H locs hl hP hS => lv_ishr hz.1 hz.2.1 d (k ls H locs hl hP hS)
theorem g_idiv (hz : ZOk z cc nL own fr lo) {x y : Int32} (d : decode cc pc = .ok (.idiv, 1)) (hne : ¬ y = 0) (k : G l z cc nL (pc + 1) L (.int (x / y) :: st) σ) : G l z cc nL pc L (.int y :: .int x :: st) σ := by
  obtain ⟨p, e, R, s, m, args, below, meth, c, Q, D, cy, ad, A, kc, ks'⟩ := z
  exact fun ls H locs hl hP hS => lv_idiv hz.1 hz.2.1 d hne (k ls H locs hl hP hS)
theorem g_ineg (hz : ZOk z cc nL own fr lo) {x : Int32} (d : decode cc pc = .ok (.ineg, 1)) (k : G l z cc nL (pc + 1) L (.int (-x) :: st) σ) : G l z cc nL pc L (.int x :: st) σ := by
  obtain ⟨p, e, R, s, m, args, below, meth, c, Q, D, cy, ad, A, kc, ks'⟩ := z
  exact fun ls H locs hl hP hS => lv_ineg hz.1 hz.2.1 d (k ls H locs hl hP hS)
theorem g_ladd (hz : ZOk z cc nL own fr lo) {x y : Int64} (d : decode cc pc = .ok (.ladd, 1)) (k : G l z cc nL (pc + 1) L (.long (x + y) :: st) σ) : G l z cc nL pc L (.long y :: .long x :: st) σ := by
  obtain ⟨p, e, R, s, m, args, below, meth, c, Q, D, cy, ad, A, kc, ks'⟩ := z
  exact fun ls H locs hl hP hS => lv_ladd hz.1 hz.2.1 d (k ls H locs hl hP hS)
theorem g_lsub (hz : ZOk z cc nL own fr lo) {x y : Int64} (d : decode cc pc = .ok (.lsub, 1)) (k : G l z cc nL (pc + 1) L (.long (x - y) :: st) σ) : G l z cc nL pc L (.long y :: .long x :: st) σ := by
  obtain ⟨p, e, R, s, m, args, below, meth, c, Q, D, cy, ad, A, kc, ks'⟩ := z
  exact fun ls H locs hl hP hS => lv_lsub hz.1 hz.2.1 d (k ls H locs hl hP hS)
theorem g_lmul (hz : ZOk z cc nL own fr lo) {x y : Int64} (d : decode cc pc = .ok (.lmul, 1)) (k : G l z cc nL (pc + 1) L (.long (x * y) :: st) σ) : G l z cc nL pc L (.long y :: .long x :: st) σ := by
  obtain ⟨p, e, R, s, m, args, below, meth, c, Q, D, cy, ad, A, kc, ks'⟩ := z
  exact fun ls H locs hl hP hS => lv_lmul hz.1 hz.2.1 d (k ls H locs hl hP hS)
theorem g_ldiv (hz : ZOk z cc nL own fr lo) {x y : Int64} (d : decode cc pc = .ok (.ldiv, 1)) (hne : ¬ y = 0) (k : G l z cc nL (pc + 1) L (.long (x / y) :: st) σ) : G l z cc nL pc L (.long y :: .long x :: st) σ := by
  obtain ⟨p, e, R, s, m, args, below, meth, c, Q, D, cy, ad, A, kc, ks'⟩ := z
  exact fun ls H locs hl hP hS => lv_ldiv hz.1 hz.2.1 d hne (k ls H locs hl hP hS)
theorem g_irem (hz : ZOk z cc nL own fr lo) {x y : Int32} (d : decode cc pc = .ok (.irem, 1)) (hne : ¬ y = 0) (k : G l z cc nL (pc + 1) L (.int (x - x / y * y) :: st) σ) : G l z cc nL pc L (.int y :: .int x :: st) σ := by
  obtain ⟨p, e, R, s, m, args, below, meth, c, Q, D, cy, ad, A, kc, ks'⟩ := z
  exact fun ls H locs hl hP hS => lv_irem hz.1 hz.2.1 d hne (k ls H locs hl hP hS)
theorem g_lrem (hz : ZOk z cc nL own fr lo) {x y : Int64} (d : decode cc pc = .ok (.lrem, 1)) (hne : ¬ y = 0) (k : G l z cc nL (pc + 1) L (.long (x - x / y * y) :: st) σ) : G l z cc nL pc L (.long y :: .long x :: st) σ := by
  obtain ⟨p, e, R, s, m, args, below, meth, c, Q, D, cy, ad, A, kc, ks'⟩ := z
  exact fun ls H locs hl hP hS => lv_lrem hz.1 hz.2.1 d hne (k ls H locs hl hP hS)
theorem g_iushr (hz : ZOk z cc nL own fr lo) {x y : Int32} (d : decode cc pc = .ok (.iushr, 1)) (k : G l z cc nL (pc + 1) L (.int ((x.toUInt32 >>> (y.toUInt32 &&& Int32.toUInt32 31)).toInt32) :: st) σ) : G l z cc nL pc L (.int y :: .int x :: st) σ := by
  obtain ⟨p, e, R, s, m, args, below, meth, c, Q, D, cy, ad, A, kc, ks'⟩ := z
  exact fun ls H locs hl hP hS => lv_iushr hz.1 hz.2.1 d rfl (k ls H locs hl hP hS)
theorem g_i2l (hz : ZOk z cc nL own fr lo) {x : Int32} (d : decode cc pc = .ok (.i2l, 1)) (k : G l z cc nL (pc + 1) L (.long x.toInt64 :: st) σ) : G l z cc nL pc L (.int x :: st) σ := by
  obtain ⟨p, e, R, s, m, args, below, meth, c, Q, D, cy, ad, A, kc, ks'⟩ := z
  exact fun ls H locs hl hP hS => lv_i2l hz.1 hz.2.1 d rfl (k ls H locs hl hP hS)
theorem g_lcmp (hz : ZOk z cc nL own fr lo) {x y : Int64} (d : decode cc pc = .ok (.lcmp, 1)) (k : G l z cc nL (pc + 1) L (.int (lg_cmp x y) :: st) σ) : G l z cc nL pc L (.long y :: .long x :: st) σ := by
  obtain ⟨p, e, R, s, m, args, below, meth, c, Q, D, cy, ad, A, kc, ks'⟩ := z
  exact fun ls H locs hl hP hS => W.lcmp hz.1 hz.2.1 d (k ls H locs hl hP hS)
theorem g_dup (hz : ZOk z cc nL own fr lo) {v : Value} (d : decode cc pc = .ok (.dup, 1)) (hv : v.category = 1) (k : G l z cc nL (pc + 1) L (v :: v :: st) σ) : G l z cc nL pc L (v :: st) σ := by
  obtain ⟨p, e, R, s, m, args, below, meth, c, Q, D, cy, ad, A, kc, ks'⟩ := z
  exact fun ls H locs hl hP hS => lv_dup hz.1 hz.2.1 d (by rw [vc_cat]; exact hv) (k ls H locs hl hP hS)
theorem g_dup2 (hz : ZOk z cc nL own fr lo) {v w : Value} (d : decode cc pc = .ok (.dup2, 1)) (hv : v.category = 1) (hw : w.category = 1) (k : G l z cc nL (pc + 1) L (v :: w :: v :: w :: st) σ) : G l z cc nL pc L (v :: w :: st) σ := by
  obtain ⟨p, e, R, s, m, args, below, meth, c, Q, D, cy, ad, A, kc, ks'⟩ := z
  exact fun ls H locs hl hP hS => lv_dup2_11 hz.1 hz.2.1 d (by rw [vc_cat]; exact hv) (by rw [vc_cat]; exact hw) (k ls H locs hl hP hS)
theorem g_pop (hz : ZOk z cc nL own fr lo) {v : Value} (d : decode cc pc = .ok (.pop, 1)) (hv : v.category = 1) (k : G l z cc nL (pc + 1) L st σ) : G l z cc nL pc L (v :: st) σ := by
  obtain ⟨p, e, R, s, m, args, below, meth, c, Q, D, cy, ad, A, kc, ks'⟩ := z
  exact fun ls H locs hl hP hS => lv_pop hz.1 hz.2.1 d (by rw [vc_cat]; exact hv) (k ls H locs hl hP hS)
theorem g_ifnonnull (hz : ZOk z cc nL own fr lo) {x : Nat} {off : Int} {tgt : Nat} (d : decode cc pc = .ok (.ifnonnull off, 3)) (ht : (pc : Int) + off = (tgt : Int)) (k : G l z cc nL tgt L st σ) : G l z cc nL pc L (.ref x :: st) σ := by
  obtain ⟨p, e, R, s, m, args, below, meth, c, Q, D, cy, ad, A, kc, ks'⟩ := z
  exact fun ls H locs hl hP hS => lv_ifnonnull hz.1 hz.2.1 d ht (k ls H locs hl hP hS)
theorem g_ifnull (hz : ZOk z cc nL own fr lo) {x : Nat} {off : Int} (d : decode cc pc = .ok (.ifnull off, 3)) (k : G l z cc nL (pc + 3) L st σ) : G l z cc nL pc L (.ref x :: st) σ := by
  obtain ⟨p, e, R, s, m, args, below, meth, c, Q, D, cy, ad, A, kc, ks'⟩ := z
  exact fun ls H locs hl hP hS => lv_ifnull hz.1 hz.2.1 d (k ls H locs hl hP hS)
theorem g_tin (hz : ZOk z cc nL own fr lo) {df a b : Int} {offs : Array Int} {len : Nat} {x x0 : Int32} {off : Int} {tgt : Nat} (d : decode cc pc = .ok (.tableswitch df a b offs, len)) (hx : x = x0) (h1 : ¬ x0.toInt < a) (h2 : ¬ b < x0.toInt) (ho : offs[(x0.toInt - a).toNat]? = some off) (ht : (pc : Int) + off = (tgt : Int)) (k : G l z cc nL tgt L st σ) : G l z cc nL pc L (.int x :: st) σ := by
  obtain ⟨p, e, R, s, m, args, below, meth, c, Q, D, cy, ad, A, kc, ks'⟩ := z
  subst hx
  exact fun ls H locs hl hP hS => lv_tableIn hz.1 hz.2.1 d h1 h2 ho ht (k ls H locs hl hP hS)
theorem g_tout (hz : ZOk z cc nL own fr lo) {df a b : Int} {offs : Array Int} {len : Nat} {x : Int32} {tgt : Nat} (d : decode cc pc = .ok (.tableswitch df a b offs, len)) (h : x.toInt < a ∨ b < x.toInt) (ht : (pc : Int) + df = (tgt : Int)) (k : G l z cc nL tgt L st σ) : G l z cc nL pc L (.int x :: st) σ := by
  obtain ⟨p, e, R, s, m, args, below, meth, c, Q, D, cy, ad, A, kc, ks'⟩ := z
  exact fun ls H locs hl hP hS => lv_tableOut hz.1 hz.2.1 d h ht (k ls H locs hl hP hS)
/-- the table's default: no listed number, or one whose place holds the default's offset -/
theorem g_tdf (hz : ZOk z cc nL own fr lo) {df a b : Int} {offs : Array Int} {len : Nat} {x : Int32} {tgt : Nat} (d : decode cc pc = .ok (.tableswitch df a b offs, len)) (h : ∀ i : Nat, i < (b - a + 1).toNat → x.toInt = a + i → offs[i]? = some df) (ht : (pc : Int) + df = (tgt : Int)) (k : G l z cc nL tgt L st σ) : G l z cc nL pc L (.int x :: st) σ := by
  by_cases h1 : x.toInt < a ∨ b < x.toInt
  · exact g_tout hz d h1 ht k
  · have h2 : ¬ x.toInt < a := fun q => h1 (Or.inl q)
    have h3 : ¬ b < x.toInt := fun q => h1 (Or.inr q)
    exact g_tin hz d rfl h2 h3 (h (x.toInt - a).toNat (by omega) (by omega)) ht k
theorem g_if_eq (hz : ZOk z cc nL own fr lo) {x : Int32} {off : Int} {tgt : Nat} (d : decode cc pc = .ok (.ifCond .eq off, 3)) (ht : (pc : Int) + off = (tgt : Int)) (kt : x = 0 → G l z cc nL tgt L st σ) (kf : ¬ x = 0 → G l z cc nL (pc + 3) L st σ) : G l z cc nL pc L (.int x :: st) σ := by
  obtain ⟨p, e, R, s, m, args, below, meth, c, Q, D, cy, ad, A, kc, ks'⟩ := z
  exact fun ls H locs hl hP hS => lv_if_eq hz.1 hz.2.1 d ht (fun q => kt q ls H locs hl hP hS) (fun q => kf q ls H locs hl hP hS)
theorem g_if_ne (hz : ZOk z cc nL own fr lo) {x : Int32} {off : Int} {tgt : Nat} (d : decode cc pc = .ok (.ifCond .ne off, 3)) (ht : (pc : Int) + off = (tgt : Int)) (kt : ¬ x = 0 → G l z cc nL tgt L st σ) (kf : x = 0 → G l z cc nL (pc + 3) L st σ) : G l z cc nL pc L (.int x :: st) σ := by
  obtain ⟨p, e, R, s, m, args, below, meth, c, Q, D, cy, ad, A, kc, ks'⟩ := z
  exact fun ls H locs hl hP hS => lv_if_ne hz.1 hz.2.1 d ht (fun q => kt q ls H locs hl hP hS) (fun q => kf q ls H locs hl hP hS)
theorem g_if_lt (hz : ZOk z cc nL own fr lo) {x : Int32} {off : Int} {tgt : Nat} (d : decode cc pc = .ok (.ifCond .lt off, 3)) (ht : (pc : Int) + off = (tgt : Int)) (kt : x < 0 → G l z cc nL tgt L st σ) (kf : ¬ x < 0 → G l z cc nL (pc + 3) L st σ) : G l z cc nL pc L (.int x :: st) σ := by
  obtain ⟨p, e, R, s, m, args, below, meth, c, Q, D, cy, ad, A, kc, ks'⟩ := z
  exact fun ls H locs hl hP hS => lv_if_lt hz.1 hz.2.1 d ht (fun q => kt q ls H locs hl hP hS) (fun q => kf q ls H locs hl hP hS)
theorem g_if_ge (hz : ZOk z cc nL own fr lo) {x : Int32} {off : Int} {tgt : Nat} (d : decode cc pc = .ok (.ifCond .ge off, 3)) (ht : (pc : Int) + off = (tgt : Int)) (kt : 0 ≤ x → G l z cc nL tgt L st σ) (kf : ¬ 0 ≤ x → G l z cc nL (pc + 3) L st σ) : G l z cc nL pc L (.int x :: st) σ := by
  obtain ⟨p, e, R, s, m, args, below, meth, c, Q, D, cy, ad, A, kc, ks'⟩ := z
  exact fun ls H locs hl hP hS => lv_if_ge hz.1 hz.2.1 d ht (fun q => kt q ls H locs hl hP hS) (fun q => kf q ls H locs hl hP hS)
theorem g_if_gt (hz : ZOk z cc nL own fr lo) {x : Int32} {off : Int} {tgt : Nat} (d : decode cc pc = .ok (.ifCond .gt off, 3)) (ht : (pc : Int) + off = (tgt : Int)) (kt : 0 < x → G l z cc nL tgt L st σ) (kf : ¬ 0 < x → G l z cc nL (pc + 3) L st σ) : G l z cc nL pc L (.int x :: st) σ := by
  obtain ⟨p, e, R, s, m, args, below, meth, c, Q, D, cy, ad, A, kc, ks'⟩ := z
  exact fun ls H locs hl hP hS => lv_if_gt hz.1 hz.2.1 d ht (fun q => kt q ls H locs hl hP hS) (fun q => kf q ls H locs hl hP hS)
theorem g_if_le (hz : ZOk z cc nL own fr lo) {x : Int32} {off : Int} {tgt : Nat} (d : decode cc pc = .ok (.ifCond .le off, 3)) (ht : (pc : Int) + off = (tgt : Int)) (kt : x ≤ 0 → G l z cc nL tgt L st σ) (kf : ¬ x ≤ 0 → G l z cc nL (pc + 3) L st σ) : G l z cc nL pc L (.int x :: st) σ := by
  obtain ⟨p, e, R, s, m, args, below, meth, c, Q, D, cy, ad, A, kc, ks'⟩ := z
  exact fun ls H locs hl hP hS => lv_if_le hz.1 hz.2.1 d ht (fun q => kt q ls H locs hl hP hS) (fun q => kf q ls H locs hl hP hS)
theorem g_icmp_eq (hz : ZOk z cc nL own fr lo) {x y : Int32} {off : Int} {tgt : Nat} (d : decode cc pc = .ok (.if_icmp .eq off, 3)) (ht : (pc : Int) + off = (tgt : Int)) (kt : x = y → G l z cc nL tgt L st σ) (kf : ¬ x = y → G l z cc nL (pc + 3) L st σ) : G l z cc nL pc L (.int y :: .int x :: st) σ := by
  obtain ⟨p, e, R, s, m, args, below, meth, c, Q, D, cy, ad, A, kc, ks'⟩ := z
  exact fun ls H locs hl hP hS => lv_icmp_eq hz.1 hz.2.1 d ht (fun q => kt q ls H locs hl hP hS) (fun q => kf q ls H locs hl hP hS)
theorem g_icmp_ne (hz : ZOk z cc nL own fr lo) {x y : Int32} {off : Int} {tgt : Nat} (d : decode cc pc = .ok (.if_icmp .ne off, 3)) (ht : (pc : Int) + off = (tgt : Int)) (kt : ¬ x = y → G l z cc nL tgt L st σ) (kf : x = y → G l z cc nL (pc + 3) L st σ) : G l z cc nL pc L (.int y :: .int x :: st) σ := by
  obtain ⟨p, e, R, s, m, args, below, meth, c, Q, D, cy, ad, A, kc, ks'⟩ := z
  exact fun ls H locs hl hP hS => lv_icmp_ne hz.1 hz.2.1 d ht (fun q => kt q ls H locs hl hP hS) (fun q => kf q ls H locs hl hP hS)
theorem g_icmp_lt (hz : ZOk z cc nL own fr lo) {x y : Int32} {off : Int} {tgt : Nat} (d : decode cc pc = .ok (.if_icmp .lt off, 3)) (ht : (pc : Int) + off = (tgt : Int)) (kt : x < y → G l z cc nL tgt L st σ) (kf : ¬ x < y → G l z cc nL (pc + 3) L st σ) : G l z cc nL pc L (.int y :: .int x :: st) σ := by
  obtain ⟨p, e, R, s, m, args, below, meth, c, Q, D, cy, ad, A, kc, ks'⟩ := z
  exact fun ls H locs hl hP hS => lv_icmp_lt hz.1 hz.2.1 d ht (fun q => kt q ls H locs hl hP hS) (fun q => kf q ls H locs hl hP hS)
theorem g_icmp_ge (hz : ZOk z cc nL own fr lo) {x y : Int32} {off : Int} {tgt : Nat} (d : decode cc pc = .ok (.if_icmp .ge off, 3)) (ht : (pc : Int) + off = (tgt : Int)) (kt : y ≤ x → G l z cc nL tgt L st σ) (kf : ¬ y ≤ x → G l z cc nL (pc + 3) L st σ) : G l z cc nL pc L (.int y :: .int x :: st) σ := by
  obtain ⟨p, e, R, s, m, args, below, meth, c, Q, D, cy, ad, A, kc, ks'⟩ := z
  exact fun ls H locs hl hP hS => lv_icmp_ge hz.1 hz.2.1 d ht (fun q => kt q ls H locs hl hP hS) (fun q => kf q ls H locs hl hP hS)
theorem g_icmp_gt (hz : ZOk z cc nL own fr lo) {x y : Int32} {off : Int} {tgt : Nat} (d : decode cc pc = .ok (.if_icmp .gt off, 3)) (ht : (pc : Int) + off = (tgt : Int)) (kt : y < x → G l z cc nL tgt L st σ) (kf : ¬ y < x → G l z cc nL (pc + 3) L st σ) : G l z cc nL pc L (.int y :: .int x :: st) σ := by
  obtain ⟨p, e, R, s, m, args, below, meth, c, Q, D, cy, ad, A, kc, ks'⟩ := z
  exact fun ls H locs hl hP hS => lv_icmp_gt hz.1 hz.2.1 d ht (fun q => kt q ls H locs hl hP hS) (fun q => kf q ls H locs hl hP hS)
theorem g_icmp_le (hz : ZOk z cc nL own fr lo) {x y : Int32} {off : Int} {tgt : Nat} (d : decode cc pc = .ok (.if_icmp .le off, 3)) (ht : (pc : Int) + off = (tgt : Int)) (kt : x ≤ y → G l z cc nL tgt L st σ) (kf : ¬ x ≤ y → G l z cc nL (pc + 3) L st σ) : G l z cc nL pc L (.int y :: .int x :: st) σ := by
  obtain ⟨p, e, R, s, m, args, below, meth, c, Q, D, cy, ad, A, kc, ks'⟩ := z
  exact fun ls H locs hl hP hS => lv_icmp_le hz.1 hz.2.1 d ht (fun q => kt q ls H locs hl hP hS) (fun q => kf q ls H locs hl hP hS)
/-- an int array's length, a read, a write -/
theorem g_alen (hz : ZOk z cc nL own fr lo) {o : Nat} {v : Int32} (ho : iA o) (hv : Int32.ofNat (aL o) = v) (d : decode cc pc = .ok (.arraylength, 1)) (k : G l z cc nL (pc + 1) L (.int v :: st) σ) : G l z cc nL pc L (.ref o :: st) σ := by
  obtain ⟨p, e, R, s, m, args, below, meth, c, Q, D, cy, ad, A, kc, ks'⟩ := z
  exact fun ls H locs hl hP hS => va_alen hz.1 hz.2.1 hz.2.2.2.2.2.2.2.2.2.1.1 hP o 0 (by rw [wl_at (iA_lt ho), wE_A ho]) rfl hv d (k ls H locs hl hP hS)
theorem g_iald (hz : ZOk z cc nL own fr lo) {o : Nat} {i : Int32} (ho : iA o) (hi : vp_in i (aL o)) (d : decode cc pc = .ok (.iaload, 1)) (k : G l z cc nL (pc + 1) L (.int (σ o i.toNatClampNeg) :: st) σ) : G l z cc nL pc L (.int i :: .ref o :: st) σ := by
  obtain ⟨p, e, R, s, m, args, below, meth, c, Q, D, cy, ad, A, kc, ks'⟩ := z
  exact fun ls H locs hl hP hS => va_iald hz.1 hz.2.1 hz.2.2.2.2.2.2.2.2.2.1.1 hP o 0 (by rw [wl_at (iA_lt ho), wE_A ho]) rfl hi d (k ls H locs hl hP hS)
theorem g_iast (hz : ZOk z cc nL own fr lo) {o : Nat} {i x : Int32} (ho : iA o) (hi : vp_in i (aL o)) (d : decode cc pc = .ok (.iastore, 1)) (k : ∀ σ1 : Mm, σ1 = mU σ o i.toNatClampNeg x → G l z cc nL (pc + 1) L st σ1) : G l z cc nL pc L (.int x :: .int i :: .ref o :: st) σ := by
  obtain ⟨p, e, R, s, m, args, below, meth, c, Q, D, cy, ad, A, kc, ks'⟩ := z
  intro ls H locs hl hP hS
  refine va_iast hz.1 hz.2.1 hz.2.2.2.2.2.2.2.2.2.1.1 hP (wl_D hz.2.2.2.2.2.2.2.2.2.2.1 hz.2.2.2.2.2.2.2.2.2.2.2) hS o 0 (by rw [wl_at (iA_lt ho), wE_A ho]) rfl hi d (fun H1 locs1 hP1 _ hS1 => ?_)
  rw [wl_set (iA_lt ho) (wE_A ho)] at hP1
  exact k _ rfl ls H1 locs1 hl hP1 hS1
theorem g_alenF (hz : ZOk z cc nL own fr lo) {o : Nat} (ho : iC o) (d : decode cc pc = .ok (.arraylength, 1)) (k : G l z cc nL (pc + 1) L (.int 6 :: st) σ) : G l z cc nL pc L (.ref (11 + o) :: st) σ := by
  obtain ⟨p, e, R, s, m, args, below, meth, c, Q, D, cy, ad, A, kc, ks'⟩ := z
  exact fun ls H locs hl hP hS => va_alen (x := (6, .inr (.inr (.inr (.inr (fun k => some (ad (33 + 7 * o + k)))))))) (v := 6) hz.1 hz.2.1 hz.2.2.2.2.2.2.2.2.2.1.1 hP (11 + o) 1 (by rw [wl_at (by have h : o < 11 := ho; omega), wE_FR ho]) rfl rfl d (k ls H locs hl hP hS)
theorem g_alenG (hz : ZOk z cc nL own fr lo) {o : Nat} (ho : iC o) (d : decode cc pc = .ok (.arraylength, 1)) (k : G l z cc nL (pc + 1) L (.int 4 :: st) σ) : G l z cc nL pc L (.ref (22 + o) :: st) σ := by
  obtain ⟨p, e, R, s, m, args, below, meth, c, Q, D, cy, ad, A, kc, ks'⟩ := z
  exact fun ls H locs hl hP hS => va_alen (x := (4, .inr (.inr (.inr (.inr (fun k => some (ad (110 + 5 * o + k)))))))) (v := 4) hz.1 hz.2.1 hz.2.2.2.2.2.2.2.2.2.1.1 hP (22 + o) 2 (by rw [wl_at (by have h : o < 11 := ho; omega), wE_GR ho]) rfl rfl d (k ls H locs hl hP hS)
theorem g_alenC (hz : ZOk z cc nL own fr lo) (d : decode cc pc = .ok (.arraylength, 1)) (k : G l z cc nL (pc + 1) L (.int 8 :: st) σ) : G l z cc nL pc L (.ref 168 :: st) σ := by
  obtain ⟨p, e, R, s, m, args, below, meth, c, Q, D, cy, ad, A, kc, ks'⟩ := z
  exact fun ls H locs hl hP hS => va_alen hz.1 hz.2.1 hz.2.2.2.2.2.2.2.2.2.1.1 hP 168 3 (wl_at (by decide)) rfl rfl d (k ls H locs hl hP hS)
theorem g_aaldF (hz : ZOk z cc nL own fr lo) {o : Nat} {i : Int32} (ho : iC o) (hi : vp_in i 6) (d : decode cc pc = .ok (.aaload, 1)) (k : G l z cc nL (pc + 1) L (.ref (33 + 7 * o + i.toNatClampNeg) :: st) σ) : G l z cc nL pc L (.int i :: .ref (11 + o) :: st) σ := by
  obtain ⟨p, e, R, s, m, args, below, meth, c, Q, D, cy, ad, A, kc, ks'⟩ := z
  exact fun ls H locs hl hP hS => va_aldq (C := R_F) (n := 6) (f := fun k => some (ad (33 + 7 * o + k))) hz.1 hz.2.1 hz.2.2.2.2.2.2.2.2.2.1.1 hP (11 + o) 1 (by rw [wl_at (by have h : o < 11 := ho; omega), wE_FR ho]) rfl hi d (k ls H locs hl hP hS)
theorem g_aaldG (hz : ZOk z cc nL own fr lo) {o : Nat} {i : Int32} (ho : iC o) (hi : vp_in i 4) (d : decode cc pc = .ok (.aaload, 1)) (k : G l z cc nL (pc + 1) L (.ref (110 + 5 * o + i.toNatClampNeg) :: st) σ) : G l z cc nL pc L (.int i :: .ref (22 + o) :: st) σ := by
  obtain ⟨p, e, R, s, m, args, below, meth, c, Q, D, cy, ad, A, kc, ks'⟩ := z
  exact fun ls H locs hl hP hS => va_aldq (C := R_G) (n := 4) (f := fun k => some (ad (110 + 5 * o + k))) hz.1 hz.2.1 hz.2.2.2.2.2.2.2.2.2.1.1 hP (22 + o) 2 (by rw [wl_at (by have h : o < 11 := ho; omega), wE_GR ho]) rfl hi d (k ls H locs hl hP hS)
theorem g_aaldC (hz : ZOk z cc nL own fr lo) {i : Int32} (hi : vp_in i 8) (d : decode cc pc = .ok (.aaload, 1)) (k : G l z cc nL (pc + 1) L (.ref (3 + i.toNatClampNeg) :: st) σ) : G l z cc nL pc L (.int i :: .ref 168 :: st) σ := by
  obtain ⟨p, e, R, s, m, args, below, meth, c, Q, D, cy, ad, A, kc, ks'⟩ := z
  exact fun ls H locs hl hP hS => va_aldq (C := R_C) (n := 8) (f := fun k => some (ad (3 + k))) hz.1 hz.2.1 hz.2.2.2.2.2.2.2.2.2.1.1 hP 168 3 (wl_at (by decide)) rfl hi d (k ls H locs hl hP hS)
/-- a field's read, a write of a number -/
theorem g_get (hz : ZOk z cc nL own fr lo) {o k N ci ix : Nat} {C : String} {T : u_T} {v : Value} (ho : o < 196) (hin : ∀ w ∈ u_ws C T N, w ∈ tbG) (hc : wCls[ci]? = some (C, T, N)) (he : ∀ (cy : Cy) (ad : Nat → Nat), ∃ fs, wE cy ad (σ o) o = .inr (ci, fs) ∧ fs[k]? = some (vc ad v)) (hk : k < N) (hC : (T k).1 = C) (lk : Cond.fieldLink own ix C (T k).2.1 (T k).2.2.1 ∈ tbG) (d : decode cc pc = .ok (.getfield ix, 3)) (kk : G l z cc nL (pc + 3) L (v :: st) σ) : G l z cc nL pc L (.ref o :: st) σ := by
  obtain ⟨p, e, R, s, m, args, below, meth, c, Q, D, cy, ad, A, kc, ks'⟩ := z
  obtain ⟨fs, h1, h2⟩ := he cy ad
  exact fun ls H locs hl hP hS => va_get hz.1 hz.2.1 hz.2.2.2.2.1 hin hz.2.2.2.1 hz.2.2.2.2.2.2.2.2.2.1.1 hP o (by rw [wl_at ho, h1]) hc k hk (hz.2.2.2.2.1 _ lk) (fun x hx => by rw [hC] at hx; exact hx) h2 d (kk ls H locs hl hP hS)
theorem g_put (hz : ZOk z cc nL own fr lo) {o k N ci ix : Nat} {C : String} {T : u_T} {ty0 : Nat → FieldType} {ty : FieldType} {v : Int32} (ho : o < 196) (hin : ∀ w ∈ u_ws C T N, w ∈ tbG) (hty : ∀ k, k < N → parseFieldDescriptor (T k).2.2.1 = some (ty0 k)) (hnm : ∀ a, a < N → ∀ b, b < N → a ≠ b → (T a).2.1 ≠ (T b).2.1) (hc : wCls[ci]? = some (C, T, N)) (he : ∀ (cy : Cy) (ad : Nat → Nat), ∃ fs, wE cy ad (σ o) o = .inr (ci, fs) ∧ wE cy ad (upd (σ o) k v) o = .inr (ci, fs.set k (.int v)) ∧ k < fs.length) (hk : k < N) (hC : (T k).1 = C) (hfin : (T k).2.2.2 = false) (hd : parseFieldDescriptor (T k).2.2.1 = some ty) (hnar : narrow ty (.int v) = .int v) (hfit : fits ty (.int v) = true) (lk : Cond.fieldLink own ix C (T k).2.1 (T k).2.2.1 ∈ tbG) (d : decode cc pc = .ok (.putfield ix, 3)) (kk : ∀ σ1 : Mm, σ1 = mU σ o k v → G l z cc nL (pc + 3) L st σ1) : G l z cc nL pc L (.int v :: .ref o :: st) σ := by
  obtain ⟨p, e, R, s, m, args, below, meth, c, Q, D, cy, ad, A, kc, ks'⟩ := z
  obtain ⟨fs, h1, h2, h3⟩ := he cy ad
  intro ls H locs hl hP hS
  refine va_put hz.1 hz.2.1 hz.2.2.2.2.1 hin ty0 hty hnm hz.2.2.2.1 hz.2.2.2.2.2.2.2.2.2.1.1 hP (wl_D hz.2.2.2.2.2.2.2.2.2.2.1 hz.2.2.2.2.2.2.2.2.2.2.2) hS o (by rw [wl_at ho, h1]) hc k hk (hz.2.2.2.2.1 _ lk) (fun x hx => by rw [hC] at hx; exact hx) hfin hd hnar hfit h3 d (fun H1 locs1 hP1 _ hS1 => ?_)
  have hP1 : va_P D wCls ((wl cy ad σ).set o (ad o, .inr (ci, fs.set k (.int v)))) H1 := hP1
  rw [wl_set ho h2] at hP1
  exact kk _ rfl ls H1 locs1 hl hP1 hS1
/-- ends -/
theorem g_iret (hz : ZOk z cc nL own fr lo) {v : Int32} (hr : ZR z (some .int) σ (some (.int v))) (d : decode cc pc = .ok (.ireturn, 1)) : G l z cc nL pc L [.int v] σ := by
  obtain ⟨p, e, R, s, m, args, below, meth, c, Q, D, cy, ad, A, kc, ks'⟩ := z
  obtain ⟨hr, rfl, rfl⟩ := hr
  exact fun ls H locs hl hP hS => W.iret hz.1 hz.2.1 hr (fun t ht hW => ⟨⟨rfl, by rw [ht]; exact hP⟩, hS.F ht⟩) hS.2.2 d hz.2.2.2.2.2.1
theorem g_zret (hz : ZOk z cc nL own fr lo) {v : Int32} (hr : ZR z (some .boolean) σ (some (.int v))) (hv : v = 0 ∨ v = 1) (d : decode cc pc = .ok (.ireturn, 1)) : G l z cc nL pc L [.int v] σ := by
  obtain ⟨p, e, R, s, m, args, below, meth, c, Q, D, cy, ad, A, kc, ks'⟩ := z
  obtain ⟨hr, rfl, rfl⟩ := hr
  exact fun ls H locs hl hP hS => W.zret hz.1 hz.2.1 hr (by rcases hv with rfl | rfl <;> rfl) (fun t ht hW => ⟨⟨rfl, by rw [ht]; exact hP⟩, hS.F ht⟩) hS.2.2 d hz.2.2.2.2.2.1
theorem g_lret (hz : ZOk z cc nL own fr lo) {v : Int64} (hr : ZR z (some .long) σ (some (.long v))) (d : decode cc pc = .ok (.lreturn, 1)) : G l z cc nL pc L [.long v] σ := by
  obtain ⟨p, e, R, s, m, args, below, meth, c, Q, D, cy, ad, A, kc, ks'⟩ := z
  obtain ⟨hr, rfl, rfl⟩ := hr
  exact fun ls H locs hl hP hS => W.lret hz.1 hz.2.1 hr (fun t ht hW => ⟨⟨rfl, by rw [ht]; exact hP⟩, hS.F ht⟩) hS.2.2 d hz.2.2.2.2.2.1
theorem g_aret (hz : ZOk z cc nL own fr lo) {v : Nat} {n : String} (hr : ZR z (some (.object n)) σ (some (.ref v))) (d : decode cc pc = .ok (.areturn, 1)) : G l z cc nL pc L [.ref v] σ := by
  obtain ⟨p, e, R, s, m, args, below, meth, c, Q, D, cy, ad, A, kc, ks'⟩ := z
  obtain ⟨hr, rfl, rfl⟩ := hr
  exact fun ls H locs hl hP hS => W.aret hz.1 hz.2.1 hr (Or.inl ⟨_, rfl⟩) (Or.inr ⟨_, rfl⟩) (fun t ht hW => ⟨⟨rfl, by rw [ht]; exact hP⟩, hS.F ht⟩) hS.2.2 d hz.2.2.2.2.2.1
theorem g_vret (hz : ZOk z cc nL own fr lo) (hr : ZR z none σ none) (d : decode cc pc = .ok (.return_, 1)) : G l z cc nL pc L [] σ := by
  obtain ⟨p, e, R, s, m, args, below, meth, c, Q, D, cy, ad, A, kc, ks'⟩ := z
  obtain ⟨hr, rfl, rfl⟩ := hr
  exact fun ls H locs hl hP hS => W.vret hz.1 hz.2.1 hr (fun t ht hW => ⟨⟨rfl, by rw [ht]; exact hP⟩, hS.F ht⟩) hS.2.2 d hz.2.2.2.2.2.1
/-- calls -/
def MV (y : MethodName) (bytes : ByteArray) (maxL : Nat) (ret : Option FieldType) (n : Nat) : Prop := Cond.code y bytes maxL ret ∈ tbG ∧ Cond.initialized y.cls ∈ tbG ∧ (y.cls ≠ "java/lang/invoke/MethodHandle" ∧ y.cls ≠ "java/lang/invoke/VarHandle" ∧ (parseMethodDescriptor y.desc).map (fun d => d.parameters.length) = some n)
theorem pc_blind (as : List Value) (D : va_G) (cy : Cy) (ad : Nat → Nat) (σ : Mm) : FrameBlind (va_Pc as (fun U => va_P D wCls (wl cy ad σ) U.heap ∧ KU D cy U)) := fun a U g mk h => ⟨h.1, h.2.1, KU.blind (s := U) (U := U.calling g mk a) rfl h.2.2⟩
/-- what a run of a call gives -/
theorem g_run {p : Program} {e : Env} {R : Room} {s : State} {m : MethodId} {args : Array Value} {below : List Frame} {meth : Method} {c : Code} {Q : State → Prop} {D : va_G} {cy : Cy} {ad : Nat → Nat} {A : Nat → Prop} {kc kn : Nat} {ls : Array Slot} {H : Heap} {locs : List Loc} {stk : List Value} {σ' : Mm} {r : Option Value} {a : Array Value} (hA : ∀ q, Aad ad q → A q)
    (hS : va_S A s.heap H locs) (hl : lv_has ls nL (lc ad L)) (hr : va_Run p l e R s m args below meth c H locs kc kn 0 0 (F0 m pc ls stk) (st.map (vc ad)) (mQ D cy ad σ' r a) (Aad ad)) (kk : G l (p, e, R, s, m, args, below, meth, c, Q, D, cy, ad, A, kc, kn) cc nL (pc + 3) L (r.toList ++ st) σ') : W p l e R s m args below meth c H locs kc kn Q (F0 m pc ls stk) := by
  intro T hT X
  obtain ⟨v, st₀, t, T', L1, h0, X', hL, e1, e2, ⟨⟨hv, hP'⟩, hz, hk⟩, sti⟩ := hr T hT X
  cases hv
  rw [h0] at hz hk
  have hP1 : va_P D wCls (wl cy ad σ') T'.heap := by rw [e1]; exact hP'
  have hS1 : va_S A s.heap T'.heap (locs ++ L1) := ⟨Nat.le_trans hS.1 (by rw [e1]; exact hz), fun q h1 h2 => by rw [e1, hk q (Nat.lt_of_lt_of_le h1 hS.1) (fun z => h2 (hA q z))]; exact hS.2.1 q h1 h2, fun q hq => by
      rcases List.mem_append.mp hq with h | h
      · exact hS.2.2 q h
      · exact hA _ (hL q h)⟩
  obtain ⟨t2, a1, b1⟩ := kk ls T'.heap (locs ++ L1) hl hP1 hS1 T' rfl X'
  refine ⟨t2, sti t2 ?_, b1⟩
  rw [List.map_append] at a1
  have e3 : r.toList.map (vc ad) = (r.map (vc ad)).toList := by cases r <;> rfl
  rw [e3] at a1
  exact a1
theorem g_callV (hz : ZOk z cc nL own fr lo) {y : MethodName} {bytes : ByteArray} {maxL : Nat} {ret : Option FieldType} {fr' lo' n b ci ix : Nat} {as stk : List Value} {r : Option Value} {σ' : Mm} {q : vw_C} (hM : Cm l y bytes maxL ret fr' lo' (.ref b :: as) σ σ' r) (hb : b < 196) (he : ∀ (cy : Cy) (ad : Nat → Nat), ∃ fs, wE cy ad (σ b) b = .inr (ci, fs)) (hc : wCls[ci]? = some q) (hq : q.1 = y.cls) (mm : MV y bytes maxL ret n) (hi : Cond.instanceMethod y ∈ tbG) (hs : Cond.selects y.cls y y ∈ tbG) (lk : Cond.methodLink own ix y ∈ tbG) (hR : fr' + 1 ≤ fr ∧ 8 + (maxL + 11) + lo' ≤ lo) (hn : as.length = n) (hst : stk = as.reverse ++ .ref b :: st) (hW : (st.map fun v => v.category).sum ≤ 8) (d : decode cc pc = .ok (.invokevirtual ix, 3)) (kk : G l z cc nL (pc + 3) L (r.toList ++ st) σ') : G l z cc nL pc L stk σ := by
  obtain ⟨p, e, R, s, m, args, below, meth, c, Q, D, cy, ad, A, kc, ks'⟩ := z
  obtain ⟨hx, hb0, hml, hown, hts, hlk, rfl, rfl, hroom, hK, hI, hA⟩ := hz
  intro ls H locs hl hP hS
  obtain ⟨fs, h1⟩ := he cy ad
  obtain ⟨m1, m2, m3⟩ := mm
  have hrec := va_recv hK.1 hP (ci := ci) (q0 := b) (a := ad b) (fs := fs) hc (by rw [wl_at hb, h1])
  refine g_run (a := (Value.ref (ad b) :: as.map (vc ad)).toArray) (σ' := σ') (r := r) hA hS hl ?_ kk
  exact va_runV (As := as.map (vc ad)) (b := ad b) (C := y.cls) (rest := st.map (vc ad)) (nL := nL) ⟨hx, hb0, hml, hown, hts⟩ (hM D cy ad hI) ⟨callB_of n hts (giG m1) rfl rfl rfl (hts _ m2) (hts _ lk) m3 hR, hts _ hi, hts _ hs⟩
    ⟨pc_blind _ _ _ _ _, hq ▸ hrec, fun U hU hW1 => ⟨rfl, by rw [hU]; exact hP, hK.warm hW1⟩⟩ rfl (by rw [List.length_map]; exact hn) hl.1 (by rw [hst]; simp [vc, List.map_reverse]) (lv_room (by rw [vc_cats]; exact hW)) d ⟨hroom.1, hroom.2⟩
theorem g_callVN (hz : ZOk z cc nL own fr lo) {y : MethodName} {bytes : ByteArray} {maxL : Nat} {ret : Option FieldType} {fr' lo' n b ci ix : Nat} {host : String} {as stk : List Value} {r : Option Value} {σ' : Mm} {q : vw_C} (hM : Cm l y bytes maxL ret fr' lo' (.ref b :: as) σ σ' r) (hb : b < 196) (he : ∀ (cy : Cy) (ad : Nat → Nat), ∃ fs, wE cy ad (σ b) b = .inr (ci, fs)) (hc : wCls[ci]? = some q) (hq : q.1 = y.cls) (mm : MV y bytes maxL ret n) (hi : Cond.instanceMethod y ∈ tbG) (hs : Cond.selects y.cls y y ∈ tbG) (lk : ∀ (D : va_G) (cy : Cy) (s : State), KU D cy s → va_Nw (.methodLinkNest own ix y host) s) (hR : fr' + 1 ≤ fr ∧ 8 + (maxL + 11) + lo' ≤ lo) (hn : as.length = n) (hst : stk = as.reverse ++ .ref b :: st) (hW : (st.map fun v => v.category).sum ≤ 8) (d : decode cc pc = .ok (.invokevirtual ix, 3)) (kk : G l z cc nL (pc + 3) L (r.toList ++ st) σ') : G l z cc nL pc L stk σ := by
  obtain ⟨p, e, R, s, m, args, below, meth, c, Q, D, cy, ad, A, kc, ks'⟩ := z
  obtain ⟨hx, hb0, hml, hown, hts, hlk, rfl, rfl, hroom, hK, hI, hA⟩ := hz
  intro ls H locs hl hP hS
  obtain ⟨fs, h1⟩ := he cy ad
  obtain ⟨m1, m2, m3⟩ := mm
  have hrec := va_recv hK.1 hP (ci := ci) (q0 := b) (a := ad b) (fs := fs) hc (by rw [wl_at hb, h1])
  refine g_run (a := (Value.ref (ad b) :: as.map (vc ad)).toArray) (σ' := σ') (r := r) hA hS hl ?_ kk
  exact va_runVN (As := as.map (vc ad)) (b := ad b) (C := y.cls) (rest := st.map (vc ad)) (nL := nL) ⟨hx, hb0, hml, hown, hts⟩ (hM D cy ad hI) ⟨va_cnB n hts (giG m1) rfl rfl rfl (lk D cy s hK) (hts _ m2) m3 hR, hts _ hi, hts _ hs⟩
    ⟨pc_blind _ _ _ _ _, hq ▸ hrec, fun U hU hW1 => ⟨rfl, by rw [hU]; exact hP, hK.warm hW1⟩⟩ rfl (by rw [List.length_map]; exact hn) hl.1 (by rw [hst]; simp [vc, List.map_reverse]) (lv_room (by rw [vc_cats]; exact hW)) d ⟨hroom.1, hroom.2⟩
theorem g_callS (hz : ZOk z cc nL own fr lo) {y : MethodName} {bytes : ByteArray} {maxL : Nat} {ret : Option FieldType} {fr' lo' n ix : Nat} {as stk : List Value} {r : Option Value} {σ' : Mm} (hM : Cm l y bytes maxL ret fr' lo' as σ σ' r) (mm : MV y bytes maxL ret n) (hi : Cond.static y ∈ tbG) (lk : Cond.methodLink own ix y ∈ tbG) (hR : fr' + 1 ≤ fr ∧ 8 + (maxL + 11) + lo' ≤ lo) (hn : as.length = n) (hst : stk = as.reverse ++ st) (hW : (st.map fun v => v.category).sum ≤ 8) (d : decode cc pc = .ok (.invokestatic ix, 3)) (kk : G l z cc nL (pc + 3) L (r.toList ++ st) σ') : G l z cc nL pc L stk σ := by
  obtain ⟨p, e, R, s, m, args, below, meth, c, Q, D, cy, ad, A, kc, ks'⟩ := z
  obtain ⟨hx, hb0, hml, hown, hts, hlk, rfl, rfl, hroom, hK, hI, hA⟩ := hz
  intro ls H locs hl hP hS
  obtain ⟨m1, m2, m3⟩ := mm
  refine g_run (a := (as.map (vc ad)).toArray) (σ' := σ') (r := r) hA hS hl ?_ kk
  exact va_runS (As := as.map (vc ad)) (rest := st.map (vc ad)) (nL := nL) ⟨hx, hb0, hml, hown, hts⟩ (hM D cy ad hI) ⟨callB_of n hts (giG m1) rfl rfl rfl (hts _ m2) (hts _ lk) m3 hR, hts _ hi⟩
    ⟨pc_blind _ _ _ _ _, fun U hU hW1 => ⟨rfl, by rw [hU]; exact hP, hK.warm hW1⟩⟩ rfl (by rw [List.length_map]; exact hn) hl.1 (by rw [hst]; simp [List.map_reverse]) (lv_room (by rw [vc_cats]; exact hW)) d ⟨hroom.1, hroom.2⟩
theorem g_callSN (hz : ZOk z cc nL own fr lo) {y : MethodName} {bytes : ByteArray} {maxL : Nat} {ret : Option FieldType} {fr' lo' n ix : Nat} {host : String} {as stk : List Value} {r : Option Value} {σ' : Mm} (hM : Cm l y bytes maxL ret fr' lo' as σ σ' r) (mm : MV y bytes maxL ret n) (hi : Cond.static y ∈ tbG) (lk : ∀ (D : va_G) (cy : Cy) (s : State), KU D cy s → va_Nw (.methodLinkNest own ix y host) s) (hR : fr' + 1 ≤ fr ∧ 8 + (maxL + 11) + lo' ≤ lo) (hn : as.length = n) (hst : stk = as.reverse ++ st) (hW : (st.map fun v => v.category).sum ≤ 8) (d : decode cc pc = .ok (.invokestatic ix, 3)) (kk : G l z cc nL (pc + 3) L (r.toList ++ st) σ') : G l z cc nL pc L stk σ := by
  obtain ⟨p, e, R, s, m, args, below, meth, c, Q, D, cy, ad, A, kc, ks'⟩ := z
  obtain ⟨hx, hb0, hml, hown, hts, hlk, rfl, rfl, hroom, hK, hI, hA⟩ := hz
  intro ls H locs hl hP hS
  obtain ⟨m1, m2, m3⟩ := mm
  refine g_run (a := (as.map (vc ad)).toArray) (σ' := σ') (r := r) hA hS hl ?_ kk
  exact va_runSN (As := as.map (vc ad)) (rest := st.map (vc ad)) (nL := nL) ⟨hx, hb0, hml, hown, hts⟩ (hM D cy ad hI) ⟨va_cnB n hts (giG m1) rfl rfl rfl (lk D cy s hK) (hts _ m2) m3 hR, hts _ hi, trivial⟩
    ⟨pc_blind _ _ _ _ _, fun U hU hW1 => ⟨rfl, by rw [hU]; exact hP, hK.warm hW1⟩⟩ rfl (by rw [List.length_map]; exact hn) hl.1 (by rw [hst]; simp [List.map_reverse]) (lv_room (by rw [vc_cats]; exact hW)) d ⟨hroom.1, hroom.2⟩
end ROWS
end
