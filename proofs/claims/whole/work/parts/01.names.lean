-- ===== PART A: goes FIRST, ahead of the names: the tables' words, and 'selects' of the private methods out of them =====
/-- a private method of a class that the tables say can be made, by its rows of tables_1 -/
def lw_okq (q : MethodName × Nat) : Prop := (q.1.cls ≠ "java/lang/invoke/MethodHandle" ∧ q.1.cls ≠ "java/lang/invoke/VarHandle") ∧ Cond.instantiable q.1.cls q.2 ∈ tables_1 ∧ Cond.privateMethod q.1 ∈ tables_1 ∧ Cond.instanceMethod q.1 ∈ tables_1
theorem lw_p0 : lw_okq (⟨"RabbitList", "found", "(I)I"⟩, 11) := ⟨⟨by decide +kernel, by decide +kernel⟩, List.mem_of_getElem? (i := 19) (by decide +kernel), List.mem_of_getElem? (i := 296) (by decide +kernel), List.mem_of_getElem? (i := 297) (by decide +kernel)⟩
theorem lw_p1 : lw_okq (⟨"RabbitList", "foundNothing", "(I)I"⟩, 11) := ⟨⟨by decide +kernel, by decide +kernel⟩, List.mem_of_getElem? (i := 19) (by decide +kernel), List.mem_of_getElem? (i := 305) (by decide +kernel), List.mem_of_getElem? (i := 306) (by decide +kernel)⟩
theorem lw_p2 : lw_okq (⟨"RabbitList$Rows", "isSpan", "(III)Z"⟩, 3) := ⟨⟨by decide +kernel, by decide +kernel⟩, List.mem_of_getElem? (i := 27) (by decide +kernel), List.mem_of_getElem? (i := 321) (by decide +kernel), List.mem_of_getElem? (i := 322) (by decide +kernel)⟩
theorem lw_p3 : lw_okq (⟨"RabbitList$Tape", "readLaw", "(LRabbitList$Stage;)Z"⟩, 5) := ⟨⟨by decide +kernel, by decide +kernel⟩, List.mem_of_getElem? (i := 46) (by decide +kernel), List.mem_of_getElem? (i := 378) (by decide +kernel), List.mem_of_getElem? (i := 379) (by decide +kernel)⟩
theorem lw_p4 : lw_okq (⟨"RabbitList$Tape", "here", "()I"⟩, 5) := ⟨⟨by decide +kernel, by decide +kernel⟩, List.mem_of_getElem? (i := 46) (by decide +kernel), List.mem_of_getElem? (i := 382) (by decide +kernel), List.mem_of_getElem? (i := 383) (by decide +kernel)⟩
theorem lw_p5 : lw_okq (⟨"RabbitList$Tape", "flawed", "(I)Z"⟩, 5) := ⟨⟨by decide +kernel, by decide +kernel⟩, List.mem_of_getElem? (i := 46) (by decide +kernel), List.mem_of_getElem? (i := 386) (by decide +kernel), List.mem_of_getElem? (i := 387) (by decide +kernel)⟩
theorem lw_p6 : lw_okq (⟨"RabbitList$Tape", "readNumber", "(IIC)I"⟩, 5) := ⟨⟨by decide +kernel, by decide +kernel⟩, List.mem_of_getElem? (i := 46) (by decide +kernel), List.mem_of_getElem? (i := 390) (by decide +kernel), List.mem_of_getElem? (i := 391) (by decide +kernel)⟩
theorem lw_p7 : lw_okq (⟨"RabbitList$Tape", "isFigure", "(I)Z"⟩, 5) := ⟨⟨by decide +kernel, by decide +kernel⟩, List.mem_of_getElem? (i := 46) (by decide +kernel), List.mem_of_getElem? (i := 394) (by decide +kernel), List.mem_of_getElem? (i := 395) (by decide +kernel)⟩
theorem lw_p8 : lw_okq (⟨"RabbitList$Tape", "readThing", "(LRabbitList$Stage;)Z"⟩, 5) := ⟨⟨by decide +kernel, by decide +kernel⟩, List.mem_of_getElem? (i := 46) (by decide +kernel), List.mem_of_getElem? (i := 398) (by decide +kernel), List.mem_of_getElem? (i := 399) (by decide +kernel)⟩
theorem lw_p9 : lw_okq (⟨"RabbitList$Tape", "sortHere", "()I"⟩, 5) := ⟨⟨by decide +kernel, by decide +kernel⟩, List.mem_of_getElem? (i := 46) (by decide +kernel), List.mem_of_getElem? (i := 402) (by decide +kernel), List.mem_of_getElem? (i := 403) (by decide +kernel)⟩
theorem lw_p10 : lw_okq (⟨"RabbitList$Tape", "readSeat", "(LRabbitList$Stage;)Z"⟩, 5) := ⟨⟨by decide +kernel, by decide +kernel⟩, List.mem_of_getElem? (i := 46) (by decide +kernel), List.mem_of_getElem? (i := 501) (by decide +kernel), List.mem_of_getElem? (i := 502) (by decide +kernel)⟩
theorem lw_p11 : lw_okq (⟨"RabbitList", "noShow", "()Z"⟩, 11) := ⟨⟨by decide +kernel, by decide +kernel⟩, List.mem_of_getElem? (i := 19) (by decide +kernel), List.mem_of_getElem? (i := 558) (by decide +kernel), List.mem_of_getElem? (i := 559) (by decide +kernel)⟩
theorem lw_p12 : lw_okq (⟨"RabbitList$Stage", "chosen", "()I"⟩, 18) := ⟨⟨by decide +kernel, by decide +kernel⟩, List.mem_of_getElem? (i := 68) (by decide +kernel), List.mem_of_getElem? (i := 571) (by decide +kernel), List.mem_of_getElem? (i := 572) (by decide +kernel)⟩
theorem lw_p13 : lw_okq (⟨"RabbitList$Stage", "lendPatience", "()V"⟩, 18) := ⟨⟨by decide +kernel, by decide +kernel⟩, List.mem_of_getElem? (i := 68) (by decide +kernel), List.mem_of_getElem? (i := 592) (by decide +kernel), List.mem_of_getElem? (i := 593) (by decide +kernel)⟩
theorem lw_p14 : lw_okq (⟨"RabbitList$Stage", "gladden", "(I)V"⟩, 18) := ⟨⟨by decide +kernel, by decide +kernel⟩, List.mem_of_getElem? (i := 68) (by decide +kernel), List.mem_of_getElem? (i := 601) (by decide +kernel), List.mem_of_getElem? (i := 602) (by decide +kernel)⟩
theorem lw_p15 : lw_okq (⟨"RabbitList$Stage", "passTime", "()V"⟩, 18) := ⟨⟨by decide +kernel, by decide +kernel⟩, List.mem_of_getElem? (i := 68) (by decide +kernel), List.mem_of_getElem? (i := 605) (by decide +kernel), List.mem_of_getElem? (i := 606) (by decide +kernel)⟩
def lw_privs_1 : List (MethodName × Nat) := [(⟨"RabbitList", "found", "(I)I"⟩, 11), (⟨"RabbitList", "foundNothing", "(I)I"⟩, 11), (⟨"RabbitList$Rows", "isSpan", "(III)Z"⟩, 3), (⟨"RabbitList$Tape", "readLaw", "(LRabbitList$Stage;)Z"⟩, 5), (⟨"RabbitList$Tape", "here", "()I"⟩, 5), (⟨"RabbitList$Tape", "flawed", "(I)Z"⟩, 5), (⟨"RabbitList$Tape", "readNumber", "(IIC)I"⟩, 5), (⟨"RabbitList$Tape", "isFigure", "(I)Z"⟩, 5), (⟨"RabbitList$Tape", "readThing", "(LRabbitList$Stage;)Z"⟩, 5), (⟨"RabbitList$Tape", "sortHere", "()I"⟩, 5), (⟨"RabbitList$Tape", "readSeat", "(LRabbitList$Stage;)Z"⟩, 5), (⟨"RabbitList", "noShow", "()Z"⟩, 11), (⟨"RabbitList$Stage", "chosen", "()I"⟩, 18), (⟨"RabbitList$Stage", "lendPatience", "()V"⟩, 18), (⟨"RabbitList$Stage", "gladden", "(I)V"⟩, 18), (⟨"RabbitList$Stage", "passTime", "()V"⟩, 18)]
theorem lw_r1 : ∀ q ∈ lw_privs_1, lw_okq q := List.forall_mem_cons.mpr ⟨lw_p0, List.forall_mem_cons.mpr ⟨lw_p1, List.forall_mem_cons.mpr ⟨lw_p2, List.forall_mem_cons.mpr ⟨lw_p3, List.forall_mem_cons.mpr ⟨lw_p4, List.forall_mem_cons.mpr ⟨lw_p5, List.forall_mem_cons.mpr ⟨lw_p6, List.forall_mem_cons.mpr ⟨lw_p7, List.forall_mem_cons.mpr ⟨lw_p8, List.forall_mem_cons.mpr ⟨lw_p9, List.forall_mem_cons.mpr ⟨lw_p10, List.forall_mem_cons.mpr ⟨lw_p11, List.forall_mem_cons.mpr ⟨lw_p12, List.forall_mem_cons.mpr ⟨lw_p13, List.forall_mem_cons.mpr ⟨lw_p14, List.forall_mem_cons.mpr ⟨lw_p15, fun _ h => absurd h List.not_mem_nil⟩⟩⟩⟩⟩⟩⟩⟩⟩⟩⟩⟩⟩⟩⟩⟩
theorem lw_p16 : lw_okq (⟨"RabbitList$Planner", "tryOrders", "(II)V"⟩, 7) := ⟨⟨by decide +kernel, by decide +kernel⟩, List.mem_of_getElem? (i := 208) (by decide +kernel), List.mem_of_getElem? (i := 716) (by decide +kernel), List.mem_of_getElem? (i := 717) (by decide +kernel)⟩
theorem lw_p17 : lw_okq (⟨"RabbitList$Planner", "keepIfBetter", "(LRabbitList$Stage;)V"⟩, 7) := ⟨⟨by decide +kernel, by decide +kernel⟩, List.mem_of_getElem? (i := 208) (by decide +kernel), List.mem_of_getElem? (i := 720) (by decide +kernel), List.mem_of_getElem? (i := 721) (by decide +kernel)⟩
theorem lw_p18 : lw_okq (⟨"RabbitList$Stage", "listed", "(II)I"⟩, 18) := ⟨⟨by decide +kernel, by decide +kernel⟩, List.mem_of_getElem? (i := 68) (by decide +kernel), List.mem_of_getElem? (i := 769) (by decide +kernel), List.mem_of_getElem? (i := 770) (by decide +kernel)⟩
theorem lw_p19 : lw_okq (⟨"RabbitList$Stage", "givenOf", "(I)I"⟩, 18) := ⟨⟨by decide +kernel, by decide +kernel⟩, List.mem_of_getElem? (i := 68) (by decide +kernel), List.mem_of_getElem? (i := 773) (by decide +kernel), List.mem_of_getElem? (i := 774) (by decide +kernel)⟩
theorem lw_p20 : lw_okq (⟨"RabbitList$Planner", "pleasesWithout", "(LRabbitList$Stage;III)Z"⟩, 7) := ⟨⟨by decide +kernel, by decide +kernel⟩, List.mem_of_getElem? (i := 208) (by decide +kernel), List.mem_of_getElem? (i := 789) (by decide +kernel), List.mem_of_getElem? (i := 790) (by decide +kernel)⟩
theorem lw_p21 : lw_okq (⟨"RabbitList$Seer", "reshape", "(III)V"⟩, 3) := ⟨⟨by decide +kernel, by decide +kernel⟩, List.mem_of_getElem? (i := 190) (by decide +kernel), List.mem_of_getElem? (i := 839) (by decide +kernel), List.mem_of_getElem? (i := 840) (by decide +kernel)⟩
theorem lw_p22 : lw_okq (⟨"RabbitList$Seer", "trialClapsAsTold", "()Z"⟩, 3) := ⟨⟨by decide +kernel, by decide +kernel⟩, List.mem_of_getElem? (i := 190) (by decide +kernel), List.mem_of_getElem? (i := 843) (by decide +kernel), List.mem_of_getElem? (i := 844) (by decide +kernel)⟩
theorem lw_p23 : lw_okq (⟨"RabbitList$Seer", "clappedWithout", "(LRabbitList$Stage;II)I"⟩, 3) := ⟨⟨by decide +kernel, by decide +kernel⟩, List.mem_of_getElem? (i := 190) (by decide +kernel), List.mem_of_getElem? (i := 883) (by decide +kernel), List.mem_of_getElem? (i := 884) (by decide +kernel)⟩
theorem lw_p24 : lw_okq (⟨"RabbitList$Seer", "arrangeByDraw", "(J)V"⟩, 3) := ⟨⟨by decide +kernel, by decide +kernel⟩, List.mem_of_getElem? (i := 190) (by decide +kernel), List.mem_of_getElem? (i := 902) (by decide +kernel), List.mem_of_getElem? (i := 903) (by decide +kernel)⟩
theorem lw_p25 : lw_okq (⟨"RabbitList", "imageOf", "(I)LRabbitList$Stage;"⟩, 11) := ⟨⟨by decide +kernel, by decide +kernel⟩, List.mem_of_getElem? (i := 19) (by decide +kernel), List.mem_of_getElem? (i := 915) (by decide +kernel), List.mem_of_getElem? (i := 916) (by decide +kernel)⟩
theorem lw_p26 : lw_okq (⟨"RabbitList$Asker", "askAnew", "(LRabbitList$Stage;III)I"⟩, 2) := ⟨⟨by decide +kernel, by decide +kernel⟩, List.mem_of_getElem? (i := 238) (by decide +kernel), List.mem_of_getElem? (i := 948) (by decide +kernel), List.mem_of_getElem? (i := 949) (by decide +kernel)⟩
theorem lw_p27 : lw_okq (⟨"RabbitList$Asker", "begin", "(LRabbitList$Stage;III)I"⟩, 2) := ⟨⟨by decide +kernel, by decide +kernel⟩, List.mem_of_getElem? (i := 238) (by decide +kernel), List.mem_of_getElem? (i := 956) (by decide +kernel), List.mem_of_getElem? (i := 957) (by decide +kernel)⟩
theorem lw_p28 : lw_okq (⟨"RabbitList$Asker", "leaveTrace", "(I)V"⟩, 2) := ⟨⟨by decide +kernel, by decide +kernel⟩, List.mem_of_getElem? (i := 238) (by decide +kernel), List.mem_of_getElem? (i := 960) (by decide +kernel), List.mem_of_getElem? (i := 961) (by decide +kernel)⟩
theorem lw_p29 : lw_okq (⟨"RabbitListModel", "find", "(I)I"⟩, 25) := ⟨⟨by decide +kernel, by decide +kernel⟩, List.mem_of_getElem? (i := 989) (by decide +kernel), List.mem_of_getElem? (i := 1085) (by decide +kernel), List.mem_of_getElem? (i := 1086) (by decide +kernel)⟩
theorem lw_p30 : lw_okq (⟨"RabbitListModel", "well", "(I)I"⟩, 25) := ⟨⟨by decide +kernel, by decide +kernel⟩, List.mem_of_getElem? (i := 989) (by decide +kernel), List.mem_of_getElem? (i := 1090) (by decide +kernel), List.mem_of_getElem? (i := 1091) (by decide +kernel)⟩
theorem lw_p31 : lw_okq (⟨"RabbitListModel", "readShow", "()Z"⟩, 25) := ⟨⟨by decide +kernel, by decide +kernel⟩, List.mem_of_getElem? (i := 989) (by decide +kernel), List.mem_of_getElem? (i := 1119) (by decide +kernel), List.mem_of_getElem? (i := 1120) (by decide +kernel)⟩
def lw_privs_2 : List (MethodName × Nat) := [(⟨"RabbitList$Planner", "tryOrders", "(II)V"⟩, 7), (⟨"RabbitList$Planner", "keepIfBetter", "(LRabbitList$Stage;)V"⟩, 7), (⟨"RabbitList$Stage", "listed", "(II)I"⟩, 18), (⟨"RabbitList$Stage", "givenOf", "(I)I"⟩, 18), (⟨"RabbitList$Planner", "pleasesWithout", "(LRabbitList$Stage;III)Z"⟩, 7), (⟨"RabbitList$Seer", "reshape", "(III)V"⟩, 3), (⟨"RabbitList$Seer", "trialClapsAsTold", "()Z"⟩, 3), (⟨"RabbitList$Seer", "clappedWithout", "(LRabbitList$Stage;II)I"⟩, 3), (⟨"RabbitList$Seer", "arrangeByDraw", "(J)V"⟩, 3), (⟨"RabbitList", "imageOf", "(I)LRabbitList$Stage;"⟩, 11), (⟨"RabbitList$Asker", "askAnew", "(LRabbitList$Stage;III)I"⟩, 2), (⟨"RabbitList$Asker", "begin", "(LRabbitList$Stage;III)I"⟩, 2), (⟨"RabbitList$Asker", "leaveTrace", "(I)V"⟩, 2), (⟨"RabbitListModel", "find", "(I)I"⟩, 25), (⟨"RabbitListModel", "well", "(I)I"⟩, 25), (⟨"RabbitListModel", "readShow", "()Z"⟩, 25)]
theorem lw_r2 : ∀ q ∈ lw_privs_2, lw_okq q := List.forall_mem_cons.mpr ⟨lw_p16, List.forall_mem_cons.mpr ⟨lw_p17, List.forall_mem_cons.mpr ⟨lw_p18, List.forall_mem_cons.mpr ⟨lw_p19, List.forall_mem_cons.mpr ⟨lw_p20, List.forall_mem_cons.mpr ⟨lw_p21, List.forall_mem_cons.mpr ⟨lw_p22, List.forall_mem_cons.mpr ⟨lw_p23, List.forall_mem_cons.mpr ⟨lw_p24, List.forall_mem_cons.mpr ⟨lw_p25, List.forall_mem_cons.mpr ⟨lw_p26, List.forall_mem_cons.mpr ⟨lw_p27, List.forall_mem_cons.mpr ⟨lw_p28, List.forall_mem_cons.mpr ⟨lw_p29, List.forall_mem_cons.mpr ⟨lw_p30, List.forall_mem_cons.mpr ⟨lw_p31, fun _ h => absurd h List.not_mem_nil⟩⟩⟩⟩⟩⟩⟩⟩⟩⟩⟩⟩⟩⟩⟩⟩
theorem lw_p32 : lw_okq (⟨"RabbitListModel", "nextToken", "()V"⟩, 25) := ⟨⟨by decide +kernel, by decide +kernel⟩, List.mem_of_getElem? (i := 989) (by decide +kernel), List.mem_of_getElem? (i := 1123) (by decide +kernel), List.mem_of_getElem? (i := 1124) (by decide +kernel)⟩
theorem lw_p33 : lw_okq (⟨"RabbitListModel", "takes", "(I)Z"⟩, 25) := ⟨⟨by decide +kernel, by decide +kernel⟩, List.mem_of_getElem? (i := 989) (by decide +kernel), List.mem_of_getElem? (i := 1131) (by decide +kernel), List.mem_of_getElem? (i := 1132) (by decide +kernel)⟩
theorem lw_p34 : lw_okq (⟨"RabbitListModel", "isLetter", "(I)Z"⟩, 25) := ⟨⟨by decide +kernel, by decide +kernel⟩, List.mem_of_getElem? (i := 989) (by decide +kernel), List.mem_of_getElem? (i := 1135) (by decide +kernel), List.mem_of_getElem? (i := 1136) (by decide +kernel)⟩
theorem lw_p35 : lw_okq (⟨"RabbitListModel", "faults", "(I)Z"⟩, 25) := ⟨⟨by decide +kernel, by decide +kernel⟩, List.mem_of_getElem? (i := 989) (by decide +kernel), List.mem_of_getElem? (i := 1139) (by decide +kernel), List.mem_of_getElem? (i := 1140) (by decide +kernel)⟩
theorem lw_p36 : lw_okq (⟨"RabbitListModel", "takesNumber", "(IIII)Z"⟩, 25) := ⟨⟨by decide +kernel, by decide +kernel⟩, List.mem_of_getElem? (i := 989) (by decide +kernel), List.mem_of_getElem? (i := 1143) (by decide +kernel), List.mem_of_getElem? (i := 1144) (by decide +kernel)⟩
theorem lw_p37 : lw_okq (⟨"RabbitListModel", "readThing", "(I)Z"⟩, 25) := ⟨⟨by decide +kernel, by decide +kernel⟩, List.mem_of_getElem? (i := 989) (by decide +kernel), List.mem_of_getElem? (i := 1147) (by decide +kernel), List.mem_of_getElem? (i := 1148) (by decide +kernel)⟩
theorem lw_p38 : lw_okq (⟨"RabbitListModel", "readSeat", "()Z"⟩, 25) := ⟨⟨by decide +kernel, by decide +kernel⟩, List.mem_of_getElem? (i := 989) (by decide +kernel), List.mem_of_getElem? (i := 1151) (by decide +kernel), List.mem_of_getElem? (i := 1152) (by decide +kernel)⟩
theorem lw_p39 : lw_okq (⟨"RabbitListModel", "note", "()V"⟩, 25) := ⟨⟨by decide +kernel, by decide +kernel⟩, List.mem_of_getElem? (i := 989) (by decide +kernel), List.mem_of_getElem? (i := 1170) (by decide +kernel), List.mem_of_getElem? (i := 1171) (by decide +kernel)⟩
theorem lw_p40 : lw_okq (⟨"RabbitListModel", "oneTap", "()V"⟩, 25) := ⟨⟨by decide +kernel, by decide +kernel⟩, List.mem_of_getElem? (i := 989) (by decide +kernel), List.mem_of_getElem? (i := 1174) (by decide +kernel), List.mem_of_getElem? (i := 1175) (by decide +kernel)⟩
theorem lw_p41 : lw_okq (⟨"RabbitListModel", "nextThing", "()I"⟩, 25) := ⟨⟨by decide +kernel, by decide +kernel⟩, List.mem_of_getElem? (i := 989) (by decide +kernel), List.mem_of_getElem? (i := 1178) (by decide +kernel), List.mem_of_getElem? (i := 1179) (by decide +kernel)⟩
theorem lw_p42 : lw_okq (⟨"RabbitListModel", "wantedBy", "(I)I"⟩, 25) := ⟨⟨by decide +kernel, by decide +kernel⟩, List.mem_of_getElem? (i := 989) (by decide +kernel), List.mem_of_getElem? (i := 1183) (by decide +kernel), List.mem_of_getElem? (i := 1184) (by decide +kernel)⟩
theorem lw_p43 : lw_okq (⟨"RabbitListModel", "wantersOf", "(I)I"⟩, 25) := ⟨⟨by decide +kernel, by decide +kernel⟩, List.mem_of_getElem? (i := 989) (by decide +kernel), List.mem_of_getElem? (i := 1187) (by decide +kernel), List.mem_of_getElem? (i := 1188) (by decide +kernel)⟩
theorem lw_p44 : lw_okq (⟨"RabbitListModel", "tapWith", "(IZ)V"⟩, 25) := ⟨⟨by decide +kernel, by decide +kernel⟩, List.mem_of_getElem? (i := 989) (by decide +kernel), List.mem_of_getElem? (i := 1194) (by decide +kernel), List.mem_of_getElem? (i := 1195) (by decide +kernel)⟩
theorem lw_p45 : lw_okq (⟨"RabbitListModel", "isComingBack", "(I)Z"⟩, 25) := ⟨⟨by decide +kernel, by decide +kernel⟩, List.mem_of_getElem? (i := 989) (by decide +kernel), List.mem_of_getElem? (i := 1198) (by decide +kernel), List.mem_of_getElem? (i := 1199) (by decide +kernel)⟩
theorem lw_p46 : lw_okq (⟨"RabbitListModel", "seatsOf", "(I)I"⟩, 25) := ⟨⟨by decide +kernel, by decide +kernel⟩, List.mem_of_getElem? (i := 989) (by decide +kernel), List.mem_of_getElem? (i := 1202) (by decide +kernel), List.mem_of_getElem? (i := 1203) (by decide +kernel)⟩
theorem lw_p47 : lw_okq (⟨"RabbitListModel", "pleasedBy", "(I)I"⟩, 25) := ⟨⟨by decide +kernel, by decide +kernel⟩, List.mem_of_getElem? (i := 989) (by decide +kernel), List.mem_of_getElem? (i := 1206) (by decide +kernel), List.mem_of_getElem? (i := 1207) (by decide +kernel)⟩
def lw_privs_3 : List (MethodName × Nat) := [(⟨"RabbitListModel", "nextToken", "()V"⟩, 25), (⟨"RabbitListModel", "takes", "(I)Z"⟩, 25), (⟨"RabbitListModel", "isLetter", "(I)Z"⟩, 25), (⟨"RabbitListModel", "faults", "(I)Z"⟩, 25), (⟨"RabbitListModel", "takesNumber", "(IIII)Z"⟩, 25), (⟨"RabbitListModel", "readThing", "(I)Z"⟩, 25), (⟨"RabbitListModel", "readSeat", "()Z"⟩, 25), (⟨"RabbitListModel", "note", "()V"⟩, 25), (⟨"RabbitListModel", "oneTap", "()V"⟩, 25), (⟨"RabbitListModel", "nextThing", "()I"⟩, 25), (⟨"RabbitListModel", "wantedBy", "(I)I"⟩, 25), (⟨"RabbitListModel", "wantersOf", "(I)I"⟩, 25), (⟨"RabbitListModel", "tapWith", "(IZ)V"⟩, 25), (⟨"RabbitListModel", "isComingBack", "(I)Z"⟩, 25), (⟨"RabbitListModel", "seatsOf", "(I)I"⟩, 25), (⟨"RabbitListModel", "pleasedBy", "(I)I"⟩, 25)]
theorem lw_r3 : ∀ q ∈ lw_privs_3, lw_okq q := List.forall_mem_cons.mpr ⟨lw_p32, List.forall_mem_cons.mpr ⟨lw_p33, List.forall_mem_cons.mpr ⟨lw_p34, List.forall_mem_cons.mpr ⟨lw_p35, List.forall_mem_cons.mpr ⟨lw_p36, List.forall_mem_cons.mpr ⟨lw_p37, List.forall_mem_cons.mpr ⟨lw_p38, List.forall_mem_cons.mpr ⟨lw_p39, List.forall_mem_cons.mpr ⟨lw_p40, List.forall_mem_cons.mpr ⟨lw_p41, List.forall_mem_cons.mpr ⟨lw_p42, List.forall_mem_cons.mpr ⟨lw_p43, List.forall_mem_cons.mpr ⟨lw_p44, List.forall_mem_cons.mpr ⟨lw_p45, List.forall_mem_cons.mpr ⟨lw_p46, List.forall_mem_cons.mpr ⟨lw_p47, fun _ h => absurd h List.not_mem_nil⟩⟩⟩⟩⟩⟩⟩⟩⟩⟩⟩⟩⟩⟩⟩⟩
theorem lw_p48 : lw_okq (⟨"RabbitListModel", "clapsFor", "(II)I"⟩, 25) := ⟨⟨by decide +kernel, by decide +kernel⟩, List.mem_of_getElem? (i := 989) (by decide +kernel), List.mem_of_getElem? (i := 1210) (by decide +kernel), List.mem_of_getElem? (i := 1211) (by decide +kernel)⟩
theorem lw_p49 : lw_okq (⟨"RabbitListModel", "takeOff", "(I)V"⟩, 25) := ⟨⟨by decide +kernel, by decide +kernel⟩, List.mem_of_getElem? (i := 989) (by decide +kernel), List.mem_of_getElem? (i := 1217) (by decide +kernel), List.mem_of_getElem? (i := 1218) (by decide +kernel)⟩
theorem lw_p50 : lw_okq (⟨"RabbitListModel", "placeOf", "(I)I"⟩, 25) := ⟨⟨by decide +kernel, by decide +kernel⟩, List.mem_of_getElem? (i := 989) (by decide +kernel), List.mem_of_getElem? (i := 1221) (by decide +kernel), List.mem_of_getElem? (i := 1222) (by decide +kernel)⟩
theorem lw_p51 : lw_okq (⟨"RabbitListModel", "layBehind", "(I)V"⟩, 25) := ⟨⟨by decide +kernel, by decide +kernel⟩, List.mem_of_getElem? (i := 989) (by decide +kernel), List.mem_of_getElem? (i := 1225) (by decide +kernel), List.mem_of_getElem? (i := 1226) (by decide +kernel)⟩
theorem lw_p52 : lw_okq (⟨"RabbitListModel", "isThing", "(I)Z"⟩, 25) := ⟨⟨by decide +kernel, by decide +kernel⟩, List.mem_of_getElem? (i := 989) (by decide +kernel), List.mem_of_getElem? (i := 1233) (by decide +kernel), List.mem_of_getElem? (i := 1234) (by decide +kernel)⟩
theorem lw_p53 : lw_okq (⟨"RabbitListModel", "layFirst", "(I)V"⟩, 25) := ⟨⟨by decide +kernel, by decide +kernel⟩, List.mem_of_getElem? (i := 989) (by decide +kernel), List.mem_of_getElem? (i := 1237) (by decide +kernel), List.mem_of_getElem? (i := 1238) (by decide +kernel)⟩
theorem lw_p54 : lw_okq (⟨"RabbitListModel", "isSeat", "(I)Z"⟩, 25) := ⟨⟨by decide +kernel, by decide +kernel⟩, List.mem_of_getElem? (i := 989) (by decide +kernel), List.mem_of_getElem? (i := 1253) (by decide +kernel), List.mem_of_getElem? (i := 1254) (by decide +kernel)⟩
theorem lw_p55 : lw_okq (⟨"RabbitListModel", "seatAnew", "(III)V"⟩, 25) := ⟨⟨by decide +kernel, by decide +kernel⟩, List.mem_of_getElem? (i := 989) (by decide +kernel), List.mem_of_getElem? (i := 1259) (by decide +kernel), List.mem_of_getElem? (i := 1260) (by decide +kernel)⟩
theorem lw_p56 : lw_okq (⟨"RabbitListModel", "standing", "(I)I"⟩, 25) := ⟨⟨by decide +kernel, by decide +kernel⟩, List.mem_of_getElem? (i := 989) (by decide +kernel), List.mem_of_getElem? (i := 1280) (by decide +kernel), List.mem_of_getElem? (i := 1281) (by decide +kernel)⟩
theorem lw_p57 : lw_okq (⟨"RabbitListModel", "putAside", "()V"⟩, 25) := ⟨⟨by decide +kernel, by decide +kernel⟩, List.mem_of_getElem? (i := 989) (by decide +kernel), List.mem_of_getElem? (i := 1293) (by decide +kernel), List.mem_of_getElem? (i := 1294) (by decide +kernel)⟩
theorem lw_p58 : lw_okq (⟨"RabbitListModel", "goOn", "(I)V"⟩, 25) := ⟨⟨by decide +kernel, by decide +kernel⟩, List.mem_of_getElem? (i := 989) (by decide +kernel), List.mem_of_getElem? (i := 1297) (by decide +kernel), List.mem_of_getElem? (i := 1298) (by decide +kernel)⟩
theorem lw_p59 : lw_okq (⟨"RabbitListModel", "takeBack", "()V"⟩, 25) := ⟨⟨by decide +kernel, by decide +kernel⟩, List.mem_of_getElem? (i := 989) (by decide +kernel), List.mem_of_getElem? (i := 1301) (by decide +kernel), List.mem_of_getElem? (i := 1302) (by decide +kernel)⟩
theorem lw_p60 : lw_okq (⟨"RabbitListModel", "isNext", "(I)Z"⟩, 25) := ⟨⟨by decide +kernel, by decide +kernel⟩, List.mem_of_getElem? (i := 989) (by decide +kernel), List.mem_of_getElem? (i := 1317) (by decide +kernel), List.mem_of_getElem? (i := 1318) (by decide +kernel)⟩
theorem lw_p61 : lw_okq (⟨"RabbitListModel", "change", "(II)V"⟩, 25) := ⟨⟨by decide +kernel, by decide +kernel⟩, List.mem_of_getElem? (i := 989) (by decide +kernel), List.mem_of_getElem? (i := 1321) (by decide +kernel), List.mem_of_getElem? (i := 1322) (by decide +kernel)⟩
theorem lw_p62 : lw_okq (⟨"RabbitListModel", "sumOf", "(II)I"⟩, 25) := ⟨⟨by decide +kernel, by decide +kernel⟩, List.mem_of_getElem? (i := 989) (by decide +kernel), List.mem_of_getElem? (i := 1332) (by decide +kernel), List.mem_of_getElem? (i := 1333) (by decide +kernel)⟩
theorem lw_p63 : lw_okq (⟨"RabbitListModel", "stockOf", "(I)I"⟩, 25) := ⟨⟨by decide +kernel, by decide +kernel⟩, List.mem_of_getElem? (i := 989) (by decide +kernel), List.mem_of_getElem? (i := 1340) (by decide +kernel), List.mem_of_getElem? (i := 1341) (by decide +kernel)⟩
def lw_privs_4 : List (MethodName × Nat) := [(⟨"RabbitListModel", "clapsFor", "(II)I"⟩, 25), (⟨"RabbitListModel", "takeOff", "(I)V"⟩, 25), (⟨"RabbitListModel", "placeOf", "(I)I"⟩, 25), (⟨"RabbitListModel", "layBehind", "(I)V"⟩, 25), (⟨"RabbitListModel", "isThing", "(I)Z"⟩, 25), (⟨"RabbitListModel", "layFirst", "(I)V"⟩, 25), (⟨"RabbitListModel", "isSeat", "(I)Z"⟩, 25), (⟨"RabbitListModel", "seatAnew", "(III)V"⟩, 25), (⟨"RabbitListModel", "standing", "(I)I"⟩, 25), (⟨"RabbitListModel", "putAside", "()V"⟩, 25), (⟨"RabbitListModel", "goOn", "(I)V"⟩, 25), (⟨"RabbitListModel", "takeBack", "()V"⟩, 25), (⟨"RabbitListModel", "isNext", "(I)Z"⟩, 25), (⟨"RabbitListModel", "change", "(II)V"⟩, 25), (⟨"RabbitListModel", "sumOf", "(II)I"⟩, 25), (⟨"RabbitListModel", "stockOf", "(I)I"⟩, 25)]
theorem lw_r4 : ∀ q ∈ lw_privs_4, lw_okq q := List.forall_mem_cons.mpr ⟨lw_p48, List.forall_mem_cons.mpr ⟨lw_p49, List.forall_mem_cons.mpr ⟨lw_p50, List.forall_mem_cons.mpr ⟨lw_p51, List.forall_mem_cons.mpr ⟨lw_p52, List.forall_mem_cons.mpr ⟨lw_p53, List.forall_mem_cons.mpr ⟨lw_p54, List.forall_mem_cons.mpr ⟨lw_p55, List.forall_mem_cons.mpr ⟨lw_p56, List.forall_mem_cons.mpr ⟨lw_p57, List.forall_mem_cons.mpr ⟨lw_p58, List.forall_mem_cons.mpr ⟨lw_p59, List.forall_mem_cons.mpr ⟨lw_p60, List.forall_mem_cons.mpr ⟨lw_p61, List.forall_mem_cons.mpr ⟨lw_p62, List.forall_mem_cons.mpr ⟨lw_p63, fun _ h => absurd h List.not_mem_nil⟩⟩⟩⟩⟩⟩⟩⟩⟩⟩⟩⟩⟩⟩⟩⟩
theorem lw_p64 : lw_okq (⟨"RabbitListModel", "isLine", "(II)Z"⟩, 25) := ⟨⟨by decide +kernel, by decide +kernel⟩, List.mem_of_getElem? (i := 989) (by decide +kernel), List.mem_of_getElem? (i := 1361) (by decide +kernel), List.mem_of_getElem? (i := 1362) (by decide +kernel)⟩
theorem lw_p65 : lw_okq (⟨"RabbitListModel", "lacks", "(III)I"⟩, 25) := ⟨⟨by decide +kernel, by decide +kernel⟩, List.mem_of_getElem? (i := 989) (by decide +kernel), List.mem_of_getElem? (i := 1366) (by decide +kernel), List.mem_of_getElem? (i := 1367) (by decide +kernel)⟩
theorem lw_p66 : lw_okq (⟨"RabbitListModel", "isSo", "(II)Z"⟩, 25) := ⟨⟨by decide +kernel, by decide +kernel⟩, List.mem_of_getElem? (i := 989) (by decide +kernel), List.mem_of_getElem? (i := 1370) (by decide +kernel), List.mem_of_getElem? (i := 1371) (by decide +kernel)⟩
theorem lw_p67 : lw_okq (⟨"RabbitListModel", "sizeOf", "(I)I"⟩, 25) := ⟨⟨by decide +kernel, by decide +kernel⟩, List.mem_of_getElem? (i := 989) (by decide +kernel), List.mem_of_getElem? (i := 1421) (by decide +kernel), List.mem_of_getElem? (i := 1422) (by decide +kernel)⟩
theorem lw_p68 : lw_okq (⟨"RabbitListModel", "begin", "(I)V"⟩, 25) := ⟨⟨by decide +kernel, by decide +kernel⟩, List.mem_of_getElem? (i := 989) (by decide +kernel), List.mem_of_getElem? (i := 1425) (by decide +kernel), List.mem_of_getElem? (i := 1426) (by decide +kernel)⟩
theorem lw_p69 : lw_okq (⟨"RabbitListModel", "plainSize", "(I)I"⟩, 25) := ⟨⟨by decide +kernel, by decide +kernel⟩, List.mem_of_getElem? (i := 989) (by decide +kernel), List.mem_of_getElem? (i := 1429) (by decide +kernel), List.mem_of_getElem? (i := 1430) (by decide +kernel)⟩
theorem lw_p70 : lw_okq (⟨"RabbitListModel", "lent", "(II)I"⟩, 25) := ⟨⟨by decide +kernel, by decide +kernel⟩, List.mem_of_getElem? (i := 989) (by decide +kernel), List.mem_of_getElem? (i := 1433) (by decide +kernel), List.mem_of_getElem? (i := 1434) (by decide +kernel)⟩
theorem lw_p71 : lw_okq (⟨"RabbitListModel", "markOf", "(I)I"⟩, 25) := ⟨⟨by decide +kernel, by decide +kernel⟩, List.mem_of_getElem? (i := 989) (by decide +kernel), List.mem_of_getElem? (i := 1437) (by decide +kernel), List.mem_of_getElem? (i := 1438) (by decide +kernel)⟩
theorem lw_p72 : lw_okq (⟨"RabbitListModel", "plainMark", "(I)I"⟩, 25) := ⟨⟨by decide +kernel, by decide +kernel⟩, List.mem_of_getElem? (i := 989) (by decide +kernel), List.mem_of_getElem? (i := 1441) (by decide +kernel), List.mem_of_getElem? (i := 1442) (by decide +kernel)⟩
theorem lw_p73 : lw_okq (⟨"RabbitListModel", "sizeOfLive", "(I)I"⟩, 25) := ⟨⟨by decide +kernel, by decide +kernel⟩, List.mem_of_getElem? (i := 989) (by decide +kernel), List.mem_of_getElem? (i := 1445) (by decide +kernel), List.mem_of_getElem? (i := 1446) (by decide +kernel)⟩
theorem lw_p74 : lw_okq (⟨"RabbitListModel", "liveSize", "(I)I"⟩, 25) := ⟨⟨by decide +kernel, by decide +kernel⟩, List.mem_of_getElem? (i := 989) (by decide +kernel), List.mem_of_getElem? (i := 1449) (by decide +kernel), List.mem_of_getElem? (i := 1450) (by decide +kernel)⟩
def lw_privs_5 : List (MethodName × Nat) := [(⟨"RabbitListModel", "isLine", "(II)Z"⟩, 25), (⟨"RabbitListModel", "lacks", "(III)I"⟩, 25), (⟨"RabbitListModel", "isSo", "(II)Z"⟩, 25), (⟨"RabbitListModel", "sizeOf", "(I)I"⟩, 25), (⟨"RabbitListModel", "begin", "(I)V"⟩, 25), (⟨"RabbitListModel", "plainSize", "(I)I"⟩, 25), (⟨"RabbitListModel", "lent", "(II)I"⟩, 25), (⟨"RabbitListModel", "markOf", "(I)I"⟩, 25), (⟨"RabbitListModel", "plainMark", "(I)I"⟩, 25), (⟨"RabbitListModel", "sizeOfLive", "(I)I"⟩, 25), (⟨"RabbitListModel", "liveSize", "(I)I"⟩, 25)]
theorem lw_r5 : ∀ q ∈ lw_privs_5, lw_okq q := List.forall_mem_cons.mpr ⟨lw_p64, List.forall_mem_cons.mpr ⟨lw_p65, List.forall_mem_cons.mpr ⟨lw_p66, List.forall_mem_cons.mpr ⟨lw_p67, List.forall_mem_cons.mpr ⟨lw_p68, List.forall_mem_cons.mpr ⟨lw_p69, List.forall_mem_cons.mpr ⟨lw_p70, List.forall_mem_cons.mpr ⟨lw_p71, List.forall_mem_cons.mpr ⟨lw_p72, List.forall_mem_cons.mpr ⟨lw_p73, List.forall_mem_cons.mpr ⟨lw_p74, fun _ h => absurd h List.not_mem_nil⟩⟩⟩⟩⟩⟩⟩⟩⟩⟩⟩
def lw_privs : List (MethodName × Nat) := lw_privs_1 ++ (lw_privs_2 ++ (lw_privs_3 ++ (lw_privs_4 ++ (lw_privs_5))))
def lw_tbl : List Cond := k2_sels lw_privs ++ tables_1
theorem lw_privs_ok : ∀ q ∈ lw_privs, lw_okq q := by
  show ∀ q ∈ lw_privs_1 ++ (lw_privs_2 ++ (lw_privs_3 ++ (lw_privs_4 ++ (lw_privs_5)))), lw_okq q
  exact List.forall_mem_append.mpr ⟨lw_r1, List.forall_mem_append.mpr ⟨lw_r2, List.forall_mem_append.mpr ⟨lw_r3, List.forall_mem_append.mpr ⟨lw_r4, lw_r5⟩⟩⟩⟩
def RX0 : String := "RabbitList$Acts"
def TX0 : u_T := fun k => match k with
  | 0 => ("RabbitList$Acts", "ring", "[LRabbitList$Stage;", true)
  | 1 => ("RabbitList$Acts", "free", "I", false)
  | _ => ("RabbitList$Acts", "size", "I", false)
def tyX0 : Nat → FieldType := fun k => match k with
  | 0 => .array (.object "RabbitList$Stage")
  | 1 => .int
  | _ => .int
theorem nmX0 : ∀ a, a < 3 → ∀ b, b < 3 → a ≠ b → (TX0 a).2.1 ≠ (TX0 b).2.1 := by decide +kernel
theorem tyX0_ok : ∀ k, k < 3 → parseFieldDescriptor (TX0 k).2.2.1 = some (tyX0 k) := by decide +kernel
abbrev cX0_init : ByteArray := prog_2_method_1_code
def yX0_init : MethodName := ⟨RX0, "<init>", "()V"⟩
abbrev cX0_kept : ByteArray := prog_2_method_2_code
def yX0_kept : MethodName := ⟨RX0, "kept", "()I"⟩
abbrev cX0_forgetAll : ByteArray := prog_2_method_3_code
def yX0_forgetAll : MethodName := ⟨RX0, "forgetAll", "()V"⟩
abbrev cX0_keep : ByteArray := prog_2_method_4_code
def yX0_keep : MethodName := ⟨RX0, "keep", "(LRabbitList$Stage;)V"⟩
abbrev cX0_takeBack : ByteArray := prog_2_method_5_code
def yX0_takeBack : MethodName := ⟨RX0, "takeBack", "(LRabbitList$Stage;)V"⟩
def RX1 : String := "RabbitList$Asker"
def TX1 : u_T := fun k => match k with
  | 0 => ("RabbitList$Asker", "traces", "[I", true)
  | _ => ("RabbitList$Asker", "tracedBodies", "I", false)
def tyX1 : Nat → FieldType := fun k => match k with
  | 0 => .array .int
  | _ => .int
theorem nmX1 : ∀ a, a < 2 → ∀ b, b < 2 → a ≠ b → (TX1 a).2.1 ≠ (TX1 b).2.1 := by decide +kernel
theorem tyX1_ok : ∀ k, k < 2 → parseFieldDescriptor (TX1 k).2.2.1 = some (tyX1 k) := by decide +kernel
abbrev cX1_init : ByteArray := prog_3_method_1_code
def yX1_init : MethodName := ⟨RX1, "<init>", "()V"⟩
abbrev cX1_isKind : ByteArray := prog_3_method_2_code
def yX1_isKind : MethodName := ⟨RX1, "isKind", "(I)Z"⟩
abbrev cX1_isOneOf : ByteArray := prog_3_method_3_code
def yX1_isOneOf : MethodName := ⟨RX1, "isOneOf", "(II)Z"⟩
abbrev cX1_traced : ByteArray := prog_3_method_4_code
def yX1_traced : MethodName := ⟨RX1, "traced", "(I)I"⟩
abbrev cX1_answer : ByteArray := prog_3_method_5_code
def yX1_answer : MethodName := ⟨RX1, "answer", "(LRabbitList$Stage;II)I"⟩
abbrev cX1_askAnew : ByteArray := prog_3_method_6_code
def yX1_askAnew : MethodName := ⟨RX1, "askAnew", "(LRabbitList$Stage;III)I"⟩
abbrev cX1_begin : ByteArray := prog_3_method_7_code
def yX1_begin : MethodName := ⟨RX1, "begin", "(LRabbitList$Stage;III)I"⟩
abbrev cX1_leaveTrace : ByteArray := prog_3_method_8_code
def yX1_leaveTrace : MethodName := ⟨RX1, "leaveTrace", "(I)V"⟩
def RX2 : String := "RabbitList$Planner"
def TX2 : u_T := fun k => match k with
  | 0 => ("RabbitList$Planner", "trial", "LRabbitList$Stage;", true)
  | 1 => ("RabbitList$Planner", "levels", "[LRabbitList$Stage;", true)
  | 2 => ("RabbitList$Planner", "path", "[I", true)
  | 3 => ("RabbitList$Planner", "best", "[I", true)
  | 4 => ("RabbitList$Planner", "bestLength", "I", false)
  | 5 => ("RabbitList$Planner", "bestClapped", "I", false)
  | _ => ("RabbitList$Planner", "bestPleased", "I", false)
def tyX2 : Nat → FieldType := fun k => match k with
  | 0 => .object "RabbitList$Stage"
  | 1 => .array (.object "RabbitList$Stage")
  | 2 => .array .int
  | 3 => .array .int
  | 4 => .int
  | 5 => .int
  | _ => .int
theorem nmX2 : ∀ a, a < 7 → ∀ b, b < 7 → a ≠ b → (TX2 a).2.1 ≠ (TX2 b).2.1 := by decide +kernel
theorem tyX2_ok : ∀ k, k < 7 → parseFieldDescriptor (TX2 k).2.2.1 = some (tyX2 k) := by decide +kernel
abbrev cX2_init : ByteArray := prog_4_method_1_code
def yX2_init : MethodName := ⟨RX2, "<init>", "()V"⟩
abbrev cX2_findBestOrder : ByteArray := prog_4_method_2_code
def yX2_findBestOrder : MethodName := ⟨RX2, "findBestOrder", "(LRabbitList$Stage;)V"⟩
abbrev cX2_tryOrders : ByteArray := prog_4_method_3_code
def yX2_tryOrders : MethodName := ⟨RX2, "tryOrders", "(II)V"⟩
abbrev cX2_keepIfBetter : ByteArray := prog_4_method_4_code
def yX2_keepIfBetter : MethodName := ⟨RX2, "keepIfBetter", "(LRabbitList$Stage;)V"⟩
abbrev cX2_bestOrderClapped : ByteArray := prog_4_method_5_code
def yX2_bestOrderClapped : MethodName := ⟨RX2, "bestOrderClapped", "()I"⟩
abbrev cX2_bestOrderPleased : ByteArray := prog_4_method_6_code
def yX2_bestOrderPleased : MethodName := ⟨RX2, "bestOrderPleased", "()I"⟩
abbrev cX2_bestOrderThing : ByteArray := prog_4_method_7_code
def yX2_bestOrderThing : MethodName := ⟨RX2, "bestOrderThing", "(I)I"⟩
abbrev cX2_bestPack : ByteArray := prog_4_method_8_code
def yX2_bestPack : MethodName := ⟨RX2, "bestPack", "(LRabbitList$Stage;)I"⟩
abbrev cX2_isBetterPack : ByteArray := prog_4_method_9_code
def yX2_isBetterPack : MethodName := ⟨RX2, "isBetterPack", "(LRabbitList$Stage;II)Z"⟩
abbrev cX2_fewestOff : ByteArray := prog_4_method_10_code
def yX2_fewestOff : MethodName := ⟨RX2, "fewestOff", "(LRabbitList$Stage;II)I"⟩
abbrev cX2_isListed : ByteArray := prog_4_method_11_code
def yX2_isListed : MethodName := ⟨RX2, "isListed", "(LRabbitList$Stage;I)Z"⟩
abbrev cX2_pleasesWithout : ByteArray := prog_4_method_12_code
def yX2_pleasesWithout : MethodName := ⟨RX2, "pleasesWithout", "(LRabbitList$Stage;III)Z"⟩
abbrev cX2_bestFirst : ByteArray := prog_4_method_13_code
def yX2_bestFirst : MethodName := ⟨RX2, "bestFirst", "(LRabbitList$Stage;I)I"⟩
abbrev cX2_clappedIfFirst : ByteArray := prog_4_method_14_code
def yX2_clappedIfFirst : MethodName := ⟨RX2, "clappedIfFirst", "(LRabbitList$Stage;II)I"⟩
def RX3 : String := "RabbitList$Rows"
def TX3 : u_T := fun k => match k with
  | 0 => ("RabbitList$Rows", "items", "[[I", true)
  | 1 => ("RabbitList$Rows", "lanes", "[I", true)
  | _ => ("RabbitList$Rows", "sizes", "[I", true)
def tyX3 : Nat → FieldType := fun k => match k with
  | 0 => .array (.array .int)
  | 1 => .array .int
  | _ => .array .int
theorem nmX3 : ∀ a, a < 3 → ∀ b, b < 3 → a ≠ b → (TX3 a).2.1 ≠ (TX3 b).2.1 := by decide +kernel
theorem tyX3_ok : ∀ k, k < 3 → parseFieldDescriptor (TX3 k).2.2.1 = some (tyX3 k) := by decide +kernel
abbrev cX3_init : ByteArray := prog_5_method_1_code
def yX3_init : MethodName := ⟨RX3, "<init>", "()V"⟩
abbrev cX3_isRow : ByteArray := prog_5_method_2_code
def yX3_isRow : MethodName := ⟨RX3, "isRow", "(I)Z"⟩
abbrev cX3_isLane : ByteArray := prog_5_method_3_code
def yX3_isLane : MethodName := ⟨RX3, "isLane", "(I)Z"⟩
abbrev cX3_isMissing : ByteArray := prog_5_method_4_code
def yX3_isMissing : MethodName := ⟨RX3, "isMissing", "(I)Z"⟩
abbrev cX3_present : ByteArray := prog_5_method_5_code
def yX3_present : MethodName := ⟨RX3, "present", "()I"⟩
abbrev cX3_make : ByteArray := prog_5_method_6_code
def yX3_make : MethodName := ⟨RX3, "make", "(III)V"⟩
abbrev cX3_lose : ByteArray := prog_5_method_7_code
def yX3_lose : MethodName := ⟨RX3, "lose", "(I)I"⟩
abbrev cX3_put : ByteArray := prog_5_method_8_code
def yX3_put : MethodName := ⟨RX3, "put", "(III)I"⟩
abbrev cX3_item : ByteArray := prog_5_method_9_code
def yX3_item : MethodName := ⟨RX3, "item", "(II)I"⟩
abbrev cX3_findingOfSpan : ByteArray := prog_5_method_10_code
def yX3_findingOfSpan : MethodName := ⟨RX3, "findingOfSpan", "(III)I"⟩
abbrev cX3_findingOfMove : ByteArray := prog_5_method_11_code
def yX3_findingOfMove : MethodName := ⟨RX3, "findingOfMove", "(IIIII)I"⟩
abbrev cX3_move : ByteArray := prog_5_method_12_code
def yX3_move : MethodName := ⟨RX3, "move", "(IIIII)V"⟩
abbrev cX3_isSpan : ByteArray := prog_5_method_13_code
def yX3_isSpan : MethodName := ⟨RX3, "isSpan", "(III)Z"⟩
def RX4 : String := "RabbitList$Seer"
def TX4 : u_T := fun k => match k with
  | 0 => ("RabbitList$Seer", "trial", "LRabbitList$Stage;", true)
  | 1 => ("RabbitList$Seer", "told", "[I", true)
  | _ => ("RabbitList$Seer", "toldTaps", "I", false)
def tyX4 : Nat → FieldType := fun k => match k with
  | 0 => .object "RabbitList$Stage"
  | 1 => .array .int
  | _ => .int
theorem nmX4 : ∀ a, a < 3 → ∀ b, b < 3 → a ≠ b → (TX4 a).2.1 ≠ (TX4 b).2.1 := by decide +kernel
theorem tyX4_ok : ∀ k, k < 3 → parseFieldDescriptor (TX4 k).2.2.1 = some (tyX4 k) := by decide +kernel
abbrev cX4_init : ByteArray := prog_6_method_1_code
def yX4_init : MethodName := ⟨RX4, "<init>", "()V"⟩
abbrev cX4_nextOne : ByteArray := prog_6_method_2_code
def yX4_nextOne : MethodName := ⟨RX4, "nextOne", "(LRabbitList$Stage;I)I"⟩
abbrev cX4_standingBehind : ByteArray := prog_6_method_3_code
def yX4_standingBehind : MethodName := ⟨RX4, "standingBehind", "(LRabbitList$Stage;II)I"⟩
abbrev cX4_tapsUntil : ByteArray := prog_6_method_4_code
def yX4_tapsUntil : MethodName := ⟨RX4, "tapsUntil", "(LRabbitList$Stage;II)I"⟩
abbrev cX4_tapOf : ByteArray := prog_6_method_5_code
def yX4_tapOf : MethodName := ⟨RX4, "tapOf", "(LRabbitList$Stage;I)I"⟩
abbrev cX4_hear : ByteArray := prog_6_method_6_code
def yX4_hear : MethodName := ⟨RX4, "hear", "(LRabbitList$Rows;III)V"⟩
abbrev cX4_trialClapsAsTold : ByteArray := prog_6_method_7_code
def yX4_trialClapsAsTold : MethodName := ⟨RX4, "trialClapsAsTold", "()Z"⟩
abbrev cX4_shapesThatFit : ByteArray := prog_6_method_8_code
def yX4_shapesThatFit : MethodName := ⟨RX4, "shapesThatFit", "(LRabbitList$Stage;II)I"⟩
abbrev cX4_reshape : ByteArray := prog_6_method_9_code
def yX4_reshape : MethodName := ⟨RX4, "reshape", "(III)V"⟩
abbrev cX4_wantsThatFit : ByteArray := prog_6_method_10_code
def yX4_wantsThatFit : MethodName := ⟨RX4, "wantsThatFit", "(LRabbitList$Stage;I)I"⟩
abbrev cX4_patienceThatFits : ByteArray := prog_6_method_11_code
def yX4_patienceThatFits : MethodName := ⟨RX4, "patienceThatFits", "(LRabbitList$Stage;I)I"⟩
abbrev cX4_absencesThatFit : ByteArray := prog_6_method_12_code
def yX4_absencesThatFit : MethodName := ⟨RX4, "absencesThatFit", "(LRabbitList$Stage;)I"⟩
abbrev cX4_likelyCases : ByteArray := prog_6_method_13_code
def yX4_likelyCases : MethodName := ⟨RX4, "likelyCases", "(LRabbitList$Stage;III)J"⟩
abbrev cX4_clappedWithout : ByteArray := prog_6_method_14_code
def yX4_clappedWithout : MethodName := ⟨RX4, "clappedWithout", "(LRabbitList$Stage;II)I"⟩
abbrev cX4_power : ByteArray := prog_6_method_15_code
def yX4_power : MethodName := ⟨RX4, "power", "(II)J"⟩
abbrev cX4_commonDivisor : ByteArray := prog_6_method_16_code
def yX4_commonDivisor : MethodName := ⟨RX4, "commonDivisor", "(JJ)J"⟩
abbrev cX4_runByDraws : ByteArray := prog_6_method_17_code
def yX4_runByDraws : MethodName := ⟨RX4, "runByDraws", "(LRabbitList$Stage;III)I"⟩
abbrev cX4_arrangeByDraw : ByteArray := prog_6_method_18_code
def yX4_arrangeByDraw : MethodName := ⟨RX4, "arrangeByDraw", "(J)V"⟩
def RX5 : String := "RabbitList$Stage"
def TX5 : u_T := fun k => match k with
  | 0 => ("RabbitList$Stage", "room", "I", false)
  | 1 => ("RabbitList$Stage", "extra", "I", false)
  | 2 => ("RabbitList$Stage", "things", "I", false)
  | 3 => ("RabbitList$Stage", "seats", "I", false)
  | 4 => ("RabbitList$Stage", "onList", "I", false)
  | 5 => ("RabbitList$Stage", "tap", "I", false)
  | 6 => ("RabbitList$Stage", "clapped", "I", false)
  | 7 => ("RabbitList$Stage", "handed", "I", false)
  | 8 => ("RabbitList$Stage", "gladdened", "I", false)
  | 9 => ("RabbitList$Stage", "applause", "I", false)
  | 10 => ("RabbitList$Stage", "kinds", "[I", true)
  | 11 => ("RabbitList$Stage", "labels", "[I", true)
  | 12 => ("RabbitList$Stage", "weights", "[I", true)
  | 13 => ("RabbitList$Stage", "joys", "[I", true)
  | 14 => ("RabbitList$Stage", "wants", "[I", true)
  | 15 => ("RabbitList$Stage", "patience", "[I", true)
  | 16 => ("RabbitList$Stage", "how", "[I", true)
  | _ => ("RabbitList$Stage", "line", "[I", true)
def tyX5 : Nat → FieldType := fun k => match k with
  | 0 => .int
  | 1 => .int
  | 2 => .int
  | 3 => .int
  | 4 => .int
  | 5 => .int
  | 6 => .int
  | 7 => .int
  | 8 => .int
  | 9 => .int
  | 10 => .array .int
  | 11 => .array .int
  | 12 => .array .int
  | 13 => .array .int
  | 14 => .array .int
  | 15 => .array .int
  | 16 => .array .int
  | _ => .array .int
theorem nmX5 : ∀ a, a < 18 → ∀ b, b < 18 → a ≠ b → (TX5 a).2.1 ≠ (TX5 b).2.1 := by decide +kernel
theorem tyX5_ok : ∀ k, k < 18 → parseFieldDescriptor (TX5 k).2.2.1 = some (tyX5 k) := by decide +kernel
abbrev cX5_init : ByteArray := prog_7_method_1_code
def yX5_init : MethodName := ⟨RX5, "<init>", "()V"⟩
abbrev cX5_takeOver : ByteArray := prog_7_method_2_code
def yX5_takeOver : MethodName := ⟨RX5, "takeOver", "(LRabbitList$Stage;)V"⟩
abbrev cX5_wipe : ByteArray := prog_7_method_3_code
def yX5_wipe : MethodName := ⟨RX5, "wipe", "()V"⟩
abbrev cX5_addThing : ByteArray := prog_7_method_4_code
def yX5_addThing : MethodName := ⟨RX5, "addThing", "(IIII)V"⟩
abbrev cX5_addSeat : ByteArray := prog_7_method_5_code
def yX5_addSeat : MethodName := ⟨RX5, "addSeat", "(II)V"⟩
abbrev cX5_isThing : ByteArray := prog_7_method_6_code
def yX5_isThing : MethodName := ⟨RX5, "isThing", "(I)Z"⟩
abbrev cX5_isSeat : ByteArray := prog_7_method_7_code
def yX5_isSeat : MethodName := ⟨RX5, "isSeat", "(I)Z"⟩
abbrev cX5_placeOf : ByteArray := prog_7_method_8_code
def yX5_placeOf : MethodName := ⟨RX5, "placeOf", "(I)I"⟩
abbrev cX5_takeOff : ByteArray := prog_7_method_9_code
def yX5_takeOff : MethodName := ⟨RX5, "takeOff", "(I)V"⟩
abbrev cX5_putLast : ByteArray := prog_7_method_10_code
def yX5_putLast : MethodName := ⟨RX5, "putLast", "(I)V"⟩
abbrev cX5_putFirst : ByteArray := prog_7_method_11_code
def yX5_putFirst : MethodName := ⟨RX5, "putFirst", "(I)V"⟩
abbrev cX5_takeAnew : ByteArray := prog_7_method_12_code
def yX5_takeAnew : MethodName := ⟨RX5, "takeAnew", "(III)V"⟩
abbrev cX5_wanting : ByteArray := prog_7_method_13_code
def yX5_wanting : MethodName := ⟨RX5, "wanting", "(I)I"⟩
abbrev cX5_seatsThat : ByteArray := prog_7_method_14_code
def yX5_seatsThat : MethodName := ⟨RX5, "seatsThat", "(I)I"⟩
abbrev cX5_standing : ByteArray := prog_7_method_15_code
def yX5_standing : MethodName := ⟨RX5, "standing", "(I)I"⟩
abbrev cX5_tapOnce : ByteArray := prog_7_method_16_code
def yX5_tapOnce : MethodName := ⟨RX5, "tapOnce", "()V"⟩
abbrev cX5_chosen : ByteArray := prog_7_method_17_code
def yX5_chosen : MethodName := ⟨RX5, "chosen", "()I"⟩
abbrev cX5_handUp : ByteArray := prog_7_method_18_code
def yX5_handUp : MethodName := ⟨RX5, "handUp", "(I)V"⟩
abbrev cX5_gladden : ByteArray := prog_7_method_19_code
def yX5_gladden : MethodName := ⟨RX5, "gladden", "(I)V"⟩
abbrev cX5_lendPatience : ByteArray := prog_7_method_20_code
def yX5_lendPatience : MethodName := ⟨RX5, "lendPatience", "()V"⟩
abbrev cX5_passTime : ByteArray := prog_7_method_21_code
def yX5_passTime : MethodName := ⟨RX5, "passTime", "()V"⟩
abbrev cX5_tapWhileOneWaits : ByteArray := prog_7_method_22_code
def yX5_tapWhileOneWaits : MethodName := ⟨RX5, "tapWhileOneWaits", "(I)V"⟩
abbrev cX5_sumOver : ByteArray := prog_7_method_23_code
def yX5_sumOver : MethodName := ⟨RX5, "sumOver", "(I[I)I"⟩
abbrev cX5_couldBePleased : ByteArray := prog_7_method_24_code
def yX5_couldBePleased : MethodName := ⟨RX5, "couldBePleased", "()I"⟩
abbrev cX5_lackedLabels : ByteArray := prog_7_method_25_code
def yX5_lackedLabels : MethodName := ⟨RX5, "lackedLabels", "()I"⟩
abbrev cX5_givenOf : ByteArray := prog_7_method_26_code
def yX5_givenOf : MethodName := ⟨RX5, "givenOf", "(I)I"⟩
abbrev cX5_listed : ByteArray := prog_7_method_27_code
def yX5_listed : MethodName := ⟨RX5, "listed", "(II)I"⟩
def RX6 : String := "RabbitList$Tape"
def TX6 : u_T := fun k => match k with
  | 0 => ("RabbitList$Tape", "bytes", "[I", true)
  | 1 => ("RabbitList$Tape", "size", "I", false)
  | 2 => ("RabbitList$Tape", "at", "I", false)
  | 3 => ("RabbitList$Tape", "fault", "I", false)
  | _ => ("RabbitList$Tape", "place", "I", false)
def tyX6 : Nat → FieldType := fun k => match k with
  | 0 => .array .int
  | 1 => .int
  | 2 => .int
  | 3 => .int
  | _ => .int
theorem nmX6 : ∀ a, a < 5 → ∀ b, b < 5 → a ≠ b → (TX6 a).2.1 ≠ (TX6 b).2.1 := by decide +kernel
theorem tyX6_ok : ∀ k, k < 5 → parseFieldDescriptor (TX6 k).2.2.1 = some (tyX6 k) := by decide +kernel
abbrev cX6_init : ByteArray := prog_8_method_1_code
def yX6_init : MethodName := ⟨RX6, "<init>", "()V"⟩
abbrev cX6_isFull : ByteArray := prog_8_method_2_code
def yX6_isFull : MethodName := ⟨RX6, "isFull", "()Z"⟩
abbrev cX6_append : ByteArray := prog_8_method_3_code
def yX6_append : MethodName := ⟨RX6, "append", "(I)I"⟩
abbrev cX6_empty : ByteArray := prog_8_method_4_code
def yX6_empty : MethodName := ⟨RX6, "empty", "()V"⟩
abbrev cX6_length : ByteArray := prog_8_method_5_code
def yX6_length : MethodName := ⟨RX6, "length", "()I"⟩
abbrev cX6_latestFault : ByteArray := prog_8_method_6_code
def yX6_latestFault : MethodName := ⟨RX6, "latestFault", "()I"⟩
abbrev cX6_faultPlace : ByteArray := prog_8_method_7_code
def yX6_faultPlace : MethodName := ⟨RX6, "faultPlace", "()I"⟩
abbrev cX6_readInto : ByteArray := prog_8_method_8_code
def yX6_readInto : MethodName := ⟨RX6, "readInto", "(LRabbitList$Stage;)Z"⟩
abbrev cX6_readLaw : ByteArray := prog_8_method_9_code
def yX6_readLaw : MethodName := ⟨RX6, "readLaw", "(LRabbitList$Stage;)Z"⟩
abbrev cX6_readThing : ByteArray := prog_8_method_10_code
def yX6_readThing : MethodName := ⟨RX6, "readThing", "(LRabbitList$Stage;)Z"⟩
abbrev cX6_readSeat : ByteArray := prog_8_method_11_code
def yX6_readSeat : MethodName := ⟨RX6, "readSeat", "(LRabbitList$Stage;)Z"⟩
abbrev cX6_readNumber : ByteArray := prog_8_method_12_code
def yX6_readNumber : MethodName := ⟨RX6, "readNumber", "(IIC)I"⟩
abbrev cX6_isFigure : ByteArray := prog_8_method_13_code
def yX6_isFigure : MethodName := ⟨RX6, "isFigure", "(I)Z"⟩
abbrev cX6_here : ByteArray := prog_8_method_14_code
def yX6_here : MethodName := ⟨RX6, "here", "()I"⟩
abbrev cX6_sortHere : ByteArray := prog_8_method_15_code
def yX6_sortHere : MethodName := ⟨RX6, "sortHere", "()I"⟩
abbrev cX6_flawed : ByteArray := prog_8_method_16_code
def yX6_flawed : MethodName := ⟨RX6, "flawed", "(I)Z"⟩
def RX7 : String := "RabbitList"
def TX7 : u_T := fun k => match k with
  | 0 => ("RabbitList", "rows", "LRabbitList$Rows;", true)
  | 1 => ("RabbitList", "tape", "LRabbitList$Tape;", true)
  | 2 => ("RabbitList", "stage", "LRabbitList$Stage;", true)
  | 3 => ("RabbitList", "draft", "LRabbitList$Stage;", true)
  | 4 => ("RabbitList", "acts", "LRabbitList$Acts;", true)
  | 5 => ("RabbitList", "firstImage", "LRabbitList$Stage;", true)
  | 6 => ("RabbitList", "secondImage", "LRabbitList$Stage;", true)
  | 7 => ("RabbitList", "seer", "LRabbitList$Seer;", true)
  | 8 => ("RabbitList", "planner", "LRabbitList$Planner;", true)
  | 9 => ("RabbitList", "asker", "LRabbitList$Asker;", true)
  | _ => ("RabbitList", "latestFinding", "I", false)
def tyX7 : Nat → FieldType := fun k => match k with
  | 0 => .object "RabbitList$Rows"
  | 1 => .object "RabbitList$Tape"
  | 2 => .object "RabbitList$Stage"
  | 3 => .object "RabbitList$Stage"
  | 4 => .object "RabbitList$Acts"
  | 5 => .object "RabbitList$Stage"
  | 6 => .object "RabbitList$Stage"
  | 7 => .object "RabbitList$Seer"
  | 8 => .object "RabbitList$Planner"
  | 9 => .object "RabbitList$Asker"
  | _ => .int
theorem nmX7 : ∀ a, a < 11 → ∀ b, b < 11 → a ≠ b → (TX7 a).2.1 ≠ (TX7 b).2.1 := by decide +kernel
theorem tyX7_ok : ∀ k, k < 11 → parseFieldDescriptor (TX7 k).2.2.1 = some (tyX7 k) := by decide +kernel
abbrev cX7_init : ByteArray := prog_1_method_1_code
def yX7_init : MethodName := ⟨RX7, "<init>", "()V"⟩
abbrev cX7_row : ByteArray := prog_1_method_2_code
def yX7_row : MethodName := ⟨RX7, "row", "(III)I"⟩
abbrev cX7_set : ByteArray := prog_1_method_3_code
def yX7_set : MethodName := ⟨RX7, "set", "(III)I"⟩
abbrev cX7_copy : ByteArray := prog_1_method_4_code
def yX7_copy : MethodName := ⟨RX7, "copy", "(IIIII)I"⟩
abbrev cX7_drop : ByteArray := prog_1_method_5_code
def yX7_drop : MethodName := ⟨RX7, "drop", "(I)I"⟩
abbrev cX7_feed : ByteArray := prog_1_method_6_code
def yX7_feed : MethodName := ⟨RX7, "feed", "(I)I"⟩
abbrev cX7_show : ByteArray := prog_1_method_7_code
def yX7_show : MethodName := ⟨RX7, "show", "()I"⟩
abbrev cX7_fault : ByteArray := prog_1_method_8_code
def yX7_fault : MethodName := ⟨RX7, "fault", "()I"⟩
abbrev cX7_undo : ByteArray := prog_1_method_9_code
def yX7_undo : MethodName := ⟨RX7, "undo", "()I"⟩
abbrev cX7_taps : ByteArray := prog_1_method_10_code
def yX7_taps : MethodName := ⟨RX7, "taps", "(I)I"⟩
abbrev cX7_front : ByteArray := prog_1_method_11_code
def yX7_front : MethodName := ⟨RX7, "front", "(I)I"⟩
abbrev cX7_off : ByteArray := prog_1_method_12_code
def yX7_off : MethodName := ⟨RX7, "off", "(I)I"⟩
abbrev cX7_back : ByteArray := prog_1_method_13_code
def yX7_back : MethodName := ⟨RX7, "back", "(I)I"⟩
abbrev cX7_sit : ByteArray := prog_1_method_14_code
def yX7_sit : MethodName := ⟨RX7, "sit", "(III)I"⟩
abbrev cX7_thing : ByteArray := prog_1_method_15_code
def yX7_thing : MethodName := ⟨RX7, "thing", "(II)I"⟩
abbrev cX7_seat : ByteArray := prog_1_method_16_code
def yX7_seat : MethodName := ⟨RX7, "seat", "(II)I"⟩
abbrev cX7_list : ByteArray := prog_1_method_17_code
def yX7_list : MethodName := ⟨RX7, "list", "(I)I"⟩
abbrev cX7_stand : ByteArray := prog_1_method_18_code
def yX7_stand : MethodName := ⟨RX7, "stand", "(I)I"⟩
abbrev cX7_next : ByteArray := prog_1_method_19_code
def yX7_next : MethodName := ⟨RX7, "next", "(I)I"⟩
abbrev cX7_ahead : ByteArray := prog_1_method_20_code
def yX7_ahead : MethodName := ⟨RX7, "ahead", "(II)I"⟩
abbrev cX7_when : ByteArray := prog_1_method_21_code
def yX7_when : MethodName := ⟨RX7, "when", "(II)I"⟩
abbrev cX7_comes : ByteArray := prog_1_method_22_code
def yX7_comes : MethodName := ⟨RX7, "comes", "(I)I"⟩
abbrev cX7_order : ByteArray := prog_1_method_23_code
def yX7_order : MethodName := ⟨RX7, "order", "(I)I"⟩
abbrev cX7_pack : ByteArray := prog_1_method_24_code
def yX7_pack : MethodName := ⟨RX7, "pack", "(I)I"⟩
abbrev cX7_match : ByteArray := prog_1_method_25_code
def yX7_match : MethodName := ⟨RX7, "match", "()I"⟩
abbrev cX7_clear : ByteArray := prog_1_method_26_code
def yX7_clear : MethodName := ⟨RX7, "clear", "(III)I"⟩
abbrev cX7_bring : ByteArray := prog_1_method_27_code
def yX7_bring : MethodName := ⟨RX7, "bring", "(II)I"⟩
abbrev cX7_lack : ByteArray := prog_1_method_28_code
def yX7_lack : MethodName := ⟨RX7, "lack", "()I"⟩
abbrev cX7_who : ByteArray := prog_1_method_29_code
def yX7_who : MethodName := ⟨RX7, "who", "(IIIII)I"⟩
abbrev cX7_wanted : ByteArray := prog_1_method_30_code
def yX7_wanted : MethodName := ⟨RX7, "wanted", "(IIIII)I"⟩
abbrev cX7_wasOff : ByteArray := prog_1_method_31_code
def yX7_wasOff : MethodName := ⟨RX7, "wasOff", "(III)I"⟩
abbrev cX7_wander : ByteArray := prog_1_method_32_code
def yX7_wander : MethodName := ⟨RX7, "wander", "(IIII)J"⟩
abbrev cX7_drawn : ByteArray := prog_1_method_33_code
def yX7_drawn : MethodName := ⟨RX7, "drawn", "(III)I"⟩
abbrev cX7_image : ByteArray := prog_1_method_34_code
def yX7_image : MethodName := ⟨RX7, "image", "(I)I"⟩
abbrev cX7_restore : ByteArray := prog_1_method_35_code
def yX7_restore : MethodName := ⟨RX7, "restore", "(I)I"⟩
abbrev cX7_kind : ByteArray := prog_1_method_36_code
def yX7_kind : MethodName := ⟨RX7, "kind", "(I)I"⟩
abbrev cX7_as : ByteArray := prog_1_method_37_code
def yX7_as : MethodName := ⟨RX7, "as", "(II)I"⟩
abbrev cX7_ask : ByteArray := prog_1_method_38_code
def yX7_ask : MethodName := ⟨RX7, "ask", "(II)I"⟩
abbrev cX7_trace : ByteArray := prog_1_method_39_code
def yX7_trace : MethodName := ⟨RX7, "trace", "(I)I"⟩
abbrev cX7_count : ByteArray := prog_1_method_40_code
def yX7_count : MethodName := ⟨RX7, "count", "(I)I"⟩
abbrev cX7_status : ByteArray := prog_1_method_41_code
def yX7_status : MethodName := ⟨RX7, "status", "()I"⟩
abbrev cX7_found : ByteArray := prog_1_method_42_code
def yX7_found : MethodName := ⟨RX7, "found", "(I)I"⟩
abbrev cX7_foundNothing : ByteArray := prog_1_method_43_code
def yX7_foundNothing : MethodName := ⟨RX7, "foundNothing", "(I)I"⟩
abbrev cX7_orNone : ByteArray := prog_1_method_44_code
def yX7_orNone : MethodName := ⟨RX7, "orNone", "(I)I"⟩
abbrev cX7_noShow : ByteArray := prog_1_method_45_code
def yX7_noShow : MethodName := ⟨RX7, "noShow", "()Z"⟩
abbrev cX7_imageOf : ByteArray := prog_1_method_46_code
def yX7_imageOf : MethodName := ⟨RX7, "imageOf", "(I)LRabbitList$Stage;"⟩
abbrev cX7_canTell : ByteArray := prog_1_method_47_code
def yX7_canTell : MethodName := ⟨RX7, "canTell", "(II)Z"⟩
def RX8 : String := "RabbitListModel"
def TX8 : u_T := fun k => match k with
  | 0 => ("RabbitListModel", "lanes", "[I", true)
  | 1 => ("RabbitListModel", "sizes", "[I", true)
  | 2 => ("RabbitListModel", "items", "[I", true)
  | 3 => ("RabbitListModel", "status", "I", false)
  | 4 => ("RabbitListModel", "isThere", "Z", false)
  | 5 => ("RabbitListModel", "st", "[I", true)
  | 6 => ("RabbitListModel", "moved", "[I", true)
  | 7 => ("RabbitListModel", "tape", "[I", true)
  | 8 => ("RabbitListModel", "bytes", "I", false)
  | 9 => ("RabbitListModel", "latest", "I", false)
  | 10 => ("RabbitListModel", "place", "I", false)
  | 11 => ("RabbitListModel", "token", "I", false)
  | 12 => ("RabbitListModel", "value", "I", false)
  | 13 => ("RabbitListModel", "begins", "I", false)
  | 14 => ("RabbitListModel", "wrong", "I", false)
  | 15 => ("RabbitListModel", "read", "[I", true)
  | 16 => ("RabbitListModel", "acts", "[I", true)
  | 17 => ("RabbitListModel", "actMany", "I", false)
  | 18 => ("RabbitListModel", "aside", "[I", true)
  | 19 => ("RabbitListModel", "row", "[I", true)
  | 20 => ("RabbitListModel", "bestRow", "[I", true)
  | 21 => ("RabbitListModel", "isKept", "[Z", true)
  | 22 => ("RabbitListModel", "kept", "[I", true)
  | 23 => ("RabbitListModel", "trace", "[I", true)
  | _ => ("RabbitListModel", "traced", "I", false)
def tyX8 : Nat → FieldType := fun k => match k with
  | 0 => .array .int
  | 1 => .array .int
  | 2 => .array .int
  | 3 => .int
  | 4 => .boolean
  | 5 => .array .int
  | 6 => .array .int
  | 7 => .array .int
  | 8 => .int
  | 9 => .int
  | 10 => .int
  | 11 => .int
  | 12 => .int
  | 13 => .int
  | 14 => .int
  | 15 => .array .int
  | 16 => .array .int
  | 17 => .int
  | 18 => .array .int
  | 19 => .array .int
  | 20 => .array .int
  | 21 => .array .boolean
  | 22 => .array .int
  | 23 => .array .int
  | _ => .int
theorem nmX8 : ∀ a, a < 25 → ∀ b, b < 25 → a ≠ b → (TX8 a).2.1 ≠ (TX8 b).2.1 := by decide +kernel
theorem tyX8_ok : ∀ k, k < 25 → parseFieldDescriptor (TX8 k).2.2.1 = some (tyX8 k) := by decide +kernel
abbrev cX8_init : ByteArray := prog_10_method_1_code
def yX8_init : MethodName := ⟨RX8, "<init>", "()V"⟩
abbrev cX8_in : ByteArray := prog_10_method_2_code
def yX8_in : MethodName := ⟨RX8, "in", "(JJJ)Z"⟩
abbrev cX8_has : ByteArray := prog_10_method_3_code
def yX8_has : MethodName := ⟨RX8, "has", "(II)Z"⟩
abbrev cX8_ones : ByteArray := prog_10_method_4_code
def yX8_ones : MethodName := ⟨RX8, "ones", "(I)I"⟩
abbrev cX8_find : ByteArray := prog_10_method_5_code
def yX8_find : MethodName := ⟨RX8, "find", "(I)I"⟩
abbrev cX8_well : ByteArray := prog_10_method_6_code
def yX8_well : MethodName := ⟨RX8, "well", "(I)I"⟩
abbrev cX8_isRow : ByteArray := prog_10_method_7_code
def yX8_isRow : MethodName := ⟨RX8, "isRow", "(I)Z"⟩
abbrev cX8_row : ByteArray := prog_10_method_8_code
def yX8_row : MethodName := ⟨RX8, "row", "(III)I"⟩
abbrev cX8_asLane : ByteArray := prog_10_method_9_code
def yX8_asLane : MethodName := ⟨RX8, "asLane", "(II)I"⟩
abbrev cX8_set : ByteArray := prog_10_method_10_code
def yX8_set : MethodName := ⟨RX8, "set", "(III)I"⟩
abbrev cX8_copy : ByteArray := prog_10_method_11_code
def yX8_copy : MethodName := ⟨RX8, "copy", "(IIIII)I"⟩
abbrev cX8_drop : ByteArray := prog_10_method_12_code
def yX8_drop : MethodName := ⟨RX8, "drop", "(I)I"⟩
abbrev cX8_feed : ByteArray := prog_10_method_13_code
def yX8_feed : MethodName := ⟨RX8, "feed", "(I)I"⟩
abbrev cX8_nextToken : ByteArray := prog_10_method_14_code
def yX8_nextToken : MethodName := ⟨RX8, "nextToken", "()V"⟩
abbrev cX8_faults : ByteArray := prog_10_method_15_code
def yX8_faults : MethodName := ⟨RX8, "faults", "(I)Z"⟩
abbrev cX8_isLetter : ByteArray := prog_10_method_16_code
def yX8_isLetter : MethodName := ⟨RX8, "isLetter", "(I)Z"⟩
abbrev cX8_takes : ByteArray := prog_10_method_17_code
def yX8_takes : MethodName := ⟨RX8, "takes", "(I)Z"⟩
abbrev cX8_takesNumber : ByteArray := prog_10_method_18_code
def yX8_takesNumber : MethodName := ⟨RX8, "takesNumber", "(IIII)Z"⟩
abbrev cX8_readThing : ByteArray := prog_10_method_19_code
def yX8_readThing : MethodName := ⟨RX8, "readThing", "(I)Z"⟩
abbrev cX8_readSeat : ByteArray := prog_10_method_20_code
def yX8_readSeat : MethodName := ⟨RX8, "readSeat", "()Z"⟩
abbrev cX8_readShow : ByteArray := prog_10_method_21_code
def yX8_readShow : MethodName := ⟨RX8, "readShow", "()Z"⟩
abbrev cX8_show : ByteArray := prog_10_method_22_code
def yX8_show : MethodName := ⟨RX8, "show", "()I"⟩
abbrev cX8_fault : ByteArray := prog_10_method_23_code
def yX8_fault : MethodName := ⟨RX8, "fault", "()I"⟩
abbrev cX8_isThing : ByteArray := prog_10_method_24_code
def yX8_isThing : MethodName := ⟨RX8, "isThing", "(I)Z"⟩
abbrev cX8_isSeat : ByteArray := prog_10_method_25_code
def yX8_isSeat : MethodName := ⟨RX8, "isSeat", "(I)Z"⟩
abbrev cX8_seatsOf : ByteArray := prog_10_method_26_code
def yX8_seatsOf : MethodName := ⟨RX8, "seatsOf", "(I)I"⟩
abbrev cX8_wantersOf : ByteArray := prog_10_method_27_code
def yX8_wantersOf : MethodName := ⟨RX8, "wantersOf", "(I)I"⟩
abbrev cX8_wantedBy : ByteArray := prog_10_method_28_code
def yX8_wantedBy : MethodName := ⟨RX8, "wantedBy", "(I)I"⟩
abbrev cX8_placeOf : ByteArray := prog_10_method_29_code
def yX8_placeOf : MethodName := ⟨RX8, "placeOf", "(I)I"⟩
abbrev cX8_takeOff : ByteArray := prog_10_method_30_code
def yX8_takeOff : MethodName := ⟨RX8, "takeOff", "(I)V"⟩
abbrev cX8_layBehind : ByteArray := prog_10_method_31_code
def yX8_layBehind : MethodName := ⟨RX8, "layBehind", "(I)V"⟩
abbrev cX8_layFirst : ByteArray := prog_10_method_32_code
def yX8_layFirst : MethodName := ⟨RX8, "layFirst", "(I)V"⟩
abbrev cX8_nextThing : ByteArray := prog_10_method_33_code
def yX8_nextThing : MethodName := ⟨RX8, "nextThing", "()I"⟩
abbrev cX8_isComingBack : ByteArray := prog_10_method_34_code
def yX8_isComingBack : MethodName := ⟨RX8, "isComingBack", "(I)Z"⟩
abbrev cX8_pleasedBy : ByteArray := prog_10_method_35_code
def yX8_pleasedBy : MethodName := ⟨RX8, "pleasedBy", "(I)I"⟩
abbrev cX8_clapsFor : ByteArray := prog_10_method_36_code
def yX8_clapsFor : MethodName := ⟨RX8, "clapsFor", "(II)I"⟩
abbrev cX8_tapWith : ByteArray := prog_10_method_37_code
def yX8_tapWith : MethodName := ⟨RX8, "tapWith", "(IZ)V"⟩
abbrev cX8_oneTap : ByteArray := prog_10_method_38_code
def yX8_oneTap : MethodName := ⟨RX8, "oneTap", "()V"⟩
abbrev cX8_note : ByteArray := prog_10_method_39_code
def yX8_note : MethodName := ⟨RX8, "note", "()V"⟩
abbrev cX8_undo : ByteArray := prog_10_method_40_code
def yX8_undo : MethodName := ⟨RX8, "undo", "()I"⟩
abbrev cX8_taps : ByteArray := prog_10_method_41_code
def yX8_taps : MethodName := ⟨RX8, "taps", "(I)I"⟩
abbrev cX8_front : ByteArray := prog_10_method_42_code
def yX8_front : MethodName := ⟨RX8, "front", "(I)I"⟩
abbrev cX8_off : ByteArray := prog_10_method_43_code
def yX8_off : MethodName := ⟨RX8, "off", "(I)I"⟩
abbrev cX8_back : ByteArray := prog_10_method_44_code
def yX8_back : MethodName := ⟨RX8, "back", "(I)I"⟩
abbrev cX8_seatAnew : ByteArray := prog_10_method_45_code
def yX8_seatAnew : MethodName := ⟨RX8, "seatAnew", "(III)V"⟩
abbrev cX8_sit : ByteArray := prog_10_method_46_code
def yX8_sit : MethodName := ⟨RX8, "sit", "(III)I"⟩
abbrev cX8_thing : ByteArray := prog_10_method_47_code
def yX8_thing : MethodName := ⟨RX8, "thing", "(II)I"⟩
abbrev cX8_seat : ByteArray := prog_10_method_48_code
def yX8_seat : MethodName := ⟨RX8, "seat", "(II)I"⟩
abbrev cX8_list : ByteArray := prog_10_method_49_code
def yX8_list : MethodName := ⟨RX8, "list", "(I)I"⟩
abbrev cX8_standing : ByteArray := prog_10_method_50_code
def yX8_standing : MethodName := ⟨RX8, "standing", "(I)I"⟩
abbrev cX8_stand : ByteArray := prog_10_method_51_code
def yX8_stand : MethodName := ⟨RX8, "stand", "(I)I"⟩
abbrev cX8_putAside : ByteArray := prog_10_method_52_code
def yX8_putAside : MethodName := ⟨RX8, "putAside", "()V"⟩
abbrev cX8_takeBack : ByteArray := prog_10_method_53_code
def yX8_takeBack : MethodName := ⟨RX8, "takeBack", "()V"⟩
abbrev cX8_goOn : ByteArray := prog_10_method_54_code
def yX8_goOn : MethodName := ⟨RX8, "goOn", "(I)V"⟩
abbrev cX8_isWhat : ByteArray := prog_10_method_55_code
def yX8_isWhat : MethodName := ⟨RX8, "isWhat", "(I)Z"⟩
abbrev cX8_next : ByteArray := prog_10_method_56_code
def yX8_next : MethodName := ⟨RX8, "next", "(I)I"⟩
abbrev cX8_ahead : ByteArray := prog_10_method_57_code
def yX8_ahead : MethodName := ⟨RX8, "ahead", "(II)I"⟩
abbrev cX8_when : ByteArray := prog_10_method_58_code
def yX8_when : MethodName := ⟨RX8, "when", "(II)I"⟩
abbrev cX8_comes : ByteArray := prog_10_method_59_code
def yX8_comes : MethodName := ⟨RX8, "comes", "(I)I"⟩
abbrev cX8_isNext : ByteArray := prog_10_method_60_code
def yX8_isNext : MethodName := ⟨RX8, "isNext", "(I)Z"⟩
abbrev cX8_change : ByteArray := prog_10_method_61_code
def yX8_change : MethodName := ⟨RX8, "change", "(II)V"⟩
abbrev cX8_order : ByteArray := prog_10_method_62_code
def yX8_order : MethodName := ⟨RX8, "order", "(I)I"⟩
abbrev cX8_sumOf : ByteArray := prog_10_method_63_code
def yX8_sumOf : MethodName := ⟨RX8, "sumOf", "(II)I"⟩
abbrev cX8_pack : ByteArray := prog_10_method_64_code
def yX8_pack : MethodName := ⟨RX8, "pack", "(I)I"⟩
abbrev cX8_stockOf : ByteArray := prog_10_method_65_code
def yX8_stockOf : MethodName := ⟨RX8, "stockOf", "(I)I"⟩
abbrev cX8_match : ByteArray := prog_10_method_66_code
def yX8_match : MethodName := ⟨RX8, "match", "()I"⟩
abbrev cX8_clear : ByteArray := prog_10_method_67_code
def yX8_clear : MethodName := ⟨RX8, "clear", "(III)I"⟩
abbrev cX8_bring : ByteArray := prog_10_method_68_code
def yX8_bring : MethodName := ⟨RX8, "bring", "(II)I"⟩
abbrev cX8_lack : ByteArray := prog_10_method_69_code
def yX8_lack : MethodName := ⟨RX8, "lack", "()I"⟩
abbrev cX8_lacks : ByteArray := prog_10_method_70_code
def yX8_lacks : MethodName := ⟨RX8, "lacks", "(III)I"⟩
abbrev cX8_isLine : ByteArray := prog_10_method_71_code
def yX8_isLine : MethodName := ⟨RX8, "isLine", "(II)Z"⟩
abbrev cX8_isSo : ByteArray := prog_10_method_72_code
def yX8_isSo : MethodName := ⟨RX8, "isSo", "(II)Z"⟩
abbrev cX8_who : ByteArray := prog_10_method_73_code
def yX8_who : MethodName := ⟨RX8, "who", "(IIIII)I"⟩
abbrev cX8_wanted : ByteArray := prog_10_method_74_code
def yX8_wanted : MethodName := ⟨RX8, "wanted", "(IIIII)I"⟩
abbrev cX8_wasOff : ByteArray := prog_10_method_75_code
def yX8_wasOff : MethodName := ⟨RX8, "wasOff", "(III)I"⟩
abbrev cX8_wander : ByteArray := prog_10_method_76_code
def yX8_wander : MethodName := ⟨RX8, "wander", "(IIII)J"⟩
abbrev cX8_drawn : ByteArray := prog_10_method_77_code
def yX8_drawn : MethodName := ⟨RX8, "drawn", "(III)I"⟩
abbrev cX8_image : ByteArray := prog_10_method_78_code
def yX8_image : MethodName := ⟨RX8, "image", "(I)I"⟩
abbrev cX8_restore : ByteArray := prog_10_method_79_code
def yX8_restore : MethodName := ⟨RX8, "restore", "(I)I"⟩
abbrev cX8_kind : ByteArray := prog_10_method_80_code
def yX8_kind : MethodName := ⟨RX8, "kind", "(I)I"⟩
abbrev cX8_isKind : ByteArray := prog_10_method_81_code
def yX8_isKind : MethodName := ⟨RX8, "isKind", "(II)Z"⟩
abbrev cX8_as : ByteArray := prog_10_method_82_code
def yX8_as : MethodName := ⟨RX8, "as", "(II)I"⟩
abbrev cX8_begin : ByteArray := prog_10_method_83_code
def yX8_begin : MethodName := ⟨RX8, "begin", "(I)V"⟩
abbrev cX8_lent : ByteArray := prog_10_method_84_code
def yX8_lent : MethodName := ⟨RX8, "lent", "(II)I"⟩
abbrev cX8_plainMark : ByteArray := prog_10_method_85_code
def yX8_plainMark : MethodName := ⟨RX8, "plainMark", "(I)I"⟩
abbrev cX8_liveSize : ByteArray := prog_10_method_86_code
def yX8_liveSize : MethodName := ⟨RX8, "liveSize", "(I)I"⟩
abbrev cX8_sizeOfLive : ByteArray := prog_10_method_87_code
def yX8_sizeOfLive : MethodName := ⟨RX8, "sizeOfLive", "(I)I"⟩
abbrev cX8_markOf : ByteArray := prog_10_method_88_code
def yX8_markOf : MethodName := ⟨RX8, "markOf", "(I)I"⟩
abbrev cX8_plainSize : ByteArray := prog_10_method_89_code
def yX8_plainSize : MethodName := ⟨RX8, "plainSize", "(I)I"⟩
abbrev cX8_sizeOf : ByteArray := prog_10_method_90_code
def yX8_sizeOf : MethodName := ⟨RX8, "sizeOf", "(I)I"⟩
abbrev cX8_ask : ByteArray := prog_10_method_91_code
def yX8_ask : MethodName := ⟨RX8, "ask", "(II)I"⟩
abbrev cX8_trace : ByteArray := prog_10_method_92_code
def yX8_trace : MethodName := ⟨RX8, "trace", "(I)I"⟩
abbrev cX8_count : ByteArray := prog_10_method_93_code
def yX8_count : MethodName := ⟨RX8, "count", "(I)I"⟩
abbrev cX8_status : ByteArray := prog_10_method_94_code
def yX8_status : MethodName := ⟨RX8, "status", "()I"⟩
def RJ11 : String := "java/lang/Character"
def TJ11 : u_T := fun k => match k with
  | _ => ("", "", "", false)
def tyJ11 : Nat → FieldType := fun k => match k with
  | _ => .int
theorem nmJ11 : ∀ a, a < 0 → ∀ b, b < 0 → a ≠ b → (TJ11 a).2.1 ≠ (TJ11 b).2.1 := by decide +kernel
theorem tyJ11_ok : ∀ k, k < 0 → parseFieldDescriptor (TJ11 k).2.2.1 = some (tyJ11 k) := by decide +kernel
abbrev cJ11_isValidCodePoint_9a6ad : ByteArray := prog_11_method_11_code
def yJ11_isValidCodePoint_9a6ad : MethodName := ⟨RJ11, "isValidCodePoint", "(I)Z"⟩
abbrev cJ11_highSurrogate_5068e : ByteArray := prog_11_method_28_code
def yJ11_highSurrogate_5068e : MethodName := ⟨RJ11, "highSurrogate", "(I)C"⟩
abbrev cJ11_lowSurrogate_5068e : ByteArray := prog_11_method_29_code
def yJ11_lowSurrogate_5068e : MethodName := ⟨RJ11, "lowSurrogate", "(I)C"⟩
def RJ6 : String := "java/lang/Integer"
def TJ6 : u_T := fun k => match k with
  | _ => ("", "", "", false)
def tyJ6 : Nat → FieldType := fun k => match k with
  | _ => .int
theorem nmJ6 : ∀ a, a < 0 → ∀ b, b < 0 → a ≠ b → (TJ6 a).2.1 ≠ (TJ6 b).2.1 := by decide +kernel
theorem tyJ6_ok : ∀ k, k < 0 → parseFieldDescriptor (TJ6 k).2.2.1 = some (tyJ6 k) := by decide +kernel
abbrev cJ6_bitCount_0f7a4 : ByteArray := prog_12_method_49_code
def yJ6_bitCount_0f7a4 : MethodName := ⟨RJ6, "bitCount", "(I)I"⟩
def RJ9 : String := "java/lang/Math"
def TJ9 : u_T := fun k => match k with
  | _ => ("", "", "", false)
def tyJ9 : Nat → FieldType := fun k => match k with
  | _ => .int
theorem nmJ9 : ∀ a, a < 0 → ∀ b, b < 0 → a ≠ b → (TJ9 a).2.1 ≠ (TJ9 b).2.1 := by decide +kernel
theorem tyJ9_ok : ∀ k, k < 0 → parseFieldDescriptor (TJ9 k).2.2.1 = some (tyJ9 k) := by decide +kernel
abbrev cJ9_max_7cf53 : ByteArray := prog_13_method_65_code
def yJ9_max_7cf53 : MethodName := ⟨RJ9, "max", "(II)I"⟩
abbrev cJ9_min_7cf53 : ByteArray := prog_13_method_69_code
def yJ9_min_7cf53 : MethodName := ⟨RJ9, "min", "(II)I"⟩
def RJ0 : String := "java/lang/String"
def TJ0 : u_T := fun k => match k with
  | _ => ("", "", "", false)
def tyJ0 : Nat → FieldType := fun k => match k with
  | _ => .int
theorem nmJ0 : ∀ a, a < 0 → ∀ b, b < 0 → a ≠ b → (TJ0 a).2.1 ≠ (TJ0 b).2.1 := by decide +kernel
theorem tyJ0_ok : ∀ k, k < 0 → parseFieldDescriptor (TJ0 k).2.2.1 = some (tyJ0 k) := by decide +kernel
abbrev cJ0_length_8abf5 : ByteArray := prog_14_method_54_code
def yJ0_length_8abf5 : MethodName := ⟨RJ0, "length", "()I"⟩
abbrev cJ0_indexOf_0f7a4 : ByteArray := prog_14_method_79_code
def yJ0_indexOf_0f7a4 : MethodName := ⟨RJ0, "indexOf", "(I)I"⟩
abbrev cJ0_indexOf_7cf53 : ByteArray := prog_14_method_80_code
def yJ0_indexOf_7cf53 : MethodName := ⟨RJ0, "indexOf", "(II)I"⟩
abbrev cJ0_coder_7d493 : ByteArray := prog_14_method_152_code
def yJ0_coder_7d493 : MethodName := ⟨RJ0, "coder", "()B"⟩
abbrev cJ0_isLatin1_aae02 : ByteArray := prog_14_method_154_code
def yJ0_isLatin1_aae02 : MethodName := ⟨RJ0, "isLatin1", "()Z"⟩
abbrev cJ0_checkBoundsBeginEnd_23922 : ByteArray := prog_14_method_158_code
def yJ0_checkBoundsBeginEnd_23922 : MethodName := ⟨RJ0, "checkBoundsBeginEnd", "(III)V"⟩
def RJ1 : String := "java/lang/StringLatin1"
def TJ1 : u_T := fun k => match k with
  | _ => ("", "", "", false)
def tyJ1 : Nat → FieldType := fun k => match k with
  | _ => .int
theorem nmJ1 : ∀ a, a < 0 → ∀ b, b < 0 → a ≠ b → (TJ1 a).2.1 ≠ (TJ1 b).2.1 := by decide +kernel
theorem tyJ1_ok : ∀ k, k < 0 → parseFieldDescriptor (TJ1 k).2.2.1 = some (tyJ1 k) := by decide +kernel
abbrev cJ1_canEncode_9a6ad : ByteArray := prog_15_method_4_code
def yJ1_canEncode_9a6ad : MethodName := ⟨RJ1, "canEncode", "(I)Z"⟩
abbrev cJ1_indexOf_4cfef : ByteArray := prog_15_method_22_code
def yJ1_indexOf_4cfef : MethodName := ⟨RJ1, "indexOf", "([BIII)I"⟩
abbrev cJ1_indexOfChar_4cfef : ByteArray := prog_15_method_23_code
def yJ1_indexOfChar_4cfef : MethodName := ⟨RJ1, "indexOfChar", "([BIII)I"⟩
def RJ2 : String := "java/lang/StringUTF16"
def TJ2 : u_T := fun k => match k with
  | _ => ("", "", "", false)
def tyJ2 : Nat → FieldType := fun k => match k with
  | _ => .int
theorem nmJ2 : ∀ a, a < 0 → ∀ b, b < 0 → a ≠ b → (TJ2 a).2.1 ≠ (TJ2 b).2.1 := by decide +kernel
theorem tyJ2_ok : ∀ k, k < 0 → parseFieldDescriptor (TJ2 k).2.2.1 = some (tyJ2 k) := by decide +kernel
abbrev cJ2_getChar_3b067 : ByteArray := prog_16_method_5_code
def yJ2_getChar_3b067 : MethodName := ⟨RJ2, "getChar", "([BI)C"⟩
abbrev cJ2_length_9d52b : ByteArray := prog_16_method_6_code
def yJ2_length_9d52b : MethodName := ⟨RJ2, "length", "([B)I"⟩
abbrev cJ2_indexOf_4cfef : ByteArray := prog_16_method_40_code
def yJ2_indexOf_4cfef : MethodName := ⟨RJ2, "indexOf", "([BIII)I"⟩
abbrev cJ2_indexOfChar_4cfef : ByteArray := prog_16_method_47_code
def yJ2_indexOfChar_4cfef : MethodName := ⟨RJ2, "indexOfChar", "([BIII)I"⟩
abbrev cJ2_indexOfCharUnsafe_4cfef : ByteArray := prog_16_method_48_code
def yJ2_indexOfCharUnsafe_4cfef : MethodName := ⟨RJ2, "indexOfCharUnsafe", "([BIII)I"⟩
abbrev cJ2_indexOfSupplementary_4cfef : ByteArray := prog_16_method_49_code
def yJ2_indexOfSupplementary_4cfef : MethodName := ⟨RJ2, "indexOfSupplementary", "([BIII)I"⟩
abbrev cJ2_checkBoundsBeginEnd_d044e : ByteArray := prog_16_method_93_code
def yJ2_checkBoundsBeginEnd_d044e : MethodName := ⟨RJ2, "checkBoundsBeginEnd", "(II[B)V"⟩
def RJ10 : String := "java/lang/System"
def TJ10 : u_T := fun k => match k with
  | _ => ("", "", "", false)
def tyJ10 : Nat → FieldType := fun k => match k with
  | _ => .int
theorem nmJ10 : ∀ a, a < 0 → ∀ b, b < 0 → a ≠ b → (TJ10 a).2.1 ≠ (TJ10 b).2.1 := by decide +kernel
theorem tyJ10_ok : ∀ k, k < 0 → parseFieldDescriptor (TJ10 k).2.2.1 = some (tyJ10 k) := by decide +kernel
def RJ3 : String := "jdk/internal/util/Preconditions"
def TJ3 : u_T := fun k => match k with
  | _ => ("", "", "", false)
def tyJ3 : Nat → FieldType := fun k => match k with
  | _ => .int
theorem nmJ3 : ∀ a, a < 0 → ∀ b, b < 0 → a ≠ b → (TJ3 a).2.1 ≠ (TJ3 b).2.1 := by decide +kernel
theorem tyJ3_ok : ∀ k, k < 0 → parseFieldDescriptor (TJ3 k).2.2.1 = some (tyJ3 k) := by decide +kernel
abbrev cJ3_checkFromToIndex_8c36e : ByteArray := prog_18_method_12_code
def yJ3_checkFromToIndex_8c36e : MethodName := ⟨RJ3, "checkFromToIndex", "(IIILjava/util/function/BiFunction;)I"⟩
def RL : String := "RabbitListLaw"
abbrev cL_law : ByteArray := code
abbrev vwCl : List vw_C := [(RX0, TX0, 3), (RX1, TX1, 2), (RX2, TX2, 7), (RX3, TX3, 3), (RX4, TX4, 3), (RX5, TX5, 18), (RX6, TX6, 5), (RX7, TX7, 11), (RX8, TX8, 25)]
