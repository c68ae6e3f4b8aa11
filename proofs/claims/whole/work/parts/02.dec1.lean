theorem dX0_init_0 : decode cX0_init 0 = .ok (.aload_n 0, 1) := by decide +kernel
theorem dX0_init_1 : decode cX0_init 1 = .ok (.invokespecial 1, 3) := by decide +kernel
theorem dX0_init_4 : decode cX0_init 4 = .ok (.aload_n 0, 1) := by decide +kernel
theorem dX0_init_5 : decode cX0_init 5 = .ok (.bipush 24, 2) := by decide +kernel
theorem dX0_init_7 : decode cX0_init 7 = .ok (.anewarray 9, 3) := by decide +kernel
theorem dX0_init_10 : decode cX0_init 10 = .ok (.putfield 11, 3) := by decide +kernel
theorem dX0_init_13 : decode cX0_init 13 = .ok (.iconst 0, 1) := by decide +kernel
theorem dX0_init_14 : decode cX0_init 14 = .ok (.istore_n 1, 1) := by decide +kernel
theorem dX0_init_15 : decode cX0_init 15 = .ok (.iload_n 1, 1) := by decide +kernel
theorem dX0_init_16 : decode cX0_init 16 = .ok (.bipush 24, 2) := by decide +kernel
theorem dX0_init_18 : decode cX0_init 18 = .ok (.if_icmp .ge 22, 3) := by decide +kernel
theorem dX0_init_21 : decode cX0_init 21 = .ok (.aload_n 0, 1) := by decide +kernel
theorem dX0_init_22 : decode cX0_init 22 = .ok (.getfield 11, 3) := by decide +kernel
theorem dX0_init_25 : decode cX0_init 25 = .ok (.iload_n 1, 1) := by decide +kernel
theorem dX0_init_26 : decode cX0_init 26 = .ok (.new 9, 3) := by decide +kernel
theorem dX0_init_29 : decode cX0_init 29 = .ok (.dup, 1) := by decide +kernel
theorem dX0_init_30 : decode cX0_init 30 = .ok (.invokespecial 15, 3) := by decide +kernel
theorem dX0_init_33 : decode cX0_init 33 = .ok (.aastore, 1) := by decide +kernel
theorem dX0_init_34 : decode cX0_init 34 = .ok (.iinc 1 1, 3) := by decide +kernel
theorem dX0_init_37 : decode cX0_init 37 = .ok (.goto (-22), 3) := by decide +kernel
theorem dX0_init_40 : decode cX0_init 40 = .ok (.return_, 1) := by decide +kernel
theorem dX0_kept_0 : decode cX0_kept 0 = .ok (.aload_n 0, 1) := by decide +kernel
theorem dX0_kept_1 : decode cX0_kept 1 = .ok (.getfield 16, 3) := by decide +kernel
theorem dX0_kept_4 : decode cX0_kept 4 = .ok (.ireturn, 1) := by decide +kernel
theorem dX0_forgetAll_0 : decode cX0_forgetAll 0 = .ok (.aload_n 0, 1) := by decide +kernel
theorem dX0_forgetAll_1 : decode cX0_forgetAll 1 = .ok (.iconst 0, 1) := by decide +kernel
theorem dX0_forgetAll_2 : decode cX0_forgetAll 2 = .ok (.putfield 16, 3) := by decide +kernel
theorem dX0_forgetAll_5 : decode cX0_forgetAll 5 = .ok (.return_, 1) := by decide +kernel
theorem dX0_keep_0 : decode cX0_keep 0 = .ok (.aload_n 0, 1) := by decide +kernel
theorem dX0_keep_1 : decode cX0_keep 1 = .ok (.getfield 11, 3) := by decide +kernel
theorem dX0_keep_4 : decode cX0_keep 4 = .ok (.aload_n 0, 1) := by decide +kernel
theorem dX0_keep_5 : decode cX0_keep 5 = .ok (.getfield 20, 3) := by decide +kernel
theorem dX0_keep_8 : decode cX0_keep 8 = .ok (.aaload, 1) := by decide +kernel
theorem dX0_keep_9 : decode cX0_keep 9 = .ok (.aload_n 1, 1) := by decide +kernel
theorem dX0_keep_10 : decode cX0_keep 10 = .ok (.invokevirtual 23, 3) := by decide +kernel
theorem dX0_keep_13 : decode cX0_keep 13 = .ok (.aload_n 0, 1) := by decide +kernel
theorem dX0_keep_14 : decode cX0_keep 14 = .ok (.aload_n 0, 1) := by decide +kernel
theorem dX0_keep_15 : decode cX0_keep 15 = .ok (.getfield 20, 3) := by decide +kernel
theorem dX0_keep_18 : decode cX0_keep 18 = .ok (.iconst 1, 1) := by decide +kernel
theorem dX0_keep_19 : decode cX0_keep 19 = .ok (.iadd, 1) := by decide +kernel
theorem dX0_keep_20 : decode cX0_keep 20 = .ok (.bipush 24, 2) := by decide +kernel
theorem dX0_keep_22 : decode cX0_keep 22 = .ok (.irem, 1) := by decide +kernel
theorem dX0_keep_23 : decode cX0_keep 23 = .ok (.putfield 20, 3) := by decide +kernel
theorem dX0_keep_26 : decode cX0_keep 26 = .ok (.aload_n 0, 1) := by decide +kernel
theorem dX0_keep_27 : decode cX0_keep 27 = .ok (.bipush 24, 2) := by decide +kernel
theorem dX0_keep_29 : decode cX0_keep 29 = .ok (.aload_n 0, 1) := by decide +kernel
theorem dX0_keep_30 : decode cX0_keep 30 = .ok (.getfield 16, 3) := by decide +kernel
theorem dX0_keep_33 : decode cX0_keep 33 = .ok (.iconst 1, 1) := by decide +kernel
theorem dX0_keep_34 : decode cX0_keep 34 = .ok (.iadd, 1) := by decide +kernel
theorem dX0_keep_35 : decode cX0_keep 35 = .ok (.invokestatic 27, 3) := by decide +kernel
theorem dX0_keep_38 : decode cX0_keep 38 = .ok (.putfield 16, 3) := by decide +kernel
theorem dX0_keep_41 : decode cX0_keep 41 = .ok (.return_, 1) := by decide +kernel
theorem dX0_takeBack_0 : decode cX0_takeBack 0 = .ok (.aload_n 0, 1) := by decide +kernel
theorem dX0_takeBack_1 : decode cX0_takeBack 1 = .ok (.getfield 16, 3) := by decide +kernel
theorem dX0_takeBack_4 : decode cX0_takeBack 4 = .ok (.ifCond .ne 4, 3) := by decide +kernel
theorem dX0_takeBack_7 : decode cX0_takeBack 7 = .ok (.return_, 1) := by decide +kernel
theorem dX0_takeBack_8 : decode cX0_takeBack 8 = .ok (.aload_n 0, 1) := by decide +kernel
theorem dX0_takeBack_9 : decode cX0_takeBack 9 = .ok (.aload_n 0, 1) := by decide +kernel
theorem dX0_takeBack_10 : decode cX0_takeBack 10 = .ok (.getfield 20, 3) := by decide +kernel
theorem dX0_takeBack_13 : decode cX0_takeBack 13 = .ok (.bipush 24, 2) := by decide +kernel
theorem dX0_takeBack_15 : decode cX0_takeBack 15 = .ok (.iadd, 1) := by decide +kernel
theorem dX0_takeBack_16 : decode cX0_takeBack 16 = .ok (.iconst 1, 1) := by decide +kernel
theorem dX0_takeBack_17 : decode cX0_takeBack 17 = .ok (.isub, 1) := by decide +kernel
theorem dX0_takeBack_18 : decode cX0_takeBack 18 = .ok (.bipush 24, 2) := by decide +kernel
theorem dX0_takeBack_20 : decode cX0_takeBack 20 = .ok (.irem, 1) := by decide +kernel
theorem dX0_takeBack_21 : decode cX0_takeBack 21 = .ok (.putfield 20, 3) := by decide +kernel
theorem dX0_takeBack_24 : decode cX0_takeBack 24 = .ok (.aload_n 0, 1) := by decide +kernel
theorem dX0_takeBack_25 : decode cX0_takeBack 25 = .ok (.dup, 1) := by decide +kernel
theorem dX0_takeBack_26 : decode cX0_takeBack 26 = .ok (.getfield 16, 3) := by decide +kernel
theorem dX0_takeBack_29 : decode cX0_takeBack 29 = .ok (.iconst 1, 1) := by decide +kernel
theorem dX0_takeBack_30 : decode cX0_takeBack 30 = .ok (.isub, 1) := by decide +kernel
theorem dX0_takeBack_31 : decode cX0_takeBack 31 = .ok (.putfield 16, 3) := by decide +kernel
theorem dX0_takeBack_34 : decode cX0_takeBack 34 = .ok (.aload_n 1, 1) := by decide +kernel
theorem dX0_takeBack_35 : decode cX0_takeBack 35 = .ok (.aload_n 0, 1) := by decide +kernel
theorem dX0_takeBack_36 : decode cX0_takeBack 36 = .ok (.getfield 11, 3) := by decide +kernel
theorem dX0_takeBack_39 : decode cX0_takeBack 39 = .ok (.aload_n 0, 1) := by decide +kernel
theorem dX0_takeBack_40 : decode cX0_takeBack 40 = .ok (.getfield 20, 3) := by decide +kernel
theorem dX0_takeBack_43 : decode cX0_takeBack 43 = .ok (.aaload, 1) := by decide +kernel
theorem dX0_takeBack_44 : decode cX0_takeBack 44 = .ok (.invokevirtual 23, 3) := by decide +kernel
theorem dX0_takeBack_47 : decode cX0_takeBack 47 = .ok (.return_, 1) := by decide +kernel
theorem dX1_init_0 : decode cX1_init 0 = .ok (.aload_n 0, 1) := by decide +kernel
theorem dX1_init_1 : decode cX1_init 1 = .ok (.invokespecial 1, 3) := by decide +kernel
theorem dX1_init_4 : decode cX1_init 4 = .ok (.aload_n 0, 1) := by decide +kernel
theorem dX1_init_5 : decode cX1_init 5 = .ok (.bipush 16, 2) := by decide +kernel
theorem dX1_init_7 : decode cX1_init 7 = .ok (.newarray .int, 2) := by decide +kernel
theorem dX1_init_9 : decode cX1_init 9 = .ok (.putfield 9, 3) := by decide +kernel
theorem dX1_init_12 : decode cX1_init 12 = .ok (.return_, 1) := by decide +kernel
theorem dX1_isKind_0 : decode cX1_isKind 0 = .ok (.iload_n 0, 1) := by decide +kernel
theorem dX1_isKind_1 : decode cX1_isKind 1 = .ok (.ifCond .lt 15, 3) := by decide +kernel
theorem dX1_isKind_4 : decode cX1_isKind 4 = .ok (.iload_n 0, 1) := by decide +kernel
theorem dX1_isKind_5 : decode cX1_isKind 5 = .ok (.getstatic 13, 3) := by decide +kernel
theorem dX1_isKind_8 : decode cX1_isKind 8 = .ok (.arraylength, 1) := by decide +kernel
theorem dX1_isKind_9 : decode cX1_isKind 9 = .ok (.if_icmp .ge 7, 3) := by decide +kernel
theorem dX1_isKind_12 : decode cX1_isKind 12 = .ok (.iconst 1, 1) := by decide +kernel
theorem dX1_isKind_13 : decode cX1_isKind 13 = .ok (.goto 4, 3) := by decide +kernel
theorem dX1_isKind_16 : decode cX1_isKind 16 = .ok (.iconst 0, 1) := by decide +kernel
theorem dX1_isKind_17 : decode cX1_isKind 17 = .ok (.ireturn, 1) := by decide +kernel
theorem dX1_isOneOf_0 : decode cX1_isOneOf 0 = .ok (.iload_n 0, 1) := by decide +kernel
theorem dX1_isOneOf_1 : decode cX1_isOneOf 1 = .ok (.istore_n 2, 1) := by decide +kernel
theorem dX1_isOneOf_2 : decode cX1_isOneOf 2 = .ok (.iconst 0, 1) := by decide +kernel
theorem dX1_isOneOf_3 : decode cX1_isOneOf 3 = .ok (.istore_n 3, 1) := by decide +kernel
theorem dX1_isOneOf_4 : decode cX1_isOneOf 4 = .ok (.iload_n 3, 1) := by decide +kernel
theorem dX1_isOneOf_5 : decode cX1_isOneOf 5 = .ok (.getstatic 13, 3) := by decide +kernel
theorem dX1_isOneOf_8 : decode cX1_isOneOf 8 = .ok (.arraylength, 1) := by decide +kernel
theorem dX1_isOneOf_9 : decode cX1_isOneOf 9 = .ok (.if_icmp .ge 29, 3) := by decide +kernel
theorem dX1_isOneOf_12 : decode cX1_isOneOf 12 = .ok (.iload_n 2, 1) := by decide +kernel
theorem dX1_isOneOf_13 : decode cX1_isOneOf 13 = .ok (.invokestatic 16, 3) := by decide +kernel
theorem dX1_isOneOf_16 : decode cX1_isOneOf 16 = .ok (.ifCond .eq 22, 3) := by decide +kernel
theorem dX1_isOneOf_19 : decode cX1_isOneOf 19 = .ok (.iload_n 2, 1) := by decide +kernel
theorem dX1_isOneOf_20 : decode cX1_isOneOf 20 = .ok (.iload_n 1, 1) := by decide +kernel
theorem dX1_isOneOf_21 : decode cX1_isOneOf 21 = .ok (.if_icmp .ne 5, 3) := by decide +kernel
theorem dX1_isOneOf_24 : decode cX1_isOneOf 24 = .ok (.iconst 1, 1) := by decide +kernel
theorem dX1_isOneOf_25 : decode cX1_isOneOf 25 = .ok (.ireturn, 1) := by decide +kernel
theorem dX1_isOneOf_26 : decode cX1_isOneOf 26 = .ok (.getstatic 13, 3) := by decide +kernel
theorem dX1_isOneOf_29 : decode cX1_isOneOf 29 = .ok (.iload_n 2, 1) := by decide +kernel
theorem dX1_isOneOf_30 : decode cX1_isOneOf 30 = .ok (.iaload, 1) := by decide +kernel
theorem dX1_isOneOf_31 : decode cX1_isOneOf 31 = .ok (.istore_n 2, 1) := by decide +kernel
theorem dX1_isOneOf_32 : decode cX1_isOneOf 32 = .ok (.iinc 3 1, 3) := by decide +kernel
theorem dX1_isOneOf_35 : decode cX1_isOneOf 35 = .ok (.goto (-31), 3) := by decide +kernel
theorem dX1_isOneOf_38 : decode cX1_isOneOf 38 = .ok (.iconst 0, 1) := by decide +kernel
theorem dX1_isOneOf_39 : decode cX1_isOneOf 39 = .ok (.ireturn, 1) := by decide +kernel
theorem dX1_traced_0 : decode cX1_traced 0 = .ok (.iload_n 1, 1) := by decide +kernel
theorem dX1_traced_1 : decode cX1_traced 1 = .ok (.ifCond .lt 20, 3) := by decide +kernel
theorem dX1_traced_4 : decode cX1_traced 4 = .ok (.iload_n 1, 1) := by decide +kernel
theorem dX1_traced_5 : decode cX1_traced 5 = .ok (.aload_n 0, 1) := by decide +kernel
theorem dX1_traced_6 : decode cX1_traced 6 = .ok (.getfield 20, 3) := by decide +kernel
theorem dX1_traced_9 : decode cX1_traced 9 = .ok (.if_icmp .ge 12, 3) := by decide +kernel
theorem dX1_traced_12 : decode cX1_traced 12 = .ok (.aload_n 0, 1) := by decide +kernel
theorem dX1_traced_13 : decode cX1_traced 13 = .ok (.getfield 9, 3) := by decide +kernel
theorem dX1_traced_16 : decode cX1_traced 16 = .ok (.iload_n 1, 1) := by decide +kernel
theorem dX1_traced_17 : decode cX1_traced 17 = .ok (.iaload, 1) := by decide +kernel
theorem dX1_traced_18 : decode cX1_traced 18 = .ok (.goto 4, 3) := by decide +kernel
theorem dX1_traced_21 : decode cX1_traced 21 = .ok (.iconst (-1), 1) := by decide +kernel
theorem dX1_traced_22 : decode cX1_traced 22 = .ok (.ireturn, 1) := by decide +kernel
theorem dX1_answer_0 : decode cX1_answer 0 = .ok (.aload_n 0, 1) := by decide +kernel
theorem dX1_answer_1 : decode cX1_answer 1 = .ok (.iconst 0, 1) := by decide +kernel
theorem dX1_answer_2 : decode cX1_answer 2 = .ok (.putfield 20, 3) := by decide +kernel
theorem dX1_answer_5 : decode cX1_answer 5 = .ok (.aload_n 0, 1) := by decide +kernel
theorem dX1_answer_6 : decode cX1_answer 6 = .ok (.aload_n 1, 1) := by decide +kernel
theorem dX1_answer_7 : decode cX1_answer 7 = .ok (.iload_n 2, 1) := by decide +kernel
theorem dX1_answer_8 : decode cX1_answer 8 = .ok (.iload_n 3, 1) := by decide +kernel
theorem dX1_answer_9 : decode cX1_answer 9 = .ok (.iconst 0, 1) := by decide +kernel
theorem dX1_answer_10 : decode cX1_answer 10 = .ok (.invokevirtual 24, 3) := by decide +kernel
theorem dX1_answer_13 : decode cX1_answer 13 = .ok (.ireturn, 1) := by decide +kernel
theorem dX1_askAnew_0 : decode cX1_askAnew 0 = .ok (.aload_n 1, 1) := by decide +kernel
theorem dX1_askAnew_1 : decode cX1_askAnew 1 = .ok (.getfield 28, 3) := by decide +kernel
theorem dX1_askAnew_4 : decode cX1_askAnew 4 = .ok (.iload_n 2, 1) := by decide +kernel
theorem dX1_askAnew_5 : decode cX1_askAnew 5 = .ok (.iaload, 1) := by decide +kernel
theorem dX1_askAnew_6 : decode cX1_askAnew 6 = .ok (.istore 5, 2) := by decide +kernel
theorem dX1_askAnew_8 : decode cX1_askAnew 8 = .ok (.iload 5, 2) := by decide +kernel
theorem dX1_askAnew_10 : decode cX1_askAnew 10 = .ok (.invokestatic 16, 3) := by decide +kernel
theorem dX1_askAnew_13 : decode cX1_askAnew 13 = .ok (.ifCond .ne 5, 3) := by decide +kernel
theorem dX1_askAnew_16 : decode cX1_askAnew 16 = .ok (.iconst 0, 1) := by decide +kernel
theorem dX1_askAnew_17 : decode cX1_askAnew 17 = .ok (.ireturn, 1) := by decide +kernel
theorem dX1_askAnew_18 : decode cX1_askAnew 18 = .ok (.aload_n 0, 1) := by decide +kernel
theorem dX1_askAnew_19 : decode cX1_askAnew 19 = .ok (.aload_n 1, 1) := by decide +kernel
theorem dX1_askAnew_20 : decode cX1_askAnew 20 = .ok (.iload_n 2, 1) := by decide +kernel
theorem dX1_askAnew_21 : decode cX1_askAnew 21 = .ok (.iload_n 3, 1) := by decide +kernel
theorem dX1_askAnew_22 : decode cX1_askAnew 22 = .ok (.ifCond .ne 12, 3) := by decide +kernel
theorem dX1_askAnew_25 : decode cX1_askAnew 25 = .ok (.getstatic 33, 3) := by decide +kernel
theorem dX1_askAnew_28 : decode cX1_askAnew 28 = .ok (.iload 5, 2) := by decide +kernel
theorem dX1_askAnew_30 : decode cX1_askAnew 30 = .ok (.iaload, 1) := by decide +kernel
theorem dX1_askAnew_31 : decode cX1_askAnew 31 = .ok (.goto 9, 3) := by decide +kernel
theorem dX1_askAnew_34 : decode cX1_askAnew 34 = .ok (.getstatic 36, 3) := by decide +kernel
theorem dX1_askAnew_37 : decode cX1_askAnew 37 = .ok (.iload 5, 2) := by decide +kernel
theorem dX1_askAnew_39 : decode cX1_askAnew 39 = .ok (.iaload, 1) := by decide +kernel
theorem dX1_askAnew_40 : decode cX1_askAnew 40 = .ok (.iload 4, 2) := by decide +kernel
theorem dX1_askAnew_42 : decode cX1_askAnew 42 = .ok (.invokevirtual 39, 3) := by decide +kernel
theorem dX1_askAnew_45 : decode cX1_askAnew 45 = .ok (.ireturn, 1) := by decide +kernel
theorem dX1_begin_0 : decode cX1_begin 0 = .ok (.iload 4, 2) := by decide +kernel
theorem dX1_begin_2 : decode cX1_begin 2 = .ok (.bipush 16, 2) := by decide +kernel
theorem dX1_begin_4 : decode cX1_begin 4 = .ok (.if_icmp .le 5, 3) := by decide +kernel
theorem dX1_begin_7 : decode cX1_begin 7 = .ok (.iconst 0, 1) := by decide +kernel
theorem dX1_begin_8 : decode cX1_begin 8 = .ok (.ireturn, 1) := by decide +kernel
theorem dX1_begin_9 : decode cX1_begin 9 = .ok (.aload_n 0, 1) := by decide +kernel
theorem dX1_begin_10 : decode cX1_begin 10 = .ok (.iload_n 3, 1) := by decide +kernel
theorem dX1_begin_11 : decode cX1_begin 11 = .ok (.invokevirtual 42, 3) := by decide +kernel
theorem dX1_begin_14 : decode cX1_begin 14 = .ok (.iload 4, 2) := by decide +kernel
theorem dX1_begin_16 : decode cX1_begin 16 = .ok (.iconst 1, 1) := by decide +kernel
theorem dX1_begin_17 : decode cX1_begin 17 = .ok (.iadd, 1) := by decide +kernel
theorem dX1_begin_18 : decode cX1_begin 18 = .ok (.istore 5, 2) := by decide +kernel
theorem dX1_begin_20 : decode cX1_begin 20 = .ok (.iload_n 3, 1) := by decide +kernel
theorem dX1_begin_21 : decode cX1_begin 21 = .ok (.tableswitch 215 10 24 #[75, 82, 103, 115, 129, 215, 215, 215, 215, 215, 142, 144, 166, 181, 202], 75) := by decide +kernel
theorem dX1_begin_96 : decode cX1_begin 96 = .ok (.aload_n 1, 1) := by decide +kernel
theorem dX1_begin_97 : decode cX1_begin 97 = .ok (.getfield 46, 3) := by decide +kernel
theorem dX1_begin_100 : decode cX1_begin 100 = .ok (.iload_n 2, 1) := by decide +kernel
theorem dX1_begin_101 : decode cX1_begin 101 = .ok (.iaload, 1) := by decide +kernel
theorem dX1_begin_102 : decode cX1_begin 102 = .ok (.ireturn, 1) := by decide +kernel
theorem dX1_begin_103 : decode cX1_begin 103 = .ok (.aload_n 0, 1) := by decide +kernel
theorem dX1_begin_104 : decode cX1_begin 104 = .ok (.aload_n 1, 1) := by decide +kernel
theorem dX1_begin_105 : decode cX1_begin 105 = .ok (.iload_n 2, 1) := by decide +kernel
theorem dX1_begin_106 : decode cX1_begin 106 = .ok (.bipush 10, 2) := by decide +kernel
theorem dX1_begin_108 : decode cX1_begin 108 = .ok (.iload 5, 2) := by decide +kernel
theorem dX1_begin_110 : decode cX1_begin 110 = .ok (.invokevirtual 39, 3) := by decide +kernel
theorem dX1_begin_113 : decode cX1_begin 113 = .ok (.aload_n 0, 1) := by decide +kernel
theorem dX1_begin_114 : decode cX1_begin 114 = .ok (.aload_n 1, 1) := by decide +kernel
theorem dX1_begin_115 : decode cX1_begin 115 = .ok (.iload_n 2, 1) := by decide +kernel
theorem dX1_begin_116 : decode cX1_begin 116 = .ok (.iconst 1, 1) := by decide +kernel
theorem dX1_begin_117 : decode cX1_begin 117 = .ok (.iload 5, 2) := by decide +kernel
theorem dX1_begin_119 : decode cX1_begin 119 = .ok (.invokevirtual 24, 3) := by decide +kernel
theorem dX1_begin_122 : decode cX1_begin 122 = .ok (.iadd, 1) := by decide +kernel
theorem dX1_begin_123 : decode cX1_begin 123 = .ok (.ireturn, 1) := by decide +kernel
theorem dX1_begin_124 : decode cX1_begin 124 = .ok (.aload_n 0, 1) := by decide +kernel
theorem dX1_begin_125 : decode cX1_begin 125 = .ok (.aload_n 1, 1) := by decide +kernel
theorem dX1_begin_126 : decode cX1_begin 126 = .ok (.iload_n 2, 1) := by decide +kernel
theorem dX1_begin_127 : decode cX1_begin 127 = .ok (.bipush 11, 2) := by decide +kernel
theorem dX1_begin_129 : decode cX1_begin 129 = .ok (.iload 5, 2) := by decide +kernel
theorem dX1_begin_131 : decode cX1_begin 131 = .ok (.invokevirtual 39, 3) := by decide +kernel
theorem dX1_begin_134 : decode cX1_begin 134 = .ok (.ineg, 1) := by decide +kernel
theorem dX1_begin_135 : decode cX1_begin 135 = .ok (.ireturn, 1) := by decide +kernel
theorem dX1_begin_136 : decode cX1_begin 136 = .ok (.aload_n 0, 1) := by decide +kernel
theorem dX1_begin_137 : decode cX1_begin 137 = .ok (.aload_n 1, 1) := by decide +kernel
theorem dX1_begin_138 : decode cX1_begin 138 = .ok (.iload_n 2, 1) := by decide +kernel
theorem dX1_begin_139 : decode cX1_begin 139 = .ok (.bipush 10, 2) := by decide +kernel
theorem dX1_begin_141 : decode cX1_begin 141 = .ok (.iload 5, 2) := by decide +kernel
theorem dX1_begin_143 : decode cX1_begin 143 = .ok (.invokevirtual 39, 3) := by decide +kernel
theorem dX1_begin_146 : decode cX1_begin 146 = .ok (.bipush 100, 2) := by decide +kernel
theorem dX1_begin_148 : decode cX1_begin 148 = .ok (.isub, 1) := by decide +kernel
theorem dX1_begin_149 : decode cX1_begin 149 = .ok (.ireturn, 1) := by decide +kernel
theorem dX1_begin_150 : decode cX1_begin 150 = .ok (.iconst 2, 1) := by decide +kernel
theorem dX1_begin_151 : decode cX1_begin 151 = .ok (.aload_n 0, 1) := by decide +kernel
theorem dX1_begin_152 : decode cX1_begin 152 = .ok (.aload_n 1, 1) := by decide +kernel
theorem dX1_begin_153 : decode cX1_begin 153 = .ok (.iload_n 2, 1) := by decide +kernel
theorem dX1_begin_154 : decode cX1_begin 154 = .ok (.bipush 13, 2) := by decide +kernel
theorem dX1_begin_156 : decode cX1_begin 156 = .ok (.iload 5, 2) := by decide +kernel
theorem dX1_begin_158 : decode cX1_begin 158 = .ok (.invokevirtual 39, 3) := by decide +kernel
theorem dX1_begin_161 : decode cX1_begin 161 = .ok (.imul, 1) := by decide +kernel
theorem dX1_begin_162 : decode cX1_begin 162 = .ok (.ireturn, 1) := by decide +kernel
theorem dX1_begin_163 : decode cX1_begin 163 = .ok (.iload_n 2, 1) := by decide +kernel
theorem dX1_begin_164 : decode cX1_begin 164 = .ok (.ireturn, 1) := by decide +kernel
theorem dX1_begin_165 : decode cX1_begin 165 = .ok (.aload_n 0, 1) := by decide +kernel
theorem dX1_begin_166 : decode cX1_begin 166 = .ok (.aload_n 1, 1) := by decide +kernel
theorem dX1_begin_167 : decode cX1_begin 167 = .ok (.iload_n 2, 1) := by decide +kernel
theorem dX1_begin_168 : decode cX1_begin 168 = .ok (.bipush 20, 2) := by decide +kernel
theorem dX1_begin_170 : decode cX1_begin 170 = .ok (.iload 5, 2) := by decide +kernel
theorem dX1_begin_172 : decode cX1_begin 172 = .ok (.invokevirtual 39, 3) := by decide +kernel
theorem dX1_begin_175 : decode cX1_begin 175 = .ok (.aload_n 1, 1) := by decide +kernel
theorem dX1_begin_176 : decode cX1_begin 176 = .ok (.aload_n 1, 1) := by decide +kernel
theorem dX1_begin_177 : decode cX1_begin 177 = .ok (.getfield 49, 3) := by decide +kernel
theorem dX1_begin_180 : decode cX1_begin 180 = .ok (.iload_n 2, 1) := by decide +kernel
theorem dX1_begin_181 : decode cX1_begin 181 = .ok (.iaload, 1) := by decide +kernel
theorem dX1_begin_182 : decode cX1_begin 182 = .ok (.invokevirtual 52, 3) := by decide +kernel
theorem dX1_begin_185 : decode cX1_begin 185 = .ok (.iadd, 1) := by decide +kernel
theorem dX1_begin_186 : decode cX1_begin 186 = .ok (.ireturn, 1) := by decide +kernel
theorem dX1_begin_187 : decode cX1_begin 187 = .ok (.aload_n 0, 1) := by decide +kernel
theorem dX1_begin_188 : decode cX1_begin 188 = .ok (.aload_n 1, 1) := by decide +kernel
theorem dX1_begin_189 : decode cX1_begin 189 = .ok (.iload_n 2, 1) := by decide +kernel
theorem dX1_begin_190 : decode cX1_begin 190 = .ok (.bipush 21, 2) := by decide +kernel
theorem dX1_begin_192 : decode cX1_begin 192 = .ok (.iload 5, 2) := by decide +kernel
theorem dX1_begin_194 : decode cX1_begin 194 = .ok (.invokevirtual 39, 3) := by decide +kernel
theorem dX1_begin_197 : decode cX1_begin 197 = .ok (.sipush 1000, 3) := by decide +kernel
theorem dX1_begin_200 : decode cX1_begin 200 = .ok (.isub, 1) := by decide +kernel
theorem dX1_begin_201 : decode cX1_begin 201 = .ok (.ireturn, 1) := by decide +kernel
theorem dX1_begin_202 : decode cX1_begin 202 = .ok (.aload_n 0, 1) := by decide +kernel
theorem dX1_begin_203 : decode cX1_begin 203 = .ok (.aload_n 1, 1) := by decide +kernel
theorem dX1_begin_204 : decode cX1_begin 204 = .ok (.iload_n 2, 1) := by decide +kernel
theorem dX1_begin_205 : decode cX1_begin 205 = .ok (.bipush 20, 2) := by decide +kernel
theorem dX1_begin_207 : decode cX1_begin 207 = .ok (.iload 5, 2) := by decide +kernel
theorem dX1_begin_209 : decode cX1_begin 209 = .ok (.invokevirtual 39, 3) := by decide +kernel
theorem dX1_begin_212 : decode cX1_begin 212 = .ok (.aload_n 0, 1) := by decide +kernel
theorem dX1_begin_213 : decode cX1_begin 213 = .ok (.aload_n 1, 1) := by decide +kernel
theorem dX1_begin_214 : decode cX1_begin 214 = .ok (.iload_n 2, 1) := by decide +kernel
theorem dX1_begin_215 : decode cX1_begin 215 = .ok (.iconst 0, 1) := by decide +kernel
theorem dX1_begin_216 : decode cX1_begin 216 = .ok (.iload 5, 2) := by decide +kernel
theorem dX1_begin_218 : decode cX1_begin 218 = .ok (.invokevirtual 24, 3) := by decide +kernel
theorem dX1_begin_221 : decode cX1_begin 221 = .ok (.isub, 1) := by decide +kernel
theorem dX1_begin_222 : decode cX1_begin 222 = .ok (.ireturn, 1) := by decide +kernel
theorem dX1_begin_223 : decode cX1_begin 223 = .ok (.iconst 2, 1) := by decide +kernel
theorem dX1_begin_224 : decode cX1_begin 224 = .ok (.aload_n 0, 1) := by decide +kernel
theorem dX1_begin_225 : decode cX1_begin 225 = .ok (.aload_n 1, 1) := by decide +kernel
theorem dX1_begin_226 : decode cX1_begin 226 = .ok (.iload_n 2, 1) := by decide +kernel
theorem dX1_begin_227 : decode cX1_begin 227 = .ok (.bipush 21, 2) := by decide +kernel
theorem dX1_begin_229 : decode cX1_begin 229 = .ok (.iload 5, 2) := by decide +kernel
theorem dX1_begin_231 : decode cX1_begin 231 = .ok (.invokevirtual 39, 3) := by decide +kernel
theorem dX1_begin_234 : decode cX1_begin 234 = .ok (.imul, 1) := by decide +kernel
theorem dX1_begin_235 : decode cX1_begin 235 = .ok (.ireturn, 1) := by decide +kernel
theorem dX1_begin_236 : decode cX1_begin 236 = .ok (.iconst 0, 1) := by decide +kernel
theorem dX1_begin_237 : decode cX1_begin 237 = .ok (.ireturn, 1) := by decide +kernel
theorem dX1_leaveTrace_0 : decode cX1_leaveTrace 0 = .ok (.aload_n 0, 1) := by decide +kernel
theorem dX1_leaveTrace_1 : decode cX1_leaveTrace 1 = .ok (.getfield 20, 3) := by decide +kernel
theorem dX1_leaveTrace_4 : decode cX1_leaveTrace 4 = .ok (.bipush 16, 2) := by decide +kernel
theorem dX1_leaveTrace_6 : decode cX1_leaveTrace 6 = .ok (.if_icmp .ge 23, 3) := by decide +kernel
theorem dX1_leaveTrace_9 : decode cX1_leaveTrace 9 = .ok (.aload_n 0, 1) := by decide +kernel
theorem dX1_leaveTrace_10 : decode cX1_leaveTrace 10 = .ok (.getfield 9, 3) := by decide +kernel
theorem dX1_leaveTrace_13 : decode cX1_leaveTrace 13 = .ok (.aload_n 0, 1) := by decide +kernel
theorem dX1_leaveTrace_14 : decode cX1_leaveTrace 14 = .ok (.getfield 20, 3) := by decide +kernel
theorem dX1_leaveTrace_17 : decode cX1_leaveTrace 17 = .ok (.iload_n 1, 1) := by decide +kernel
theorem dX1_leaveTrace_18 : decode cX1_leaveTrace 18 = .ok (.iastore, 1) := by decide +kernel
theorem dX1_leaveTrace_19 : decode cX1_leaveTrace 19 = .ok (.aload_n 0, 1) := by decide +kernel
theorem dX1_leaveTrace_20 : decode cX1_leaveTrace 20 = .ok (.dup, 1) := by decide +kernel
theorem dX1_leaveTrace_21 : decode cX1_leaveTrace 21 = .ok (.getfield 20, 3) := by decide +kernel
theorem dX1_leaveTrace_24 : decode cX1_leaveTrace 24 = .ok (.iconst 1, 1) := by decide +kernel
theorem dX1_leaveTrace_25 : decode cX1_leaveTrace 25 = .ok (.iadd, 1) := by decide +kernel
theorem dX1_leaveTrace_26 : decode cX1_leaveTrace 26 = .ok (.putfield 20, 3) := by decide +kernel
theorem dX1_leaveTrace_29 : decode cX1_leaveTrace 29 = .ok (.return_, 1) := by decide +kernel
theorem dX2_init_0 : decode cX2_init 0 = .ok (.aload_n 0, 1) := by decide +kernel
theorem dX2_init_1 : decode cX2_init 1 = .ok (.invokespecial 3, 3) := by decide +kernel
theorem dX2_init_4 : decode cX2_init 4 = .ok (.aload_n 0, 1) := by decide +kernel
theorem dX2_init_5 : decode cX2_init 5 = .ok (.new 1, 3) := by decide +kernel
theorem dX2_init_8 : decode cX2_init 8 = .ok (.dup, 1) := by decide +kernel
theorem dX2_init_9 : decode cX2_init 9 = .ok (.invokespecial 9, 3) := by decide +kernel
theorem dX2_init_12 : decode cX2_init 12 = .ok (.putfield 10, 3) := by decide +kernel
theorem dX2_init_15 : decode cX2_init 15 = .ok (.aload_n 0, 1) := by decide +kernel
theorem dX2_init_16 : decode cX2_init 16 = .ok (.bipush 7, 2) := by decide +kernel
theorem dX2_init_18 : decode cX2_init 18 = .ok (.anewarray 1, 3) := by decide +kernel
theorem dX2_init_21 : decode cX2_init 21 = .ok (.putfield 16, 3) := by decide +kernel
theorem dX2_init_24 : decode cX2_init 24 = .ok (.iconst 0, 1) := by decide +kernel
theorem dX2_init_25 : decode cX2_init 25 = .ok (.istore_n 1, 1) := by decide +kernel
theorem dX2_init_26 : decode cX2_init 26 = .ok (.iload_n 1, 1) := by decide +kernel
theorem dX2_init_27 : decode cX2_init 27 = .ok (.bipush 6, 2) := by decide +kernel
theorem dX2_init_29 : decode cX2_init 29 = .ok (.if_icmp .gt 22, 3) := by decide +kernel
theorem dX2_init_32 : decode cX2_init 32 = .ok (.aload_n 0, 1) := by decide +kernel
theorem dX2_init_33 : decode cX2_init 33 = .ok (.getfield 16, 3) := by decide +kernel
theorem dX2_init_36 : decode cX2_init 36 = .ok (.iload_n 1, 1) := by decide +kernel
theorem dX2_init_37 : decode cX2_init 37 = .ok (.new 1, 3) := by decide +kernel
theorem dX2_init_40 : decode cX2_init 40 = .ok (.dup, 1) := by decide +kernel
theorem dX2_init_41 : decode cX2_init 41 = .ok (.invokespecial 9, 3) := by decide +kernel
theorem dX2_init_44 : decode cX2_init 44 = .ok (.aastore, 1) := by decide +kernel
theorem dX2_init_45 : decode cX2_init 45 = .ok (.iinc 1 1, 3) := by decide +kernel
theorem dX2_init_48 : decode cX2_init 48 = .ok (.goto (-22), 3) := by decide +kernel
theorem dX2_init_51 : decode cX2_init 51 = .ok (.aload_n 0, 1) := by decide +kernel
theorem dX2_init_52 : decode cX2_init 52 = .ok (.bipush 6, 2) := by decide +kernel
theorem dX2_init_54 : decode cX2_init 54 = .ok (.newarray .int, 2) := by decide +kernel
theorem dX2_init_56 : decode cX2_init 56 = .ok (.putfield 20, 3) := by decide +kernel
theorem dX2_init_59 : decode cX2_init 59 = .ok (.aload_n 0, 1) := by decide +kernel
theorem dX2_init_60 : decode cX2_init 60 = .ok (.bipush 6, 2) := by decide +kernel
theorem dX2_init_62 : decode cX2_init 62 = .ok (.newarray .int, 2) := by decide +kernel
theorem dX2_init_64 : decode cX2_init 64 = .ok (.putfield 24, 3) := by decide +kernel
theorem dX2_init_67 : decode cX2_init 67 = .ok (.return_, 1) := by decide +kernel
theorem dX2_findBestOrder_0 : decode cX2_findBestOrder 0 = .ok (.iconst 0, 1) := by decide +kernel
theorem dX2_findBestOrder_1 : decode cX2_findBestOrder 1 = .ok (.istore_n 2, 1) := by decide +kernel
theorem dX2_findBestOrder_2 : decode cX2_findBestOrder 2 = .ok (.iconst 0, 1) := by decide +kernel
theorem dX2_findBestOrder_3 : decode cX2_findBestOrder 3 = .ok (.istore_n 3, 1) := by decide +kernel
theorem dX2_findBestOrder_4 : decode cX2_findBestOrder 4 = .ok (.iload_n 3, 1) := by decide +kernel
theorem dX2_findBestOrder_5 : decode cX2_findBestOrder 5 = .ok (.aload_n 1, 1) := by decide +kernel
theorem dX2_findBestOrder_6 : decode cX2_findBestOrder 6 = .ok (.getfield 27, 3) := by decide +kernel
theorem dX2_findBestOrder_9 : decode cX2_findBestOrder 9 = .ok (.if_icmp .ge 20, 3) := by decide +kernel
theorem dX2_findBestOrder_12 : decode cX2_findBestOrder 12 = .ok (.iload_n 2, 1) := by decide +kernel
theorem dX2_findBestOrder_13 : decode cX2_findBestOrder 13 = .ok (.iconst 1, 1) := by decide +kernel
theorem dX2_findBestOrder_14 : decode cX2_findBestOrder 14 = .ok (.aload_n 1, 1) := by decide +kernel
theorem dX2_findBestOrder_15 : decode cX2_findBestOrder 15 = .ok (.getfield 31, 3) := by decide +kernel
theorem dX2_findBestOrder_18 : decode cX2_findBestOrder 18 = .ok (.iload_n 3, 1) := by decide +kernel
theorem dX2_findBestOrder_19 : decode cX2_findBestOrder 19 = .ok (.iaload, 1) := by decide +kernel
theorem dX2_findBestOrder_20 : decode cX2_findBestOrder 20 = .ok (.ishl, 1) := by decide +kernel
theorem dX2_findBestOrder_21 : decode cX2_findBestOrder 21 = .ok (.ior, 1) := by decide +kernel
theorem dX2_findBestOrder_22 : decode cX2_findBestOrder 22 = .ok (.istore_n 2, 1) := by decide +kernel
theorem dX2_findBestOrder_23 : decode cX2_findBestOrder 23 = .ok (.iinc 3 1, 3) := by decide +kernel
theorem dX2_findBestOrder_26 : decode cX2_findBestOrder 26 = .ok (.goto (-22), 3) := by decide +kernel
theorem dX2_findBestOrder_29 : decode cX2_findBestOrder 29 = .ok (.aload_n 0, 1) := by decide +kernel
theorem dX2_findBestOrder_30 : decode cX2_findBestOrder 30 = .ok (.iconst (-1), 1) := by decide +kernel
theorem dX2_findBestOrder_31 : decode cX2_findBestOrder 31 = .ok (.putfield 34, 3) := by decide +kernel
theorem dX2_findBestOrder_34 : decode cX2_findBestOrder 34 = .ok (.aload_n 0, 1) := by decide +kernel
theorem dX2_findBestOrder_35 : decode cX2_findBestOrder 35 = .ok (.aload_n 1, 1) := by decide +kernel
theorem dX2_findBestOrder_36 : decode cX2_findBestOrder 36 = .ok (.getfield 27, 3) := by decide +kernel
theorem dX2_findBestOrder_39 : decode cX2_findBestOrder 39 = .ok (.putfield 37, 3) := by decide +kernel
theorem dX2_findBestOrder_42 : decode cX2_findBestOrder 42 = .ok (.aload_n 0, 1) := by decide +kernel
theorem dX2_findBestOrder_43 : decode cX2_findBestOrder 43 = .ok (.getfield 16, 3) := by decide +kernel
theorem dX2_findBestOrder_46 : decode cX2_findBestOrder 46 = .ok (.iconst 0, 1) := by decide +kernel
theorem dX2_findBestOrder_47 : decode cX2_findBestOrder 47 = .ok (.aaload, 1) := by decide +kernel
theorem dX2_findBestOrder_48 : decode cX2_findBestOrder 48 = .ok (.aload_n 1, 1) := by decide +kernel
theorem dX2_findBestOrder_49 : decode cX2_findBestOrder 49 = .ok (.invokevirtual 40, 3) := by decide +kernel
theorem dX2_findBestOrder_52 : decode cX2_findBestOrder 52 = .ok (.aload_n 0, 1) := by decide +kernel
theorem dX2_findBestOrder_53 : decode cX2_findBestOrder 53 = .ok (.iload_n 2, 1) := by decide +kernel
theorem dX2_findBestOrder_54 : decode cX2_findBestOrder 54 = .ok (.iconst 0, 1) := by decide +kernel
theorem dX2_findBestOrder_55 : decode cX2_findBestOrder 55 = .ok (.invokevirtual 44, 3) := by decide +kernel
theorem dX2_findBestOrder_58 : decode cX2_findBestOrder 58 = .ok (.return_, 1) := by decide +kernel
theorem dX2_tryOrders_0 : decode cX2_tryOrders 0 = .ok (.iload_n 1, 1) := by decide +kernel
theorem dX2_tryOrders_1 : decode cX2_tryOrders 1 = .ok (.ifCond .eq 9, 3) := by decide +kernel
theorem dX2_tryOrders_4 : decode cX2_tryOrders 4 = .ok (.iload_n 2, 1) := by decide +kernel
theorem dX2_tryOrders_5 : decode cX2_tryOrders 5 = .ok (.bipush 6, 2) := by decide +kernel
theorem dX2_tryOrders_7 : decode cX2_tryOrders 7 = .ok (.if_icmp .lt 14, 3) := by decide +kernel
theorem dX2_tryOrders_10 : decode cX2_tryOrders 10 = .ok (.aload_n 0, 1) := by decide +kernel
theorem dX2_tryOrders_11 : decode cX2_tryOrders 11 = .ok (.aload_n 0, 1) := by decide +kernel
theorem dX2_tryOrders_12 : decode cX2_tryOrders 12 = .ok (.getfield 16, 3) := by decide +kernel
theorem dX2_tryOrders_15 : decode cX2_tryOrders 15 = .ok (.iload_n 2, 1) := by decide +kernel
theorem dX2_tryOrders_16 : decode cX2_tryOrders 16 = .ok (.aaload, 1) := by decide +kernel
theorem dX2_tryOrders_17 : decode cX2_tryOrders 17 = .ok (.invokevirtual 48, 3) := by decide +kernel
theorem dX2_tryOrders_20 : decode cX2_tryOrders 20 = .ok (.return_, 1) := by decide +kernel
theorem dX2_tryOrders_21 : decode cX2_tryOrders 21 = .ok (.aload_n 0, 1) := by decide +kernel
theorem dX2_tryOrders_22 : decode cX2_tryOrders 22 = .ok (.getfield 16, 3) := by decide +kernel
theorem dX2_tryOrders_25 : decode cX2_tryOrders 25 = .ok (.iload_n 2, 1) := by decide +kernel
theorem dX2_tryOrders_26 : decode cX2_tryOrders 26 = .ok (.iconst 1, 1) := by decide +kernel
theorem dX2_tryOrders_27 : decode cX2_tryOrders 27 = .ok (.iadd, 1) := by decide +kernel
theorem dX2_tryOrders_28 : decode cX2_tryOrders 28 = .ok (.aaload, 1) := by decide +kernel
theorem dX2_tryOrders_29 : decode cX2_tryOrders 29 = .ok (.astore_n 3, 1) := by decide +kernel
theorem dX2_tryOrders_30 : decode cX2_tryOrders 30 = .ok (.iconst 0, 1) := by decide +kernel
theorem dX2_tryOrders_31 : decode cX2_tryOrders 31 = .ok (.istore 4, 2) := by decide +kernel
theorem dX2_tryOrders_33 : decode cX2_tryOrders 33 = .ok (.iload 4, 2) := by decide +kernel
theorem dX2_tryOrders_35 : decode cX2_tryOrders 35 = .ok (.bipush 6, 2) := by decide +kernel
theorem dX2_tryOrders_37 : decode cX2_tryOrders 37 = .ok (.if_icmp .ge 58, 3) := by decide +kernel
theorem dX2_tryOrders_40 : decode cX2_tryOrders 40 = .ok (.iload_n 1, 1) := by decide +kernel
theorem dX2_tryOrders_41 : decode cX2_tryOrders 41 = .ok (.iload 4, 2) := by decide +kernel
theorem dX2_tryOrders_43 : decode cX2_tryOrders 43 = .ok (.ishr, 1) := by decide +kernel
theorem dX2_tryOrders_44 : decode cX2_tryOrders 44 = .ok (.iconst 1, 1) := by decide +kernel
theorem dX2_tryOrders_45 : decode cX2_tryOrders 45 = .ok (.iand, 1) := by decide +kernel
theorem dX2_tryOrders_46 : decode cX2_tryOrders 46 = .ok (.iconst 1, 1) := by decide +kernel
theorem dX2_tryOrders_47 : decode cX2_tryOrders 47 = .ok (.if_icmp .ne 42, 3) := by decide +kernel
theorem dX2_tryOrders_50 : decode cX2_tryOrders 50 = .ok (.aload_n 3, 1) := by decide +kernel
theorem dX2_tryOrders_51 : decode cX2_tryOrders 51 = .ok (.aload_n 0, 1) := by decide +kernel
theorem dX2_tryOrders_52 : decode cX2_tryOrders 52 = .ok (.getfield 16, 3) := by decide +kernel
theorem dX2_tryOrders_55 : decode cX2_tryOrders 55 = .ok (.iload_n 2, 1) := by decide +kernel
theorem dX2_tryOrders_56 : decode cX2_tryOrders 56 = .ok (.aaload, 1) := by decide +kernel
theorem dX2_tryOrders_57 : decode cX2_tryOrders 57 = .ok (.invokevirtual 40, 3) := by decide +kernel
theorem dX2_tryOrders_60 : decode cX2_tryOrders 60 = .ok (.aload_n 3, 1) := by decide +kernel
theorem dX2_tryOrders_61 : decode cX2_tryOrders 61 = .ok (.iload 4, 2) := by decide +kernel
theorem dX2_tryOrders_63 : decode cX2_tryOrders 63 = .ok (.invokevirtual 51, 3) := by decide +kernel
theorem dX2_tryOrders_66 : decode cX2_tryOrders 66 = .ok (.aload_n 0, 1) := by decide +kernel
theorem dX2_tryOrders_67 : decode cX2_tryOrders 67 = .ok (.getfield 20, 3) := by decide +kernel
theorem dX2_tryOrders_70 : decode cX2_tryOrders 70 = .ok (.iload_n 2, 1) := by decide +kernel
theorem dX2_tryOrders_71 : decode cX2_tryOrders 71 = .ok (.iload 4, 2) := by decide +kernel
theorem dX2_tryOrders_73 : decode cX2_tryOrders 73 = .ok (.iastore, 1) := by decide +kernel
theorem dX2_tryOrders_74 : decode cX2_tryOrders 74 = .ok (.aload_n 0, 1) := by decide +kernel
theorem dX2_tryOrders_75 : decode cX2_tryOrders 75 = .ok (.iload_n 1, 1) := by decide +kernel
theorem dX2_tryOrders_76 : decode cX2_tryOrders 76 = .ok (.iconst 1, 1) := by decide +kernel
theorem dX2_tryOrders_77 : decode cX2_tryOrders 77 = .ok (.iload 4, 2) := by decide +kernel
theorem dX2_tryOrders_79 : decode cX2_tryOrders 79 = .ok (.ishl, 1) := by decide +kernel
theorem dX2_tryOrders_80 : decode cX2_tryOrders 80 = .ok (.iconst (-1), 1) := by decide +kernel
theorem dX2_tryOrders_81 : decode cX2_tryOrders 81 = .ok (.ixor, 1) := by decide +kernel
theorem dX2_tryOrders_82 : decode cX2_tryOrders 82 = .ok (.iand, 1) := by decide +kernel
theorem dX2_tryOrders_83 : decode cX2_tryOrders 83 = .ok (.iload_n 2, 1) := by decide +kernel
theorem dX2_tryOrders_84 : decode cX2_tryOrders 84 = .ok (.iconst 1, 1) := by decide +kernel
theorem dX2_tryOrders_85 : decode cX2_tryOrders 85 = .ok (.iadd, 1) := by decide +kernel
theorem dX2_tryOrders_86 : decode cX2_tryOrders 86 = .ok (.invokevirtual 44, 3) := by decide +kernel
theorem dX2_tryOrders_89 : decode cX2_tryOrders 89 = .ok (.iinc 4 1, 3) := by decide +kernel
theorem dX2_tryOrders_92 : decode cX2_tryOrders 92 = .ok (.goto (-59), 3) := by decide +kernel
theorem dX2_tryOrders_95 : decode cX2_tryOrders 95 = .ok (.return_, 1) := by decide +kernel
theorem dX2_keepIfBetter_0 : decode cX2_keepIfBetter 0 = .ok (.aload_n 1, 1) := by decide +kernel
theorem dX2_keepIfBetter_1 : decode cX2_keepIfBetter 1 = .ok (.getfield 55, 3) := by decide +kernel
theorem dX2_keepIfBetter_4 : decode cX2_keepIfBetter 4 = .ok (.aload_n 0, 1) := by decide +kernel
theorem dX2_keepIfBetter_5 : decode cX2_keepIfBetter 5 = .ok (.getfield 34, 3) := by decide +kernel
theorem dX2_keepIfBetter_8 : decode cX2_keepIfBetter 8 = .ok (.if_icmp .gt 4, 3) := by decide +kernel
theorem dX2_keepIfBetter_11 : decode cX2_keepIfBetter 11 = .ok (.return_, 1) := by decide +kernel
theorem dX2_keepIfBetter_12 : decode cX2_keepIfBetter 12 = .ok (.aload_n 0, 1) := by decide +kernel
theorem dX2_keepIfBetter_13 : decode cX2_keepIfBetter 13 = .ok (.aload_n 1, 1) := by decide +kernel
theorem dX2_keepIfBetter_14 : decode cX2_keepIfBetter 14 = .ok (.getfield 55, 3) := by decide +kernel
theorem dX2_keepIfBetter_17 : decode cX2_keepIfBetter 17 = .ok (.putfield 34, 3) := by decide +kernel
theorem dX2_keepIfBetter_20 : decode cX2_keepIfBetter 20 = .ok (.aload_n 0, 1) := by decide +kernel
theorem dX2_keepIfBetter_21 : decode cX2_keepIfBetter 21 = .ok (.aload_n 1, 1) := by decide +kernel
theorem dX2_keepIfBetter_22 : decode cX2_keepIfBetter 22 = .ok (.iconst 1, 1) := by decide +kernel
theorem dX2_keepIfBetter_23 : decode cX2_keepIfBetter 23 = .ok (.invokevirtual 58, 3) := by decide +kernel
theorem dX2_keepIfBetter_26 : decode cX2_keepIfBetter 26 = .ok (.putfield 62, 3) := by decide +kernel
theorem dX2_keepIfBetter_29 : decode cX2_keepIfBetter 29 = .ok (.aload_n 0, 1) := by decide +kernel
theorem dX2_keepIfBetter_30 : decode cX2_keepIfBetter 30 = .ok (.getfield 20, 3) := by decide +kernel
theorem dX2_keepIfBetter_33 : decode cX2_keepIfBetter 33 = .ok (.iconst 0, 1) := by decide +kernel
theorem dX2_keepIfBetter_34 : decode cX2_keepIfBetter 34 = .ok (.aload_n 0, 1) := by decide +kernel
theorem dX2_keepIfBetter_35 : decode cX2_keepIfBetter 35 = .ok (.getfield 24, 3) := by decide +kernel
theorem dX2_keepIfBetter_38 : decode cX2_keepIfBetter 38 = .ok (.iconst 0, 1) := by decide +kernel
theorem dX2_keepIfBetter_39 : decode cX2_keepIfBetter 39 = .ok (.bipush 6, 2) := by decide +kernel
theorem dX2_keepIfBetter_41 : decode cX2_keepIfBetter 41 = .ok (.invokestatic 65, 3) := by decide +kernel
theorem dX2_keepIfBetter_44 : decode cX2_keepIfBetter 44 = .ok (.return_, 1) := by decide +kernel
theorem dX2_bestOrderClapped_0 : decode cX2_bestOrderClapped 0 = .ok (.aload_n 0, 1) := by decide +kernel
theorem dX2_bestOrderClapped_1 : decode cX2_bestOrderClapped 1 = .ok (.getfield 34, 3) := by decide +kernel
theorem dX2_bestOrderClapped_4 : decode cX2_bestOrderClapped 4 = .ok (.ireturn, 1) := by decide +kernel
theorem dX2_bestOrderPleased_0 : decode cX2_bestOrderPleased 0 = .ok (.aload_n 0, 1) := by decide +kernel
theorem dX2_bestOrderPleased_1 : decode cX2_bestOrderPleased 1 = .ok (.getfield 62, 3) := by decide +kernel
theorem dX2_bestOrderPleased_4 : decode cX2_bestOrderPleased 4 = .ok (.ireturn, 1) := by decide +kernel
theorem dX2_bestOrderThing_0 : decode cX2_bestOrderThing 0 = .ok (.iload_n 1, 1) := by decide +kernel
theorem dX2_bestOrderThing_1 : decode cX2_bestOrderThing 1 = .ok (.ifCond .lt 26, 3) := by decide +kernel
theorem dX2_bestOrderThing_4 : decode cX2_bestOrderThing 4 = .ok (.iload_n 1, 1) := by decide +kernel
theorem dX2_bestOrderThing_5 : decode cX2_bestOrderThing 5 = .ok (.aload_n 0, 1) := by decide +kernel
theorem dX2_bestOrderThing_6 : decode cX2_bestOrderThing 6 = .ok (.getfield 37, 3) := by decide +kernel
theorem dX2_bestOrderThing_9 : decode cX2_bestOrderThing 9 = .ok (.if_icmp .ge 18, 3) := by decide +kernel
theorem dX2_bestOrderThing_12 : decode cX2_bestOrderThing 12 = .ok (.iload_n 1, 1) := by decide +kernel
theorem dX2_bestOrderThing_13 : decode cX2_bestOrderThing 13 = .ok (.bipush 6, 2) := by decide +kernel
theorem dX2_bestOrderThing_15 : decode cX2_bestOrderThing 15 = .ok (.if_icmp .ge 12, 3) := by decide +kernel
theorem dX2_bestOrderThing_18 : decode cX2_bestOrderThing 18 = .ok (.aload_n 0, 1) := by decide +kernel
theorem dX2_bestOrderThing_19 : decode cX2_bestOrderThing 19 = .ok (.getfield 24, 3) := by decide +kernel
theorem dX2_bestOrderThing_22 : decode cX2_bestOrderThing 22 = .ok (.iload_n 1, 1) := by decide +kernel
theorem dX2_bestOrderThing_23 : decode cX2_bestOrderThing 23 = .ok (.iaload, 1) := by decide +kernel
theorem dX2_bestOrderThing_24 : decode cX2_bestOrderThing 24 = .ok (.goto 4, 3) := by decide +kernel
theorem dX2_bestOrderThing_27 : decode cX2_bestOrderThing 27 = .ok (.iconst (-1), 1) := by decide +kernel
theorem dX2_bestOrderThing_28 : decode cX2_bestOrderThing 28 = .ok (.ireturn, 1) := by decide +kernel
theorem dX2_bestPack_0 : decode cX2_bestPack 0 = .ok (.iconst 0, 1) := by decide +kernel
theorem dX2_bestPack_1 : decode cX2_bestPack 1 = .ok (.istore_n 2, 1) := by decide +kernel
theorem dX2_bestPack_2 : decode cX2_bestPack 2 = .ok (.iconst 1, 1) := by decide +kernel
theorem dX2_bestPack_3 : decode cX2_bestPack 3 = .ok (.istore_n 3, 1) := by decide +kernel
theorem dX2_bestPack_4 : decode cX2_bestPack 4 = .ok (.iload_n 3, 1) := by decide +kernel
theorem dX2_bestPack_5 : decode cX2_bestPack 5 = .ok (.iconst 1, 1) := by decide +kernel
theorem dX2_bestPack_6 : decode cX2_bestPack 6 = .ok (.aload_n 1, 1) := by decide +kernel
theorem dX2_bestPack_7 : decode cX2_bestPack 7 = .ok (.getfield 71, 3) := by decide +kernel
theorem dX2_bestPack_10 : decode cX2_bestPack 10 = .ok (.ishl, 1) := by decide +kernel
theorem dX2_bestPack_11 : decode cX2_bestPack 11 = .ok (.if_icmp .ge 36, 3) := by decide +kernel
theorem dX2_bestPack_14 : decode cX2_bestPack 14 = .ok (.aload_n 1, 1) := by decide +kernel
theorem dX2_bestPack_15 : decode cX2_bestPack 15 = .ok (.iload_n 3, 1) := by decide +kernel
theorem dX2_bestPack_16 : decode cX2_bestPack 16 = .ok (.aload_n 1, 1) := by decide +kernel
theorem dX2_bestPack_17 : decode cX2_bestPack 17 = .ok (.getfield 74, 3) := by decide +kernel
theorem dX2_bestPack_20 : decode cX2_bestPack 20 = .ok (.invokevirtual 77, 3) := by decide +kernel
theorem dX2_bestPack_23 : decode cX2_bestPack 23 = .ok (.aload_n 1, 1) := by decide +kernel
theorem dX2_bestPack_24 : decode cX2_bestPack 24 = .ok (.getfield 81, 3) := by decide +kernel
theorem dX2_bestPack_27 : decode cX2_bestPack 27 = .ok (.if_icmp .gt 14, 3) := by decide +kernel
theorem dX2_bestPack_30 : decode cX2_bestPack 30 = .ok (.aload_n 1, 1) := by decide +kernel
theorem dX2_bestPack_31 : decode cX2_bestPack 31 = .ok (.iload_n 3, 1) := by decide +kernel
theorem dX2_bestPack_32 : decode cX2_bestPack 32 = .ok (.iload_n 2, 1) := by decide +kernel
theorem dX2_bestPack_33 : decode cX2_bestPack 33 = .ok (.invokestatic 84, 3) := by decide +kernel
theorem dX2_bestPack_36 : decode cX2_bestPack 36 = .ok (.ifCond .eq 5, 3) := by decide +kernel
theorem dX2_bestPack_39 : decode cX2_bestPack 39 = .ok (.iload_n 3, 1) := by decide +kernel
theorem dX2_bestPack_40 : decode cX2_bestPack 40 = .ok (.istore_n 2, 1) := by decide +kernel
theorem dX2_bestPack_41 : decode cX2_bestPack 41 = .ok (.iinc 3 1, 3) := by decide +kernel
theorem dX2_bestPack_44 : decode cX2_bestPack 44 = .ok (.goto (-40), 3) := by decide +kernel
theorem dX2_bestPack_47 : decode cX2_bestPack 47 = .ok (.iload_n 2, 1) := by decide +kernel
theorem dX2_bestPack_48 : decode cX2_bestPack 48 = .ok (.ireturn, 1) := by decide +kernel
theorem dX2_isBetterPack_0 : decode cX2_isBetterPack 0 = .ok (.aload_n 0, 1) := by decide +kernel
theorem dX2_isBetterPack_1 : decode cX2_isBetterPack 1 = .ok (.iload_n 1, 1) := by decide +kernel
theorem dX2_isBetterPack_2 : decode cX2_isBetterPack 2 = .ok (.aload_n 0, 1) := by decide +kernel
theorem dX2_isBetterPack_3 : decode cX2_isBetterPack 3 = .ok (.getfield 88, 3) := by decide +kernel
theorem dX2_isBetterPack_6 : decode cX2_isBetterPack 6 = .ok (.invokevirtual 77, 3) := by decide +kernel
theorem dX2_isBetterPack_9 : decode cX2_isBetterPack 9 = .ok (.istore_n 3, 1) := by decide +kernel
theorem dX2_isBetterPack_10 : decode cX2_isBetterPack 10 = .ok (.aload_n 0, 1) := by decide +kernel
theorem dX2_isBetterPack_11 : decode cX2_isBetterPack 11 = .ok (.iload_n 2, 1) := by decide +kernel
theorem dX2_isBetterPack_12 : decode cX2_isBetterPack 12 = .ok (.aload_n 0, 1) := by decide +kernel
theorem dX2_isBetterPack_13 : decode cX2_isBetterPack 13 = .ok (.getfield 88, 3) := by decide +kernel
theorem dX2_isBetterPack_16 : decode cX2_isBetterPack 16 = .ok (.invokevirtual 77, 3) := by decide +kernel
theorem dX2_isBetterPack_19 : decode cX2_isBetterPack 19 = .ok (.istore 4, 2) := by decide +kernel
theorem dX2_isBetterPack_21 : decode cX2_isBetterPack 21 = .ok (.iload_n 3, 1) := by decide +kernel
theorem dX2_isBetterPack_22 : decode cX2_isBetterPack 22 = .ok (.iload 4, 2) := by decide +kernel
theorem dX2_isBetterPack_24 : decode cX2_isBetterPack 24 = .ok (.if_icmp .eq 15, 3) := by decide +kernel
theorem dX2_isBetterPack_27 : decode cX2_isBetterPack 27 = .ok (.iload_n 3, 1) := by decide +kernel
theorem dX2_isBetterPack_28 : decode cX2_isBetterPack 28 = .ok (.iload 4, 2) := by decide +kernel
theorem dX2_isBetterPack_30 : decode cX2_isBetterPack 30 = .ok (.if_icmp .le 7, 3) := by decide +kernel
theorem dX2_isBetterPack_33 : decode cX2_isBetterPack 33 = .ok (.iconst 1, 1) := by decide +kernel
theorem dX2_isBetterPack_34 : decode cX2_isBetterPack 34 = .ok (.goto 4, 3) := by decide +kernel
theorem dX2_isBetterPack_37 : decode cX2_isBetterPack 37 = .ok (.iconst 0, 1) := by decide +kernel
theorem dX2_isBetterPack_38 : decode cX2_isBetterPack 38 = .ok (.ireturn, 1) := by decide +kernel
theorem dX2_isBetterPack_39 : decode cX2_isBetterPack 39 = .ok (.iload_n 1, 1) := by decide +kernel
theorem dX2_isBetterPack_40 : decode cX2_isBetterPack 40 = .ok (.invokestatic 91, 3) := by decide +kernel
theorem dX2_isBetterPack_43 : decode cX2_isBetterPack 43 = .ok (.iload_n 2, 1) := by decide +kernel
theorem dX2_isBetterPack_44 : decode cX2_isBetterPack 44 = .ok (.invokestatic 91, 3) := by decide +kernel
theorem dX2_isBetterPack_47 : decode cX2_isBetterPack 47 = .ok (.if_icmp .ge 7, 3) := by decide +kernel
theorem dX2_isBetterPack_50 : decode cX2_isBetterPack 50 = .ok (.iconst 1, 1) := by decide +kernel
theorem dX2_isBetterPack_51 : decode cX2_isBetterPack 51 = .ok (.goto 4, 3) := by decide +kernel
theorem dX2_isBetterPack_54 : decode cX2_isBetterPack 54 = .ok (.iconst 0, 1) := by decide +kernel
theorem dX2_isBetterPack_55 : decode cX2_isBetterPack 55 = .ok (.ireturn, 1) := by decide +kernel
theorem dX2_fewestOff_0 : decode cX2_fewestOff 0 = .ok (.iconst (-1), 1) := by decide +kernel
theorem dX2_fewestOff_1 : decode cX2_fewestOff 1 = .ok (.istore 4, 2) := by decide +kernel
theorem dX2_fewestOff_3 : decode cX2_fewestOff 3 = .ok (.iconst 0, 1) := by decide +kernel
theorem dX2_fewestOff_4 : decode cX2_fewestOff 4 = .ok (.istore 5, 2) := by decide +kernel
theorem dX2_fewestOff_6 : decode cX2_fewestOff 6 = .ok (.iload 5, 2) := by decide +kernel
theorem dX2_fewestOff_8 : decode cX2_fewestOff 8 = .ok (.bipush 64, 2) := by decide +kernel
theorem dX2_fewestOff_10 : decode cX2_fewestOff 10 = .ok (.if_icmp .ge 64, 3) := by decide +kernel
theorem dX2_fewestOff_13 : decode cX2_fewestOff 13 = .ok (.iload 4, 2) := by decide +kernel
theorem dX2_fewestOff_15 : decode cX2_fewestOff 15 = .ok (.ifCond .lt 16, 3) := by decide +kernel
theorem dX2_fewestOff_18 : decode cX2_fewestOff 18 = .ok (.iload 5, 2) := by decide +kernel
theorem dX2_fewestOff_20 : decode cX2_fewestOff 20 = .ok (.invokestatic 91, 3) := by decide +kernel
theorem dX2_fewestOff_23 : decode cX2_fewestOff 23 = .ok (.iload 4, 2) := by decide +kernel
theorem dX2_fewestOff_25 : decode cX2_fewestOff 25 = .ok (.invokestatic 91, 3) := by decide +kernel
theorem dX2_fewestOff_28 : decode cX2_fewestOff 28 = .ok (.if_icmp .ge 7, 3) := by decide +kernel
theorem dX2_fewestOff_31 : decode cX2_fewestOff 31 = .ok (.iconst 1, 1) := by decide +kernel
theorem dX2_fewestOff_32 : decode cX2_fewestOff 32 = .ok (.goto 4, 3) := by decide +kernel
theorem dX2_fewestOff_35 : decode cX2_fewestOff 35 = .ok (.iconst 0, 1) := by decide +kernel
theorem dX2_fewestOff_36 : decode cX2_fewestOff 36 = .ok (.istore 6, 2) := by decide +kernel
theorem dX2_fewestOff_38 : decode cX2_fewestOff 38 = .ok (.iload 6, 2) := by decide +kernel
theorem dX2_fewestOff_40 : decode cX2_fewestOff 40 = .ok (.ifCond .eq 28, 3) := by decide +kernel
theorem dX2_fewestOff_43 : decode cX2_fewestOff 43 = .ok (.aload_n 1, 1) := by decide +kernel
theorem dX2_fewestOff_44 : decode cX2_fewestOff 44 = .ok (.iload 5, 2) := by decide +kernel
theorem dX2_fewestOff_46 : decode cX2_fewestOff 46 = .ok (.invokestatic 96, 3) := by decide +kernel
theorem dX2_fewestOff_49 : decode cX2_fewestOff 49 = .ok (.ifCond .eq 19, 3) := by decide +kernel
theorem dX2_fewestOff_52 : decode cX2_fewestOff 52 = .ok (.aload_n 0, 1) := by decide +kernel
theorem dX2_fewestOff_53 : decode cX2_fewestOff 53 = .ok (.aload_n 1, 1) := by decide +kernel
theorem dX2_fewestOff_54 : decode cX2_fewestOff 54 = .ok (.iload 5, 2) := by decide +kernel
theorem dX2_fewestOff_56 : decode cX2_fewestOff 56 = .ok (.iload_n 2, 1) := by decide +kernel
theorem dX2_fewestOff_57 : decode cX2_fewestOff 57 = .ok (.iload_n 3, 1) := by decide +kernel
theorem dX2_fewestOff_58 : decode cX2_fewestOff 58 = .ok (.invokevirtual 100, 3) := by decide +kernel
theorem dX2_fewestOff_61 : decode cX2_fewestOff 61 = .ok (.ifCond .eq 7, 3) := by decide +kernel
theorem dX2_fewestOff_64 : decode cX2_fewestOff 64 = .ok (.iload 5, 2) := by decide +kernel
theorem dX2_fewestOff_66 : decode cX2_fewestOff 66 = .ok (.istore 4, 2) := by decide +kernel
theorem dX2_fewestOff_68 : decode cX2_fewestOff 68 = .ok (.iinc 5 1, 3) := by decide +kernel
theorem dX2_fewestOff_71 : decode cX2_fewestOff 71 = .ok (.goto (-65), 3) := by decide +kernel
theorem dX2_fewestOff_74 : decode cX2_fewestOff 74 = .ok (.iload 4, 2) := by decide +kernel
theorem dX2_fewestOff_76 : decode cX2_fewestOff 76 = .ok (.ireturn, 1) := by decide +kernel
theorem dX2_isListed_0 : decode cX2_isListed 0 = .ok (.iconst 0, 1) := by decide +kernel
theorem dX2_isListed_1 : decode cX2_isListed 1 = .ok (.istore_n 2, 1) := by decide +kernel
theorem dX2_isListed_2 : decode cX2_isListed 2 = .ok (.iload_n 2, 1) := by decide +kernel
theorem dX2_isListed_3 : decode cX2_isListed 3 = .ok (.bipush 6, 2) := by decide +kernel
theorem dX2_isListed_5 : decode cX2_isListed 5 = .ok (.if_icmp .ge 28, 3) := by decide +kernel
theorem dX2_isListed_8 : decode cX2_isListed 8 = .ok (.iload_n 1, 1) := by decide +kernel
theorem dX2_isListed_9 : decode cX2_isListed 9 = .ok (.iload_n 2, 1) := by decide +kernel
theorem dX2_isListed_10 : decode cX2_isListed 10 = .ok (.ishr, 1) := by decide +kernel
theorem dX2_isListed_11 : decode cX2_isListed 11 = .ok (.iconst 1, 1) := by decide +kernel
theorem dX2_isListed_12 : decode cX2_isListed 12 = .ok (.iand, 1) := by decide +kernel
theorem dX2_isListed_13 : decode cX2_isListed 13 = .ok (.iconst 1, 1) := by decide +kernel
theorem dX2_isListed_14 : decode cX2_isListed 14 = .ok (.if_icmp .ne 13, 3) := by decide +kernel
theorem dX2_isListed_17 : decode cX2_isListed 17 = .ok (.aload_n 0, 1) := by decide +kernel
theorem dX2_isListed_18 : decode cX2_isListed 18 = .ok (.iload_n 2, 1) := by decide +kernel
theorem dX2_isListed_19 : decode cX2_isListed 19 = .ok (.invokevirtual 104, 3) := by decide +kernel
theorem dX2_isListed_22 : decode cX2_isListed 22 = .ok (.ifCond .ge 5, 3) := by decide +kernel
theorem dX2_isListed_25 : decode cX2_isListed 25 = .ok (.iconst 0, 1) := by decide +kernel
theorem dX2_isListed_26 : decode cX2_isListed 26 = .ok (.ireturn, 1) := by decide +kernel
theorem dX2_isListed_27 : decode cX2_isListed 27 = .ok (.iinc 2 1, 3) := by decide +kernel
theorem dX2_isListed_30 : decode cX2_isListed 30 = .ok (.goto (-28), 3) := by decide +kernel
theorem dX2_isListed_33 : decode cX2_isListed 33 = .ok (.iconst 1, 1) := by decide +kernel
theorem dX2_isListed_34 : decode cX2_isListed 34 = .ok (.ireturn, 1) := by decide +kernel
theorem dX2_pleasesWithout_0 : decode cX2_pleasesWithout 0 = .ok (.aload_n 0, 1) := by decide +kernel
theorem dX2_pleasesWithout_1 : decode cX2_pleasesWithout 1 = .ok (.getfield 10, 3) := by decide +kernel
theorem dX2_pleasesWithout_4 : decode cX2_pleasesWithout 4 = .ok (.aload_n 1, 1) := by decide +kernel
theorem dX2_pleasesWithout_5 : decode cX2_pleasesWithout 5 = .ok (.invokevirtual 40, 3) := by decide +kernel
theorem dX2_pleasesWithout_8 : decode cX2_pleasesWithout 8 = .ok (.iconst 0, 1) := by decide +kernel
theorem dX2_pleasesWithout_9 : decode cX2_pleasesWithout 9 = .ok (.istore 5, 2) := by decide +kernel
theorem dX2_pleasesWithout_11 : decode cX2_pleasesWithout 11 = .ok (.iload 5, 2) := by decide +kernel
theorem dX2_pleasesWithout_13 : decode cX2_pleasesWithout 13 = .ok (.bipush 6, 2) := by decide +kernel
theorem dX2_pleasesWithout_15 : decode cX2_pleasesWithout 15 = .ok (.if_icmp .ge 28, 3) := by decide +kernel
theorem dX2_pleasesWithout_18 : decode cX2_pleasesWithout 18 = .ok (.iload_n 2, 1) := by decide +kernel
theorem dX2_pleasesWithout_19 : decode cX2_pleasesWithout 19 = .ok (.iload 5, 2) := by decide +kernel
theorem dX2_pleasesWithout_21 : decode cX2_pleasesWithout 21 = .ok (.ishr, 1) := by decide +kernel
theorem dX2_pleasesWithout_22 : decode cX2_pleasesWithout 22 = .ok (.iconst 1, 1) := by decide +kernel
theorem dX2_pleasesWithout_23 : decode cX2_pleasesWithout 23 = .ok (.iand, 1) := by decide +kernel
theorem dX2_pleasesWithout_24 : decode cX2_pleasesWithout 24 = .ok (.iconst 1, 1) := by decide +kernel
theorem dX2_pleasesWithout_25 : decode cX2_pleasesWithout 25 = .ok (.if_icmp .ne 12, 3) := by decide +kernel
theorem dX2_pleasesWithout_28 : decode cX2_pleasesWithout 28 = .ok (.aload_n 0, 1) := by decide +kernel
theorem dX2_pleasesWithout_29 : decode cX2_pleasesWithout 29 = .ok (.getfield 10, 3) := by decide +kernel
theorem dX2_pleasesWithout_32 : decode cX2_pleasesWithout 32 = .ok (.iload 5, 2) := by decide +kernel
theorem dX2_pleasesWithout_34 : decode cX2_pleasesWithout 34 = .ok (.invokevirtual 107, 3) := by decide +kernel
theorem dX2_pleasesWithout_37 : decode cX2_pleasesWithout 37 = .ok (.iinc 5 1, 3) := by decide +kernel
theorem dX2_pleasesWithout_40 : decode cX2_pleasesWithout 40 = .ok (.goto (-29), 3) := by decide +kernel
theorem dX2_pleasesWithout_43 : decode cX2_pleasesWithout 43 = .ok (.aload_n 0, 1) := by decide +kernel
theorem dX2_pleasesWithout_44 : decode cX2_pleasesWithout 44 = .ok (.getfield 10, 3) := by decide +kernel
theorem dX2_pleasesWithout_47 : decode cX2_pleasesWithout 47 = .ok (.iload 4, 2) := by decide +kernel
theorem dX2_pleasesWithout_49 : decode cX2_pleasesWithout 49 = .ok (.invokevirtual 110, 3) := by decide +kernel
theorem dX2_pleasesWithout_52 : decode cX2_pleasesWithout 52 = .ok (.aload_n 0, 1) := by decide +kernel
theorem dX2_pleasesWithout_53 : decode cX2_pleasesWithout 53 = .ok (.getfield 10, 3) := by decide +kernel
theorem dX2_pleasesWithout_56 : decode cX2_pleasesWithout 56 = .ok (.getfield 113, 3) := by decide +kernel
theorem dX2_pleasesWithout_59 : decode cX2_pleasesWithout 59 = .ok (.iload_n 3, 1) := by decide +kernel
theorem dX2_pleasesWithout_60 : decode cX2_pleasesWithout 60 = .ok (.iaload, 1) := by decide +kernel
theorem dX2_pleasesWithout_61 : decode cX2_pleasesWithout 61 = .ok (.iconst 1, 1) := by decide +kernel
theorem dX2_pleasesWithout_62 : decode cX2_pleasesWithout 62 = .ok (.if_icmp .ne 7, 3) := by decide +kernel
theorem dX2_pleasesWithout_65 : decode cX2_pleasesWithout 65 = .ok (.iconst 1, 1) := by decide +kernel
theorem dX2_pleasesWithout_66 : decode cX2_pleasesWithout 66 = .ok (.goto 4, 3) := by decide +kernel
theorem dX2_pleasesWithout_69 : decode cX2_pleasesWithout 69 = .ok (.iconst 0, 1) := by decide +kernel
theorem dX2_pleasesWithout_70 : decode cX2_pleasesWithout 70 = .ok (.ireturn, 1) := by decide +kernel
theorem dX2_bestFirst_0 : decode cX2_bestFirst 0 = .ok (.iconst 0, 1) := by decide +kernel
theorem dX2_bestFirst_1 : decode cX2_bestFirst 1 = .ok (.istore_n 3, 1) := by decide +kernel
theorem dX2_bestFirst_2 : decode cX2_bestFirst 2 = .ok (.iconst (-1), 1) := by decide +kernel
theorem dX2_bestFirst_3 : decode cX2_bestFirst 3 = .ok (.istore 4, 2) := by decide +kernel
theorem dX2_bestFirst_5 : decode cX2_bestFirst 5 = .ok (.iconst 0, 1) := by decide +kernel
theorem dX2_bestFirst_6 : decode cX2_bestFirst 6 = .ok (.istore 5, 2) := by decide +kernel
theorem dX2_bestFirst_8 : decode cX2_bestFirst 8 = .ok (.iload 5, 2) := by decide +kernel
theorem dX2_bestFirst_10 : decode cX2_bestFirst 10 = .ok (.aload_n 1, 1) := by decide +kernel
theorem dX2_bestFirst_11 : decode cX2_bestFirst 11 = .ok (.getfield 71, 3) := by decide +kernel
theorem dX2_bestFirst_14 : decode cX2_bestFirst 14 = .ok (.if_icmp .ge 33, 3) := by decide +kernel
theorem dX2_bestFirst_17 : decode cX2_bestFirst 17 = .ok (.aload_n 0, 1) := by decide +kernel
theorem dX2_bestFirst_18 : decode cX2_bestFirst 18 = .ok (.aload_n 1, 1) := by decide +kernel
theorem dX2_bestFirst_19 : decode cX2_bestFirst 19 = .ok (.iload 5, 2) := by decide +kernel
theorem dX2_bestFirst_21 : decode cX2_bestFirst 21 = .ok (.iload_n 2, 1) := by decide +kernel
theorem dX2_bestFirst_22 : decode cX2_bestFirst 22 = .ok (.invokevirtual 116, 3) := by decide +kernel
theorem dX2_bestFirst_25 : decode cX2_bestFirst 25 = .ok (.istore 6, 2) := by decide +kernel
theorem dX2_bestFirst_27 : decode cX2_bestFirst 27 = .ok (.iload 6, 2) := by decide +kernel
theorem dX2_bestFirst_29 : decode cX2_bestFirst 29 = .ok (.iload 4, 2) := by decide +kernel
theorem dX2_bestFirst_31 : decode cX2_bestFirst 31 = .ok (.if_icmp .le 10, 3) := by decide +kernel
theorem dX2_bestFirst_34 : decode cX2_bestFirst 34 = .ok (.iload 6, 2) := by decide +kernel
theorem dX2_bestFirst_36 : decode cX2_bestFirst 36 = .ok (.istore 4, 2) := by decide +kernel
theorem dX2_bestFirst_38 : decode cX2_bestFirst 38 = .ok (.iload 5, 2) := by decide +kernel
theorem dX2_bestFirst_40 : decode cX2_bestFirst 40 = .ok (.istore_n 3, 1) := by decide +kernel
theorem dX2_bestFirst_41 : decode cX2_bestFirst 41 = .ok (.iinc 5 1, 3) := by decide +kernel
theorem dX2_bestFirst_44 : decode cX2_bestFirst 44 = .ok (.goto (-36), 3) := by decide +kernel
theorem dX2_bestFirst_47 : decode cX2_bestFirst 47 = .ok (.iload_n 3, 1) := by decide +kernel
theorem dX2_bestFirst_48 : decode cX2_bestFirst 48 = .ok (.ireturn, 1) := by decide +kernel
theorem dX2_clappedIfFirst_0 : decode cX2_clappedIfFirst 0 = .ok (.aload_n 0, 1) := by decide +kernel
theorem dX2_clappedIfFirst_1 : decode cX2_clappedIfFirst 1 = .ok (.getfield 10, 3) := by decide +kernel
theorem dX2_clappedIfFirst_4 : decode cX2_clappedIfFirst 4 = .ok (.aload_n 1, 1) := by decide +kernel
theorem dX2_clappedIfFirst_5 : decode cX2_clappedIfFirst 5 = .ok (.invokevirtual 40, 3) := by decide +kernel
theorem dX2_clappedIfFirst_8 : decode cX2_clappedIfFirst 8 = .ok (.aload_n 0, 1) := by decide +kernel
theorem dX2_clappedIfFirst_9 : decode cX2_clappedIfFirst 9 = .ok (.getfield 10, 3) := by decide +kernel
theorem dX2_clappedIfFirst_12 : decode cX2_clappedIfFirst 12 = .ok (.iload_n 2, 1) := by decide +kernel
theorem dX2_clappedIfFirst_13 : decode cX2_clappedIfFirst 13 = .ok (.invokevirtual 120, 3) := by decide +kernel
theorem dX2_clappedIfFirst_16 : decode cX2_clappedIfFirst 16 = .ok (.aload_n 0, 1) := by decide +kernel
theorem dX2_clappedIfFirst_17 : decode cX2_clappedIfFirst 17 = .ok (.getfield 10, 3) := by decide +kernel
theorem dX2_clappedIfFirst_20 : decode cX2_clappedIfFirst 20 = .ok (.iload_n 3, 1) := by decide +kernel
theorem dX2_clappedIfFirst_21 : decode cX2_clappedIfFirst 21 = .ok (.invokevirtual 110, 3) := by decide +kernel
theorem dX2_clappedIfFirst_24 : decode cX2_clappedIfFirst 24 = .ok (.aload_n 0, 1) := by decide +kernel
theorem dX2_clappedIfFirst_25 : decode cX2_clappedIfFirst 25 = .ok (.getfield 10, 3) := by decide +kernel
theorem dX2_clappedIfFirst_28 : decode cX2_clappedIfFirst 28 = .ok (.getfield 55, 3) := by decide +kernel
theorem dX2_clappedIfFirst_31 : decode cX2_clappedIfFirst 31 = .ok (.ireturn, 1) := by decide +kernel
theorem dX3_init_0 : decode cX3_init 0 = .ok (.aload_n 0, 1) := by decide +kernel
theorem dX3_init_1 : decode cX3_init 1 = .ok (.invokespecial 1, 3) := by decide +kernel
theorem dX3_init_4 : decode cX3_init 4 = .ok (.aload_n 0, 1) := by decide +kernel
theorem dX3_init_5 : decode cX3_init 5 = .ok (.bipush 8, 2) := by decide +kernel
theorem dX3_init_7 : decode cX3_init 7 = .ok (.bipush 40, 2) := by decide +kernel
theorem dX3_init_9 : decode cX3_init 9 = .ok (.multianewarray 9 2, 4) := by decide +kernel
theorem dX3_init_13 : decode cX3_init 13 = .ok (.putfield 11, 3) := by decide +kernel
theorem dX3_init_16 : decode cX3_init 16 = .ok (.aload_n 0, 1) := by decide +kernel
theorem dX3_init_17 : decode cX3_init 17 = .ok (.bipush 8, 2) := by decide +kernel
theorem dX3_init_19 : decode cX3_init 19 = .ok (.newarray .int, 2) := by decide +kernel
theorem dX3_init_21 : decode cX3_init 21 = .ok (.putfield 14, 3) := by decide +kernel
theorem dX3_init_24 : decode cX3_init 24 = .ok (.aload_n 0, 1) := by decide +kernel
theorem dX3_init_25 : decode cX3_init 25 = .ok (.bipush 8, 2) := by decide +kernel
theorem dX3_init_27 : decode cX3_init 27 = .ok (.newarray .int, 2) := by decide +kernel
theorem dX3_init_29 : decode cX3_init 29 = .ok (.putfield 18, 3) := by decide +kernel
theorem dX3_init_32 : decode cX3_init 32 = .ok (.iconst 0, 1) := by decide +kernel
theorem dX3_init_33 : decode cX3_init 33 = .ok (.istore_n 1, 1) := by decide +kernel
theorem dX3_init_34 : decode cX3_init 34 = .ok (.iload_n 1, 1) := by decide +kernel
theorem dX3_init_35 : decode cX3_init 35 = .ok (.bipush 8, 2) := by decide +kernel
theorem dX3_init_37 : decode cX3_init 37 = .ok (.if_icmp .ge 16, 3) := by decide +kernel
theorem dX3_init_40 : decode cX3_init 40 = .ok (.aload_n 0, 1) := by decide +kernel
theorem dX3_init_41 : decode cX3_init 41 = .ok (.getfield 14, 3) := by decide +kernel
theorem dX3_init_44 : decode cX3_init 44 = .ok (.iload_n 1, 1) := by decide +kernel
theorem dX3_init_45 : decode cX3_init 45 = .ok (.iconst (-1), 1) := by decide +kernel
theorem dX3_init_46 : decode cX3_init 46 = .ok (.iastore, 1) := by decide +kernel
theorem dX3_init_47 : decode cX3_init 47 = .ok (.iinc 1 1, 3) := by decide +kernel
theorem dX3_init_50 : decode cX3_init 50 = .ok (.goto (-16), 3) := by decide +kernel
theorem dX3_init_53 : decode cX3_init 53 = .ok (.return_, 1) := by decide +kernel
theorem dX3_isRow_0 : decode cX3_isRow 0 = .ok (.iload_n 0, 1) := by decide +kernel
theorem dX3_isRow_1 : decode cX3_isRow 1 = .ok (.ifCond .lt 13, 3) := by decide +kernel
theorem dX3_isRow_4 : decode cX3_isRow 4 = .ok (.iload_n 0, 1) := by decide +kernel
theorem dX3_isRow_5 : decode cX3_isRow 5 = .ok (.bipush 8, 2) := by decide +kernel
theorem dX3_isRow_7 : decode cX3_isRow 7 = .ok (.if_icmp .ge 7, 3) := by decide +kernel
theorem dX3_isRow_10 : decode cX3_isRow 10 = .ok (.iconst 1, 1) := by decide +kernel
theorem dX3_isRow_11 : decode cX3_isRow 11 = .ok (.goto 4, 3) := by decide +kernel
theorem dX3_isRow_14 : decode cX3_isRow 14 = .ok (.iconst 0, 1) := by decide +kernel
theorem dX3_isRow_15 : decode cX3_isRow 15 = .ok (.ireturn, 1) := by decide +kernel
theorem dX3_isLane_0 : decode cX3_isLane 0 = .ok (.iload_n 0, 1) := by decide +kernel
theorem dX3_isLane_1 : decode cX3_isLane 1 = .ok (.ifCond .lt 12, 3) := by decide +kernel
theorem dX3_isLane_4 : decode cX3_isLane 4 = .ok (.iload_n 0, 1) := by decide +kernel
theorem dX3_isLane_5 : decode cX3_isLane 5 = .ok (.iconst 2, 1) := by decide +kernel
theorem dX3_isLane_6 : decode cX3_isLane 6 = .ok (.if_icmp .gt 7, 3) := by decide +kernel
theorem dX3_isLane_9 : decode cX3_isLane 9 = .ok (.iconst 1, 1) := by decide +kernel
theorem dX3_isLane_10 : decode cX3_isLane 10 = .ok (.goto 4, 3) := by decide +kernel
theorem dX3_isLane_13 : decode cX3_isLane 13 = .ok (.iconst 0, 1) := by decide +kernel
theorem dX3_isLane_14 : decode cX3_isLane 14 = .ok (.ireturn, 1) := by decide +kernel
theorem dX3_isMissing_0 : decode cX3_isMissing 0 = .ok (.aload_n 0, 1) := by decide +kernel
theorem dX3_isMissing_1 : decode cX3_isMissing 1 = .ok (.getfield 14, 3) := by decide +kernel
theorem dX3_isMissing_4 : decode cX3_isMissing 4 = .ok (.iload_n 1, 1) := by decide +kernel
theorem dX3_isMissing_5 : decode cX3_isMissing 5 = .ok (.iaload, 1) := by decide +kernel
theorem dX3_isMissing_6 : decode cX3_isMissing 6 = .ok (.iconst (-1), 1) := by decide +kernel
theorem dX3_isMissing_7 : decode cX3_isMissing 7 = .ok (.if_icmp .ne 7, 3) := by decide +kernel
theorem dX3_isMissing_10 : decode cX3_isMissing 10 = .ok (.iconst 1, 1) := by decide +kernel
theorem dX3_isMissing_11 : decode cX3_isMissing 11 = .ok (.goto 4, 3) := by decide +kernel
theorem dX3_isMissing_14 : decode cX3_isMissing 14 = .ok (.iconst 0, 1) := by decide +kernel
theorem dX3_isMissing_15 : decode cX3_isMissing 15 = .ok (.ireturn, 1) := by decide +kernel
theorem dX3_present_0 : decode cX3_present 0 = .ok (.iconst 0, 1) := by decide +kernel
theorem dX3_present_1 : decode cX3_present 1 = .ok (.istore_n 1, 1) := by decide +kernel
theorem dX3_present_2 : decode cX3_present 2 = .ok (.iconst 0, 1) := by decide +kernel
theorem dX3_present_3 : decode cX3_present 3 = .ok (.istore_n 2, 1) := by decide +kernel
theorem dX3_present_4 : decode cX3_present 4 = .ok (.iload_n 2, 1) := by decide +kernel
theorem dX3_present_5 : decode cX3_present 5 = .ok (.bipush 8, 2) := by decide +kernel
theorem dX3_present_7 : decode cX3_present 7 = .ok (.if_icmp .ge 25, 3) := by decide +kernel
theorem dX3_present_10 : decode cX3_present 10 = .ok (.iload_n 1, 1) := by decide +kernel
theorem dX3_present_11 : decode cX3_present 11 = .ok (.aload_n 0, 1) := by decide +kernel
theorem dX3_present_12 : decode cX3_present 12 = .ok (.iload_n 2, 1) := by decide +kernel
theorem dX3_present_13 : decode cX3_present 13 = .ok (.invokevirtual 21, 3) := by decide +kernel
theorem dX3_present_16 : decode cX3_present 16 = .ok (.ifCond .eq 7, 3) := by decide +kernel
theorem dX3_present_19 : decode cX3_present 19 = .ok (.iconst 0, 1) := by decide +kernel
theorem dX3_present_20 : decode cX3_present 20 = .ok (.goto 4, 3) := by decide +kernel
theorem dX3_present_23 : decode cX3_present 23 = .ok (.iconst 1, 1) := by decide +kernel
theorem dX3_present_24 : decode cX3_present 24 = .ok (.iadd, 1) := by decide +kernel
theorem dX3_present_25 : decode cX3_present 25 = .ok (.istore_n 1, 1) := by decide +kernel
theorem dX3_present_26 : decode cX3_present 26 = .ok (.iinc 2 1, 3) := by decide +kernel
theorem dX3_present_29 : decode cX3_present 29 = .ok (.goto (-25), 3) := by decide +kernel
theorem dX3_present_32 : decode cX3_present 32 = .ok (.iload_n 1, 1) := by decide +kernel
theorem dX3_present_33 : decode cX3_present 33 = .ok (.ireturn, 1) := by decide +kernel
theorem dX3_make_0 : decode cX3_make 0 = .ok (.aload_n 0, 1) := by decide +kernel
theorem dX3_make_1 : decode cX3_make 1 = .ok (.getfield 14, 3) := by decide +kernel
theorem dX3_make_4 : decode cX3_make 4 = .ok (.iload_n 1, 1) := by decide +kernel
theorem dX3_make_5 : decode cX3_make 5 = .ok (.iload_n 2, 1) := by decide +kernel
theorem dX3_make_6 : decode cX3_make 6 = .ok (.iastore, 1) := by decide +kernel
theorem dX3_make_7 : decode cX3_make 7 = .ok (.aload_n 0, 1) := by decide +kernel
theorem dX3_make_8 : decode cX3_make 8 = .ok (.getfield 18, 3) := by decide +kernel
theorem dX3_make_11 : decode cX3_make 11 = .ok (.iload_n 1, 1) := by decide +kernel
theorem dX3_make_12 : decode cX3_make 12 = .ok (.iload_n 3, 1) := by decide +kernel
theorem dX3_make_13 : decode cX3_make 13 = .ok (.iastore, 1) := by decide +kernel
theorem dX3_make_14 : decode cX3_make 14 = .ok (.iconst 0, 1) := by decide +kernel
theorem dX3_make_15 : decode cX3_make 15 = .ok (.istore 4, 2) := by decide +kernel
theorem dX3_make_17 : decode cX3_make 17 = .ok (.iload 4, 2) := by decide +kernel
theorem dX3_make_19 : decode cX3_make 19 = .ok (.bipush 40, 2) := by decide +kernel
theorem dX3_make_21 : decode cX3_make 21 = .ok (.if_icmp .ge 19, 3) := by decide +kernel
theorem dX3_make_24 : decode cX3_make 24 = .ok (.aload_n 0, 1) := by decide +kernel
theorem dX3_make_25 : decode cX3_make 25 = .ok (.getfield 11, 3) := by decide +kernel
theorem dX3_make_28 : decode cX3_make 28 = .ok (.iload_n 1, 1) := by decide +kernel
theorem dX3_make_29 : decode cX3_make 29 = .ok (.aaload, 1) := by decide +kernel
theorem dX3_make_30 : decode cX3_make 30 = .ok (.iload 4, 2) := by decide +kernel
theorem dX3_make_32 : decode cX3_make 32 = .ok (.iconst 0, 1) := by decide +kernel
theorem dX3_make_33 : decode cX3_make 33 = .ok (.iastore, 1) := by decide +kernel
theorem dX3_make_34 : decode cX3_make 34 = .ok (.iinc 4 1, 3) := by decide +kernel
theorem dX3_make_37 : decode cX3_make 37 = .ok (.goto (-20), 3) := by decide +kernel
theorem dX3_make_40 : decode cX3_make 40 = .ok (.return_, 1) := by decide +kernel
theorem dX3_lose_0 : decode cX3_lose 0 = .ok (.aload_n 0, 1) := by decide +kernel
theorem dX3_lose_1 : decode cX3_lose 1 = .ok (.getfield 18, 3) := by decide +kernel
theorem dX3_lose_4 : decode cX3_lose 4 = .ok (.iload_n 1, 1) := by decide +kernel
theorem dX3_lose_5 : decode cX3_lose 5 = .ok (.iaload, 1) := by decide +kernel
theorem dX3_lose_6 : decode cX3_lose 6 = .ok (.istore_n 2, 1) := by decide +kernel
theorem dX3_lose_7 : decode cX3_lose 7 = .ok (.aload_n 0, 1) := by decide +kernel
theorem dX3_lose_8 : decode cX3_lose 8 = .ok (.getfield 14, 3) := by decide +kernel
theorem dX3_lose_11 : decode cX3_lose 11 = .ok (.iload_n 1, 1) := by decide +kernel
theorem dX3_lose_12 : decode cX3_lose 12 = .ok (.iconst (-1), 1) := by decide +kernel
theorem dX3_lose_13 : decode cX3_lose 13 = .ok (.iastore, 1) := by decide +kernel
theorem dX3_lose_14 : decode cX3_lose 14 = .ok (.aload_n 0, 1) := by decide +kernel
theorem dX3_lose_15 : decode cX3_lose 15 = .ok (.getfield 18, 3) := by decide +kernel
theorem dX3_lose_18 : decode cX3_lose 18 = .ok (.iload_n 1, 1) := by decide +kernel
theorem dX3_lose_19 : decode cX3_lose 19 = .ok (.iconst 0, 1) := by decide +kernel
theorem dX3_lose_20 : decode cX3_lose 20 = .ok (.iastore, 1) := by decide +kernel
theorem dX3_lose_21 : decode cX3_lose 21 = .ok (.iload_n 2, 1) := by decide +kernel
theorem dX3_lose_22 : decode cX3_lose 22 = .ok (.ireturn, 1) := by decide +kernel
theorem dX3_put_0 : decode cX3_put 0 = .ok (.iload_n 3, 1) := by decide +kernel
theorem dX3_put_1 : decode cX3_put 1 = .ok (.istore 4, 2) := by decide +kernel
theorem dX3_put_3 : decode cX3_put 3 = .ok (.aload_n 0, 1) := by decide +kernel
theorem dX3_put_4 : decode cX3_put 4 = .ok (.getfield 14, 3) := by decide +kernel
theorem dX3_put_7 : decode cX3_put 7 = .ok (.iload_n 1, 1) := by decide +kernel
theorem dX3_put_8 : decode cX3_put 8 = .ok (.iaload, 1) := by decide +kernel
theorem dX3_put_9 : decode cX3_put 9 = .ok (.ifCond .ne 10, 3) := by decide +kernel
theorem dX3_put_12 : decode cX3_put 12 = .ok (.iload_n 3, 1) := by decide +kernel
theorem dX3_put_13 : decode cX3_put 13 = .ok (.i2b, 1) := by decide +kernel
theorem dX3_put_14 : decode cX3_put 14 = .ok (.istore 4, 2) := by decide +kernel
theorem dX3_put_16 : decode cX3_put 16 = .ok (.goto 17, 3) := by decide +kernel
theorem dX3_put_19 : decode cX3_put 19 = .ok (.aload_n 0, 1) := by decide +kernel
theorem dX3_put_20 : decode cX3_put 20 = .ok (.getfield 14, 3) := by decide +kernel
theorem dX3_put_23 : decode cX3_put 23 = .ok (.iload_n 1, 1) := by decide +kernel
theorem dX3_put_24 : decode cX3_put 24 = .ok (.iaload, 1) := by decide +kernel
theorem dX3_put_25 : decode cX3_put 25 = .ok (.iconst 1, 1) := by decide +kernel
theorem dX3_put_26 : decode cX3_put 26 = .ok (.if_icmp .ne 7, 3) := by decide +kernel
theorem dX3_put_29 : decode cX3_put 29 = .ok (.iload_n 3, 1) := by decide +kernel
theorem dX3_put_30 : decode cX3_put 30 = .ok (.i2s, 1) := by decide +kernel
theorem dX3_put_31 : decode cX3_put 31 = .ok (.istore 4, 2) := by decide +kernel
theorem dX3_put_33 : decode cX3_put 33 = .ok (.aload_n 0, 1) := by decide +kernel
theorem dX3_put_34 : decode cX3_put 34 = .ok (.getfield 11, 3) := by decide +kernel
theorem dX3_put_37 : decode cX3_put 37 = .ok (.iload_n 1, 1) := by decide +kernel
theorem dX3_put_38 : decode cX3_put 38 = .ok (.aaload, 1) := by decide +kernel
theorem dX3_put_39 : decode cX3_put 39 = .ok (.iload_n 2, 1) := by decide +kernel
theorem dX3_put_40 : decode cX3_put 40 = .ok (.iload 4, 2) := by decide +kernel
theorem dX3_put_42 : decode cX3_put 42 = .ok (.iastore, 1) := by decide +kernel
theorem dX3_put_43 : decode cX3_put 43 = .ok (.iload 4, 2) := by decide +kernel
theorem dX3_put_45 : decode cX3_put 45 = .ok (.ireturn, 1) := by decide +kernel
theorem dX3_item_0 : decode cX3_item 0 = .ok (.iload_n 1, 1) := by decide +kernel
theorem dX3_item_1 : decode cX3_item 1 = .ok (.invokestatic 25, 3) := by decide +kernel
theorem dX3_item_4 : decode cX3_item 4 = .ok (.ifCond .eq 24, 3) := by decide +kernel
theorem dX3_item_7 : decode cX3_item 7 = .ok (.iload_n 2, 1) := by decide +kernel
theorem dX3_item_8 : decode cX3_item 8 = .ok (.ifCond .lt 20, 3) := by decide +kernel
theorem dX3_item_11 : decode cX3_item 11 = .ok (.iload_n 2, 1) := by decide +kernel
theorem dX3_item_12 : decode cX3_item 12 = .ok (.bipush 40, 2) := by decide +kernel
theorem dX3_item_14 : decode cX3_item 14 = .ok (.if_icmp .ge 14, 3) := by decide +kernel
theorem dX3_item_17 : decode cX3_item 17 = .ok (.aload_n 0, 1) := by decide +kernel
theorem dX3_item_18 : decode cX3_item 18 = .ok (.getfield 11, 3) := by decide +kernel
theorem dX3_item_21 : decode cX3_item 21 = .ok (.iload_n 1, 1) := by decide +kernel
theorem dX3_item_22 : decode cX3_item 22 = .ok (.aaload, 1) := by decide +kernel
theorem dX3_item_23 : decode cX3_item 23 = .ok (.iload_n 2, 1) := by decide +kernel
theorem dX3_item_24 : decode cX3_item 24 = .ok (.iaload, 1) := by decide +kernel
theorem dX3_item_25 : decode cX3_item 25 = .ok (.goto 4, 3) := by decide +kernel
theorem dX3_item_28 : decode cX3_item 28 = .ok (.iconst 0, 1) := by decide +kernel
theorem dX3_item_29 : decode cX3_item 29 = .ok (.ireturn, 1) := by decide +kernel
theorem dX3_findingOfSpan_0 : decode cX3_findingOfSpan 0 = .ok (.aload_n 0, 1) := by decide +kernel
theorem dX3_findingOfSpan_1 : decode cX3_findingOfSpan 1 = .ok (.iload_n 1, 1) := by decide +kernel
theorem dX3_findingOfSpan_2 : decode cX3_findingOfSpan 2 = .ok (.invokevirtual 21, 3) := by decide +kernel
theorem dX3_findingOfSpan_5 : decode cX3_findingOfSpan 5 = .ok (.ifCond .eq 5, 3) := by decide +kernel
theorem dX3_findingOfSpan_8 : decode cX3_findingOfSpan 8 = .ok (.iconst 1, 1) := by decide +kernel
theorem dX3_findingOfSpan_9 : decode cX3_findingOfSpan 9 = .ok (.ireturn, 1) := by decide +kernel
theorem dX3_findingOfSpan_10 : decode cX3_findingOfSpan 10 = .ok (.aload_n 0, 1) := by decide +kernel
theorem dX3_findingOfSpan_11 : decode cX3_findingOfSpan 11 = .ok (.iload_n 1, 1) := by decide +kernel
theorem dX3_findingOfSpan_12 : decode cX3_findingOfSpan 12 = .ok (.iload_n 2, 1) := by decide +kernel
theorem dX3_findingOfSpan_13 : decode cX3_findingOfSpan 13 = .ok (.iload_n 3, 1) := by decide +kernel
theorem dX3_findingOfSpan_14 : decode cX3_findingOfSpan 14 = .ok (.invokevirtual 28, 3) := by decide +kernel
theorem dX3_findingOfSpan_17 : decode cX3_findingOfSpan 17 = .ok (.ifCond .eq 7, 3) := by decide +kernel
theorem dX3_findingOfSpan_20 : decode cX3_findingOfSpan 20 = .ok (.iconst 0, 1) := by decide +kernel
theorem dX3_findingOfSpan_21 : decode cX3_findingOfSpan 21 = .ok (.goto 4, 3) := by decide +kernel
theorem dX3_findingOfSpan_24 : decode cX3_findingOfSpan 24 = .ok (.iconst 2, 1) := by decide +kernel
theorem dX3_findingOfSpan_25 : decode cX3_findingOfSpan 25 = .ok (.ireturn, 1) := by decide +kernel
theorem dX3_findingOfMove_0 : decode cX3_findingOfMove 0 = .ok (.aload_n 0, 1) := by decide +kernel
theorem dX3_findingOfMove_1 : decode cX3_findingOfMove 1 = .ok (.iload_n 1, 1) := by decide +kernel
theorem dX3_findingOfMove_2 : decode cX3_findingOfMove 2 = .ok (.invokevirtual 21, 3) := by decide +kernel
theorem dX3_findingOfMove_5 : decode cX3_findingOfMove 5 = .ok (.ifCond .ne 11, 3) := by decide +kernel
theorem dX3_findingOfMove_8 : decode cX3_findingOfMove 8 = .ok (.aload_n 0, 1) := by decide +kernel
theorem dX3_findingOfMove_9 : decode cX3_findingOfMove 9 = .ok (.iload_n 3, 1) := by decide +kernel
theorem dX3_findingOfMove_10 : decode cX3_findingOfMove 10 = .ok (.invokevirtual 21, 3) := by decide +kernel
theorem dX3_findingOfMove_13 : decode cX3_findingOfMove 13 = .ok (.ifCond .eq 5, 3) := by decide +kernel
theorem dX3_findingOfMove_16 : decode cX3_findingOfMove 16 = .ok (.iconst 1, 1) := by decide +kernel
theorem dX3_findingOfMove_17 : decode cX3_findingOfMove 17 = .ok (.ireturn, 1) := by decide +kernel
theorem dX3_findingOfMove_18 : decode cX3_findingOfMove 18 = .ok (.aload_n 0, 1) := by decide +kernel
theorem dX3_findingOfMove_19 : decode cX3_findingOfMove 19 = .ok (.getfield 14, 3) := by decide +kernel
theorem dX3_findingOfMove_22 : decode cX3_findingOfMove 22 = .ok (.iload_n 1, 1) := by decide +kernel
theorem dX3_findingOfMove_23 : decode cX3_findingOfMove 23 = .ok (.iaload, 1) := by decide +kernel
theorem dX3_findingOfMove_24 : decode cX3_findingOfMove 24 = .ok (.aload_n 0, 1) := by decide +kernel
theorem dX3_findingOfMove_25 : decode cX3_findingOfMove 25 = .ok (.getfield 14, 3) := by decide +kernel
theorem dX3_findingOfMove_28 : decode cX3_findingOfMove 28 = .ok (.iload_n 3, 1) := by decide +kernel
theorem dX3_findingOfMove_29 : decode cX3_findingOfMove 29 = .ok (.iaload, 1) := by decide +kernel
theorem dX3_findingOfMove_30 : decode cX3_findingOfMove 30 = .ok (.if_icmp .eq 5, 3) := by decide +kernel
theorem dX3_findingOfMove_33 : decode cX3_findingOfMove 33 = .ok (.iconst 5, 1) := by decide +kernel
theorem dX3_findingOfMove_34 : decode cX3_findingOfMove 34 = .ok (.ireturn, 1) := by decide +kernel
theorem dX3_findingOfMove_35 : decode cX3_findingOfMove 35 = .ok (.aload_n 0, 1) := by decide +kernel
theorem dX3_findingOfMove_36 : decode cX3_findingOfMove 36 = .ok (.iload_n 1, 1) := by decide +kernel
theorem dX3_findingOfMove_37 : decode cX3_findingOfMove 37 = .ok (.iload_n 2, 1) := by decide +kernel
theorem dX3_findingOfMove_38 : decode cX3_findingOfMove 38 = .ok (.iload 5, 2) := by decide +kernel
theorem dX3_findingOfMove_40 : decode cX3_findingOfMove 40 = .ok (.invokevirtual 28, 3) := by decide +kernel
theorem dX3_findingOfMove_43 : decode cX3_findingOfMove 43 = .ok (.ifCond .eq 19, 3) := by decide +kernel
theorem dX3_findingOfMove_46 : decode cX3_findingOfMove 46 = .ok (.aload_n 0, 1) := by decide +kernel
theorem dX3_findingOfMove_47 : decode cX3_findingOfMove 47 = .ok (.iload_n 3, 1) := by decide +kernel
theorem dX3_findingOfMove_48 : decode cX3_findingOfMove 48 = .ok (.iload 4, 2) := by decide +kernel
theorem dX3_findingOfMove_50 : decode cX3_findingOfMove 50 = .ok (.iload 5, 2) := by decide +kernel
theorem dX3_findingOfMove_52 : decode cX3_findingOfMove 52 = .ok (.invokevirtual 28, 3) := by decide +kernel
theorem dX3_findingOfMove_55 : decode cX3_findingOfMove 55 = .ok (.ifCond .eq 7, 3) := by decide +kernel
theorem dX3_findingOfMove_58 : decode cX3_findingOfMove 58 = .ok (.iconst 0, 1) := by decide +kernel
theorem dX3_findingOfMove_59 : decode cX3_findingOfMove 59 = .ok (.goto 4, 3) := by decide +kernel
theorem dX3_findingOfMove_62 : decode cX3_findingOfMove 62 = .ok (.iconst 2, 1) := by decide +kernel
theorem dX3_findingOfMove_63 : decode cX3_findingOfMove 63 = .ok (.ireturn, 1) := by decide +kernel
theorem dX3_move_0 : decode cX3_move 0 = .ok (.aload_n 0, 1) := by decide +kernel
theorem dX3_move_1 : decode cX3_move 1 = .ok (.getfield 11, 3) := by decide +kernel
theorem dX3_move_4 : decode cX3_move 4 = .ok (.iload_n 1, 1) := by decide +kernel
theorem dX3_move_5 : decode cX3_move 5 = .ok (.aaload, 1) := by decide +kernel
theorem dX3_move_6 : decode cX3_move 6 = .ok (.iload_n 2, 1) := by decide +kernel
theorem dX3_move_7 : decode cX3_move 7 = .ok (.aload_n 0, 1) := by decide +kernel
theorem dX3_move_8 : decode cX3_move 8 = .ok (.getfield 11, 3) := by decide +kernel
theorem dX3_move_11 : decode cX3_move 11 = .ok (.iload_n 3, 1) := by decide +kernel
theorem dX3_move_12 : decode cX3_move 12 = .ok (.aaload, 1) := by decide +kernel
theorem dX3_move_13 : decode cX3_move 13 = .ok (.iload 4, 2) := by decide +kernel
theorem dX3_move_15 : decode cX3_move 15 = .ok (.iload 5, 2) := by decide +kernel
theorem dX3_move_17 : decode cX3_move 17 = .ok (.invokestatic 32, 3) := by decide +kernel
theorem dX3_move_20 : decode cX3_move 20 = .ok (.return_, 1) := by decide +kernel
theorem dX3_isSpan_0 : decode cX3_isSpan 0 = .ok (.iload_n 2, 1) := by decide +kernel
theorem dX3_isSpan_1 : decode cX3_isSpan 1 = .ok (.ifCond .lt 33, 3) := by decide +kernel
theorem dX3_isSpan_4 : decode cX3_isSpan 4 = .ok (.iload_n 3, 1) := by decide +kernel
theorem dX3_isSpan_5 : decode cX3_isSpan 5 = .ok (.ifCond .lt 29, 3) := by decide +kernel
theorem dX3_isSpan_8 : decode cX3_isSpan 8 = .ok (.iload_n 2, 1) := by decide +kernel
theorem dX3_isSpan_9 : decode cX3_isSpan 9 = .ok (.aload_n 0, 1) := by decide +kernel
theorem dX3_isSpan_10 : decode cX3_isSpan 10 = .ok (.getfield 18, 3) := by decide +kernel
theorem dX3_isSpan_13 : decode cX3_isSpan 13 = .ok (.iload_n 1, 1) := by decide +kernel
theorem dX3_isSpan_14 : decode cX3_isSpan 14 = .ok (.iaload, 1) := by decide +kernel
theorem dX3_isSpan_15 : decode cX3_isSpan 15 = .ok (.if_icmp .gt 19, 3) := by decide +kernel
theorem dX3_isSpan_18 : decode cX3_isSpan 18 = .ok (.iload_n 3, 1) := by decide +kernel
theorem dX3_isSpan_19 : decode cX3_isSpan 19 = .ok (.aload_n 0, 1) := by decide +kernel
theorem dX3_isSpan_20 : decode cX3_isSpan 20 = .ok (.getfield 18, 3) := by decide +kernel
theorem dX3_isSpan_23 : decode cX3_isSpan 23 = .ok (.iload_n 1, 1) := by decide +kernel
theorem dX3_isSpan_24 : decode cX3_isSpan 24 = .ok (.iaload, 1) := by decide +kernel
theorem dX3_isSpan_25 : decode cX3_isSpan 25 = .ok (.iload_n 2, 1) := by decide +kernel
theorem dX3_isSpan_26 : decode cX3_isSpan 26 = .ok (.isub, 1) := by decide +kernel
theorem dX3_isSpan_27 : decode cX3_isSpan 27 = .ok (.if_icmp .gt 7, 3) := by decide +kernel
theorem dX3_isSpan_30 : decode cX3_isSpan 30 = .ok (.iconst 1, 1) := by decide +kernel
theorem dX3_isSpan_31 : decode cX3_isSpan 31 = .ok (.goto 4, 3) := by decide +kernel
theorem dX3_isSpan_34 : decode cX3_isSpan 34 = .ok (.iconst 0, 1) := by decide +kernel
theorem dX3_isSpan_35 : decode cX3_isSpan 35 = .ok (.ireturn, 1) := by decide +kernel
theorem dX4_init_0 : decode cX4_init 0 = .ok (.aload_n 0, 1) := by decide +kernel
theorem dX4_init_1 : decode cX4_init 1 = .ok (.invokespecial 1, 3) := by decide +kernel
theorem dX4_init_4 : decode cX4_init 4 = .ok (.aload_n 0, 1) := by decide +kernel
theorem dX4_init_5 : decode cX4_init 5 = .ok (.new 7, 3) := by decide +kernel
theorem dX4_init_8 : decode cX4_init 8 = .ok (.dup, 1) := by decide +kernel
theorem dX4_init_9 : decode cX4_init 9 = .ok (.invokespecial 9, 3) := by decide +kernel
theorem dX4_init_12 : decode cX4_init 12 = .ok (.putfield 10, 3) := by decide +kernel
theorem dX4_init_15 : decode cX4_init 15 = .ok (.aload_n 0, 1) := by decide +kernel
theorem dX4_init_16 : decode cX4_init 16 = .ok (.bipush 12, 2) := by decide +kernel
theorem dX4_init_18 : decode cX4_init 18 = .ok (.newarray .int, 2) := by decide +kernel
theorem dX4_init_20 : decode cX4_init 20 = .ok (.putfield 16, 3) := by decide +kernel
theorem dX4_init_23 : decode cX4_init 23 = .ok (.return_, 1) := by decide +kernel
theorem dX4_nextOne_0 : decode cX4_nextOne 0 = .ok (.aload_n 0, 1) := by decide +kernel
theorem dX4_nextOne_1 : decode cX4_nextOne 1 = .ok (.getfield 10, 3) := by decide +kernel
theorem dX4_nextOne_4 : decode cX4_nextOne 4 = .ok (.aload_n 1, 1) := by decide +kernel
theorem dX4_nextOne_5 : decode cX4_nextOne 5 = .ok (.invokevirtual 20, 3) := by decide +kernel
theorem dX4_nextOne_8 : decode cX4_nextOne 8 = .ok (.aload_n 0, 1) := by decide +kernel
theorem dX4_nextOne_9 : decode cX4_nextOne 9 = .ok (.getfield 10, 3) := by decide +kernel
theorem dX4_nextOne_12 : decode cX4_nextOne 12 = .ok (.invokevirtual 24, 3) := by decide +kernel
theorem dX4_nextOne_15 : decode cX4_nextOne 15 = .ok (.iload_n 2, 1) := by decide +kernel
theorem dX4_nextOne_16 : decode cX4_nextOne 16 = .ok (.ifCond .ne 11, 3) := by decide +kernel
theorem dX4_nextOne_19 : decode cX4_nextOne 19 = .ok (.aload_n 0, 1) := by decide +kernel
theorem dX4_nextOne_20 : decode cX4_nextOne 20 = .ok (.getfield 10, 3) := by decide +kernel
theorem dX4_nextOne_23 : decode cX4_nextOne 23 = .ok (.getfield 27, 3) := by decide +kernel
theorem dX4_nextOne_26 : decode cX4_nextOne 26 = .ok (.ireturn, 1) := by decide +kernel
theorem dX4_nextOne_27 : decode cX4_nextOne 27 = .ok (.iload_n 2, 1) := by decide +kernel
theorem dX4_nextOne_28 : decode cX4_nextOne 28 = .ok (.iconst 1, 1) := by decide +kernel
theorem dX4_nextOne_29 : decode cX4_nextOne 29 = .ok (.if_icmp .ne 13, 3) := by decide +kernel
theorem dX4_nextOne_32 : decode cX4_nextOne 32 = .ok (.aload_n 0, 1) := by decide +kernel
theorem dX4_nextOne_33 : decode cX4_nextOne 33 = .ok (.getfield 10, 3) := by decide +kernel
theorem dX4_nextOne_36 : decode cX4_nextOne 36 = .ok (.getfield 31, 3) := by decide +kernel
theorem dX4_nextOne_39 : decode cX4_nextOne 39 = .ok (.goto 10, 3) := by decide +kernel
theorem dX4_nextOne_42 : decode cX4_nextOne 42 = .ok (.aload_n 0, 1) := by decide +kernel
theorem dX4_nextOne_43 : decode cX4_nextOne 43 = .ok (.getfield 10, 3) := by decide +kernel
theorem dX4_nextOne_46 : decode cX4_nextOne 46 = .ok (.getfield 34, 3) := by decide +kernel
theorem dX4_nextOne_49 : decode cX4_nextOne 49 = .ok (.ireturn, 1) := by decide +kernel
theorem dX4_standingBehind_0 : decode cX4_standingBehind 0 = .ok (.aload_n 0, 1) := by decide +kernel
theorem dX4_standingBehind_1 : decode cX4_standingBehind 1 = .ok (.getfield 10, 3) := by decide +kernel
theorem dX4_standingBehind_4 : decode cX4_standingBehind 4 = .ok (.aload_n 1, 1) := by decide +kernel
theorem dX4_standingBehind_5 : decode cX4_standingBehind 5 = .ok (.invokevirtual 20, 3) := by decide +kernel
theorem dX4_standingBehind_8 : decode cX4_standingBehind 8 = .ok (.aload_n 0, 1) := by decide +kernel
theorem dX4_standingBehind_9 : decode cX4_standingBehind 9 = .ok (.getfield 10, 3) := by decide +kernel
theorem dX4_standingBehind_12 : decode cX4_standingBehind 12 = .ok (.iload_n 2, 1) := by decide +kernel
theorem dX4_standingBehind_13 : decode cX4_standingBehind 13 = .ok (.invokevirtual 37, 3) := by decide +kernel
theorem dX4_standingBehind_16 : decode cX4_standingBehind 16 = .ok (.aload_n 0, 1) := by decide +kernel
theorem dX4_standingBehind_17 : decode cX4_standingBehind 17 = .ok (.getfield 10, 3) := by decide +kernel
theorem dX4_standingBehind_20 : decode cX4_standingBehind 20 = .ok (.iload_n 3, 1) := by decide +kernel
theorem dX4_standingBehind_21 : decode cX4_standingBehind 21 = .ok (.invokevirtual 41, 3) := by decide +kernel
theorem dX4_standingBehind_24 : decode cX4_standingBehind 24 = .ok (.ireturn, 1) := by decide +kernel
theorem dX4_tapsUntil_0 : decode cX4_tapsUntil 0 = .ok (.aload_n 0, 1) := by decide +kernel
theorem dX4_tapsUntil_1 : decode cX4_tapsUntil 1 = .ok (.getfield 10, 3) := by decide +kernel
theorem dX4_tapsUntil_4 : decode cX4_tapsUntil 4 = .ok (.aload_n 1, 1) := by decide +kernel
theorem dX4_tapsUntil_5 : decode cX4_tapsUntil 5 = .ok (.invokevirtual 20, 3) := by decide +kernel
theorem dX4_tapsUntil_8 : decode cX4_tapsUntil 8 = .ok (.iconst 0, 1) := by decide +kernel
theorem dX4_tapsUntil_9 : decode cX4_tapsUntil 9 = .ok (.istore 4, 2) := by decide +kernel
theorem dX4_tapsUntil_11 : decode cX4_tapsUntil 11 = .ok (.iload 4, 2) := by decide +kernel
theorem dX4_tapsUntil_13 : decode cX4_tapsUntil 13 = .ok (.bipush 60, 2) := by decide +kernel
theorem dX4_tapsUntil_15 : decode cX4_tapsUntil 15 = .ok (.if_icmp .gt 32, 3) := by decide +kernel
theorem dX4_tapsUntil_18 : decode cX4_tapsUntil 18 = .ok (.aload_n 0, 1) := by decide +kernel
theorem dX4_tapsUntil_19 : decode cX4_tapsUntil 19 = .ok (.getfield 10, 3) := by decide +kernel
theorem dX4_tapsUntil_22 : decode cX4_tapsUntil 22 = .ok (.getfield 45, 3) := by decide +kernel
theorem dX4_tapsUntil_25 : decode cX4_tapsUntil 25 = .ok (.iload_n 2, 1) := by decide +kernel
theorem dX4_tapsUntil_26 : decode cX4_tapsUntil 26 = .ok (.iaload, 1) := by decide +kernel
theorem dX4_tapsUntil_27 : decode cX4_tapsUntil 27 = .ok (.iload_n 3, 1) := by decide +kernel
theorem dX4_tapsUntil_28 : decode cX4_tapsUntil 28 = .ok (.if_icmp .ne 6, 3) := by decide +kernel
theorem dX4_tapsUntil_31 : decode cX4_tapsUntil 31 = .ok (.iload 4, 2) := by decide +kernel
theorem dX4_tapsUntil_33 : decode cX4_tapsUntil 33 = .ok (.ireturn, 1) := by decide +kernel
theorem dX4_tapsUntil_34 : decode cX4_tapsUntil 34 = .ok (.aload_n 0, 1) := by decide +kernel
theorem dX4_tapsUntil_35 : decode cX4_tapsUntil 35 = .ok (.getfield 10, 3) := by decide +kernel
theorem dX4_tapsUntil_38 : decode cX4_tapsUntil 38 = .ok (.invokevirtual 24, 3) := by decide +kernel
theorem dX4_tapsUntil_41 : decode cX4_tapsUntil 41 = .ok (.iinc 4 1, 3) := by decide +kernel
theorem dX4_tapsUntil_44 : decode cX4_tapsUntil 44 = .ok (.goto (-33), 3) := by decide +kernel
theorem dX4_tapsUntil_47 : decode cX4_tapsUntil 47 = .ok (.iconst (-1), 1) := by decide +kernel
theorem dX4_tapsUntil_48 : decode cX4_tapsUntil 48 = .ok (.ireturn, 1) := by decide +kernel
theorem dX4_tapOf_0 : decode cX4_tapOf 0 = .ok (.aload_n 0, 1) := by decide +kernel
theorem dX4_tapOf_1 : decode cX4_tapOf 1 = .ok (.getfield 10, 3) := by decide +kernel
theorem dX4_tapOf_4 : decode cX4_tapOf 4 = .ok (.aload_n 1, 1) := by decide +kernel
theorem dX4_tapOf_5 : decode cX4_tapOf 5 = .ok (.invokevirtual 20, 3) := by decide +kernel
theorem dX4_tapOf_8 : decode cX4_tapOf 8 = .ok (.iconst 1, 1) := by decide +kernel
theorem dX4_tapOf_9 : decode cX4_tapOf 9 = .ok (.istore_n 3, 1) := by decide +kernel
theorem dX4_tapOf_10 : decode cX4_tapOf 10 = .ok (.iload_n 3, 1) := by decide +kernel
theorem dX4_tapOf_11 : decode cX4_tapOf 11 = .ok (.bipush 60, 2) := by decide +kernel
theorem dX4_tapOf_13 : decode cX4_tapOf 13 = .ok (.if_icmp .gt 29, 3) := by decide +kernel
theorem dX4_tapOf_16 : decode cX4_tapOf 16 = .ok (.aload_n 0, 1) := by decide +kernel
theorem dX4_tapOf_17 : decode cX4_tapOf 17 = .ok (.getfield 10, 3) := by decide +kernel
theorem dX4_tapOf_20 : decode cX4_tapOf 20 = .ok (.invokevirtual 24, 3) := by decide +kernel
theorem dX4_tapOf_23 : decode cX4_tapOf 23 = .ok (.aload_n 0, 1) := by decide +kernel
theorem dX4_tapOf_24 : decode cX4_tapOf 24 = .ok (.getfield 10, 3) := by decide +kernel
theorem dX4_tapOf_27 : decode cX4_tapOf 27 = .ok (.getfield 27, 3) := by decide +kernel
theorem dX4_tapOf_30 : decode cX4_tapOf 30 = .ok (.iload_n 2, 1) := by decide +kernel
theorem dX4_tapOf_31 : decode cX4_tapOf 31 = .ok (.if_icmp .ne 5, 3) := by decide +kernel
theorem dX4_tapOf_34 : decode cX4_tapOf 34 = .ok (.iload_n 3, 1) := by decide +kernel
theorem dX4_tapOf_35 : decode cX4_tapOf 35 = .ok (.ireturn, 1) := by decide +kernel
theorem dX4_tapOf_36 : decode cX4_tapOf 36 = .ok (.iinc 3 1, 3) := by decide +kernel
theorem dX4_tapOf_39 : decode cX4_tapOf 39 = .ok (.goto (-29), 3) := by decide +kernel
theorem dX4_tapOf_42 : decode cX4_tapOf 42 = .ok (.iconst (-1), 1) := by decide +kernel
theorem dX4_tapOf_43 : decode cX4_tapOf 43 = .ok (.ireturn, 1) := by decide +kernel
theorem dX4_hear_0 : decode cX4_hear 0 = .ok (.aload_n 0, 1) := by decide +kernel
theorem dX4_hear_1 : decode cX4_hear 1 = .ok (.iload 4, 2) := by decide +kernel
theorem dX4_hear_3 : decode cX4_hear 3 = .ok (.bipush 12, 2) := by decide +kernel
theorem dX4_hear_5 : decode cX4_hear 5 = .ok (.invokestatic 48, 3) := by decide +kernel
theorem dX4_hear_8 : decode cX4_hear 8 = .ok (.putfield 54, 3) := by decide +kernel
theorem dX4_hear_11 : decode cX4_hear 11 = .ok (.iconst 0, 1) := by decide +kernel
theorem dX4_hear_12 : decode cX4_hear 12 = .ok (.istore 5, 2) := by decide +kernel
theorem dX4_hear_14 : decode cX4_hear 14 = .ok (.iload 5, 2) := by decide +kernel
theorem dX4_hear_16 : decode cX4_hear 16 = .ok (.aload_n 0, 1) := by decide +kernel
theorem dX4_hear_17 : decode cX4_hear 17 = .ok (.getfield 54, 3) := by decide +kernel
theorem dX4_hear_20 : decode cX4_hear 20 = .ok (.if_icmp .ge 25, 3) := by decide +kernel
theorem dX4_hear_23 : decode cX4_hear 23 = .ok (.aload_n 0, 1) := by decide +kernel
theorem dX4_hear_24 : decode cX4_hear 24 = .ok (.getfield 16, 3) := by decide +kernel
theorem dX4_hear_27 : decode cX4_hear 27 = .ok (.iload 5, 2) := by decide +kernel
theorem dX4_hear_29 : decode cX4_hear 29 = .ok (.aload_n 1, 1) := by decide +kernel
theorem dX4_hear_30 : decode cX4_hear 30 = .ok (.iload_n 2, 1) := by decide +kernel
theorem dX4_hear_31 : decode cX4_hear 31 = .ok (.iload_n 3, 1) := by decide +kernel
theorem dX4_hear_32 : decode cX4_hear 32 = .ok (.iload 5, 2) := by decide +kernel
theorem dX4_hear_34 : decode cX4_hear 34 = .ok (.iadd, 1) := by decide +kernel
theorem dX4_hear_35 : decode cX4_hear 35 = .ok (.invokevirtual 57, 3) := by decide +kernel
theorem dX4_hear_38 : decode cX4_hear 38 = .ok (.iastore, 1) := by decide +kernel
theorem dX4_hear_39 : decode cX4_hear 39 = .ok (.iinc 5 1, 3) := by decide +kernel
theorem dX4_hear_42 : decode cX4_hear 42 = .ok (.goto (-28), 3) := by decide +kernel
theorem dX4_hear_45 : decode cX4_hear 45 = .ok (.return_, 1) := by decide +kernel
theorem dX4_trialClapsAsTold_0 : decode cX4_trialClapsAsTold 0 = .ok (.iconst 0, 1) := by decide +kernel
theorem dX4_trialClapsAsTold_1 : decode cX4_trialClapsAsTold 1 = .ok (.istore_n 1, 1) := by decide +kernel
theorem dX4_trialClapsAsTold_2 : decode cX4_trialClapsAsTold 2 = .ok (.iload_n 1, 1) := by decide +kernel
theorem dX4_trialClapsAsTold_3 : decode cX4_trialClapsAsTold 3 = .ok (.aload_n 0, 1) := by decide +kernel
theorem dX4_trialClapsAsTold_4 : decode cX4_trialClapsAsTold 4 = .ok (.getfield 54, 3) := by decide +kernel
theorem dX4_trialClapsAsTold_7 : decode cX4_trialClapsAsTold 7 = .ok (.if_icmp .ge 34, 3) := by decide +kernel
theorem dX4_trialClapsAsTold_10 : decode cX4_trialClapsAsTold 10 = .ok (.aload_n 0, 1) := by decide +kernel
theorem dX4_trialClapsAsTold_11 : decode cX4_trialClapsAsTold 11 = .ok (.getfield 10, 3) := by decide +kernel
theorem dX4_trialClapsAsTold_14 : decode cX4_trialClapsAsTold 14 = .ok (.invokevirtual 24, 3) := by decide +kernel
theorem dX4_trialClapsAsTold_17 : decode cX4_trialClapsAsTold 17 = .ok (.aload_n 0, 1) := by decide +kernel
theorem dX4_trialClapsAsTold_18 : decode cX4_trialClapsAsTold 18 = .ok (.getfield 10, 3) := by decide +kernel
theorem dX4_trialClapsAsTold_21 : decode cX4_trialClapsAsTold 21 = .ok (.getfield 62, 3) := by decide +kernel
theorem dX4_trialClapsAsTold_24 : decode cX4_trialClapsAsTold 24 = .ok (.aload_n 0, 1) := by decide +kernel
theorem dX4_trialClapsAsTold_25 : decode cX4_trialClapsAsTold 25 = .ok (.getfield 16, 3) := by decide +kernel
theorem dX4_trialClapsAsTold_28 : decode cX4_trialClapsAsTold 28 = .ok (.iload_n 1, 1) := by decide +kernel
theorem dX4_trialClapsAsTold_29 : decode cX4_trialClapsAsTold 29 = .ok (.iaload, 1) := by decide +kernel
theorem dX4_trialClapsAsTold_30 : decode cX4_trialClapsAsTold 30 = .ok (.if_icmp .eq 5, 3) := by decide +kernel
theorem dX4_trialClapsAsTold_33 : decode cX4_trialClapsAsTold 33 = .ok (.iconst 0, 1) := by decide +kernel
theorem dX4_trialClapsAsTold_34 : decode cX4_trialClapsAsTold 34 = .ok (.ireturn, 1) := by decide +kernel
theorem dX4_trialClapsAsTold_35 : decode cX4_trialClapsAsTold 35 = .ok (.iinc 1 1, 3) := by decide +kernel
theorem dX4_trialClapsAsTold_38 : decode cX4_trialClapsAsTold 38 = .ok (.goto (-36), 3) := by decide +kernel
theorem dX4_trialClapsAsTold_41 : decode cX4_trialClapsAsTold 41 = .ok (.iconst 1, 1) := by decide +kernel
theorem dX4_trialClapsAsTold_42 : decode cX4_trialClapsAsTold 42 = .ok (.ireturn, 1) := by decide +kernel
theorem dX4_shapesThatFit_0 : decode cX4_shapesThatFit 0 = .ok (.iload_n 3, 1) := by decide +kernel
theorem dX4_shapesThatFit_1 : decode cX4_shapesThatFit 1 = .ok (.ifCond .ne 7, 3) := by decide +kernel
theorem dX4_shapesThatFit_4 : decode cX4_shapesThatFit 4 = .ok (.iconst 1, 1) := by decide +kernel
theorem dX4_shapesThatFit_5 : decode cX4_shapesThatFit 5 = .ok (.goto 4, 3) := by decide +kernel
theorem dX4_shapesThatFit_8 : decode cX4_shapesThatFit 8 = .ok (.iconst 0, 1) := by decide +kernel
theorem dX4_shapesThatFit_9 : decode cX4_shapesThatFit 9 = .ok (.istore 4, 2) := by decide +kernel
theorem dX4_shapesThatFit_11 : decode cX4_shapesThatFit 11 = .ok (.iload_n 3, 1) := by decide +kernel
theorem dX4_shapesThatFit_12 : decode cX4_shapesThatFit 12 = .ok (.ifCond .ne 7, 3) := by decide +kernel
theorem dX4_shapesThatFit_15 : decode cX4_shapesThatFit 15 = .ok (.iconst 5, 1) := by decide +kernel
theorem dX4_shapesThatFit_16 : decode cX4_shapesThatFit 16 = .ok (.goto 5, 3) := by decide +kernel
theorem dX4_shapesThatFit_19 : decode cX4_shapesThatFit 19 = .ok (.bipush 9, 2) := by decide +kernel
theorem dX4_shapesThatFit_21 : decode cX4_shapesThatFit 21 = .ok (.istore 5, 2) := by decide +kernel
theorem dX4_shapesThatFit_23 : decode cX4_shapesThatFit 23 = .ok (.iconst 0, 1) := by decide +kernel
theorem dX4_shapesThatFit_24 : decode cX4_shapesThatFit 24 = .ok (.istore 6, 2) := by decide +kernel
theorem dX4_shapesThatFit_26 : decode cX4_shapesThatFit 26 = .ok (.iload 4, 2) := by decide +kernel
theorem dX4_shapesThatFit_28 : decode cX4_shapesThatFit 28 = .ok (.istore 7, 2) := by decide +kernel
theorem dX4_shapesThatFit_30 : decode cX4_shapesThatFit 30 = .ok (.iload 7, 2) := by decide +kernel
theorem dX4_shapesThatFit_32 : decode cX4_shapesThatFit 32 = .ok (.iload 5, 2) := by decide +kernel
theorem dX4_shapesThatFit_34 : decode cX4_shapesThatFit 34 = .ok (.if_icmp .gt 41, 3) := by decide +kernel
theorem dX4_shapesThatFit_37 : decode cX4_shapesThatFit 37 = .ok (.aload_n 0, 1) := by decide +kernel
theorem dX4_shapesThatFit_38 : decode cX4_shapesThatFit 38 = .ok (.getfield 10, 3) := by decide +kernel
theorem dX4_shapesThatFit_41 : decode cX4_shapesThatFit 41 = .ok (.aload_n 1, 1) := by decide +kernel
theorem dX4_shapesThatFit_42 : decode cX4_shapesThatFit 42 = .ok (.invokevirtual 20, 3) := by decide +kernel
theorem dX4_shapesThatFit_45 : decode cX4_shapesThatFit 45 = .ok (.aload_n 0, 1) := by decide +kernel
theorem dX4_shapesThatFit_46 : decode cX4_shapesThatFit 46 = .ok (.iload_n 2, 1) := by decide +kernel
theorem dX4_shapesThatFit_47 : decode cX4_shapesThatFit 47 = .ok (.iload_n 3, 1) := by decide +kernel
theorem dX4_shapesThatFit_48 : decode cX4_shapesThatFit 48 = .ok (.iload 7, 2) := by decide +kernel
theorem dX4_shapesThatFit_50 : decode cX4_shapesThatFit 50 = .ok (.invokevirtual 67, 3) := by decide +kernel
theorem dX4_shapesThatFit_53 : decode cX4_shapesThatFit 53 = .ok (.aload_n 0, 1) := by decide +kernel
theorem dX4_shapesThatFit_54 : decode cX4_shapesThatFit 54 = .ok (.invokevirtual 71, 3) := by decide +kernel
theorem dX4_shapesThatFit_57 : decode cX4_shapesThatFit 57 = .ok (.ifCond .eq 12, 3) := by decide +kernel
theorem dX4_shapesThatFit_60 : decode cX4_shapesThatFit 60 = .ok (.iload 6, 2) := by decide +kernel
theorem dX4_shapesThatFit_62 : decode cX4_shapesThatFit 62 = .ok (.iconst 1, 1) := by decide +kernel
theorem dX4_shapesThatFit_63 : decode cX4_shapesThatFit 63 = .ok (.iload 7, 2) := by decide +kernel
theorem dX4_shapesThatFit_65 : decode cX4_shapesThatFit 65 = .ok (.ishl, 1) := by decide +kernel
theorem dX4_shapesThatFit_66 : decode cX4_shapesThatFit 66 = .ok (.ior, 1) := by decide +kernel
theorem dX4_shapesThatFit_67 : decode cX4_shapesThatFit 67 = .ok (.istore 6, 2) := by decide +kernel
theorem dX4_shapesThatFit_69 : decode cX4_shapesThatFit 69 = .ok (.iinc 7 1, 3) := by decide +kernel
theorem dX4_shapesThatFit_72 : decode cX4_shapesThatFit 72 = .ok (.goto (-42), 3) := by decide +kernel
theorem dX4_shapesThatFit_75 : decode cX4_shapesThatFit 75 = .ok (.iload 6, 2) := by decide +kernel
theorem dX4_shapesThatFit_77 : decode cX4_shapesThatFit 77 = .ok (.ireturn, 1) := by decide +kernel
theorem dX4_reshape_0 : decode cX4_reshape 0 = .ok (.iload_n 2, 1) := by decide +kernel
theorem dX4_reshape_1 : decode cX4_reshape 1 = .ok (.ifCond .ne 16, 3) := by decide +kernel
theorem dX4_reshape_4 : decode cX4_reshape 4 = .ok (.aload_n 0, 1) := by decide +kernel
theorem dX4_reshape_5 : decode cX4_reshape 5 = .ok (.getfield 10, 3) := by decide +kernel
theorem dX4_reshape_8 : decode cX4_reshape 8 = .ok (.getfield 75, 3) := by decide +kernel
theorem dX4_reshape_11 : decode cX4_reshape 11 = .ok (.iload_n 1, 1) := by decide +kernel
theorem dX4_reshape_12 : decode cX4_reshape 12 = .ok (.iload_n 3, 1) := by decide +kernel
theorem dX4_reshape_13 : decode cX4_reshape 13 = .ok (.iastore, 1) := by decide +kernel
theorem dX4_reshape_14 : decode cX4_reshape 14 = .ok (.goto 31, 3) := by decide +kernel
theorem dX4_reshape_17 : decode cX4_reshape 17 = .ok (.iload_n 2, 1) := by decide +kernel
theorem dX4_reshape_18 : decode cX4_reshape 18 = .ok (.iconst 1, 1) := by decide +kernel
theorem dX4_reshape_19 : decode cX4_reshape 19 = .ok (.if_icmp .ne 16, 3) := by decide +kernel
theorem dX4_reshape_22 : decode cX4_reshape 22 = .ok (.aload_n 0, 1) := by decide +kernel
theorem dX4_reshape_23 : decode cX4_reshape 23 = .ok (.getfield 10, 3) := by decide +kernel
theorem dX4_reshape_26 : decode cX4_reshape 26 = .ok (.getfield 78, 3) := by decide +kernel
theorem dX4_reshape_29 : decode cX4_reshape 29 = .ok (.iload_n 1, 1) := by decide +kernel
theorem dX4_reshape_30 : decode cX4_reshape 30 = .ok (.iload_n 3, 1) := by decide +kernel
theorem dX4_reshape_31 : decode cX4_reshape 31 = .ok (.iastore, 1) := by decide +kernel
theorem dX4_reshape_32 : decode cX4_reshape 32 = .ok (.goto 13, 3) := by decide +kernel
theorem dX4_reshape_35 : decode cX4_reshape 35 = .ok (.aload_n 0, 1) := by decide +kernel
theorem dX4_reshape_36 : decode cX4_reshape 36 = .ok (.getfield 10, 3) := by decide +kernel
theorem dX4_reshape_39 : decode cX4_reshape 39 = .ok (.getfield 81, 3) := by decide +kernel
theorem dX4_reshape_42 : decode cX4_reshape 42 = .ok (.iload_n 1, 1) := by decide +kernel
theorem dX4_reshape_43 : decode cX4_reshape 43 = .ok (.iload_n 3, 1) := by decide +kernel
theorem dX4_reshape_44 : decode cX4_reshape 44 = .ok (.iastore, 1) := by decide +kernel
theorem dX4_reshape_45 : decode cX4_reshape 45 = .ok (.return_, 1) := by decide +kernel
theorem dX4_wantsThatFit_0 : decode cX4_wantsThatFit 0 = .ok (.iconst 0, 1) := by decide +kernel
theorem dX4_wantsThatFit_1 : decode cX4_wantsThatFit 1 = .ok (.istore_n 3, 1) := by decide +kernel
theorem dX4_wantsThatFit_2 : decode cX4_wantsThatFit 2 = .ok (.iconst 0, 1) := by decide +kernel
theorem dX4_wantsThatFit_3 : decode cX4_wantsThatFit 3 = .ok (.istore 4, 2) := by decide +kernel
theorem dX4_wantsThatFit_5 : decode cX4_wantsThatFit 5 = .ok (.iload 4, 2) := by decide +kernel
theorem dX4_wantsThatFit_7 : decode cX4_wantsThatFit 7 = .ok (.bipush 9, 2) := by decide +kernel
theorem dX4_wantsThatFit_9 : decode cX4_wantsThatFit 9 = .ok (.if_icmp .gt 42, 3) := by decide +kernel
theorem dX4_wantsThatFit_12 : decode cX4_wantsThatFit 12 = .ok (.aload_n 0, 1) := by decide +kernel
theorem dX4_wantsThatFit_13 : decode cX4_wantsThatFit 13 = .ok (.getfield 10, 3) := by decide +kernel
theorem dX4_wantsThatFit_16 : decode cX4_wantsThatFit 16 = .ok (.aload_n 1, 1) := by decide +kernel
theorem dX4_wantsThatFit_17 : decode cX4_wantsThatFit 17 = .ok (.invokevirtual 20, 3) := by decide +kernel
theorem dX4_wantsThatFit_20 : decode cX4_wantsThatFit 20 = .ok (.aload_n 0, 1) := by decide +kernel
theorem dX4_wantsThatFit_21 : decode cX4_wantsThatFit 21 = .ok (.getfield 10, 3) := by decide +kernel
theorem dX4_wantsThatFit_24 : decode cX4_wantsThatFit 24 = .ok (.getfield 84, 3) := by decide +kernel
theorem dX4_wantsThatFit_27 : decode cX4_wantsThatFit 27 = .ok (.iload_n 2, 1) := by decide +kernel
theorem dX4_wantsThatFit_28 : decode cX4_wantsThatFit 28 = .ok (.iload 4, 2) := by decide +kernel
theorem dX4_wantsThatFit_30 : decode cX4_wantsThatFit 30 = .ok (.iastore, 1) := by decide +kernel
theorem dX4_wantsThatFit_31 : decode cX4_wantsThatFit 31 = .ok (.aload_n 0, 1) := by decide +kernel
theorem dX4_wantsThatFit_32 : decode cX4_wantsThatFit 32 = .ok (.invokevirtual 71, 3) := by decide +kernel
theorem dX4_wantsThatFit_35 : decode cX4_wantsThatFit 35 = .ok (.ifCond .eq 10, 3) := by decide +kernel
theorem dX4_wantsThatFit_38 : decode cX4_wantsThatFit 38 = .ok (.iload_n 3, 1) := by decide +kernel
theorem dX4_wantsThatFit_39 : decode cX4_wantsThatFit 39 = .ok (.iconst 1, 1) := by decide +kernel
theorem dX4_wantsThatFit_40 : decode cX4_wantsThatFit 40 = .ok (.iload 4, 2) := by decide +kernel
theorem dX4_wantsThatFit_42 : decode cX4_wantsThatFit 42 = .ok (.ishl, 1) := by decide +kernel
theorem dX4_wantsThatFit_43 : decode cX4_wantsThatFit 43 = .ok (.ior, 1) := by decide +kernel
theorem dX4_wantsThatFit_44 : decode cX4_wantsThatFit 44 = .ok (.istore_n 3, 1) := by decide +kernel
theorem dX4_wantsThatFit_45 : decode cX4_wantsThatFit 45 = .ok (.iinc 4 1, 3) := by decide +kernel
theorem dX4_wantsThatFit_48 : decode cX4_wantsThatFit 48 = .ok (.goto (-43), 3) := by decide +kernel
theorem dX4_wantsThatFit_51 : decode cX4_wantsThatFit 51 = .ok (.iload_n 3, 1) := by decide +kernel
theorem dX4_wantsThatFit_52 : decode cX4_wantsThatFit 52 = .ok (.ireturn, 1) := by decide +kernel
theorem dX4_patienceThatFits_0 : decode cX4_patienceThatFits 0 = .ok (.iconst 0, 1) := by decide +kernel
theorem dX4_patienceThatFits_1 : decode cX4_patienceThatFits 1 = .ok (.istore_n 3, 1) := by decide +kernel
theorem dX4_patienceThatFits_2 : decode cX4_patienceThatFits 2 = .ok (.iconst 1, 1) := by decide +kernel
theorem dX4_patienceThatFits_3 : decode cX4_patienceThatFits 3 = .ok (.istore 4, 2) := by decide +kernel
theorem dX4_patienceThatFits_5 : decode cX4_patienceThatFits 5 = .ok (.iload 4, 2) := by decide +kernel
theorem dX4_patienceThatFits_7 : decode cX4_patienceThatFits 7 = .ok (.bipush 20, 2) := by decide +kernel
theorem dX4_patienceThatFits_9 : decode cX4_patienceThatFits 9 = .ok (.if_icmp .gt 42, 3) := by decide +kernel
theorem dX4_patienceThatFits_12 : decode cX4_patienceThatFits 12 = .ok (.aload_n 0, 1) := by decide +kernel
theorem dX4_patienceThatFits_13 : decode cX4_patienceThatFits 13 = .ok (.getfield 10, 3) := by decide +kernel
theorem dX4_patienceThatFits_16 : decode cX4_patienceThatFits 16 = .ok (.aload_n 1, 1) := by decide +kernel
theorem dX4_patienceThatFits_17 : decode cX4_patienceThatFits 17 = .ok (.invokevirtual 20, 3) := by decide +kernel
theorem dX4_patienceThatFits_20 : decode cX4_patienceThatFits 20 = .ok (.aload_n 0, 1) := by decide +kernel
theorem dX4_patienceThatFits_21 : decode cX4_patienceThatFits 21 = .ok (.getfield 10, 3) := by decide +kernel
theorem dX4_patienceThatFits_24 : decode cX4_patienceThatFits 24 = .ok (.getfield 87, 3) := by decide +kernel
theorem dX4_patienceThatFits_27 : decode cX4_patienceThatFits 27 = .ok (.iload_n 2, 1) := by decide +kernel
theorem dX4_patienceThatFits_28 : decode cX4_patienceThatFits 28 = .ok (.iload 4, 2) := by decide +kernel
theorem dX4_patienceThatFits_30 : decode cX4_patienceThatFits 30 = .ok (.iastore, 1) := by decide +kernel
theorem dX4_patienceThatFits_31 : decode cX4_patienceThatFits 31 = .ok (.aload_n 0, 1) := by decide +kernel
theorem dX4_patienceThatFits_32 : decode cX4_patienceThatFits 32 = .ok (.invokevirtual 71, 3) := by decide +kernel
theorem dX4_patienceThatFits_35 : decode cX4_patienceThatFits 35 = .ok (.ifCond .eq 10, 3) := by decide +kernel
theorem dX4_patienceThatFits_38 : decode cX4_patienceThatFits 38 = .ok (.iload_n 3, 1) := by decide +kernel
theorem dX4_patienceThatFits_39 : decode cX4_patienceThatFits 39 = .ok (.iconst 1, 1) := by decide +kernel
theorem dX4_patienceThatFits_40 : decode cX4_patienceThatFits 40 = .ok (.iload 4, 2) := by decide +kernel
theorem dX4_patienceThatFits_42 : decode cX4_patienceThatFits 42 = .ok (.ishl, 1) := by decide +kernel
theorem dX4_patienceThatFits_43 : decode cX4_patienceThatFits 43 = .ok (.ior, 1) := by decide +kernel
theorem dX4_patienceThatFits_44 : decode cX4_patienceThatFits 44 = .ok (.istore_n 3, 1) := by decide +kernel
theorem dX4_patienceThatFits_45 : decode cX4_patienceThatFits 45 = .ok (.iinc 4 1, 3) := by decide +kernel
theorem dX4_patienceThatFits_48 : decode cX4_patienceThatFits 48 = .ok (.goto (-43), 3) := by decide +kernel
theorem dX4_patienceThatFits_51 : decode cX4_patienceThatFits 51 = .ok (.iload_n 3, 1) := by decide +kernel
theorem dX4_patienceThatFits_52 : decode cX4_patienceThatFits 52 = .ok (.ireturn, 1) := by decide +kernel
theorem dX4_absencesThatFit_0 : decode cX4_absencesThatFit 0 = .ok (.aload_n 0, 1) := by decide +kernel
theorem dX4_absencesThatFit_1 : decode cX4_absencesThatFit 1 = .ok (.getfield 10, 3) := by decide +kernel
theorem dX4_absencesThatFit_4 : decode cX4_absencesThatFit 4 = .ok (.aload_n 1, 1) := by decide +kernel
theorem dX4_absencesThatFit_5 : decode cX4_absencesThatFit 5 = .ok (.invokevirtual 20, 3) := by decide +kernel
theorem dX4_absencesThatFit_8 : decode cX4_absencesThatFit 8 = .ok (.aload_n 0, 1) := by decide +kernel
theorem dX4_absencesThatFit_9 : decode cX4_absencesThatFit 9 = .ok (.invokevirtual 71, 3) := by decide +kernel
theorem dX4_absencesThatFit_12 : decode cX4_absencesThatFit 12 = .ok (.ifCond .eq 8, 3) := by decide +kernel
theorem dX4_absencesThatFit_15 : decode cX4_absencesThatFit 15 = .ok (.bipush 64, 2) := by decide +kernel
theorem dX4_absencesThatFit_17 : decode cX4_absencesThatFit 17 = .ok (.goto 4, 3) := by decide +kernel
theorem dX4_absencesThatFit_20 : decode cX4_absencesThatFit 20 = .ok (.iconst 0, 1) := by decide +kernel
theorem dX4_absencesThatFit_21 : decode cX4_absencesThatFit 21 = .ok (.istore_n 2, 1) := by decide +kernel
theorem dX4_absencesThatFit_22 : decode cX4_absencesThatFit 22 = .ok (.iconst 0, 1) := by decide +kernel
theorem dX4_absencesThatFit_23 : decode cX4_absencesThatFit 23 = .ok (.istore_n 3, 1) := by decide +kernel
theorem dX4_absencesThatFit_24 : decode cX4_absencesThatFit 24 = .ok (.iload_n 3, 1) := by decide +kernel
theorem dX4_absencesThatFit_25 : decode cX4_absencesThatFit 25 = .ok (.aload_n 1, 1) := by decide +kernel
theorem dX4_absencesThatFit_26 : decode cX4_absencesThatFit 26 = .ok (.getfield 90, 3) := by decide +kernel
theorem dX4_absencesThatFit_29 : decode cX4_absencesThatFit 29 = .ok (.if_icmp .ge 48, 3) := by decide +kernel
theorem dX4_absencesThatFit_32 : decode cX4_absencesThatFit 32 = .ok (.aload_n 0, 1) := by decide +kernel
theorem dX4_absencesThatFit_33 : decode cX4_absencesThatFit 33 = .ok (.getfield 10, 3) := by decide +kernel
theorem dX4_absencesThatFit_36 : decode cX4_absencesThatFit 36 = .ok (.aload_n 1, 1) := by decide +kernel
theorem dX4_absencesThatFit_37 : decode cX4_absencesThatFit 37 = .ok (.invokevirtual 20, 3) := by decide +kernel
theorem dX4_absencesThatFit_40 : decode cX4_absencesThatFit 40 = .ok (.aload_n 0, 1) := by decide +kernel
theorem dX4_absencesThatFit_41 : decode cX4_absencesThatFit 41 = .ok (.getfield 10, 3) := by decide +kernel
theorem dX4_absencesThatFit_44 : decode cX4_absencesThatFit 44 = .ok (.aload_n 1, 1) := by decide +kernel
theorem dX4_absencesThatFit_45 : decode cX4_absencesThatFit 45 = .ok (.getfield 93, 3) := by decide +kernel
theorem dX4_absencesThatFit_48 : decode cX4_absencesThatFit 48 = .ok (.iload_n 3, 1) := by decide +kernel
theorem dX4_absencesThatFit_49 : decode cX4_absencesThatFit 49 = .ok (.iaload, 1) := by decide +kernel
theorem dX4_absencesThatFit_50 : decode cX4_absencesThatFit 50 = .ok (.invokevirtual 96, 3) := by decide +kernel
theorem dX4_absencesThatFit_53 : decode cX4_absencesThatFit 53 = .ok (.aload_n 0, 1) := by decide +kernel
theorem dX4_absencesThatFit_54 : decode cX4_absencesThatFit 54 = .ok (.invokevirtual 71, 3) := by decide +kernel
theorem dX4_absencesThatFit_57 : decode cX4_absencesThatFit 57 = .ok (.ifCond .eq 14, 3) := by decide +kernel
theorem dX4_absencesThatFit_60 : decode cX4_absencesThatFit 60 = .ok (.iload_n 2, 1) := by decide +kernel
theorem dX4_absencesThatFit_61 : decode cX4_absencesThatFit 61 = .ok (.iconst 1, 1) := by decide +kernel
theorem dX4_absencesThatFit_62 : decode cX4_absencesThatFit 62 = .ok (.aload_n 1, 1) := by decide +kernel
theorem dX4_absencesThatFit_63 : decode cX4_absencesThatFit 63 = .ok (.getfield 93, 3) := by decide +kernel
theorem dX4_absencesThatFit_66 : decode cX4_absencesThatFit 66 = .ok (.iload_n 3, 1) := by decide +kernel
theorem dX4_absencesThatFit_67 : decode cX4_absencesThatFit 67 = .ok (.iaload, 1) := by decide +kernel
theorem dX4_absencesThatFit_68 : decode cX4_absencesThatFit 68 = .ok (.ishl, 1) := by decide +kernel
theorem dX4_absencesThatFit_69 : decode cX4_absencesThatFit 69 = .ok (.ior, 1) := by decide +kernel
theorem dX4_absencesThatFit_70 : decode cX4_absencesThatFit 70 = .ok (.istore_n 2, 1) := by decide +kernel
theorem dX4_absencesThatFit_71 : decode cX4_absencesThatFit 71 = .ok (.iinc 3 1, 3) := by decide +kernel
theorem dX4_absencesThatFit_74 : decode cX4_absencesThatFit 74 = .ok (.goto (-50), 3) := by decide +kernel
theorem dX4_absencesThatFit_77 : decode cX4_absencesThatFit 77 = .ok (.iload_n 2, 1) := by decide +kernel
theorem dX4_absencesThatFit_78 : decode cX4_absencesThatFit 78 = .ok (.ireturn, 1) := by decide +kernel
theorem dX4_likelyCases_0 : decode cX4_likelyCases 0 = .ok (.aload_n 1, 1) := by decide +kernel
theorem dX4_likelyCases_1 : decode cX4_likelyCases 1 = .ok (.iconst 0, 1) := by decide +kernel
theorem dX4_likelyCases_2 : decode cX4_likelyCases 2 = .ok (.invokevirtual 99, 3) := by decide +kernel
theorem dX4_likelyCases_5 : decode cX4_likelyCases 5 = .ok (.istore 5, 2) := by decide +kernel
theorem dX4_likelyCases_7 : decode cX4_likelyCases 7 = .ok (.lconst 0, 1) := by decide +kernel
theorem dX4_likelyCases_8 : decode cX4_likelyCases 8 = .ok (.lstore 6, 2) := by decide +kernel
theorem dX4_likelyCases_10 : decode cX4_likelyCases 10 = .ok (.iconst 0, 1) := by decide +kernel
theorem dX4_likelyCases_11 : decode cX4_likelyCases 11 = .ok (.istore 8, 2) := by decide +kernel
theorem dX4_likelyCases_13 : decode cX4_likelyCases 13 = .ok (.iload 8, 2) := by decide +kernel
theorem dX4_likelyCases_15 : decode cX4_likelyCases 15 = .ok (.iload 5, 2) := by decide +kernel
theorem dX4_likelyCases_17 : decode cX4_likelyCases 17 = .ok (.if_icmp .gt 82, 3) := by decide +kernel
theorem dX4_likelyCases_20 : decode cX4_likelyCases 20 = .ok (.iload 8, 2) := by decide +kernel
theorem dX4_likelyCases_22 : decode cX4_likelyCases 22 = .ok (.iload 5, 2) := by decide +kernel
theorem dX4_likelyCases_24 : decode cX4_likelyCases 24 = .ok (.iconst (-1), 1) := by decide +kernel
theorem dX4_likelyCases_25 : decode cX4_likelyCases 25 = .ok (.ixor, 1) := by decide +kernel
theorem dX4_likelyCases_26 : decode cX4_likelyCases 26 = .ok (.iand, 1) := by decide +kernel
theorem dX4_likelyCases_27 : decode cX4_likelyCases 27 = .ok (.ifCond .ne 66, 3) := by decide +kernel
theorem dX4_likelyCases_30 : decode cX4_likelyCases 30 = .ok (.iload 8, 2) := by decide +kernel
theorem dX4_likelyCases_32 : decode cX4_likelyCases 32 = .ok (.invokestatic 102, 3) := by decide +kernel
theorem dX4_likelyCases_35 : decode cX4_likelyCases 35 = .ok (.istore 9, 2) := by decide +kernel
theorem dX4_likelyCases_37 : decode cX4_likelyCases 37 = .ok (.iload 5, 2) := by decide +kernel
theorem dX4_likelyCases_39 : decode cX4_likelyCases 39 = .ok (.invokestatic 102, 3) := by decide +kernel
theorem dX4_likelyCases_42 : decode cX4_likelyCases 42 = .ok (.iload 9, 2) := by decide +kernel
theorem dX4_likelyCases_44 : decode cX4_likelyCases 44 = .ok (.isub, 1) := by decide +kernel
theorem dX4_likelyCases_45 : decode cX4_likelyCases 45 = .ok (.istore 10, 2) := by decide +kernel
theorem dX4_likelyCases_47 : decode cX4_likelyCases 47 = .ok (.iload 4, 2) := by decide +kernel
theorem dX4_likelyCases_49 : decode cX4_likelyCases 49 = .ok (.iload 9, 2) := by decide +kernel
theorem dX4_likelyCases_51 : decode cX4_likelyCases 51 = .ok (.invokestatic 107, 3) := by decide +kernel
theorem dX4_likelyCases_54 : decode cX4_likelyCases 54 = .ok (.bipush 10, 2) := by decide +kernel
theorem dX4_likelyCases_56 : decode cX4_likelyCases 56 = .ok (.iload 4, 2) := by decide +kernel
theorem dX4_likelyCases_58 : decode cX4_likelyCases 58 = .ok (.isub, 1) := by decide +kernel
theorem dX4_likelyCases_59 : decode cX4_likelyCases 59 = .ok (.iload 10, 2) := by decide +kernel
theorem dX4_likelyCases_61 : decode cX4_likelyCases 61 = .ok (.invokestatic 107, 3) := by decide +kernel
theorem dX4_likelyCases_64 : decode cX4_likelyCases 64 = .ok (.lmul, 1) := by decide +kernel
theorem dX4_likelyCases_65 : decode cX4_likelyCases 65 = .ok (.lstore 11, 2) := by decide +kernel
theorem dX4_likelyCases_67 : decode cX4_likelyCases 67 = .ok (.lload 11, 2) := by decide +kernel
theorem dX4_likelyCases_69 : decode cX4_likelyCases 69 = .ok (.lconst 0, 1) := by decide +kernel
theorem dX4_likelyCases_70 : decode cX4_likelyCases 70 = .ok (.lcmp, 1) := by decide +kernel
theorem dX4_likelyCases_71 : decode cX4_likelyCases 71 = .ok (.ifCond .le 22, 3) := by decide +kernel
theorem dX4_likelyCases_74 : decode cX4_likelyCases 74 = .ok (.aload_n 0, 1) := by decide +kernel
theorem dX4_likelyCases_75 : decode cX4_likelyCases 75 = .ok (.aload_n 1, 1) := by decide +kernel
theorem dX4_likelyCases_76 : decode cX4_likelyCases 76 = .ok (.iload 8, 2) := by decide +kernel
theorem dX4_likelyCases_78 : decode cX4_likelyCases 78 = .ok (.iload_n 3, 1) := by decide +kernel
theorem dX4_likelyCases_79 : decode cX4_likelyCases 79 = .ok (.invokevirtual 111, 3) := by decide +kernel
theorem dX4_likelyCases_82 : decode cX4_likelyCases 82 = .ok (.iload_n 2, 1) := by decide +kernel
theorem dX4_likelyCases_83 : decode cX4_likelyCases 83 = .ok (.if_icmp .lt 10, 3) := by decide +kernel
theorem dX4_likelyCases_86 : decode cX4_likelyCases 86 = .ok (.lload 6, 2) := by decide +kernel
theorem dX4_likelyCases_88 : decode cX4_likelyCases 88 = .ok (.lload 11, 2) := by decide +kernel
theorem dX4_likelyCases_90 : decode cX4_likelyCases 90 = .ok (.ladd, 1) := by decide +kernel
theorem dX4_likelyCases_91 : decode cX4_likelyCases 91 = .ok (.lstore 6, 2) := by decide +kernel
theorem dX4_likelyCases_93 : decode cX4_likelyCases 93 = .ok (.iinc 8 1, 3) := by decide +kernel
theorem dX4_likelyCases_96 : decode cX4_likelyCases 96 = .ok (.goto (-83), 3) := by decide +kernel
theorem dX4_likelyCases_99 : decode cX4_likelyCases 99 = .ok (.lload 6, 2) := by decide +kernel
theorem dX4_likelyCases_101 : decode cX4_likelyCases 101 = .ok (.lreturn, 1) := by decide +kernel
theorem dX4_clappedWithout_0 : decode cX4_clappedWithout 0 = .ok (.aload_n 0, 1) := by decide +kernel
theorem dX4_clappedWithout_1 : decode cX4_clappedWithout 1 = .ok (.getfield 10, 3) := by decide +kernel
theorem dX4_clappedWithout_4 : decode cX4_clappedWithout 4 = .ok (.aload_n 1, 1) := by decide +kernel
theorem dX4_clappedWithout_5 : decode cX4_clappedWithout 5 = .ok (.invokevirtual 20, 3) := by decide +kernel
theorem dX4_clappedWithout_8 : decode cX4_clappedWithout 8 = .ok (.iconst 0, 1) := by decide +kernel
theorem dX4_clappedWithout_9 : decode cX4_clappedWithout 9 = .ok (.istore 4, 2) := by decide +kernel
theorem dX4_clappedWithout_11 : decode cX4_clappedWithout 11 = .ok (.iload 4, 2) := by decide +kernel
theorem dX4_clappedWithout_13 : decode cX4_clappedWithout 13 = .ok (.aload_n 0, 1) := by decide +kernel
theorem dX4_clappedWithout_14 : decode cX4_clappedWithout 14 = .ok (.getfield 10, 3) := by decide +kernel
theorem dX4_clappedWithout_17 : decode cX4_clappedWithout 17 = .ok (.getfield 115, 3) := by decide +kernel
theorem dX4_clappedWithout_20 : decode cX4_clappedWithout 20 = .ok (.if_icmp .ge 30, 3) := by decide +kernel
theorem dX4_clappedWithout_23 : decode cX4_clappedWithout 23 = .ok (.iload_n 2, 1) := by decide +kernel
theorem dX4_clappedWithout_24 : decode cX4_clappedWithout 24 = .ok (.iload 4, 2) := by decide +kernel
theorem dX4_clappedWithout_26 : decode cX4_clappedWithout 26 = .ok (.ishr, 1) := by decide +kernel
theorem dX4_clappedWithout_27 : decode cX4_clappedWithout 27 = .ok (.iconst 1, 1) := by decide +kernel
theorem dX4_clappedWithout_28 : decode cX4_clappedWithout 28 = .ok (.iand, 1) := by decide +kernel
theorem dX4_clappedWithout_29 : decode cX4_clappedWithout 29 = .ok (.iconst 1, 1) := by decide +kernel
theorem dX4_clappedWithout_30 : decode cX4_clappedWithout 30 = .ok (.if_icmp .ne 14, 3) := by decide +kernel
theorem dX4_clappedWithout_33 : decode cX4_clappedWithout 33 = .ok (.aload_n 0, 1) := by decide +kernel
theorem dX4_clappedWithout_34 : decode cX4_clappedWithout 34 = .ok (.getfield 10, 3) := by decide +kernel
theorem dX4_clappedWithout_37 : decode cX4_clappedWithout 37 = .ok (.getfield 45, 3) := by decide +kernel
theorem dX4_clappedWithout_40 : decode cX4_clappedWithout 40 = .ok (.iload 4, 2) := by decide +kernel
theorem dX4_clappedWithout_42 : decode cX4_clappedWithout 42 = .ok (.iconst 2, 1) := by decide +kernel
theorem dX4_clappedWithout_43 : decode cX4_clappedWithout 43 = .ok (.iastore, 1) := by decide +kernel
theorem dX4_clappedWithout_44 : decode cX4_clappedWithout 44 = .ok (.iinc 4 1, 3) := by decide +kernel
theorem dX4_clappedWithout_47 : decode cX4_clappedWithout 47 = .ok (.goto (-36), 3) := by decide +kernel
theorem dX4_clappedWithout_50 : decode cX4_clappedWithout 50 = .ok (.aload_n 0, 1) := by decide +kernel
theorem dX4_clappedWithout_51 : decode cX4_clappedWithout 51 = .ok (.getfield 10, 3) := by decide +kernel
theorem dX4_clappedWithout_54 : decode cX4_clappedWithout 54 = .ok (.iload_n 3, 1) := by decide +kernel
theorem dX4_clappedWithout_55 : decode cX4_clappedWithout 55 = .ok (.invokevirtual 37, 3) := by decide +kernel
theorem dX4_clappedWithout_58 : decode cX4_clappedWithout 58 = .ok (.aload_n 0, 1) := by decide +kernel
theorem dX4_clappedWithout_59 : decode cX4_clappedWithout 59 = .ok (.getfield 10, 3) := by decide +kernel
theorem dX4_clappedWithout_62 : decode cX4_clappedWithout 62 = .ok (.getfield 62, 3) := by decide +kernel
theorem dX4_clappedWithout_65 : decode cX4_clappedWithout 65 = .ok (.ireturn, 1) := by decide +kernel
theorem dX4_power_0 : decode cX4_power 0 = .ok (.lconst 1, 1) := by decide +kernel
theorem dX4_power_1 : decode cX4_power 1 = .ok (.lstore_n 2, 1) := by decide +kernel
theorem dX4_power_2 : decode cX4_power 2 = .ok (.iconst 0, 1) := by decide +kernel
theorem dX4_power_3 : decode cX4_power 3 = .ok (.istore 4, 2) := by decide +kernel
theorem dX4_power_5 : decode cX4_power 5 = .ok (.iload 4, 2) := by decide +kernel
theorem dX4_power_7 : decode cX4_power 7 = .ok (.iload_n 1, 1) := by decide +kernel
theorem dX4_power_8 : decode cX4_power 8 = .ok (.if_icmp .ge 14, 3) := by decide +kernel
theorem dX4_power_11 : decode cX4_power 11 = .ok (.lload_n 2, 1) := by decide +kernel
theorem dX4_power_12 : decode cX4_power 12 = .ok (.iload_n 0, 1) := by decide +kernel
theorem dX4_power_13 : decode cX4_power 13 = .ok (.i2l, 1) := by decide +kernel
theorem dX4_power_14 : decode cX4_power 14 = .ok (.lmul, 1) := by decide +kernel
theorem dX4_power_15 : decode cX4_power 15 = .ok (.lstore_n 2, 1) := by decide +kernel
theorem dX4_power_16 : decode cX4_power 16 = .ok (.iinc 4 1, 3) := by decide +kernel
theorem dX4_power_19 : decode cX4_power 19 = .ok (.goto (-14), 3) := by decide +kernel
theorem dX4_power_22 : decode cX4_power 22 = .ok (.lload_n 2, 1) := by decide +kernel
theorem dX4_power_23 : decode cX4_power 23 = .ok (.lreturn, 1) := by decide +kernel
theorem dX4_commonDivisor_0 : decode cX4_commonDivisor 0 = .ok (.lload_n 0, 1) := by decide +kernel
theorem dX4_commonDivisor_1 : decode cX4_commonDivisor 1 = .ok (.lstore 4, 2) := by decide +kernel
theorem dX4_commonDivisor_3 : decode cX4_commonDivisor 3 = .ok (.lload_n 2, 1) := by decide +kernel
theorem dX4_commonDivisor_4 : decode cX4_commonDivisor 4 = .ok (.lstore 6, 2) := by decide +kernel
theorem dX4_commonDivisor_6 : decode cX4_commonDivisor 6 = .ok (.iconst 0, 1) := by decide +kernel
theorem dX4_commonDivisor_7 : decode cX4_commonDivisor 7 = .ok (.istore 8, 2) := by decide +kernel
theorem dX4_commonDivisor_9 : decode cX4_commonDivisor 9 = .ok (.iload 8, 2) := by decide +kernel
theorem dX4_commonDivisor_11 : decode cX4_commonDivisor 11 = .ok (.sipush 1000, 3) := by decide +kernel
theorem dX4_commonDivisor_14 : decode cX4_commonDivisor 14 = .ok (.if_icmp .ge 31, 3) := by decide +kernel
theorem dX4_commonDivisor_17 : decode cX4_commonDivisor 17 = .ok (.lload 6, 2) := by decide +kernel
theorem dX4_commonDivisor_19 : decode cX4_commonDivisor 19 = .ok (.lconst 0, 1) := by decide +kernel
theorem dX4_commonDivisor_20 : decode cX4_commonDivisor 20 = .ok (.lcmp, 1) := by decide +kernel
theorem dX4_commonDivisor_21 : decode cX4_commonDivisor 21 = .ok (.ifCond .le 24, 3) := by decide +kernel
theorem dX4_commonDivisor_24 : decode cX4_commonDivisor 24 = .ok (.lload 4, 2) := by decide +kernel
theorem dX4_commonDivisor_26 : decode cX4_commonDivisor 26 = .ok (.lload 6, 2) := by decide +kernel
theorem dX4_commonDivisor_28 : decode cX4_commonDivisor 28 = .ok (.lrem, 1) := by decide +kernel
theorem dX4_commonDivisor_29 : decode cX4_commonDivisor 29 = .ok (.lstore 9, 2) := by decide +kernel
theorem dX4_commonDivisor_31 : decode cX4_commonDivisor 31 = .ok (.lload 6, 2) := by decide +kernel
theorem dX4_commonDivisor_33 : decode cX4_commonDivisor 33 = .ok (.lstore 4, 2) := by decide +kernel
theorem dX4_commonDivisor_35 : decode cX4_commonDivisor 35 = .ok (.lload 9, 2) := by decide +kernel
theorem dX4_commonDivisor_37 : decode cX4_commonDivisor 37 = .ok (.lstore 6, 2) := by decide +kernel
theorem dX4_commonDivisor_39 : decode cX4_commonDivisor 39 = .ok (.iinc 8 1, 3) := by decide +kernel
theorem dX4_commonDivisor_42 : decode cX4_commonDivisor 42 = .ok (.goto (-33), 3) := by decide +kernel
theorem dX4_commonDivisor_45 : decode cX4_commonDivisor 45 = .ok (.lload 4, 2) := by decide +kernel
theorem dX4_commonDivisor_47 : decode cX4_commonDivisor 47 = .ok (.lreturn, 1) := by decide +kernel
theorem dX4_runByDraws_0 : decode cX4_runByDraws 0 = .ok (.aload_n 0, 1) := by decide +kernel
theorem dX4_runByDraws_1 : decode cX4_runByDraws 1 = .ok (.getfield 10, 3) := by decide +kernel
theorem dX4_runByDraws_4 : decode cX4_runByDraws 4 = .ok (.aload_n 1, 1) := by decide +kernel
theorem dX4_runByDraws_5 : decode cX4_runByDraws 5 = .ok (.invokevirtual 20, 3) := by decide +kernel
theorem dX4_runByDraws_8 : decode cX4_runByDraws 8 = .ok (.iload_n 3, 1) := by decide +kernel
theorem dX4_runByDraws_9 : decode cX4_runByDraws 9 = .ok (.i2l, 1) := by decide +kernel
theorem dX4_runByDraws_10 : decode cX4_runByDraws 10 = .ok (.lstore 5, 2) := by decide +kernel
theorem dX4_runByDraws_12 : decode cX4_runByDraws 12 = .ok (.iconst 0, 1) := by decide +kernel
theorem dX4_runByDraws_13 : decode cX4_runByDraws 13 = .ok (.istore 7, 2) := by decide +kernel
theorem dX4_runByDraws_15 : decode cX4_runByDraws 15 = .ok (.iconst 0, 1) := by decide +kernel
theorem dX4_runByDraws_16 : decode cX4_runByDraws 16 = .ok (.istore 8, 2) := by decide +kernel
theorem dX4_runByDraws_18 : decode cX4_runByDraws 18 = .ok (.iload 8, 2) := by decide +kernel
theorem dX4_runByDraws_20 : decode cX4_runByDraws 20 = .ok (.iload_n 2, 1) := by decide +kernel
theorem dX4_runByDraws_21 : decode cX4_runByDraws 21 = .ok (.if_icmp .ge 49, 3) := by decide +kernel
theorem dX4_runByDraws_24 : decode cX4_runByDraws 24 = .ok (.lload 5, 2) := by decide +kernel
theorem dX4_runByDraws_26 : decode cX4_runByDraws 26 = .ok (.ldc2_w 118, 3) := by decide +kernel
theorem dX4_runByDraws_29 : decode cX4_runByDraws 29 = .ok (.lmul, 1) := by decide +kernel
theorem dX4_runByDraws_30 : decode cX4_runByDraws 30 = .ok (.ldc2_w 120, 3) := by decide +kernel
theorem dX4_runByDraws_33 : decode cX4_runByDraws 33 = .ok (.lrem, 1) := by decide +kernel
theorem dX4_runByDraws_34 : decode cX4_runByDraws 34 = .ok (.lstore 5, 2) := by decide +kernel
theorem dX4_runByDraws_36 : decode cX4_runByDraws 36 = .ok (.aload_n 0, 1) := by decide +kernel
theorem dX4_runByDraws_37 : decode cX4_runByDraws 37 = .ok (.lload 5, 2) := by decide +kernel
theorem dX4_runByDraws_39 : decode cX4_runByDraws 39 = .ok (.invokevirtual 122, 3) := by decide +kernel
theorem dX4_runByDraws_42 : decode cX4_runByDraws 42 = .ok (.aload_n 0, 1) := by decide +kernel
theorem dX4_runByDraws_43 : decode cX4_runByDraws 43 = .ok (.getfield 10, 3) := by decide +kernel
theorem dX4_runByDraws_46 : decode cX4_runByDraws 46 = .ok (.invokevirtual 24, 3) := by decide +kernel
theorem dX4_runByDraws_49 : decode cX4_runByDraws 49 = .ok (.iload 7, 2) := by decide +kernel
theorem dX4_runByDraws_51 : decode cX4_runByDraws 51 = .ok (.aload_n 0, 1) := by decide +kernel
theorem dX4_runByDraws_52 : decode cX4_runByDraws 52 = .ok (.getfield 10, 3) := by decide +kernel
theorem dX4_runByDraws_55 : decode cX4_runByDraws 55 = .ok (.getfield 31, 3) := by decide +kernel
theorem dX4_runByDraws_58 : decode cX4_runByDraws 58 = .ok (.invokestatic 102, 3) := by decide +kernel
theorem dX4_runByDraws_61 : decode cX4_runByDraws 61 = .ok (.iadd, 1) := by decide +kernel
theorem dX4_runByDraws_62 : decode cX4_runByDraws 62 = .ok (.istore 7, 2) := by decide +kernel
theorem dX4_runByDraws_64 : decode cX4_runByDraws 64 = .ok (.iinc 8 1, 3) := by decide +kernel
theorem dX4_runByDraws_67 : decode cX4_runByDraws 67 = .ok (.goto (-49), 3) := by decide +kernel
theorem dX4_runByDraws_70 : decode cX4_runByDraws 70 = .ok (.iload 4, 2) := by decide +kernel
theorem dX4_runByDraws_72 : decode cX4_runByDraws 72 = .ok (.ifCond .ne 13, 3) := by decide +kernel
theorem dX4_runByDraws_75 : decode cX4_runByDraws 75 = .ok (.aload_n 0, 1) := by decide +kernel
theorem dX4_runByDraws_76 : decode cX4_runByDraws 76 = .ok (.getfield 10, 3) := by decide +kernel
theorem dX4_runByDraws_79 : decode cX4_runByDraws 79 = .ok (.getfield 62, 3) := by decide +kernel
theorem dX4_runByDraws_82 : decode cX4_runByDraws 82 = .ok (.goto 5, 3) := by decide +kernel
theorem dX4_runByDraws_85 : decode cX4_runByDraws 85 = .ok (.iload 7, 2) := by decide +kernel
theorem dX4_runByDraws_87 : decode cX4_runByDraws 87 = .ok (.ireturn, 1) := by decide +kernel
theorem dX4_arrangeByDraw_0 : decode cX4_arrangeByDraw 0 = .ok (.aload_n 0, 1) := by decide +kernel
theorem dX4_arrangeByDraw_1 : decode cX4_arrangeByDraw 1 = .ok (.getfield 10, 3) := by decide +kernel
theorem dX4_arrangeByDraw_4 : decode cX4_arrangeByDraw 4 = .ok (.getfield 115, 3) := by decide +kernel
theorem dX4_arrangeByDraw_7 : decode cX4_arrangeByDraw 7 = .ok (.ifCond .le 60, 3) := by decide +kernel
theorem dX4_arrangeByDraw_10 : decode cX4_arrangeByDraw 10 = .ok (.lload_n 1, 1) := by decide +kernel
theorem dX4_arrangeByDraw_11 : decode cX4_arrangeByDraw 11 = .ok (.aload_n 0, 1) := by decide +kernel
theorem dX4_arrangeByDraw_12 : decode cX4_arrangeByDraw 12 = .ok (.getfield 10, 3) := by decide +kernel
theorem dX4_arrangeByDraw_15 : decode cX4_arrangeByDraw 15 = .ok (.getfield 115, 3) := by decide +kernel
theorem dX4_arrangeByDraw_18 : decode cX4_arrangeByDraw 18 = .ok (.i2l, 1) := by decide +kernel
theorem dX4_arrangeByDraw_19 : decode cX4_arrangeByDraw 19 = .ok (.lrem, 1) := by decide +kernel
theorem dX4_arrangeByDraw_20 : decode cX4_arrangeByDraw 20 = .ok (.l2i, 1) := by decide +kernel
theorem dX4_arrangeByDraw_21 : decode cX4_arrangeByDraw 21 = .ok (.istore_n 3, 1) := by decide +kernel
theorem dX4_arrangeByDraw_22 : decode cX4_arrangeByDraw 22 = .ok (.aload_n 0, 1) := by decide +kernel
theorem dX4_arrangeByDraw_23 : decode cX4_arrangeByDraw 23 = .ok (.getfield 10, 3) := by decide +kernel
theorem dX4_arrangeByDraw_26 : decode cX4_arrangeByDraw 26 = .ok (.iload_n 3, 1) := by decide +kernel
theorem dX4_arrangeByDraw_27 : decode cX4_arrangeByDraw 27 = .ok (.invokevirtual 126, 3) := by decide +kernel
theorem dX4_arrangeByDraw_30 : decode cX4_arrangeByDraw 30 = .ok (.ifCond .eq 37, 3) := by decide +kernel
theorem dX4_arrangeByDraw_33 : decode cX4_arrangeByDraw 33 = .ok (.aload_n 0, 1) := by decide +kernel
theorem dX4_arrangeByDraw_34 : decode cX4_arrangeByDraw 34 = .ok (.getfield 10, 3) := by decide +kernel
theorem dX4_arrangeByDraw_37 : decode cX4_arrangeByDraw 37 = .ok (.getfield 45, 3) := by decide +kernel
theorem dX4_arrangeByDraw_40 : decode cX4_arrangeByDraw 40 = .ok (.iload_n 3, 1) := by decide +kernel
theorem dX4_arrangeByDraw_41 : decode cX4_arrangeByDraw 41 = .ok (.iaload, 1) := by decide +kernel
theorem dX4_arrangeByDraw_42 : decode cX4_arrangeByDraw 42 = .ok (.ifCond .eq 25, 3) := by decide +kernel
theorem dX4_arrangeByDraw_45 : decode cX4_arrangeByDraw 45 = .ok (.aload_n 0, 1) := by decide +kernel
theorem dX4_arrangeByDraw_46 : decode cX4_arrangeByDraw 46 = .ok (.getfield 10, 3) := by decide +kernel
theorem dX4_arrangeByDraw_49 : decode cX4_arrangeByDraw 49 = .ok (.iload_n 3, 1) := by decide +kernel
theorem dX4_arrangeByDraw_50 : decode cX4_arrangeByDraw 50 = .ok (.lload_n 1, 1) := by decide +kernel
theorem dX4_arrangeByDraw_51 : decode cX4_arrangeByDraw 51 = .ok (.ldc2_w 130, 3) := by decide +kernel
theorem dX4_arrangeByDraw_54 : decode cX4_arrangeByDraw 54 = .ok (.lrem, 1) := by decide +kernel
theorem dX4_arrangeByDraw_55 : decode cX4_arrangeByDraw 55 = .ok (.l2i, 1) := by decide +kernel
theorem dX4_arrangeByDraw_56 : decode cX4_arrangeByDraw 56 = .ok (.lload_n 1, 1) := by decide +kernel
theorem dX4_arrangeByDraw_57 : decode cX4_arrangeByDraw 57 = .ok (.ldc2_w 132, 3) := by decide +kernel
theorem dX4_arrangeByDraw_60 : decode cX4_arrangeByDraw 60 = .ok (.lrem, 1) := by decide +kernel
theorem dX4_arrangeByDraw_61 : decode cX4_arrangeByDraw 61 = .ok (.l2i, 1) := by decide +kernel
theorem dX4_arrangeByDraw_62 : decode cX4_arrangeByDraw 62 = .ok (.iconst 1, 1) := by decide +kernel
theorem dX4_arrangeByDraw_63 : decode cX4_arrangeByDraw 63 = .ok (.iadd, 1) := by decide +kernel
theorem dX4_arrangeByDraw_64 : decode cX4_arrangeByDraw 64 = .ok (.invokevirtual 134, 3) := by decide +kernel
theorem dX4_arrangeByDraw_67 : decode cX4_arrangeByDraw 67 = .ok (.aload_n 0, 1) := by decide +kernel
theorem dX4_arrangeByDraw_68 : decode cX4_arrangeByDraw 68 = .ok (.getfield 10, 3) := by decide +kernel
theorem dX4_arrangeByDraw_71 : decode cX4_arrangeByDraw 71 = .ok (.getfield 90, 3) := by decide +kernel
theorem dX4_arrangeByDraw_74 : decode cX4_arrangeByDraw 74 = .ok (.ifCond .ne 31, 3) := by decide +kernel
theorem dX4_arrangeByDraw_77 : decode cX4_arrangeByDraw 77 = .ok (.aload_n 0, 1) := by decide +kernel
theorem dX4_arrangeByDraw_78 : decode cX4_arrangeByDraw 78 = .ok (.getfield 10, 3) := by decide +kernel
theorem dX4_arrangeByDraw_81 : decode cX4_arrangeByDraw 81 = .ok (.getfield 137, 3) := by decide +kernel
theorem dX4_arrangeByDraw_84 : decode cX4_arrangeByDraw 84 = .ok (.ifCond .le 21, 3) := by decide +kernel
theorem dX4_arrangeByDraw_87 : decode cX4_arrangeByDraw 87 = .ok (.aload_n 0, 1) := by decide +kernel
theorem dX4_arrangeByDraw_88 : decode cX4_arrangeByDraw 88 = .ok (.getfield 10, 3) := by decide +kernel
theorem dX4_arrangeByDraw_91 : decode cX4_arrangeByDraw 91 = .ok (.lload_n 1, 1) := by decide +kernel
theorem dX4_arrangeByDraw_92 : decode cX4_arrangeByDraw 92 = .ok (.aload_n 0, 1) := by decide +kernel
theorem dX4_arrangeByDraw_93 : decode cX4_arrangeByDraw 93 = .ok (.getfield 10, 3) := by decide +kernel
theorem dX4_arrangeByDraw_96 : decode cX4_arrangeByDraw 96 = .ok (.getfield 137, 3) := by decide +kernel
theorem dX4_arrangeByDraw_99 : decode cX4_arrangeByDraw 99 = .ok (.i2l, 1) := by decide +kernel
theorem dX4_arrangeByDraw_100 : decode cX4_arrangeByDraw 100 = .ok (.lrem, 1) := by decide +kernel
theorem dX4_arrangeByDraw_101 : decode cX4_arrangeByDraw 101 = .ok (.l2i, 1) := by decide +kernel
theorem dX4_arrangeByDraw_102 : decode cX4_arrangeByDraw 102 = .ok (.invokevirtual 140, 3) := by decide +kernel
theorem dX4_arrangeByDraw_105 : decode cX4_arrangeByDraw 105 = .ok (.return_, 1) := by decide +kernel
theorem dX5_init_0 : decode cX5_init 0 = .ok (.aload_n 0, 1) := by decide +kernel
theorem dX5_init_1 : decode cX5_init 1 = .ok (.invokespecial 3, 3) := by decide +kernel
theorem dX5_init_4 : decode cX5_init 4 = .ok (.aload_n 0, 1) := by decide +kernel
theorem dX5_init_5 : decode cX5_init 5 = .ok (.bipush 6, 2) := by decide +kernel
theorem dX5_init_7 : decode cX5_init 7 = .ok (.newarray .int, 2) := by decide +kernel
theorem dX5_init_9 : decode cX5_init 9 = .ok (.putfield 11, 3) := by decide +kernel
theorem dX5_init_12 : decode cX5_init 12 = .ok (.aload_n 0, 1) := by decide +kernel
theorem dX5_init_13 : decode cX5_init 13 = .ok (.bipush 6, 2) := by decide +kernel
theorem dX5_init_15 : decode cX5_init 15 = .ok (.newarray .int, 2) := by decide +kernel
theorem dX5_init_17 : decode cX5_init 17 = .ok (.putfield 15, 3) := by decide +kernel
theorem dX5_init_20 : decode cX5_init 20 = .ok (.aload_n 0, 1) := by decide +kernel
theorem dX5_init_21 : decode cX5_init 21 = .ok (.bipush 6, 2) := by decide +kernel
theorem dX5_init_23 : decode cX5_init 23 = .ok (.newarray .int, 2) := by decide +kernel
theorem dX5_init_25 : decode cX5_init 25 = .ok (.putfield 18, 3) := by decide +kernel
theorem dX5_init_28 : decode cX5_init 28 = .ok (.aload_n 0, 1) := by decide +kernel
theorem dX5_init_29 : decode cX5_init 29 = .ok (.bipush 6, 2) := by decide +kernel
theorem dX5_init_31 : decode cX5_init 31 = .ok (.newarray .int, 2) := by decide +kernel
theorem dX5_init_33 : decode cX5_init 33 = .ok (.putfield 21, 3) := by decide +kernel
theorem dX5_init_36 : decode cX5_init 36 = .ok (.aload_n 0, 1) := by decide +kernel
theorem dX5_init_37 : decode cX5_init 37 = .ok (.bipush 6, 2) := by decide +kernel
theorem dX5_init_39 : decode cX5_init 39 = .ok (.newarray .int, 2) := by decide +kernel
theorem dX5_init_41 : decode cX5_init 41 = .ok (.putfield 24, 3) := by decide +kernel
theorem dX5_init_44 : decode cX5_init 44 = .ok (.aload_n 0, 1) := by decide +kernel
theorem dX5_init_45 : decode cX5_init 45 = .ok (.bipush 6, 2) := by decide +kernel
theorem dX5_init_47 : decode cX5_init 47 = .ok (.newarray .int, 2) := by decide +kernel
theorem dX5_init_49 : decode cX5_init 49 = .ok (.putfield 27, 3) := by decide +kernel
theorem dX5_init_52 : decode cX5_init 52 = .ok (.aload_n 0, 1) := by decide +kernel
theorem dX5_init_53 : decode cX5_init 53 = .ok (.bipush 6, 2) := by decide +kernel
theorem dX5_init_55 : decode cX5_init 55 = .ok (.newarray .int, 2) := by decide +kernel
theorem dX5_init_57 : decode cX5_init 57 = .ok (.putfield 30, 3) := by decide +kernel
theorem dX5_init_60 : decode cX5_init 60 = .ok (.aload_n 0, 1) := by decide +kernel
theorem dX5_init_61 : decode cX5_init 61 = .ok (.bipush 6, 2) := by decide +kernel
theorem dX5_init_63 : decode cX5_init 63 = .ok (.newarray .int, 2) := by decide +kernel
