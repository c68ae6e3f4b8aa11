theorem dX5_init_65 : decode cX5_init 65 = .ok (.putfield 33, 3) := by decide +kernel
theorem dX5_init_68 : decode cX5_init 68 = .ok (.return_, 1) := by decide +kernel
theorem dX5_takeOver_0 : decode cX5_takeOver 0 = .ok (.aload_n 0, 1) := by decide +kernel
theorem dX5_takeOver_1 : decode cX5_takeOver 1 = .ok (.aload_n 1, 1) := by decide +kernel
theorem dX5_takeOver_2 : decode cX5_takeOver 2 = .ok (.getfield 36, 3) := by decide +kernel
theorem dX5_takeOver_5 : decode cX5_takeOver 5 = .ok (.putfield 36, 3) := by decide +kernel
theorem dX5_takeOver_8 : decode cX5_takeOver 8 = .ok (.aload_n 0, 1) := by decide +kernel
theorem dX5_takeOver_9 : decode cX5_takeOver 9 = .ok (.aload_n 1, 1) := by decide +kernel
theorem dX5_takeOver_10 : decode cX5_takeOver 10 = .ok (.getfield 40, 3) := by decide +kernel
theorem dX5_takeOver_13 : decode cX5_takeOver 13 = .ok (.putfield 40, 3) := by decide +kernel
theorem dX5_takeOver_16 : decode cX5_takeOver 16 = .ok (.aload_n 0, 1) := by decide +kernel
theorem dX5_takeOver_17 : decode cX5_takeOver 17 = .ok (.aload_n 1, 1) := by decide +kernel
theorem dX5_takeOver_18 : decode cX5_takeOver 18 = .ok (.getfield 43, 3) := by decide +kernel
theorem dX5_takeOver_21 : decode cX5_takeOver 21 = .ok (.putfield 43, 3) := by decide +kernel
theorem dX5_takeOver_24 : decode cX5_takeOver 24 = .ok (.aload_n 0, 1) := by decide +kernel
theorem dX5_takeOver_25 : decode cX5_takeOver 25 = .ok (.aload_n 1, 1) := by decide +kernel
theorem dX5_takeOver_26 : decode cX5_takeOver 26 = .ok (.getfield 46, 3) := by decide +kernel
theorem dX5_takeOver_29 : decode cX5_takeOver 29 = .ok (.putfield 46, 3) := by decide +kernel
theorem dX5_takeOver_32 : decode cX5_takeOver 32 = .ok (.aload_n 0, 1) := by decide +kernel
theorem dX5_takeOver_33 : decode cX5_takeOver 33 = .ok (.aload_n 1, 1) := by decide +kernel
theorem dX5_takeOver_34 : decode cX5_takeOver 34 = .ok (.getfield 49, 3) := by decide +kernel
theorem dX5_takeOver_37 : decode cX5_takeOver 37 = .ok (.putfield 49, 3) := by decide +kernel
theorem dX5_takeOver_40 : decode cX5_takeOver 40 = .ok (.aload_n 0, 1) := by decide +kernel
theorem dX5_takeOver_41 : decode cX5_takeOver 41 = .ok (.aload_n 1, 1) := by decide +kernel
theorem dX5_takeOver_42 : decode cX5_takeOver 42 = .ok (.getfield 52, 3) := by decide +kernel
theorem dX5_takeOver_45 : decode cX5_takeOver 45 = .ok (.putfield 52, 3) := by decide +kernel
theorem dX5_takeOver_48 : decode cX5_takeOver 48 = .ok (.aload_n 0, 1) := by decide +kernel
theorem dX5_takeOver_49 : decode cX5_takeOver 49 = .ok (.aload_n 1, 1) := by decide +kernel
theorem dX5_takeOver_50 : decode cX5_takeOver 50 = .ok (.getfield 55, 3) := by decide +kernel
theorem dX5_takeOver_53 : decode cX5_takeOver 53 = .ok (.putfield 55, 3) := by decide +kernel
theorem dX5_takeOver_56 : decode cX5_takeOver 56 = .ok (.aload_n 1, 1) := by decide +kernel
theorem dX5_takeOver_57 : decode cX5_takeOver 57 = .ok (.getfield 11, 3) := by decide +kernel
theorem dX5_takeOver_60 : decode cX5_takeOver 60 = .ok (.iconst 0, 1) := by decide +kernel
theorem dX5_takeOver_61 : decode cX5_takeOver 61 = .ok (.aload_n 0, 1) := by decide +kernel
theorem dX5_takeOver_62 : decode cX5_takeOver 62 = .ok (.getfield 11, 3) := by decide +kernel
theorem dX5_takeOver_65 : decode cX5_takeOver 65 = .ok (.iconst 0, 1) := by decide +kernel
theorem dX5_takeOver_66 : decode cX5_takeOver 66 = .ok (.bipush 6, 2) := by decide +kernel
theorem dX5_takeOver_68 : decode cX5_takeOver 68 = .ok (.invokestatic 58, 3) := by decide +kernel
theorem dX5_takeOver_71 : decode cX5_takeOver 71 = .ok (.aload_n 1, 1) := by decide +kernel
theorem dX5_takeOver_72 : decode cX5_takeOver 72 = .ok (.getfield 15, 3) := by decide +kernel
theorem dX5_takeOver_75 : decode cX5_takeOver 75 = .ok (.iconst 0, 1) := by decide +kernel
theorem dX5_takeOver_76 : decode cX5_takeOver 76 = .ok (.aload_n 0, 1) := by decide +kernel
theorem dX5_takeOver_77 : decode cX5_takeOver 77 = .ok (.getfield 15, 3) := by decide +kernel
theorem dX5_takeOver_80 : decode cX5_takeOver 80 = .ok (.iconst 0, 1) := by decide +kernel
theorem dX5_takeOver_81 : decode cX5_takeOver 81 = .ok (.bipush 6, 2) := by decide +kernel
theorem dX5_takeOver_83 : decode cX5_takeOver 83 = .ok (.invokestatic 58, 3) := by decide +kernel
theorem dX5_takeOver_86 : decode cX5_takeOver 86 = .ok (.aload_n 1, 1) := by decide +kernel
theorem dX5_takeOver_87 : decode cX5_takeOver 87 = .ok (.getfield 18, 3) := by decide +kernel
theorem dX5_takeOver_90 : decode cX5_takeOver 90 = .ok (.iconst 0, 1) := by decide +kernel
theorem dX5_takeOver_91 : decode cX5_takeOver 91 = .ok (.aload_n 0, 1) := by decide +kernel
theorem dX5_takeOver_92 : decode cX5_takeOver 92 = .ok (.getfield 18, 3) := by decide +kernel
theorem dX5_takeOver_95 : decode cX5_takeOver 95 = .ok (.iconst 0, 1) := by decide +kernel
theorem dX5_takeOver_96 : decode cX5_takeOver 96 = .ok (.bipush 6, 2) := by decide +kernel
theorem dX5_takeOver_98 : decode cX5_takeOver 98 = .ok (.invokestatic 58, 3) := by decide +kernel
theorem dX5_takeOver_101 : decode cX5_takeOver 101 = .ok (.aload_n 1, 1) := by decide +kernel
theorem dX5_takeOver_102 : decode cX5_takeOver 102 = .ok (.getfield 21, 3) := by decide +kernel
theorem dX5_takeOver_105 : decode cX5_takeOver 105 = .ok (.iconst 0, 1) := by decide +kernel
theorem dX5_takeOver_106 : decode cX5_takeOver 106 = .ok (.aload_n 0, 1) := by decide +kernel
theorem dX5_takeOver_107 : decode cX5_takeOver 107 = .ok (.getfield 21, 3) := by decide +kernel
theorem dX5_takeOver_110 : decode cX5_takeOver 110 = .ok (.iconst 0, 1) := by decide +kernel
theorem dX5_takeOver_111 : decode cX5_takeOver 111 = .ok (.bipush 6, 2) := by decide +kernel
theorem dX5_takeOver_113 : decode cX5_takeOver 113 = .ok (.invokestatic 58, 3) := by decide +kernel
theorem dX5_takeOver_116 : decode cX5_takeOver 116 = .ok (.aload_n 1, 1) := by decide +kernel
theorem dX5_takeOver_117 : decode cX5_takeOver 117 = .ok (.getfield 24, 3) := by decide +kernel
theorem dX5_takeOver_120 : decode cX5_takeOver 120 = .ok (.iconst 0, 1) := by decide +kernel
theorem dX5_takeOver_121 : decode cX5_takeOver 121 = .ok (.aload_n 0, 1) := by decide +kernel
theorem dX5_takeOver_122 : decode cX5_takeOver 122 = .ok (.getfield 24, 3) := by decide +kernel
theorem dX5_takeOver_125 : decode cX5_takeOver 125 = .ok (.iconst 0, 1) := by decide +kernel
theorem dX5_takeOver_126 : decode cX5_takeOver 126 = .ok (.bipush 6, 2) := by decide +kernel
theorem dX5_takeOver_128 : decode cX5_takeOver 128 = .ok (.invokestatic 58, 3) := by decide +kernel
theorem dX5_takeOver_131 : decode cX5_takeOver 131 = .ok (.aload_n 1, 1) := by decide +kernel
theorem dX5_takeOver_132 : decode cX5_takeOver 132 = .ok (.getfield 27, 3) := by decide +kernel
theorem dX5_takeOver_135 : decode cX5_takeOver 135 = .ok (.iconst 0, 1) := by decide +kernel
theorem dX5_takeOver_136 : decode cX5_takeOver 136 = .ok (.aload_n 0, 1) := by decide +kernel
theorem dX5_takeOver_137 : decode cX5_takeOver 137 = .ok (.getfield 27, 3) := by decide +kernel
theorem dX5_takeOver_140 : decode cX5_takeOver 140 = .ok (.iconst 0, 1) := by decide +kernel
theorem dX5_takeOver_141 : decode cX5_takeOver 141 = .ok (.bipush 6, 2) := by decide +kernel
theorem dX5_takeOver_143 : decode cX5_takeOver 143 = .ok (.invokestatic 58, 3) := by decide +kernel
theorem dX5_takeOver_146 : decode cX5_takeOver 146 = .ok (.aload_n 1, 1) := by decide +kernel
theorem dX5_takeOver_147 : decode cX5_takeOver 147 = .ok (.getfield 30, 3) := by decide +kernel
theorem dX5_takeOver_150 : decode cX5_takeOver 150 = .ok (.iconst 0, 1) := by decide +kernel
theorem dX5_takeOver_151 : decode cX5_takeOver 151 = .ok (.aload_n 0, 1) := by decide +kernel
theorem dX5_takeOver_152 : decode cX5_takeOver 152 = .ok (.getfield 30, 3) := by decide +kernel
theorem dX5_takeOver_155 : decode cX5_takeOver 155 = .ok (.iconst 0, 1) := by decide +kernel
theorem dX5_takeOver_156 : decode cX5_takeOver 156 = .ok (.bipush 6, 2) := by decide +kernel
theorem dX5_takeOver_158 : decode cX5_takeOver 158 = .ok (.invokestatic 58, 3) := by decide +kernel
theorem dX5_takeOver_161 : decode cX5_takeOver 161 = .ok (.aload_n 1, 1) := by decide +kernel
theorem dX5_takeOver_162 : decode cX5_takeOver 162 = .ok (.getfield 33, 3) := by decide +kernel
theorem dX5_takeOver_165 : decode cX5_takeOver 165 = .ok (.iconst 0, 1) := by decide +kernel
theorem dX5_takeOver_166 : decode cX5_takeOver 166 = .ok (.aload_n 0, 1) := by decide +kernel
theorem dX5_takeOver_167 : decode cX5_takeOver 167 = .ok (.getfield 33, 3) := by decide +kernel
theorem dX5_takeOver_170 : decode cX5_takeOver 170 = .ok (.iconst 0, 1) := by decide +kernel
theorem dX5_takeOver_171 : decode cX5_takeOver 171 = .ok (.bipush 6, 2) := by decide +kernel
theorem dX5_takeOver_173 : decode cX5_takeOver 173 = .ok (.invokestatic 58, 3) := by decide +kernel
theorem dX5_takeOver_176 : decode cX5_takeOver 176 = .ok (.return_, 1) := by decide +kernel
theorem dX5_wipe_0 : decode cX5_wipe 0 = .ok (.aload_n 0, 1) := by decide +kernel
theorem dX5_wipe_1 : decode cX5_wipe 1 = .ok (.iconst 0, 1) := by decide +kernel
theorem dX5_wipe_2 : decode cX5_wipe 2 = .ok (.putfield 36, 3) := by decide +kernel
theorem dX5_wipe_5 : decode cX5_wipe 5 = .ok (.aload_n 0, 1) := by decide +kernel
theorem dX5_wipe_6 : decode cX5_wipe 6 = .ok (.iconst 0, 1) := by decide +kernel
theorem dX5_wipe_7 : decode cX5_wipe 7 = .ok (.putfield 40, 3) := by decide +kernel
theorem dX5_wipe_10 : decode cX5_wipe 10 = .ok (.aload_n 0, 1) := by decide +kernel
theorem dX5_wipe_11 : decode cX5_wipe 11 = .ok (.iconst 0, 1) := by decide +kernel
theorem dX5_wipe_12 : decode cX5_wipe 12 = .ok (.putfield 43, 3) := by decide +kernel
theorem dX5_wipe_15 : decode cX5_wipe 15 = .ok (.aload_n 0, 1) := by decide +kernel
theorem dX5_wipe_16 : decode cX5_wipe 16 = .ok (.iconst 0, 1) := by decide +kernel
theorem dX5_wipe_17 : decode cX5_wipe 17 = .ok (.putfield 46, 3) := by decide +kernel
theorem dX5_wipe_20 : decode cX5_wipe 20 = .ok (.aload_n 0, 1) := by decide +kernel
theorem dX5_wipe_21 : decode cX5_wipe 21 = .ok (.iconst 0, 1) := by decide +kernel
theorem dX5_wipe_22 : decode cX5_wipe 22 = .ok (.putfield 49, 3) := by decide +kernel
theorem dX5_wipe_25 : decode cX5_wipe 25 = .ok (.aload_n 0, 1) := by decide +kernel
theorem dX5_wipe_26 : decode cX5_wipe 26 = .ok (.iconst 0, 1) := by decide +kernel
theorem dX5_wipe_27 : decode cX5_wipe 27 = .ok (.putfield 52, 3) := by decide +kernel
theorem dX5_wipe_30 : decode cX5_wipe 30 = .ok (.aload_n 0, 1) := by decide +kernel
theorem dX5_wipe_31 : decode cX5_wipe 31 = .ok (.iconst 0, 1) := by decide +kernel
theorem dX5_wipe_32 : decode cX5_wipe 32 = .ok (.putfield 55, 3) := by decide +kernel
theorem dX5_wipe_35 : decode cX5_wipe 35 = .ok (.return_, 1) := by decide +kernel
theorem dX5_addThing_0 : decode cX5_addThing 0 = .ok (.aload_n 0, 1) := by decide +kernel
theorem dX5_addThing_1 : decode cX5_addThing 1 = .ok (.getfield 43, 3) := by decide +kernel
theorem dX5_addThing_4 : decode cX5_addThing 4 = .ok (.bipush 6, 2) := by decide +kernel
theorem dX5_addThing_6 : decode cX5_addThing 6 = .ok (.if_icmp .lt 4, 3) := by decide +kernel
theorem dX5_addThing_9 : decode cX5_addThing 9 = .ok (.return_, 1) := by decide +kernel
theorem dX5_addThing_10 : decode cX5_addThing 10 = .ok (.aload_n 0, 1) := by decide +kernel
theorem dX5_addThing_11 : decode cX5_addThing 11 = .ok (.getfield 11, 3) := by decide +kernel
theorem dX5_addThing_14 : decode cX5_addThing 14 = .ok (.aload_n 0, 1) := by decide +kernel
theorem dX5_addThing_15 : decode cX5_addThing 15 = .ok (.getfield 43, 3) := by decide +kernel
theorem dX5_addThing_18 : decode cX5_addThing 18 = .ok (.iload_n 1, 1) := by decide +kernel
theorem dX5_addThing_19 : decode cX5_addThing 19 = .ok (.iastore, 1) := by decide +kernel
theorem dX5_addThing_20 : decode cX5_addThing 20 = .ok (.aload_n 0, 1) := by decide +kernel
theorem dX5_addThing_21 : decode cX5_addThing 21 = .ok (.getfield 15, 3) := by decide +kernel
theorem dX5_addThing_24 : decode cX5_addThing 24 = .ok (.aload_n 0, 1) := by decide +kernel
theorem dX5_addThing_25 : decode cX5_addThing 25 = .ok (.getfield 43, 3) := by decide +kernel
theorem dX5_addThing_28 : decode cX5_addThing 28 = .ok (.iload_n 2, 1) := by decide +kernel
theorem dX5_addThing_29 : decode cX5_addThing 29 = .ok (.iastore, 1) := by decide +kernel
theorem dX5_addThing_30 : decode cX5_addThing 30 = .ok (.aload_n 0, 1) := by decide +kernel
theorem dX5_addThing_31 : decode cX5_addThing 31 = .ok (.getfield 18, 3) := by decide +kernel
theorem dX5_addThing_34 : decode cX5_addThing 34 = .ok (.aload_n 0, 1) := by decide +kernel
theorem dX5_addThing_35 : decode cX5_addThing 35 = .ok (.getfield 43, 3) := by decide +kernel
theorem dX5_addThing_38 : decode cX5_addThing 38 = .ok (.iload_n 3, 1) := by decide +kernel
theorem dX5_addThing_39 : decode cX5_addThing 39 = .ok (.iastore, 1) := by decide +kernel
theorem dX5_addThing_40 : decode cX5_addThing 40 = .ok (.aload_n 0, 1) := by decide +kernel
theorem dX5_addThing_41 : decode cX5_addThing 41 = .ok (.getfield 21, 3) := by decide +kernel
theorem dX5_addThing_44 : decode cX5_addThing 44 = .ok (.aload_n 0, 1) := by decide +kernel
theorem dX5_addThing_45 : decode cX5_addThing 45 = .ok (.getfield 43, 3) := by decide +kernel
theorem dX5_addThing_48 : decode cX5_addThing 48 = .ok (.iload 4, 2) := by decide +kernel
theorem dX5_addThing_50 : decode cX5_addThing 50 = .ok (.iastore, 1) := by decide +kernel
theorem dX5_addThing_51 : decode cX5_addThing 51 = .ok (.aload_n 0, 1) := by decide +kernel
theorem dX5_addThing_52 : decode cX5_addThing 52 = .ok (.aload_n 0, 1) := by decide +kernel
theorem dX5_addThing_53 : decode cX5_addThing 53 = .ok (.getfield 43, 3) := by decide +kernel
theorem dX5_addThing_56 : decode cX5_addThing 56 = .ok (.invokevirtual 64, 3) := by decide +kernel
theorem dX5_addThing_59 : decode cX5_addThing 59 = .ok (.aload_n 0, 1) := by decide +kernel
theorem dX5_addThing_60 : decode cX5_addThing 60 = .ok (.dup, 1) := by decide +kernel
theorem dX5_addThing_61 : decode cX5_addThing 61 = .ok (.getfield 43, 3) := by decide +kernel
theorem dX5_addThing_64 : decode cX5_addThing 64 = .ok (.iconst 1, 1) := by decide +kernel
theorem dX5_addThing_65 : decode cX5_addThing 65 = .ok (.iadd, 1) := by decide +kernel
theorem dX5_addThing_66 : decode cX5_addThing 66 = .ok (.putfield 43, 3) := by decide +kernel
theorem dX5_addThing_69 : decode cX5_addThing 69 = .ok (.return_, 1) := by decide +kernel
theorem dX5_addSeat_0 : decode cX5_addSeat 0 = .ok (.aload_n 0, 1) := by decide +kernel
theorem dX5_addSeat_1 : decode cX5_addSeat 1 = .ok (.getfield 46, 3) := by decide +kernel
theorem dX5_addSeat_4 : decode cX5_addSeat 4 = .ok (.bipush 6, 2) := by decide +kernel
theorem dX5_addSeat_6 : decode cX5_addSeat 6 = .ok (.if_icmp .lt 4, 3) := by decide +kernel
theorem dX5_addSeat_9 : decode cX5_addSeat 9 = .ok (.return_, 1) := by decide +kernel
theorem dX5_addSeat_10 : decode cX5_addSeat 10 = .ok (.aload_n 0, 1) := by decide +kernel
theorem dX5_addSeat_11 : decode cX5_addSeat 11 = .ok (.aload_n 0, 1) := by decide +kernel
theorem dX5_addSeat_12 : decode cX5_addSeat 12 = .ok (.getfield 46, 3) := by decide +kernel
theorem dX5_addSeat_15 : decode cX5_addSeat 15 = .ok (.iload_n 1, 1) := by decide +kernel
theorem dX5_addSeat_16 : decode cX5_addSeat 16 = .ok (.iload_n 2, 1) := by decide +kernel
theorem dX5_addSeat_17 : decode cX5_addSeat 17 = .ok (.invokevirtual 68, 3) := by decide +kernel
theorem dX5_addSeat_20 : decode cX5_addSeat 20 = .ok (.aload_n 0, 1) := by decide +kernel
theorem dX5_addSeat_21 : decode cX5_addSeat 21 = .ok (.dup, 1) := by decide +kernel
theorem dX5_addSeat_22 : decode cX5_addSeat 22 = .ok (.getfield 46, 3) := by decide +kernel
theorem dX5_addSeat_25 : decode cX5_addSeat 25 = .ok (.iconst 1, 1) := by decide +kernel
theorem dX5_addSeat_26 : decode cX5_addSeat 26 = .ok (.iadd, 1) := by decide +kernel
theorem dX5_addSeat_27 : decode cX5_addSeat 27 = .ok (.putfield 46, 3) := by decide +kernel
theorem dX5_addSeat_30 : decode cX5_addSeat 30 = .ok (.return_, 1) := by decide +kernel
theorem dX5_isThing_0 : decode cX5_isThing 0 = .ok (.iload_n 1, 1) := by decide +kernel
theorem dX5_isThing_1 : decode cX5_isThing 1 = .ok (.ifCond .lt 15, 3) := by decide +kernel
theorem dX5_isThing_4 : decode cX5_isThing 4 = .ok (.iload_n 1, 1) := by decide +kernel
theorem dX5_isThing_5 : decode cX5_isThing 5 = .ok (.aload_n 0, 1) := by decide +kernel
theorem dX5_isThing_6 : decode cX5_isThing 6 = .ok (.getfield 43, 3) := by decide +kernel
theorem dX5_isThing_9 : decode cX5_isThing 9 = .ok (.if_icmp .ge 7, 3) := by decide +kernel
theorem dX5_isThing_12 : decode cX5_isThing 12 = .ok (.iconst 1, 1) := by decide +kernel
theorem dX5_isThing_13 : decode cX5_isThing 13 = .ok (.goto 4, 3) := by decide +kernel
theorem dX5_isThing_16 : decode cX5_isThing 16 = .ok (.iconst 0, 1) := by decide +kernel
theorem dX5_isThing_17 : decode cX5_isThing 17 = .ok (.ireturn, 1) := by decide +kernel
theorem dX5_isSeat_0 : decode cX5_isSeat 0 = .ok (.iload_n 1, 1) := by decide +kernel
theorem dX5_isSeat_1 : decode cX5_isSeat 1 = .ok (.ifCond .lt 15, 3) := by decide +kernel
theorem dX5_isSeat_4 : decode cX5_isSeat 4 = .ok (.iload_n 1, 1) := by decide +kernel
theorem dX5_isSeat_5 : decode cX5_isSeat 5 = .ok (.aload_n 0, 1) := by decide +kernel
theorem dX5_isSeat_6 : decode cX5_isSeat 6 = .ok (.getfield 46, 3) := by decide +kernel
theorem dX5_isSeat_9 : decode cX5_isSeat 9 = .ok (.if_icmp .ge 7, 3) := by decide +kernel
theorem dX5_isSeat_12 : decode cX5_isSeat 12 = .ok (.iconst 1, 1) := by decide +kernel
theorem dX5_isSeat_13 : decode cX5_isSeat 13 = .ok (.goto 4, 3) := by decide +kernel
theorem dX5_isSeat_16 : decode cX5_isSeat 16 = .ok (.iconst 0, 1) := by decide +kernel
theorem dX5_isSeat_17 : decode cX5_isSeat 17 = .ok (.ireturn, 1) := by decide +kernel
theorem dX5_placeOf_0 : decode cX5_placeOf 0 = .ok (.iconst 0, 1) := by decide +kernel
theorem dX5_placeOf_1 : decode cX5_placeOf 1 = .ok (.istore_n 2, 1) := by decide +kernel
theorem dX5_placeOf_2 : decode cX5_placeOf 2 = .ok (.iload_n 2, 1) := by decide +kernel
theorem dX5_placeOf_3 : decode cX5_placeOf 3 = .ok (.aload_n 0, 1) := by decide +kernel
theorem dX5_placeOf_4 : decode cX5_placeOf 4 = .ok (.getfield 49, 3) := by decide +kernel
theorem dX5_placeOf_7 : decode cX5_placeOf 7 = .ok (.if_icmp .ge 21, 3) := by decide +kernel
theorem dX5_placeOf_10 : decode cX5_placeOf 10 = .ok (.aload_n 0, 1) := by decide +kernel
theorem dX5_placeOf_11 : decode cX5_placeOf 11 = .ok (.getfield 33, 3) := by decide +kernel
theorem dX5_placeOf_14 : decode cX5_placeOf 14 = .ok (.iload_n 2, 1) := by decide +kernel
theorem dX5_placeOf_15 : decode cX5_placeOf 15 = .ok (.iaload, 1) := by decide +kernel
theorem dX5_placeOf_16 : decode cX5_placeOf 16 = .ok (.iload_n 1, 1) := by decide +kernel
theorem dX5_placeOf_17 : decode cX5_placeOf 17 = .ok (.if_icmp .ne 5, 3) := by decide +kernel
theorem dX5_placeOf_20 : decode cX5_placeOf 20 = .ok (.iload_n 2, 1) := by decide +kernel
theorem dX5_placeOf_21 : decode cX5_placeOf 21 = .ok (.ireturn, 1) := by decide +kernel
theorem dX5_placeOf_22 : decode cX5_placeOf 22 = .ok (.iinc 2 1, 3) := by decide +kernel
theorem dX5_placeOf_25 : decode cX5_placeOf 25 = .ok (.goto (-23), 3) := by decide +kernel
theorem dX5_placeOf_28 : decode cX5_placeOf 28 = .ok (.iconst (-1), 1) := by decide +kernel
theorem dX5_placeOf_29 : decode cX5_placeOf 29 = .ok (.ireturn, 1) := by decide +kernel
theorem dX5_takeOff_0 : decode cX5_takeOff 0 = .ok (.iconst 0, 1) := by decide +kernel
theorem dX5_takeOff_1 : decode cX5_takeOff 1 = .ok (.istore_n 2, 1) := by decide +kernel
theorem dX5_takeOff_2 : decode cX5_takeOff 2 = .ok (.iconst 0, 1) := by decide +kernel
theorem dX5_takeOff_3 : decode cX5_takeOff 3 = .ok (.istore_n 3, 1) := by decide +kernel
theorem dX5_takeOff_4 : decode cX5_takeOff 4 = .ok (.iload_n 3, 1) := by decide +kernel
theorem dX5_takeOff_5 : decode cX5_takeOff 5 = .ok (.aload_n 0, 1) := by decide +kernel
theorem dX5_takeOff_6 : decode cX5_takeOff 6 = .ok (.getfield 49, 3) := by decide +kernel
theorem dX5_takeOff_9 : decode cX5_takeOff 9 = .ok (.if_icmp .ge 34, 3) := by decide +kernel
theorem dX5_takeOff_12 : decode cX5_takeOff 12 = .ok (.aload_n 0, 1) := by decide +kernel
theorem dX5_takeOff_13 : decode cX5_takeOff 13 = .ok (.getfield 33, 3) := by decide +kernel
theorem dX5_takeOff_16 : decode cX5_takeOff 16 = .ok (.iload_n 3, 1) := by decide +kernel
theorem dX5_takeOff_17 : decode cX5_takeOff 17 = .ok (.iaload, 1) := by decide +kernel
theorem dX5_takeOff_18 : decode cX5_takeOff 18 = .ok (.iload_n 1, 1) := by decide +kernel
theorem dX5_takeOff_19 : decode cX5_takeOff 19 = .ok (.if_icmp .eq 18, 3) := by decide +kernel
theorem dX5_takeOff_22 : decode cX5_takeOff 22 = .ok (.aload_n 0, 1) := by decide +kernel
theorem dX5_takeOff_23 : decode cX5_takeOff 23 = .ok (.getfield 33, 3) := by decide +kernel
theorem dX5_takeOff_26 : decode cX5_takeOff 26 = .ok (.iload_n 2, 1) := by decide +kernel
theorem dX5_takeOff_27 : decode cX5_takeOff 27 = .ok (.aload_n 0, 1) := by decide +kernel
theorem dX5_takeOff_28 : decode cX5_takeOff 28 = .ok (.getfield 33, 3) := by decide +kernel
theorem dX5_takeOff_31 : decode cX5_takeOff 31 = .ok (.iload_n 3, 1) := by decide +kernel
theorem dX5_takeOff_32 : decode cX5_takeOff 32 = .ok (.iaload, 1) := by decide +kernel
theorem dX5_takeOff_33 : decode cX5_takeOff 33 = .ok (.iastore, 1) := by decide +kernel
theorem dX5_takeOff_34 : decode cX5_takeOff 34 = .ok (.iinc 2 1, 3) := by decide +kernel
theorem dX5_takeOff_37 : decode cX5_takeOff 37 = .ok (.iinc 3 1, 3) := by decide +kernel
theorem dX5_takeOff_40 : decode cX5_takeOff 40 = .ok (.goto (-36), 3) := by decide +kernel
theorem dX5_takeOff_43 : decode cX5_takeOff 43 = .ok (.aload_n 0, 1) := by decide +kernel
theorem dX5_takeOff_44 : decode cX5_takeOff 44 = .ok (.iload_n 2, 1) := by decide +kernel
theorem dX5_takeOff_45 : decode cX5_takeOff 45 = .ok (.putfield 49, 3) := by decide +kernel
theorem dX5_takeOff_48 : decode cX5_takeOff 48 = .ok (.return_, 1) := by decide +kernel
theorem dX5_putLast_0 : decode cX5_putLast 0 = .ok (.aload_n 0, 1) := by decide +kernel
theorem dX5_putLast_1 : decode cX5_putLast 1 = .ok (.getfield 49, 3) := by decide +kernel
theorem dX5_putLast_4 : decode cX5_putLast 4 = .ok (.bipush 6, 2) := by decide +kernel
theorem dX5_putLast_6 : decode cX5_putLast 6 = .ok (.if_icmp .ge 23, 3) := by decide +kernel
theorem dX5_putLast_9 : decode cX5_putLast 9 = .ok (.aload_n 0, 1) := by decide +kernel
theorem dX5_putLast_10 : decode cX5_putLast 10 = .ok (.getfield 33, 3) := by decide +kernel
theorem dX5_putLast_13 : decode cX5_putLast 13 = .ok (.aload_n 0, 1) := by decide +kernel
theorem dX5_putLast_14 : decode cX5_putLast 14 = .ok (.getfield 49, 3) := by decide +kernel
theorem dX5_putLast_17 : decode cX5_putLast 17 = .ok (.iload_n 1, 1) := by decide +kernel
theorem dX5_putLast_18 : decode cX5_putLast 18 = .ok (.iastore, 1) := by decide +kernel
theorem dX5_putLast_19 : decode cX5_putLast 19 = .ok (.aload_n 0, 1) := by decide +kernel
theorem dX5_putLast_20 : decode cX5_putLast 20 = .ok (.dup, 1) := by decide +kernel
theorem dX5_putLast_21 : decode cX5_putLast 21 = .ok (.getfield 49, 3) := by decide +kernel
theorem dX5_putLast_24 : decode cX5_putLast 24 = .ok (.iconst 1, 1) := by decide +kernel
theorem dX5_putLast_25 : decode cX5_putLast 25 = .ok (.iadd, 1) := by decide +kernel
theorem dX5_putLast_26 : decode cX5_putLast 26 = .ok (.putfield 49, 3) := by decide +kernel
theorem dX5_putLast_29 : decode cX5_putLast 29 = .ok (.return_, 1) := by decide +kernel
theorem dX5_putFirst_0 : decode cX5_putFirst 0 = .ok (.aload_n 0, 1) := by decide +kernel
theorem dX5_putFirst_1 : decode cX5_putFirst 1 = .ok (.iload_n 1, 1) := by decide +kernel
theorem dX5_putFirst_2 : decode cX5_putFirst 2 = .ok (.invokevirtual 72, 3) := by decide +kernel
theorem dX5_putFirst_5 : decode cX5_putFirst 5 = .ok (.aload_n 0, 1) := by decide +kernel
theorem dX5_putFirst_6 : decode cX5_putFirst 6 = .ok (.getfield 49, 3) := by decide +kernel
theorem dX5_putFirst_9 : decode cX5_putFirst 9 = .ok (.bipush 6, 2) := by decide +kernel
theorem dX5_putFirst_11 : decode cX5_putFirst 11 = .ok (.if_icmp .lt 4, 3) := by decide +kernel
theorem dX5_putFirst_14 : decode cX5_putFirst 14 = .ok (.return_, 1) := by decide +kernel
theorem dX5_putFirst_15 : decode cX5_putFirst 15 = .ok (.aload_n 0, 1) := by decide +kernel
theorem dX5_putFirst_16 : decode cX5_putFirst 16 = .ok (.getfield 49, 3) := by decide +kernel
theorem dX5_putFirst_19 : decode cX5_putFirst 19 = .ok (.istore_n 2, 1) := by decide +kernel
theorem dX5_putFirst_20 : decode cX5_putFirst 20 = .ok (.iload_n 2, 1) := by decide +kernel
theorem dX5_putFirst_21 : decode cX5_putFirst 21 = .ok (.ifCond .le 23, 3) := by decide +kernel
theorem dX5_putFirst_24 : decode cX5_putFirst 24 = .ok (.aload_n 0, 1) := by decide +kernel
theorem dX5_putFirst_25 : decode cX5_putFirst 25 = .ok (.getfield 33, 3) := by decide +kernel
theorem dX5_putFirst_28 : decode cX5_putFirst 28 = .ok (.iload_n 2, 1) := by decide +kernel
theorem dX5_putFirst_29 : decode cX5_putFirst 29 = .ok (.aload_n 0, 1) := by decide +kernel
theorem dX5_putFirst_30 : decode cX5_putFirst 30 = .ok (.getfield 33, 3) := by decide +kernel
theorem dX5_putFirst_33 : decode cX5_putFirst 33 = .ok (.iload_n 2, 1) := by decide +kernel
theorem dX5_putFirst_34 : decode cX5_putFirst 34 = .ok (.iconst 1, 1) := by decide +kernel
theorem dX5_putFirst_35 : decode cX5_putFirst 35 = .ok (.isub, 1) := by decide +kernel
theorem dX5_putFirst_36 : decode cX5_putFirst 36 = .ok (.iaload, 1) := by decide +kernel
theorem dX5_putFirst_37 : decode cX5_putFirst 37 = .ok (.iastore, 1) := by decide +kernel
theorem dX5_putFirst_38 : decode cX5_putFirst 38 = .ok (.iinc 2 (-1), 3) := by decide +kernel
theorem dX5_putFirst_41 : decode cX5_putFirst 41 = .ok (.goto (-21), 3) := by decide +kernel
theorem dX5_putFirst_44 : decode cX5_putFirst 44 = .ok (.aload_n 0, 1) := by decide +kernel
theorem dX5_putFirst_45 : decode cX5_putFirst 45 = .ok (.getfield 33, 3) := by decide +kernel
theorem dX5_putFirst_48 : decode cX5_putFirst 48 = .ok (.iconst 0, 1) := by decide +kernel
theorem dX5_putFirst_49 : decode cX5_putFirst 49 = .ok (.iload_n 1, 1) := by decide +kernel
theorem dX5_putFirst_50 : decode cX5_putFirst 50 = .ok (.iastore, 1) := by decide +kernel
theorem dX5_putFirst_51 : decode cX5_putFirst 51 = .ok (.aload_n 0, 1) := by decide +kernel
theorem dX5_putFirst_52 : decode cX5_putFirst 52 = .ok (.dup, 1) := by decide +kernel
theorem dX5_putFirst_53 : decode cX5_putFirst 53 = .ok (.getfield 49, 3) := by decide +kernel
theorem dX5_putFirst_56 : decode cX5_putFirst 56 = .ok (.iconst 1, 1) := by decide +kernel
theorem dX5_putFirst_57 : decode cX5_putFirst 57 = .ok (.iadd, 1) := by decide +kernel
theorem dX5_putFirst_58 : decode cX5_putFirst 58 = .ok (.putfield 49, 3) := by decide +kernel
theorem dX5_putFirst_61 : decode cX5_putFirst 61 = .ok (.return_, 1) := by decide +kernel
theorem dX5_takeAnew_0 : decode cX5_takeAnew 0 = .ok (.aload_n 0, 1) := by decide +kernel
theorem dX5_takeAnew_1 : decode cX5_takeAnew 1 = .ok (.getfield 24, 3) := by decide +kernel
theorem dX5_takeAnew_4 : decode cX5_takeAnew 4 = .ok (.iload_n 1, 1) := by decide +kernel
theorem dX5_takeAnew_5 : decode cX5_takeAnew 5 = .ok (.iload_n 2, 1) := by decide +kernel
theorem dX5_takeAnew_6 : decode cX5_takeAnew 6 = .ok (.iastore, 1) := by decide +kernel
theorem dX5_takeAnew_7 : decode cX5_takeAnew 7 = .ok (.aload_n 0, 1) := by decide +kernel
theorem dX5_takeAnew_8 : decode cX5_takeAnew 8 = .ok (.getfield 27, 3) := by decide +kernel
theorem dX5_takeAnew_11 : decode cX5_takeAnew 11 = .ok (.iload_n 1, 1) := by decide +kernel
theorem dX5_takeAnew_12 : decode cX5_takeAnew 12 = .ok (.iload_n 3, 1) := by decide +kernel
theorem dX5_takeAnew_13 : decode cX5_takeAnew 13 = .ok (.iastore, 1) := by decide +kernel
theorem dX5_takeAnew_14 : decode cX5_takeAnew 14 = .ok (.aload_n 0, 1) := by decide +kernel
theorem dX5_takeAnew_15 : decode cX5_takeAnew 15 = .ok (.getfield 30, 3) := by decide +kernel
theorem dX5_takeAnew_18 : decode cX5_takeAnew 18 = .ok (.iload_n 1, 1) := by decide +kernel
theorem dX5_takeAnew_19 : decode cX5_takeAnew 19 = .ok (.iconst 0, 1) := by decide +kernel
theorem dX5_takeAnew_20 : decode cX5_takeAnew 20 = .ok (.iastore, 1) := by decide +kernel
theorem dX5_takeAnew_21 : decode cX5_takeAnew 21 = .ok (.return_, 1) := by decide +kernel
theorem dX5_wanting_0 : decode cX5_wanting 0 = .ok (.iconst 0, 1) := by decide +kernel
theorem dX5_wanting_1 : decode cX5_wanting 1 = .ok (.istore_n 2, 1) := by decide +kernel
theorem dX5_wanting_2 : decode cX5_wanting 2 = .ok (.iconst 0, 1) := by decide +kernel
theorem dX5_wanting_3 : decode cX5_wanting 3 = .ok (.istore_n 3, 1) := by decide +kernel
theorem dX5_wanting_4 : decode cX5_wanting 4 = .ok (.iload_n 3, 1) := by decide +kernel
theorem dX5_wanting_5 : decode cX5_wanting 5 = .ok (.aload_n 0, 1) := by decide +kernel
theorem dX5_wanting_6 : decode cX5_wanting 6 = .ok (.getfield 46, 3) := by decide +kernel
theorem dX5_wanting_9 : decode cX5_wanting 9 = .ok (.if_icmp .ge 31, 3) := by decide +kernel
theorem dX5_wanting_12 : decode cX5_wanting 12 = .ok (.aload_n 0, 1) := by decide +kernel
theorem dX5_wanting_13 : decode cX5_wanting 13 = .ok (.getfield 30, 3) := by decide +kernel
theorem dX5_wanting_16 : decode cX5_wanting 16 = .ok (.iload_n 3, 1) := by decide +kernel
theorem dX5_wanting_17 : decode cX5_wanting 17 = .ok (.iaload, 1) := by decide +kernel
theorem dX5_wanting_18 : decode cX5_wanting 18 = .ok (.ifCond .ne 16, 3) := by decide +kernel
theorem dX5_wanting_21 : decode cX5_wanting 21 = .ok (.aload_n 0, 1) := by decide +kernel
theorem dX5_wanting_22 : decode cX5_wanting 22 = .ok (.getfield 24, 3) := by decide +kernel
theorem dX5_wanting_25 : decode cX5_wanting 25 = .ok (.iload_n 3, 1) := by decide +kernel
theorem dX5_wanting_26 : decode cX5_wanting 26 = .ok (.iaload, 1) := by decide +kernel
theorem dX5_wanting_27 : decode cX5_wanting 27 = .ok (.iload_n 1, 1) := by decide +kernel
theorem dX5_wanting_28 : decode cX5_wanting 28 = .ok (.if_icmp .ne 6, 3) := by decide +kernel
theorem dX5_wanting_31 : decode cX5_wanting 31 = .ok (.iinc 2 1, 3) := by decide +kernel
theorem dX5_wanting_34 : decode cX5_wanting 34 = .ok (.iinc 3 1, 3) := by decide +kernel
theorem dX5_wanting_37 : decode cX5_wanting 37 = .ok (.goto (-33), 3) := by decide +kernel
theorem dX5_wanting_40 : decode cX5_wanting 40 = .ok (.iload_n 2, 1) := by decide +kernel
theorem dX5_wanting_41 : decode cX5_wanting 41 = .ok (.ireturn, 1) := by decide +kernel
theorem dX5_seatsThat_0 : decode cX5_seatsThat 0 = .ok (.iconst 0, 1) := by decide +kernel
theorem dX5_seatsThat_1 : decode cX5_seatsThat 1 = .ok (.istore_n 2, 1) := by decide +kernel
theorem dX5_seatsThat_2 : decode cX5_seatsThat 2 = .ok (.iconst 0, 1) := by decide +kernel
theorem dX5_seatsThat_3 : decode cX5_seatsThat 3 = .ok (.istore_n 3, 1) := by decide +kernel
theorem dX5_seatsThat_4 : decode cX5_seatsThat 4 = .ok (.iload_n 3, 1) := by decide +kernel
theorem dX5_seatsThat_5 : decode cX5_seatsThat 5 = .ok (.aload_n 0, 1) := by decide +kernel
theorem dX5_seatsThat_6 : decode cX5_seatsThat 6 = .ok (.getfield 46, 3) := by decide +kernel
theorem dX5_seatsThat_9 : decode cX5_seatsThat 9 = .ok (.if_icmp .ge 25, 3) := by decide +kernel
theorem dX5_seatsThat_12 : decode cX5_seatsThat 12 = .ok (.aload_n 0, 1) := by decide +kernel
theorem dX5_seatsThat_13 : decode cX5_seatsThat 13 = .ok (.getfield 30, 3) := by decide +kernel
theorem dX5_seatsThat_16 : decode cX5_seatsThat 16 = .ok (.iload_n 3, 1) := by decide +kernel
theorem dX5_seatsThat_17 : decode cX5_seatsThat 17 = .ok (.iaload, 1) := by decide +kernel
theorem dX5_seatsThat_18 : decode cX5_seatsThat 18 = .ok (.iload_n 1, 1) := by decide +kernel
theorem dX5_seatsThat_19 : decode cX5_seatsThat 19 = .ok (.if_icmp .ne 9, 3) := by decide +kernel
theorem dX5_seatsThat_22 : decode cX5_seatsThat 22 = .ok (.iload_n 2, 1) := by decide +kernel
theorem dX5_seatsThat_23 : decode cX5_seatsThat 23 = .ok (.iconst 1, 1) := by decide +kernel
theorem dX5_seatsThat_24 : decode cX5_seatsThat 24 = .ok (.iload_n 3, 1) := by decide +kernel
theorem dX5_seatsThat_25 : decode cX5_seatsThat 25 = .ok (.ishl, 1) := by decide +kernel
theorem dX5_seatsThat_26 : decode cX5_seatsThat 26 = .ok (.ior, 1) := by decide +kernel
theorem dX5_seatsThat_27 : decode cX5_seatsThat 27 = .ok (.istore_n 2, 1) := by decide +kernel
theorem dX5_seatsThat_28 : decode cX5_seatsThat 28 = .ok (.iinc 3 1, 3) := by decide +kernel
theorem dX5_seatsThat_31 : decode cX5_seatsThat 31 = .ok (.goto (-27), 3) := by decide +kernel
theorem dX5_seatsThat_34 : decode cX5_seatsThat 34 = .ok (.iload_n 2, 1) := by decide +kernel
theorem dX5_seatsThat_35 : decode cX5_seatsThat 35 = .ok (.ireturn, 1) := by decide +kernel
theorem dX5_standing_0 : decode cX5_standing 0 = .ok (.iload_n 1, 1) := by decide +kernel
theorem dX5_standing_1 : decode cX5_standing 1 = .ok (.iconst 3, 1) := by decide +kernel
theorem dX5_standing_2 : decode cX5_standing 2 = .ok (.if_icmp .ne 10, 3) := by decide +kernel
theorem dX5_standing_5 : decode cX5_standing 5 = .ok (.aload_n 0, 1) := by decide +kernel
theorem dX5_standing_6 : decode cX5_standing 6 = .ok (.getfield 55, 3) := by decide +kernel
theorem dX5_standing_9 : decode cX5_standing 9 = .ok (.goto 8, 3) := by decide +kernel
theorem dX5_standing_12 : decode cX5_standing 12 = .ok (.aload_n 0, 1) := by decide +kernel
theorem dX5_standing_13 : decode cX5_standing 13 = .ok (.iload_n 1, 1) := by decide +kernel
theorem dX5_standing_14 : decode cX5_standing 14 = .ok (.invokevirtual 75, 3) := by decide +kernel
theorem dX5_standing_17 : decode cX5_standing 17 = .ok (.ireturn, 1) := by decide +kernel
theorem dX5_tapOnce_0 : decode cX5_tapOnce 0 = .ok (.aload_n 0, 1) := by decide +kernel
theorem dX5_tapOnce_1 : decode cX5_tapOnce 1 = .ok (.invokevirtual 79, 3) := by decide +kernel
theorem dX5_tapOnce_4 : decode cX5_tapOnce 4 = .ok (.istore_n 1, 1) := by decide +kernel
theorem dX5_tapOnce_5 : decode cX5_tapOnce 5 = .ok (.aload_n 0, 1) := by decide +kernel
theorem dX5_tapOnce_6 : decode cX5_tapOnce 6 = .ok (.iload_n 1, 1) := by decide +kernel
theorem dX5_tapOnce_7 : decode cX5_tapOnce 7 = .ok (.invokevirtual 83, 3) := by decide +kernel
theorem dX5_tapOnce_10 : decode cX5_tapOnce 10 = .ok (.ifCond .eq 11, 3) := by decide +kernel
theorem dX5_tapOnce_13 : decode cX5_tapOnce 13 = .ok (.aload_n 0, 1) := by decide +kernel
theorem dX5_tapOnce_14 : decode cX5_tapOnce 14 = .ok (.iload_n 1, 1) := by decide +kernel
theorem dX5_tapOnce_15 : decode cX5_tapOnce 15 = .ok (.invokevirtual 87, 3) := by decide +kernel
theorem dX5_tapOnce_18 : decode cX5_tapOnce 18 = .ok (.goto 23, 3) := by decide +kernel
theorem dX5_tapOnce_21 : decode cX5_tapOnce 21 = .ok (.aload_n 0, 1) := by decide +kernel
theorem dX5_tapOnce_22 : decode cX5_tapOnce 22 = .ok (.ldc 90, 2) := by decide +kernel
theorem dX5_tapOnce_24 : decode cX5_tapOnce 24 = .ok (.putfield 91, 3) := by decide +kernel
theorem dX5_tapOnce_27 : decode cX5_tapOnce 27 = .ok (.aload_n 0, 1) := by decide +kernel
theorem dX5_tapOnce_28 : decode cX5_tapOnce 28 = .ok (.iconst 0, 1) := by decide +kernel
theorem dX5_tapOnce_29 : decode cX5_tapOnce 29 = .ok (.putfield 94, 3) := by decide +kernel
theorem dX5_tapOnce_32 : decode cX5_tapOnce 32 = .ok (.aload_n 0, 1) := by decide +kernel
theorem dX5_tapOnce_33 : decode cX5_tapOnce 33 = .ok (.iconst 0, 1) := by decide +kernel
theorem dX5_tapOnce_34 : decode cX5_tapOnce 34 = .ok (.putfield 97, 3) := by decide +kernel
theorem dX5_tapOnce_37 : decode cX5_tapOnce 37 = .ok (.aload_n 0, 1) := by decide +kernel
theorem dX5_tapOnce_38 : decode cX5_tapOnce 38 = .ok (.invokevirtual 100, 3) := by decide +kernel
theorem dX5_tapOnce_41 : decode cX5_tapOnce 41 = .ok (.return_, 1) := by decide +kernel
theorem dX5_chosen_0 : decode cX5_chosen 0 = .ok (.ldc 90, 2) := by decide +kernel
theorem dX5_chosen_2 : decode cX5_chosen 2 = .ok (.istore_n 1, 1) := by decide +kernel
theorem dX5_chosen_3 : decode cX5_chosen 3 = .ok (.iconst (-1), 1) := by decide +kernel
theorem dX5_chosen_4 : decode cX5_chosen 4 = .ok (.istore_n 2, 1) := by decide +kernel
theorem dX5_chosen_5 : decode cX5_chosen 5 = .ok (.iconst 0, 1) := by decide +kernel
theorem dX5_chosen_6 : decode cX5_chosen 6 = .ok (.istore_n 3, 1) := by decide +kernel
theorem dX5_chosen_7 : decode cX5_chosen 7 = .ok (.iload_n 3, 1) := by decide +kernel
theorem dX5_chosen_8 : decode cX5_chosen 8 = .ok (.aload_n 0, 1) := by decide +kernel
theorem dX5_chosen_9 : decode cX5_chosen 9 = .ok (.getfield 49, 3) := by decide +kernel
theorem dX5_chosen_12 : decode cX5_chosen 12 = .ok (.if_icmp .ge 42, 3) := by decide +kernel
theorem dX5_chosen_15 : decode cX5_chosen 15 = .ok (.aload_n 0, 1) := by decide +kernel
theorem dX5_chosen_16 : decode cX5_chosen 16 = .ok (.aload_n 0, 1) := by decide +kernel
theorem dX5_chosen_17 : decode cX5_chosen 17 = .ok (.getfield 15, 3) := by decide +kernel
theorem dX5_chosen_20 : decode cX5_chosen 20 = .ok (.aload_n 0, 1) := by decide +kernel
theorem dX5_chosen_21 : decode cX5_chosen 21 = .ok (.getfield 33, 3) := by decide +kernel
theorem dX5_chosen_24 : decode cX5_chosen 24 = .ok (.iload_n 3, 1) := by decide +kernel
theorem dX5_chosen_25 : decode cX5_chosen 25 = .ok (.iaload, 1) := by decide +kernel
theorem dX5_chosen_26 : decode cX5_chosen 26 = .ok (.iaload, 1) := by decide +kernel
theorem dX5_chosen_27 : decode cX5_chosen 27 = .ok (.invokevirtual 103, 3) := by decide +kernel
theorem dX5_chosen_30 : decode cX5_chosen 30 = .ok (.istore 4, 2) := by decide +kernel
theorem dX5_chosen_32 : decode cX5_chosen 32 = .ok (.iload 4, 2) := by decide +kernel
theorem dX5_chosen_34 : decode cX5_chosen 34 = .ok (.iload_n 2, 1) := by decide +kernel
theorem dX5_chosen_35 : decode cX5_chosen 35 = .ok (.if_icmp .le 13, 3) := by decide +kernel
theorem dX5_chosen_38 : decode cX5_chosen 38 = .ok (.iload 4, 2) := by decide +kernel
theorem dX5_chosen_40 : decode cX5_chosen 40 = .ok (.istore_n 2, 1) := by decide +kernel
theorem dX5_chosen_41 : decode cX5_chosen 41 = .ok (.aload_n 0, 1) := by decide +kernel
theorem dX5_chosen_42 : decode cX5_chosen 42 = .ok (.getfield 33, 3) := by decide +kernel
theorem dX5_chosen_45 : decode cX5_chosen 45 = .ok (.iload_n 3, 1) := by decide +kernel
theorem dX5_chosen_46 : decode cX5_chosen 46 = .ok (.iaload, 1) := by decide +kernel
theorem dX5_chosen_47 : decode cX5_chosen 47 = .ok (.istore_n 1, 1) := by decide +kernel
theorem dX5_chosen_48 : decode cX5_chosen 48 = .ok (.iinc 3 1, 3) := by decide +kernel
theorem dX5_chosen_51 : decode cX5_chosen 51 = .ok (.goto (-44), 3) := by decide +kernel
theorem dX5_chosen_54 : decode cX5_chosen 54 = .ok (.iload_n 1, 1) := by decide +kernel
theorem dX5_chosen_55 : decode cX5_chosen 55 = .ok (.ireturn, 1) := by decide +kernel
theorem dX5_handUp_0 : decode cX5_handUp 0 = .ok (.aload_n 0, 1) := by decide +kernel
theorem dX5_handUp_1 : decode cX5_handUp 1 = .ok (.iload_n 1, 1) := by decide +kernel
theorem dX5_handUp_2 : decode cX5_handUp 2 = .ok (.putfield 91, 3) := by decide +kernel
theorem dX5_handUp_5 : decode cX5_handUp 5 = .ok (.aload_n 0, 1) := by decide +kernel
theorem dX5_handUp_6 : decode cX5_handUp 6 = .ok (.iconst 0, 1) := by decide +kernel
theorem dX5_handUp_7 : decode cX5_handUp 7 = .ok (.putfield 94, 3) := by decide +kernel
theorem dX5_handUp_10 : decode cX5_handUp 10 = .ok (.aload_n 0, 1) := by decide +kernel
theorem dX5_handUp_11 : decode cX5_handUp 11 = .ok (.iconst 0, 1) := by decide +kernel
theorem dX5_handUp_12 : decode cX5_handUp 12 = .ok (.putfield 97, 3) := by decide +kernel
theorem dX5_handUp_15 : decode cX5_handUp 15 = .ok (.aload_n 0, 1) := by decide +kernel
theorem dX5_handUp_16 : decode cX5_handUp 16 = .ok (.iload_n 1, 1) := by decide +kernel
theorem dX5_handUp_17 : decode cX5_handUp 17 = .ok (.invokevirtual 72, 3) := by decide +kernel
theorem dX5_handUp_20 : decode cX5_handUp 20 = .ok (.aload_n 0, 1) := by decide +kernel
theorem dX5_handUp_21 : decode cX5_handUp 21 = .ok (.getfield 11, 3) := by decide +kernel
theorem dX5_handUp_24 : decode cX5_handUp 24 = .ok (.iload_n 1, 1) := by decide +kernel
theorem dX5_handUp_25 : decode cX5_handUp 25 = .ok (.iaload, 1) := by decide +kernel
theorem dX5_handUp_26 : decode cX5_handUp 26 = .ok (.istore_n 2, 1) := by decide +kernel
theorem dX5_handUp_27 : decode cX5_handUp 27 = .ok (.iload_n 2, 1) := by decide +kernel
theorem dX5_handUp_28 : decode cX5_handUp 28 = .ok (.iconst 5, 1) := by decide +kernel
theorem dX5_handUp_29 : decode cX5_handUp 29 = .ok (.if_icmp .ne 15, 3) := by decide +kernel
theorem dX5_handUp_32 : decode cX5_handUp 32 = .ok (.aload_n 0, 1) := by decide +kernel
theorem dX5_handUp_33 : decode cX5_handUp 33 = .ok (.iload_n 1, 1) := by decide +kernel
theorem dX5_handUp_34 : decode cX5_handUp 34 = .ok (.invokevirtual 64, 3) := by decide +kernel
theorem dX5_handUp_37 : decode cX5_handUp 37 = .ok (.aload_n 0, 1) := by decide +kernel
theorem dX5_handUp_38 : decode cX5_handUp 38 = .ok (.invokevirtual 108, 3) := by decide +kernel
theorem dX5_handUp_41 : decode cX5_handUp 41 = .ok (.goto 29, 3) := by decide +kernel
theorem dX5_handUp_44 : decode cX5_handUp 44 = .ok (.iload_n 2, 1) := by decide +kernel
theorem dX5_handUp_45 : decode cX5_handUp 45 = .ok (.iconst 4, 1) := by decide +kernel
theorem dX5_handUp_46 : decode cX5_handUp 46 = .ok (.if_icmp .ne 19, 3) := by decide +kernel
theorem dX5_handUp_49 : decode cX5_handUp 49 = .ok (.aload_n 0, 1) := by decide +kernel
theorem dX5_handUp_50 : decode cX5_handUp 50 = .ok (.iconst 1, 1) := by decide +kernel
theorem dX5_handUp_51 : decode cX5_handUp 51 = .ok (.invokevirtual 75, 3) := by decide +kernel
theorem dX5_handUp_54 : decode cX5_handUp 54 = .ok (.ifCond .ne 11, 3) := by decide +kernel
theorem dX5_handUp_57 : decode cX5_handUp 57 = .ok (.aload_n 0, 1) := by decide +kernel
theorem dX5_handUp_58 : decode cX5_handUp 58 = .ok (.iload_n 1, 1) := by decide +kernel
theorem dX5_handUp_59 : decode cX5_handUp 59 = .ok (.invokevirtual 64, 3) := by decide +kernel
theorem dX5_handUp_62 : decode cX5_handUp 62 = .ok (.goto 8, 3) := by decide +kernel
theorem dX5_handUp_65 : decode cX5_handUp 65 = .ok (.aload_n 0, 1) := by decide +kernel
theorem dX5_handUp_66 : decode cX5_handUp 66 = .ok (.iload_n 1, 1) := by decide +kernel
theorem dX5_handUp_67 : decode cX5_handUp 67 = .ok (.invokevirtual 111, 3) := by decide +kernel
theorem dX5_handUp_70 : decode cX5_handUp 70 = .ok (.aload_n 0, 1) := by decide +kernel
theorem dX5_handUp_71 : decode cX5_handUp 71 = .ok (.dup, 1) := by decide +kernel
theorem dX5_handUp_72 : decode cX5_handUp 72 = .ok (.getfield 55, 3) := by decide +kernel
theorem dX5_handUp_75 : decode cX5_handUp 75 = .ok (.aload_n 0, 1) := by decide +kernel
theorem dX5_handUp_76 : decode cX5_handUp 76 = .ok (.getfield 97, 3) := by decide +kernel
theorem dX5_handUp_79 : decode cX5_handUp 79 = .ok (.iadd, 1) := by decide +kernel
theorem dX5_handUp_80 : decode cX5_handUp 80 = .ok (.putfield 55, 3) := by decide +kernel
theorem dX5_handUp_83 : decode cX5_handUp 83 = .ok (.aload_n 0, 1) := by decide +kernel
theorem dX5_handUp_84 : decode cX5_handUp 84 = .ok (.invokevirtual 100, 3) := by decide +kernel
theorem dX5_handUp_87 : decode cX5_handUp 87 = .ok (.return_, 1) := by decide +kernel
theorem dX5_gladden_0 : decode cX5_gladden 0 = .ok (.aload_n 0, 1) := by decide +kernel
theorem dX5_gladden_1 : decode cX5_gladden 1 = .ok (.getfield 11, 3) := by decide +kernel
theorem dX5_gladden_4 : decode cX5_gladden 4 = .ok (.iload_n 1, 1) := by decide +kernel
theorem dX5_gladden_5 : decode cX5_gladden 5 = .ok (.iaload, 1) := by decide +kernel
theorem dX5_gladden_6 : decode cX5_gladden 6 = .ok (.iconst 2, 1) := by decide +kernel
theorem dX5_gladden_7 : decode cX5_gladden 7 = .ok (.if_icmp .ne 14, 3) := by decide +kernel
theorem dX5_gladden_10 : decode cX5_gladden 10 = .ok (.iconst 2, 1) := by decide +kernel
theorem dX5_gladden_11 : decode cX5_gladden 11 = .ok (.aload_n 0, 1) := by decide +kernel
theorem dX5_gladden_12 : decode cX5_gladden 12 = .ok (.getfield 21, 3) := by decide +kernel
theorem dX5_gladden_15 : decode cX5_gladden 15 = .ok (.iload_n 1, 1) := by decide +kernel
theorem dX5_gladden_16 : decode cX5_gladden 16 = .ok (.iaload, 1) := by decide +kernel
theorem dX5_gladden_17 : decode cX5_gladden 17 = .ok (.imul, 1) := by decide +kernel
theorem dX5_gladden_18 : decode cX5_gladden 18 = .ok (.goto 9, 3) := by decide +kernel
theorem dX5_gladden_21 : decode cX5_gladden 21 = .ok (.aload_n 0, 1) := by decide +kernel
theorem dX5_gladden_22 : decode cX5_gladden 22 = .ok (.getfield 21, 3) := by decide +kernel
theorem dX5_gladden_25 : decode cX5_gladden 25 = .ok (.iload_n 1, 1) := by decide +kernel
theorem dX5_gladden_26 : decode cX5_gladden 26 = .ok (.iaload, 1) := by decide +kernel
theorem dX5_gladden_27 : decode cX5_gladden 27 = .ok (.istore_n 2, 1) := by decide +kernel
theorem dX5_gladden_28 : decode cX5_gladden 28 = .ok (.iconst 0, 1) := by decide +kernel
theorem dX5_gladden_29 : decode cX5_gladden 29 = .ok (.istore_n 3, 1) := by decide +kernel
theorem dX5_gladden_30 : decode cX5_gladden 30 = .ok (.iload_n 3, 1) := by decide +kernel
theorem dX5_gladden_31 : decode cX5_gladden 31 = .ok (.aload_n 0, 1) := by decide +kernel
theorem dX5_gladden_32 : decode cX5_gladden 32 = .ok (.getfield 46, 3) := by decide +kernel
theorem dX5_gladden_35 : decode cX5_gladden 35 = .ok (.if_icmp .ge 73, 3) := by decide +kernel
theorem dX5_gladden_38 : decode cX5_gladden 38 = .ok (.aload_n 0, 1) := by decide +kernel
theorem dX5_gladden_39 : decode cX5_gladden 39 = .ok (.getfield 30, 3) := by decide +kernel
theorem dX5_gladden_42 : decode cX5_gladden 42 = .ok (.iload_n 3, 1) := by decide +kernel
theorem dX5_gladden_43 : decode cX5_gladden 43 = .ok (.iaload, 1) := by decide +kernel
theorem dX5_gladden_44 : decode cX5_gladden 44 = .ok (.ifCond .ne 58, 3) := by decide +kernel
theorem dX5_gladden_47 : decode cX5_gladden 47 = .ok (.aload_n 0, 1) := by decide +kernel
theorem dX5_gladden_48 : decode cX5_gladden 48 = .ok (.getfield 24, 3) := by decide +kernel
theorem dX5_gladden_51 : decode cX5_gladden 51 = .ok (.iload_n 3, 1) := by decide +kernel
theorem dX5_gladden_52 : decode cX5_gladden 52 = .ok (.iaload, 1) := by decide +kernel
theorem dX5_gladden_53 : decode cX5_gladden 53 = .ok (.aload_n 0, 1) := by decide +kernel
theorem dX5_gladden_54 : decode cX5_gladden 54 = .ok (.getfield 15, 3) := by decide +kernel
theorem dX5_gladden_57 : decode cX5_gladden 57 = .ok (.iload_n 1, 1) := by decide +kernel
theorem dX5_gladden_58 : decode cX5_gladden 58 = .ok (.iaload, 1) := by decide +kernel
theorem dX5_gladden_59 : decode cX5_gladden 59 = .ok (.if_icmp .ne 43, 3) := by decide +kernel
theorem dX5_gladden_62 : decode cX5_gladden 62 = .ok (.aload_n 0, 1) := by decide +kernel
theorem dX5_gladden_63 : decode cX5_gladden 63 = .ok (.getfield 30, 3) := by decide +kernel
theorem dX5_gladden_66 : decode cX5_gladden 66 = .ok (.iload_n 3, 1) := by decide +kernel
theorem dX5_gladden_67 : decode cX5_gladden 67 = .ok (.iconst 1, 1) := by decide +kernel
theorem dX5_gladden_68 : decode cX5_gladden 68 = .ok (.iastore, 1) := by decide +kernel
theorem dX5_gladden_69 : decode cX5_gladden 69 = .ok (.aload_n 0, 1) := by decide +kernel
theorem dX5_gladden_70 : decode cX5_gladden 70 = .ok (.dup, 1) := by decide +kernel
theorem dX5_gladden_71 : decode cX5_gladden 71 = .ok (.getfield 94, 3) := by decide +kernel
theorem dX5_gladden_74 : decode cX5_gladden 74 = .ok (.iconst 1, 1) := by decide +kernel
theorem dX5_gladden_75 : decode cX5_gladden 75 = .ok (.iload_n 3, 1) := by decide +kernel
theorem dX5_gladden_76 : decode cX5_gladden 76 = .ok (.ishl, 1) := by decide +kernel
theorem dX5_gladden_77 : decode cX5_gladden 77 = .ok (.ior, 1) := by decide +kernel
theorem dX5_gladden_78 : decode cX5_gladden 78 = .ok (.putfield 94, 3) := by decide +kernel
theorem dX5_gladden_81 : decode cX5_gladden 81 = .ok (.aload_n 0, 1) := by decide +kernel
theorem dX5_gladden_82 : decode cX5_gladden 82 = .ok (.dup, 1) := by decide +kernel
theorem dX5_gladden_83 : decode cX5_gladden 83 = .ok (.getfield 97, 3) := by decide +kernel
theorem dX5_gladden_86 : decode cX5_gladden 86 = .ok (.iload_n 2, 1) := by decide +kernel
theorem dX5_gladden_87 : decode cX5_gladden 87 = .ok (.iadd, 1) := by decide +kernel
theorem dX5_gladden_88 : decode cX5_gladden 88 = .ok (.putfield 97, 3) := by decide +kernel
theorem dX5_gladden_91 : decode cX5_gladden 91 = .ok (.aload_n 0, 1) := by decide +kernel
theorem dX5_gladden_92 : decode cX5_gladden 92 = .ok (.getfield 11, 3) := by decide +kernel
theorem dX5_gladden_95 : decode cX5_gladden 95 = .ok (.iload_n 1, 1) := by decide +kernel
theorem dX5_gladden_96 : decode cX5_gladden 96 = .ok (.iaload, 1) := by decide +kernel
theorem dX5_gladden_97 : decode cX5_gladden 97 = .ok (.iconst 3, 1) := by decide +kernel
theorem dX5_gladden_98 : decode cX5_gladden 98 = .ok (.if_icmp .eq 4, 3) := by decide +kernel
theorem dX5_gladden_101 : decode cX5_gladden 101 = .ok (.return_, 1) := by decide +kernel
theorem dX5_gladden_102 : decode cX5_gladden 102 = .ok (.iinc 3 1, 3) := by decide +kernel
theorem dX5_gladden_105 : decode cX5_gladden 105 = .ok (.goto (-75), 3) := by decide +kernel
theorem dX5_gladden_108 : decode cX5_gladden 108 = .ok (.return_, 1) := by decide +kernel
theorem dX5_lendPatience_0 : decode cX5_lendPatience 0 = .ok (.iconst 0, 1) := by decide +kernel
theorem dX5_lendPatience_1 : decode cX5_lendPatience 1 = .ok (.istore_n 1, 1) := by decide +kernel
theorem dX5_lendPatience_2 : decode cX5_lendPatience 2 = .ok (.iload_n 1, 1) := by decide +kernel
theorem dX5_lendPatience_3 : decode cX5_lendPatience 3 = .ok (.aload_n 0, 1) := by decide +kernel
theorem dX5_lendPatience_4 : decode cX5_lendPatience 4 = .ok (.getfield 46, 3) := by decide +kernel
theorem dX5_lendPatience_7 : decode cX5_lendPatience 7 = .ok (.if_icmp .ge 40, 3) := by decide +kernel
theorem dX5_lendPatience_10 : decode cX5_lendPatience 10 = .ok (.aload_n 0, 1) := by decide +kernel
theorem dX5_lendPatience_11 : decode cX5_lendPatience 11 = .ok (.getfield 30, 3) := by decide +kernel
theorem dX5_lendPatience_14 : decode cX5_lendPatience 14 = .ok (.iload_n 1, 1) := by decide +kernel
theorem dX5_lendPatience_15 : decode cX5_lendPatience 15 = .ok (.iaload, 1) := by decide +kernel
theorem dX5_lendPatience_16 : decode cX5_lendPatience 16 = .ok (.ifCond .ne 25, 3) := by decide +kernel
theorem dX5_lendPatience_19 : decode cX5_lendPatience 19 = .ok (.aload_n 0, 1) := by decide +kernel
theorem dX5_lendPatience_20 : decode cX5_lendPatience 20 = .ok (.getfield 27, 3) := by decide +kernel
theorem dX5_lendPatience_23 : decode cX5_lendPatience 23 = .ok (.iload_n 1, 1) := by decide +kernel
theorem dX5_lendPatience_24 : decode cX5_lendPatience 24 = .ok (.bipush 99, 2) := by decide +kernel
theorem dX5_lendPatience_26 : decode cX5_lendPatience 26 = .ok (.aload_n 0, 1) := by decide +kernel
theorem dX5_lendPatience_27 : decode cX5_lendPatience 27 = .ok (.getfield 27, 3) := by decide +kernel
theorem dX5_lendPatience_30 : decode cX5_lendPatience 30 = .ok (.iload_n 1, 1) := by decide +kernel
theorem dX5_lendPatience_31 : decode cX5_lendPatience 31 = .ok (.iaload, 1) := by decide +kernel
theorem dX5_lendPatience_32 : decode cX5_lendPatience 32 = .ok (.aload_n 0, 1) := by decide +kernel
theorem dX5_lendPatience_33 : decode cX5_lendPatience 33 = .ok (.getfield 40, 3) := by decide +kernel
theorem dX5_lendPatience_36 : decode cX5_lendPatience 36 = .ok (.iadd, 1) := by decide +kernel
theorem dX5_lendPatience_37 : decode cX5_lendPatience 37 = .ok (.invokestatic 114, 3) := by decide +kernel
theorem dX5_lendPatience_40 : decode cX5_lendPatience 40 = .ok (.iastore, 1) := by decide +kernel
theorem dX5_lendPatience_41 : decode cX5_lendPatience 41 = .ok (.iinc 1 1, 3) := by decide +kernel
theorem dX5_lendPatience_44 : decode cX5_lendPatience 44 = .ok (.goto (-42), 3) := by decide +kernel
theorem dX5_lendPatience_47 : decode cX5_lendPatience 47 = .ok (.return_, 1) := by decide +kernel
theorem dX5_passTime_0 : decode cX5_passTime 0 = .ok (.iconst 0, 1) := by decide +kernel
theorem dX5_passTime_1 : decode cX5_passTime 1 = .ok (.istore_n 1, 1) := by decide +kernel
theorem dX5_passTime_2 : decode cX5_passTime 2 = .ok (.iload_n 1, 1) := by decide +kernel
theorem dX5_passTime_3 : decode cX5_passTime 3 = .ok (.aload_n 0, 1) := by decide +kernel
theorem dX5_passTime_4 : decode cX5_passTime 4 = .ok (.getfield 46, 3) := by decide +kernel
theorem dX5_passTime_7 : decode cX5_passTime 7 = .ok (.if_icmp .ge 48, 3) := by decide +kernel
theorem dX5_passTime_10 : decode cX5_passTime 10 = .ok (.aload_n 0, 1) := by decide +kernel
theorem dX5_passTime_11 : decode cX5_passTime 11 = .ok (.getfield 30, 3) := by decide +kernel
theorem dX5_passTime_14 : decode cX5_passTime 14 = .ok (.iload_n 1, 1) := by decide +kernel
theorem dX5_passTime_15 : decode cX5_passTime 15 = .ok (.iaload, 1) := by decide +kernel
theorem dX5_passTime_16 : decode cX5_passTime 16 = .ok (.ifCond .ne 33, 3) := by decide +kernel
theorem dX5_passTime_19 : decode cX5_passTime 19 = .ok (.aload_n 0, 1) := by decide +kernel
theorem dX5_passTime_20 : decode cX5_passTime 20 = .ok (.getfield 27, 3) := by decide +kernel
theorem dX5_passTime_23 : decode cX5_passTime 23 = .ok (.iload_n 1, 1) := by decide +kernel
theorem dX5_passTime_24 : decode cX5_passTime 24 = .ok (.dup2, 1) := by decide +kernel
theorem dX5_passTime_25 : decode cX5_passTime 25 = .ok (.iaload, 1) := by decide +kernel
theorem dX5_passTime_26 : decode cX5_passTime 26 = .ok (.iconst 1, 1) := by decide +kernel
theorem dX5_passTime_27 : decode cX5_passTime 27 = .ok (.isub, 1) := by decide +kernel
theorem dX5_passTime_28 : decode cX5_passTime 28 = .ok (.iastore, 1) := by decide +kernel
theorem dX5_passTime_29 : decode cX5_passTime 29 = .ok (.aload_n 0, 1) := by decide +kernel
theorem dX5_passTime_30 : decode cX5_passTime 30 = .ok (.getfield 30, 3) := by decide +kernel
theorem dX5_passTime_33 : decode cX5_passTime 33 = .ok (.iload_n 1, 1) := by decide +kernel
theorem dX5_passTime_34 : decode cX5_passTime 34 = .ok (.aload_n 0, 1) := by decide +kernel
theorem dX5_passTime_35 : decode cX5_passTime 35 = .ok (.getfield 27, 3) := by decide +kernel
theorem dX5_passTime_38 : decode cX5_passTime 38 = .ok (.iload_n 1, 1) := by decide +kernel
theorem dX5_passTime_39 : decode cX5_passTime 39 = .ok (.iaload, 1) := by decide +kernel
theorem dX5_passTime_40 : decode cX5_passTime 40 = .ok (.ifCond .le 7, 3) := by decide +kernel
theorem dX5_passTime_43 : decode cX5_passTime 43 = .ok (.iconst 0, 1) := by decide +kernel
theorem dX5_passTime_44 : decode cX5_passTime 44 = .ok (.goto 4, 3) := by decide +kernel
theorem dX5_passTime_47 : decode cX5_passTime 47 = .ok (.iconst 2, 1) := by decide +kernel
theorem dX5_passTime_48 : decode cX5_passTime 48 = .ok (.iastore, 1) := by decide +kernel
theorem dX5_passTime_49 : decode cX5_passTime 49 = .ok (.iinc 1 1, 3) := by decide +kernel
theorem dX5_passTime_52 : decode cX5_passTime 52 = .ok (.goto (-50), 3) := by decide +kernel
theorem dX5_passTime_55 : decode cX5_passTime 55 = .ok (.aload_n 0, 1) := by decide +kernel
theorem dX5_passTime_56 : decode cX5_passTime 56 = .ok (.dup, 1) := by decide +kernel
theorem dX5_passTime_57 : decode cX5_passTime 57 = .ok (.getfield 52, 3) := by decide +kernel
theorem dX5_passTime_60 : decode cX5_passTime 60 = .ok (.iconst 1, 1) := by decide +kernel
theorem dX5_passTime_61 : decode cX5_passTime 61 = .ok (.iadd, 1) := by decide +kernel
theorem dX5_passTime_62 : decode cX5_passTime 62 = .ok (.putfield 52, 3) := by decide +kernel
theorem dX5_passTime_65 : decode cX5_passTime 65 = .ok (.return_, 1) := by decide +kernel
theorem dX5_tapWhileOneWaits_0 : decode cX5_tapWhileOneWaits 0 = .ok (.iconst 0, 1) := by decide +kernel
theorem dX5_tapWhileOneWaits_1 : decode cX5_tapWhileOneWaits 1 = .ok (.istore_n 2, 1) := by decide +kernel
theorem dX5_tapWhileOneWaits_2 : decode cX5_tapWhileOneWaits 2 = .ok (.iload_n 2, 1) := by decide +kernel
theorem dX5_tapWhileOneWaits_3 : decode cX5_tapWhileOneWaits 3 = .ok (.iload_n 1, 1) := by decide +kernel
theorem dX5_tapWhileOneWaits_4 : decode cX5_tapWhileOneWaits 4 = .ok (.if_icmp .ge 21, 3) := by decide +kernel
theorem dX5_tapWhileOneWaits_7 : decode cX5_tapWhileOneWaits 7 = .ok (.aload_n 0, 1) := by decide +kernel
theorem dX5_tapWhileOneWaits_8 : decode cX5_tapWhileOneWaits 8 = .ok (.iconst 0, 1) := by decide +kernel
theorem dX5_tapWhileOneWaits_9 : decode cX5_tapWhileOneWaits 9 = .ok (.invokevirtual 75, 3) := by decide +kernel
theorem dX5_tapWhileOneWaits_12 : decode cX5_tapWhileOneWaits 12 = .ok (.ifCond .eq 13, 3) := by decide +kernel
theorem dX5_tapWhileOneWaits_15 : decode cX5_tapWhileOneWaits 15 = .ok (.aload_n 0, 1) := by decide +kernel
theorem dX5_tapWhileOneWaits_16 : decode cX5_tapWhileOneWaits 16 = .ok (.invokevirtual 120, 3) := by decide +kernel
theorem dX5_tapWhileOneWaits_19 : decode cX5_tapWhileOneWaits 19 = .ok (.iinc 2 1, 3) := by decide +kernel
theorem dX5_tapWhileOneWaits_22 : decode cX5_tapWhileOneWaits 22 = .ok (.goto (-20), 3) := by decide +kernel
theorem dX5_tapWhileOneWaits_25 : decode cX5_tapWhileOneWaits 25 = .ok (.return_, 1) := by decide +kernel
theorem dX5_sumOver_0 : decode cX5_sumOver 0 = .ok (.iconst 0, 1) := by decide +kernel
theorem dX5_sumOver_1 : decode cX5_sumOver 1 = .ok (.istore_n 3, 1) := by decide +kernel
theorem dX5_sumOver_2 : decode cX5_sumOver 2 = .ok (.iconst 0, 1) := by decide +kernel
theorem dX5_sumOver_3 : decode cX5_sumOver 3 = .ok (.istore 4, 2) := by decide +kernel
theorem dX5_sumOver_5 : decode cX5_sumOver 5 = .ok (.iload 4, 2) := by decide +kernel
theorem dX5_sumOver_7 : decode cX5_sumOver 7 = .ok (.aload_n 0, 1) := by decide +kernel
theorem dX5_sumOver_8 : decode cX5_sumOver 8 = .ok (.getfield 43, 3) := by decide +kernel
theorem dX5_sumOver_11 : decode cX5_sumOver 11 = .ok (.if_icmp .ge 33, 3) := by decide +kernel
theorem dX5_sumOver_14 : decode cX5_sumOver 14 = .ok (.iload 4, 2) := by decide +kernel
theorem dX5_sumOver_16 : decode cX5_sumOver 16 = .ok (.aload_n 2, 1) := by decide +kernel
theorem dX5_sumOver_17 : decode cX5_sumOver 17 = .ok (.arraylength, 1) := by decide +kernel
theorem dX5_sumOver_18 : decode cX5_sumOver 18 = .ok (.if_icmp .ge 26, 3) := by decide +kernel
theorem dX5_sumOver_21 : decode cX5_sumOver 21 = .ok (.iload_n 1, 1) := by decide +kernel
theorem dX5_sumOver_22 : decode cX5_sumOver 22 = .ok (.iload 4, 2) := by decide +kernel
theorem dX5_sumOver_24 : decode cX5_sumOver 24 = .ok (.ishr, 1) := by decide +kernel
theorem dX5_sumOver_25 : decode cX5_sumOver 25 = .ok (.iconst 1, 1) := by decide +kernel
theorem dX5_sumOver_26 : decode cX5_sumOver 26 = .ok (.iand, 1) := by decide +kernel
theorem dX5_sumOver_27 : decode cX5_sumOver 27 = .ok (.iconst 1, 1) := by decide +kernel
theorem dX5_sumOver_28 : decode cX5_sumOver 28 = .ok (.if_icmp .ne 10, 3) := by decide +kernel
theorem dX5_sumOver_31 : decode cX5_sumOver 31 = .ok (.iload_n 3, 1) := by decide +kernel
theorem dX5_sumOver_32 : decode cX5_sumOver 32 = .ok (.aload_n 2, 1) := by decide +kernel
theorem dX5_sumOver_33 : decode cX5_sumOver 33 = .ok (.iload 4, 2) := by decide +kernel
theorem dX5_sumOver_35 : decode cX5_sumOver 35 = .ok (.iaload, 1) := by decide +kernel
theorem dX5_sumOver_36 : decode cX5_sumOver 36 = .ok (.iadd, 1) := by decide +kernel
theorem dX5_sumOver_37 : decode cX5_sumOver 37 = .ok (.istore_n 3, 1) := by decide +kernel
theorem dX5_sumOver_38 : decode cX5_sumOver 38 = .ok (.iinc 4 1, 3) := by decide +kernel
theorem dX5_sumOver_41 : decode cX5_sumOver 41 = .ok (.goto (-36), 3) := by decide +kernel
theorem dX5_sumOver_44 : decode cX5_sumOver 44 = .ok (.iload_n 3, 1) := by decide +kernel
theorem dX5_sumOver_45 : decode cX5_sumOver 45 = .ok (.ireturn, 1) := by decide +kernel
theorem dX5_couldBePleased_0 : decode cX5_couldBePleased 0 = .ok (.iconst 0, 1) := by decide +kernel
theorem dX5_couldBePleased_1 : decode cX5_couldBePleased 1 = .ok (.istore_n 1, 1) := by decide +kernel
theorem dX5_couldBePleased_2 : decode cX5_couldBePleased 2 = .ok (.iconst 0, 1) := by decide +kernel
theorem dX5_couldBePleased_3 : decode cX5_couldBePleased 3 = .ok (.istore_n 2, 1) := by decide +kernel
theorem dX5_couldBePleased_4 : decode cX5_couldBePleased 4 = .ok (.iload_n 2, 1) := by decide +kernel
theorem dX5_couldBePleased_5 : decode cX5_couldBePleased 5 = .ok (.bipush 9, 2) := by decide +kernel
theorem dX5_couldBePleased_7 : decode cX5_couldBePleased 7 = .ok (.if_icmp .gt 38, 3) := by decide +kernel
theorem dX5_couldBePleased_10 : decode cX5_couldBePleased 10 = .ok (.aload_n 0, 1) := by decide +kernel
theorem dX5_couldBePleased_11 : decode cX5_couldBePleased 11 = .ok (.iload_n 2, 1) := by decide +kernel
theorem dX5_couldBePleased_12 : decode cX5_couldBePleased 12 = .ok (.invokevirtual 103, 3) := by decide +kernel
theorem dX5_couldBePleased_15 : decode cX5_couldBePleased 15 = .ok (.istore_n 3, 1) := by decide +kernel
theorem dX5_couldBePleased_16 : decode cX5_couldBePleased 16 = .ok (.aload_n 0, 1) := by decide +kernel
theorem dX5_couldBePleased_17 : decode cX5_couldBePleased 17 = .ok (.iload_n 2, 1) := by decide +kernel
theorem dX5_couldBePleased_18 : decode cX5_couldBePleased 18 = .ok (.iconst 3, 1) := by decide +kernel
theorem dX5_couldBePleased_19 : decode cX5_couldBePleased 19 = .ok (.invokevirtual 123, 3) := by decide +kernel
theorem dX5_couldBePleased_22 : decode cX5_couldBePleased 22 = .ok (.ifCond .ne 13, 3) := by decide +kernel
theorem dX5_couldBePleased_25 : decode cX5_couldBePleased 25 = .ok (.iload_n 3, 1) := by decide +kernel
theorem dX5_couldBePleased_26 : decode cX5_couldBePleased 26 = .ok (.aload_n 0, 1) := by decide +kernel
theorem dX5_couldBePleased_27 : decode cX5_couldBePleased 27 = .ok (.iload_n 2, 1) := by decide +kernel
theorem dX5_couldBePleased_28 : decode cX5_couldBePleased 28 = .ok (.invokevirtual 126, 3) := by decide +kernel
theorem dX5_couldBePleased_31 : decode cX5_couldBePleased 31 = .ok (.invokestatic 114, 3) := by decide +kernel
theorem dX5_couldBePleased_34 : decode cX5_couldBePleased 34 = .ok (.istore_n 3, 1) := by decide +kernel
theorem dX5_couldBePleased_35 : decode cX5_couldBePleased 35 = .ok (.iload_n 1, 1) := by decide +kernel
theorem dX5_couldBePleased_36 : decode cX5_couldBePleased 36 = .ok (.iload_n 3, 1) := by decide +kernel
theorem dX5_couldBePleased_37 : decode cX5_couldBePleased 37 = .ok (.iadd, 1) := by decide +kernel
theorem dX5_couldBePleased_38 : decode cX5_couldBePleased 38 = .ok (.istore_n 1, 1) := by decide +kernel
theorem dX5_couldBePleased_39 : decode cX5_couldBePleased 39 = .ok (.iinc 2 1, 3) := by decide +kernel
theorem dX5_couldBePleased_42 : decode cX5_couldBePleased 42 = .ok (.goto (-38), 3) := by decide +kernel
theorem dX5_couldBePleased_45 : decode cX5_couldBePleased 45 = .ok (.iload_n 1, 1) := by decide +kernel
theorem dX5_couldBePleased_46 : decode cX5_couldBePleased 46 = .ok (.ireturn, 1) := by decide +kernel
theorem dX5_lackedLabels_0 : decode cX5_lackedLabels 0 = .ok (.iconst 0, 1) := by decide +kernel
theorem dX5_lackedLabels_1 : decode cX5_lackedLabels 1 = .ok (.istore_n 1, 1) := by decide +kernel
theorem dX5_lackedLabels_2 : decode cX5_lackedLabels 2 = .ok (.iconst 0, 1) := by decide +kernel
theorem dX5_lackedLabels_3 : decode cX5_lackedLabels 3 = .ok (.istore_n 2, 1) := by decide +kernel
theorem dX5_lackedLabels_4 : decode cX5_lackedLabels 4 = .ok (.iload_n 2, 1) := by decide +kernel
theorem dX5_lackedLabels_5 : decode cX5_lackedLabels 5 = .ok (.bipush 9, 2) := by decide +kernel
theorem dX5_lackedLabels_7 : decode cX5_lackedLabels 7 = .ok (.if_icmp .gt 31, 3) := by decide +kernel
theorem dX5_lackedLabels_10 : decode cX5_lackedLabels 10 = .ok (.aload_n 0, 1) := by decide +kernel
theorem dX5_lackedLabels_11 : decode cX5_lackedLabels 11 = .ok (.iload_n 2, 1) := by decide +kernel
theorem dX5_lackedLabels_12 : decode cX5_lackedLabels 12 = .ok (.invokevirtual 103, 3) := by decide +kernel
theorem dX5_lackedLabels_15 : decode cX5_lackedLabels 15 = .ok (.ifCond .le 17, 3) := by decide +kernel
theorem dX5_lackedLabels_18 : decode cX5_lackedLabels 18 = .ok (.aload_n 0, 1) := by decide +kernel
theorem dX5_lackedLabels_19 : decode cX5_lackedLabels 19 = .ok (.iload_n 2, 1) := by decide +kernel
theorem dX5_lackedLabels_20 : decode cX5_lackedLabels 20 = .ok (.invokevirtual 126, 3) := by decide +kernel
theorem dX5_lackedLabels_23 : decode cX5_lackedLabels 23 = .ok (.ifCond .ne 9, 3) := by decide +kernel
theorem dX5_lackedLabels_26 : decode cX5_lackedLabels 26 = .ok (.iload_n 1, 1) := by decide +kernel
theorem dX5_lackedLabels_27 : decode cX5_lackedLabels 27 = .ok (.iconst 1, 1) := by decide +kernel
theorem dX5_lackedLabels_28 : decode cX5_lackedLabels 28 = .ok (.iload_n 2, 1) := by decide +kernel
theorem dX5_lackedLabels_29 : decode cX5_lackedLabels 29 = .ok (.ishl, 1) := by decide +kernel
theorem dX5_lackedLabels_30 : decode cX5_lackedLabels 30 = .ok (.ior, 1) := by decide +kernel
theorem dX5_lackedLabels_31 : decode cX5_lackedLabels 31 = .ok (.istore_n 1, 1) := by decide +kernel
theorem dX5_lackedLabels_32 : decode cX5_lackedLabels 32 = .ok (.iinc 2 1, 3) := by decide +kernel
theorem dX5_lackedLabels_35 : decode cX5_lackedLabels 35 = .ok (.goto (-31), 3) := by decide +kernel
theorem dX5_lackedLabels_38 : decode cX5_lackedLabels 38 = .ok (.iload_n 1, 1) := by decide +kernel
theorem dX5_lackedLabels_39 : decode cX5_lackedLabels 39 = .ok (.ireturn, 1) := by decide +kernel
theorem dX5_givenOf_0 : decode cX5_givenOf 0 = .ok (.iconst 0, 1) := by decide +kernel
theorem dX5_givenOf_1 : decode cX5_givenOf 1 = .ok (.istore_n 2, 1) := by decide +kernel
theorem dX5_givenOf_2 : decode cX5_givenOf 2 = .ok (.iconst 1, 1) := by decide +kernel
theorem dX5_givenOf_3 : decode cX5_givenOf 3 = .ok (.istore_n 3, 1) := by decide +kernel
theorem dX5_givenOf_4 : decode cX5_givenOf 4 = .ok (.iload_n 3, 1) := by decide +kernel
theorem dX5_givenOf_5 : decode cX5_givenOf 5 = .ok (.iconst 5, 1) := by decide +kernel
theorem dX5_givenOf_6 : decode cX5_givenOf 6 = .ok (.if_icmp .ge 18, 3) := by decide +kernel
theorem dX5_givenOf_9 : decode cX5_givenOf 9 = .ok (.iload_n 2, 1) := by decide +kernel
theorem dX5_givenOf_10 : decode cX5_givenOf 10 = .ok (.aload_n 0, 1) := by decide +kernel
theorem dX5_givenOf_11 : decode cX5_givenOf 11 = .ok (.iload_n 1, 1) := by decide +kernel
theorem dX5_givenOf_12 : decode cX5_givenOf 12 = .ok (.iload_n 3, 1) := by decide +kernel
theorem dX5_givenOf_13 : decode cX5_givenOf 13 = .ok (.invokevirtual 123, 3) := by decide +kernel
theorem dX5_givenOf_16 : decode cX5_givenOf 16 = .ok (.iadd, 1) := by decide +kernel
theorem dX5_givenOf_17 : decode cX5_givenOf 17 = .ok (.istore_n 2, 1) := by decide +kernel
theorem dX5_givenOf_18 : decode cX5_givenOf 18 = .ok (.iinc 3 1, 3) := by decide +kernel
theorem dX5_givenOf_21 : decode cX5_givenOf 21 = .ok (.goto (-17), 3) := by decide +kernel
theorem dX5_givenOf_24 : decode cX5_givenOf 24 = .ok (.iload_n 2, 1) := by decide +kernel
theorem dX5_givenOf_25 : decode cX5_givenOf 25 = .ok (.ireturn, 1) := by decide +kernel
theorem dX5_listed_0 : decode cX5_listed 0 = .ok (.iconst 0, 1) := by decide +kernel
theorem dX5_listed_1 : decode cX5_listed 1 = .ok (.istore_n 3, 1) := by decide +kernel
theorem dX5_listed_2 : decode cX5_listed 2 = .ok (.iconst 0, 1) := by decide +kernel
theorem dX5_listed_3 : decode cX5_listed 3 = .ok (.istore 4, 2) := by decide +kernel
theorem dX5_listed_5 : decode cX5_listed 5 = .ok (.iload 4, 2) := by decide +kernel
theorem dX5_listed_7 : decode cX5_listed 7 = .ok (.aload_n 0, 1) := by decide +kernel
theorem dX5_listed_8 : decode cX5_listed 8 = .ok (.getfield 49, 3) := by decide +kernel
theorem dX5_listed_11 : decode cX5_listed 11 = .ok (.if_icmp .ge 44, 3) := by decide +kernel
theorem dX5_listed_14 : decode cX5_listed 14 = .ok (.aload_n 0, 1) := by decide +kernel
theorem dX5_listed_15 : decode cX5_listed 15 = .ok (.getfield 15, 3) := by decide +kernel
theorem dX5_listed_18 : decode cX5_listed 18 = .ok (.aload_n 0, 1) := by decide +kernel
theorem dX5_listed_19 : decode cX5_listed 19 = .ok (.getfield 33, 3) := by decide +kernel
theorem dX5_listed_22 : decode cX5_listed 22 = .ok (.iload 4, 2) := by decide +kernel
theorem dX5_listed_24 : decode cX5_listed 24 = .ok (.iaload, 1) := by decide +kernel
theorem dX5_listed_25 : decode cX5_listed 25 = .ok (.iaload, 1) := by decide +kernel
theorem dX5_listed_26 : decode cX5_listed 26 = .ok (.iload_n 1, 1) := by decide +kernel
theorem dX5_listed_27 : decode cX5_listed 27 = .ok (.if_icmp .ne 22, 3) := by decide +kernel
theorem dX5_listed_30 : decode cX5_listed 30 = .ok (.aload_n 0, 1) := by decide +kernel
theorem dX5_listed_31 : decode cX5_listed 31 = .ok (.getfield 11, 3) := by decide +kernel
theorem dX5_listed_34 : decode cX5_listed 34 = .ok (.aload_n 0, 1) := by decide +kernel
theorem dX5_listed_35 : decode cX5_listed 35 = .ok (.getfield 33, 3) := by decide +kernel
theorem dX5_listed_38 : decode cX5_listed 38 = .ok (.iload 4, 2) := by decide +kernel
theorem dX5_listed_40 : decode cX5_listed 40 = .ok (.iaload, 1) := by decide +kernel
theorem dX5_listed_41 : decode cX5_listed 41 = .ok (.iaload, 1) := by decide +kernel
theorem dX5_listed_42 : decode cX5_listed 42 = .ok (.iload_n 2, 1) := by decide +kernel
theorem dX5_listed_43 : decode cX5_listed 43 = .ok (.if_icmp .ne 6, 3) := by decide +kernel
theorem dX5_listed_46 : decode cX5_listed 46 = .ok (.iinc 3 1, 3) := by decide +kernel
theorem dX5_listed_49 : decode cX5_listed 49 = .ok (.iinc 4 1, 3) := by decide +kernel
theorem dX5_listed_52 : decode cX5_listed 52 = .ok (.goto (-47), 3) := by decide +kernel
theorem dX5_listed_55 : decode cX5_listed 55 = .ok (.iload_n 3, 1) := by decide +kernel
theorem dX5_listed_56 : decode cX5_listed 56 = .ok (.ireturn, 1) := by decide +kernel
theorem dX6_init_0 : decode cX6_init 0 = .ok (.aload_n 0, 1) := by decide +kernel
theorem dX6_init_1 : decode cX6_init 1 = .ok (.invokespecial 1, 3) := by decide +kernel
theorem dX6_init_4 : decode cX6_init 4 = .ok (.aload_n 0, 1) := by decide +kernel
theorem dX6_init_5 : decode cX6_init 5 = .ok (.bipush 120, 2) := by decide +kernel
theorem dX6_init_7 : decode cX6_init 7 = .ok (.newarray .int, 2) := by decide +kernel
theorem dX6_init_9 : decode cX6_init 9 = .ok (.putfield 9, 3) := by decide +kernel
theorem dX6_init_12 : decode cX6_init 12 = .ok (.return_, 1) := by decide +kernel
theorem dX6_isFull_0 : decode cX6_isFull 0 = .ok (.aload_n 0, 1) := by decide +kernel
theorem dX6_isFull_1 : decode cX6_isFull 1 = .ok (.getfield 13, 3) := by decide +kernel
theorem dX6_isFull_4 : decode cX6_isFull 4 = .ok (.bipush 120, 2) := by decide +kernel
theorem dX6_isFull_6 : decode cX6_isFull 6 = .ok (.if_icmp .lt 7, 3) := by decide +kernel
theorem dX6_isFull_9 : decode cX6_isFull 9 = .ok (.iconst 1, 1) := by decide +kernel
theorem dX6_isFull_10 : decode cX6_isFull 10 = .ok (.goto 4, 3) := by decide +kernel
theorem dX6_isFull_13 : decode cX6_isFull 13 = .ok (.iconst 0, 1) := by decide +kernel
theorem dX6_isFull_14 : decode cX6_isFull 14 = .ok (.ireturn, 1) := by decide +kernel
theorem dX6_append_0 : decode cX6_append 0 = .ok (.aload_n 0, 1) := by decide +kernel
theorem dX6_append_1 : decode cX6_append 1 = .ok (.getfield 13, 3) := by decide +kernel
theorem dX6_append_4 : decode cX6_append 4 = .ok (.bipush 120, 2) := by decide +kernel
theorem dX6_append_6 : decode cX6_append 6 = .ok (.if_icmp .ge 23, 3) := by decide +kernel
theorem dX6_append_9 : decode cX6_append 9 = .ok (.aload_n 0, 1) := by decide +kernel
theorem dX6_append_10 : decode cX6_append 10 = .ok (.getfield 9, 3) := by decide +kernel
theorem dX6_append_13 : decode cX6_append 13 = .ok (.aload_n 0, 1) := by decide +kernel
theorem dX6_append_14 : decode cX6_append 14 = .ok (.getfield 13, 3) := by decide +kernel
theorem dX6_append_17 : decode cX6_append 17 = .ok (.iload_n 1, 1) := by decide +kernel
theorem dX6_append_18 : decode cX6_append 18 = .ok (.iastore, 1) := by decide +kernel
theorem dX6_append_19 : decode cX6_append 19 = .ok (.aload_n 0, 1) := by decide +kernel
theorem dX6_append_20 : decode cX6_append 20 = .ok (.dup, 1) := by decide +kernel
theorem dX6_append_21 : decode cX6_append 21 = .ok (.getfield 13, 3) := by decide +kernel
theorem dX6_append_24 : decode cX6_append 24 = .ok (.iconst 1, 1) := by decide +kernel
theorem dX6_append_25 : decode cX6_append 25 = .ok (.iadd, 1) := by decide +kernel
theorem dX6_append_26 : decode cX6_append 26 = .ok (.putfield 13, 3) := by decide +kernel
theorem dX6_append_29 : decode cX6_append 29 = .ok (.aload_n 0, 1) := by decide +kernel
theorem dX6_append_30 : decode cX6_append 30 = .ok (.getfield 13, 3) := by decide +kernel
theorem dX6_append_33 : decode cX6_append 33 = .ok (.ireturn, 1) := by decide +kernel
theorem dX6_empty_0 : decode cX6_empty 0 = .ok (.aload_n 0, 1) := by decide +kernel
theorem dX6_empty_1 : decode cX6_empty 1 = .ok (.iconst 0, 1) := by decide +kernel
theorem dX6_empty_2 : decode cX6_empty 2 = .ok (.putfield 13, 3) := by decide +kernel
theorem dX6_empty_5 : decode cX6_empty 5 = .ok (.return_, 1) := by decide +kernel
theorem dX6_length_0 : decode cX6_length 0 = .ok (.aload_n 0, 1) := by decide +kernel
theorem dX6_length_1 : decode cX6_length 1 = .ok (.getfield 13, 3) := by decide +kernel
theorem dX6_length_4 : decode cX6_length 4 = .ok (.ireturn, 1) := by decide +kernel
theorem dX6_latestFault_0 : decode cX6_latestFault 0 = .ok (.aload_n 0, 1) := by decide +kernel
theorem dX6_latestFault_1 : decode cX6_latestFault 1 = .ok (.getfield 17, 3) := by decide +kernel
theorem dX6_latestFault_4 : decode cX6_latestFault 4 = .ok (.ireturn, 1) := by decide +kernel
theorem dX6_faultPlace_0 : decode cX6_faultPlace 0 = .ok (.aload_n 0, 1) := by decide +kernel
theorem dX6_faultPlace_1 : decode cX6_faultPlace 1 = .ok (.getfield 20, 3) := by decide +kernel
theorem dX6_faultPlace_4 : decode cX6_faultPlace 4 = .ok (.ireturn, 1) := by decide +kernel
theorem dX6_readInto_0 : decode cX6_readInto 0 = .ok (.aload_n 0, 1) := by decide +kernel
theorem dX6_readInto_1 : decode cX6_readInto 1 = .ok (.iconst 0, 1) := by decide +kernel
theorem dX6_readInto_2 : decode cX6_readInto 2 = .ok (.putfield 23, 3) := by decide +kernel
theorem dX6_readInto_5 : decode cX6_readInto 5 = .ok (.aload_n 1, 1) := by decide +kernel
theorem dX6_readInto_6 : decode cX6_readInto 6 = .ok (.invokevirtual 26, 3) := by decide +kernel
theorem dX6_readInto_9 : decode cX6_readInto 9 = .ok (.aload_n 0, 1) := by decide +kernel
theorem dX6_readInto_10 : decode cX6_readInto 10 = .ok (.aload_n 1, 1) := by decide +kernel
theorem dX6_readInto_11 : decode cX6_readInto 11 = .ok (.invokevirtual 31, 3) := by decide +kernel
theorem dX6_readInto_14 : decode cX6_readInto 14 = .ok (.ifCond .eq 11, 3) := by decide +kernel
theorem dX6_readInto_17 : decode cX6_readInto 17 = .ok (.aload_n 0, 1) := by decide +kernel
theorem dX6_readInto_18 : decode cX6_readInto 18 = .ok (.aload_n 1, 1) := by decide +kernel
theorem dX6_readInto_19 : decode cX6_readInto 19 = .ok (.invokevirtual 35, 3) := by decide +kernel
theorem dX6_readInto_22 : decode cX6_readInto 22 = .ok (.ifCond .ne 5, 3) := by decide +kernel
theorem dX6_readInto_25 : decode cX6_readInto 25 = .ok (.iconst 0, 1) := by decide +kernel
theorem dX6_readInto_26 : decode cX6_readInto 26 = .ok (.ireturn, 1) := by decide +kernel
theorem dX6_readInto_27 : decode cX6_readInto 27 = .ok (.iconst 0, 1) := by decide +kernel
theorem dX6_readInto_28 : decode cX6_readInto 28 = .ok (.istore_n 2, 1) := by decide +kernel
theorem dX6_readInto_29 : decode cX6_readInto 29 = .ok (.iload_n 2, 1) := by decide +kernel
theorem dX6_readInto_30 : decode cX6_readInto 30 = .ok (.bipush 120, 2) := by decide +kernel
theorem dX6_readInto_32 : decode cX6_readInto 32 = .ok (.if_icmp .ge 49, 3) := by decide +kernel
theorem dX6_readInto_35 : decode cX6_readInto 35 = .ok (.aload_n 0, 1) := by decide +kernel
theorem dX6_readInto_36 : decode cX6_readInto 36 = .ok (.getfield 23, 3) := by decide +kernel
theorem dX6_readInto_39 : decode cX6_readInto 39 = .ok (.aload_n 0, 1) := by decide +kernel
theorem dX6_readInto_40 : decode cX6_readInto 40 = .ok (.getfield 13, 3) := by decide +kernel
theorem dX6_readInto_43 : decode cX6_readInto 43 = .ok (.if_icmp .ge 38, 3) := by decide +kernel
theorem dX6_readInto_46 : decode cX6_readInto 46 = .ok (.aload_n 0, 1) := by decide +kernel
theorem dX6_readInto_47 : decode cX6_readInto 47 = .ok (.invokevirtual 38, 3) := by decide +kernel
theorem dX6_readInto_50 : decode cX6_readInto 50 = .ok (.bipush 122, 2) := by decide +kernel
theorem dX6_readInto_52 : decode cX6_readInto 52 = .ok (.if_icmp .ne 11, 3) := by decide +kernel
theorem dX6_readInto_55 : decode cX6_readInto 55 = .ok (.aload_n 0, 1) := by decide +kernel
theorem dX6_readInto_56 : decode cX6_readInto 56 = .ok (.aload_n 1, 1) := by decide +kernel
theorem dX6_readInto_57 : decode cX6_readInto 57 = .ok (.invokevirtual 42, 3) := by decide +kernel
theorem dX6_readInto_60 : decode cX6_readInto 60 = .ok (.goto 8, 3) := by decide +kernel
theorem dX6_readInto_63 : decode cX6_readInto 63 = .ok (.aload_n 0, 1) := by decide +kernel
theorem dX6_readInto_64 : decode cX6_readInto 64 = .ok (.aload_n 1, 1) := by decide +kernel
theorem dX6_readInto_65 : decode cX6_readInto 65 = .ok (.invokevirtual 35, 3) := by decide +kernel
theorem dX6_readInto_68 : decode cX6_readInto 68 = .ok (.istore_n 3, 1) := by decide +kernel
theorem dX6_readInto_69 : decode cX6_readInto 69 = .ok (.iload_n 3, 1) := by decide +kernel
theorem dX6_readInto_70 : decode cX6_readInto 70 = .ok (.ifCond .ne 5, 3) := by decide +kernel
theorem dX6_readInto_73 : decode cX6_readInto 73 = .ok (.iconst 0, 1) := by decide +kernel
theorem dX6_readInto_74 : decode cX6_readInto 74 = .ok (.ireturn, 1) := by decide +kernel
theorem dX6_readInto_75 : decode cX6_readInto 75 = .ok (.iinc 2 1, 3) := by decide +kernel
theorem dX6_readInto_78 : decode cX6_readInto 78 = .ok (.goto (-49), 3) := by decide +kernel
theorem dX6_readInto_81 : decode cX6_readInto 81 = .ok (.iconst 1, 1) := by decide +kernel
theorem dX6_readInto_82 : decode cX6_readInto 82 = .ok (.ireturn, 1) := by decide +kernel
theorem dX6_readLaw_0 : decode cX6_readLaw 0 = .ok (.aload_n 0, 1) := by decide +kernel
theorem dX6_readLaw_1 : decode cX6_readLaw 1 = .ok (.invokevirtual 38, 3) := by decide +kernel
theorem dX6_readLaw_4 : decode cX6_readLaw 4 = .ok (.bipush 114, 2) := by decide +kernel
theorem dX6_readLaw_6 : decode cX6_readLaw 6 = .ok (.if_icmp .eq 9, 3) := by decide +kernel
theorem dX6_readLaw_9 : decode cX6_readLaw 9 = .ok (.aload_n 0, 1) := by decide +kernel
theorem dX6_readLaw_10 : decode cX6_readLaw 10 = .ok (.iconst 1, 1) := by decide +kernel
theorem dX6_readLaw_11 : decode cX6_readLaw 11 = .ok (.invokevirtual 45, 3) := by decide +kernel
theorem dX6_readLaw_14 : decode cX6_readLaw 14 = .ok (.ireturn, 1) := by decide +kernel
theorem dX6_readLaw_15 : decode cX6_readLaw 15 = .ok (.aload_n 0, 1) := by decide +kernel
theorem dX6_readLaw_16 : decode cX6_readLaw 16 = .ok (.dup, 1) := by decide +kernel
theorem dX6_readLaw_17 : decode cX6_readLaw 17 = .ok (.getfield 23, 3) := by decide +kernel
theorem dX6_readLaw_20 : decode cX6_readLaw 20 = .ok (.iconst 1, 1) := by decide +kernel
theorem dX6_readLaw_21 : decode cX6_readLaw 21 = .ok (.iadd, 1) := by decide +kernel
theorem dX6_readLaw_22 : decode cX6_readLaw 22 = .ok (.putfield 23, 3) := by decide +kernel
theorem dX6_readLaw_25 : decode cX6_readLaw 25 = .ok (.aload_n 1, 1) := by decide +kernel
theorem dX6_readLaw_26 : decode cX6_readLaw 26 = .ok (.aload_n 0, 1) := by decide +kernel
theorem dX6_readLaw_27 : decode cX6_readLaw 27 = .ok (.iconst 0, 1) := by decide +kernel
theorem dX6_readLaw_28 : decode cX6_readLaw 28 = .ok (.bipush 60, 2) := by decide +kernel
theorem dX6_readLaw_30 : decode cX6_readLaw 30 = .ok (.bipush 44, 2) := by decide +kernel
theorem dX6_readLaw_32 : decode cX6_readLaw 32 = .ok (.invokevirtual 49, 3) := by decide +kernel
theorem dX6_readLaw_35 : decode cX6_readLaw 35 = .ok (.putfield 53, 3) := by decide +kernel
theorem dX6_readLaw_38 : decode cX6_readLaw 38 = .ok (.aload_n 1, 1) := by decide +kernel
theorem dX6_readLaw_39 : decode cX6_readLaw 39 = .ok (.getfield 53, 3) := by decide +kernel
theorem dX6_readLaw_42 : decode cX6_readLaw 42 = .ok (.iconst (-1), 1) := by decide +kernel
theorem dX6_readLaw_43 : decode cX6_readLaw 43 = .ok (.if_icmp .ne 5, 3) := by decide +kernel
theorem dX6_readLaw_46 : decode cX6_readLaw 46 = .ok (.iconst 0, 1) := by decide +kernel
theorem dX6_readLaw_47 : decode cX6_readLaw 47 = .ok (.ireturn, 1) := by decide +kernel
theorem dX6_readLaw_48 : decode cX6_readLaw 48 = .ok (.aload_n 1, 1) := by decide +kernel
theorem dX6_readLaw_49 : decode cX6_readLaw 49 = .ok (.aload_n 0, 1) := by decide +kernel
theorem dX6_readLaw_50 : decode cX6_readLaw 50 = .ok (.iconst 0, 1) := by decide +kernel
theorem dX6_readLaw_51 : decode cX6_readLaw 51 = .ok (.bipush 9, 2) := by decide +kernel
theorem dX6_readLaw_53 : decode cX6_readLaw 53 = .ok (.bipush 59, 2) := by decide +kernel
theorem dX6_readLaw_55 : decode cX6_readLaw 55 = .ok (.invokevirtual 49, 3) := by decide +kernel
theorem dX6_readLaw_58 : decode cX6_readLaw 58 = .ok (.putfield 56, 3) := by decide +kernel
theorem dX6_readLaw_61 : decode cX6_readLaw 61 = .ok (.aload_n 1, 1) := by decide +kernel
theorem dX6_readLaw_62 : decode cX6_readLaw 62 = .ok (.getfield 56, 3) := by decide +kernel
theorem dX6_readLaw_65 : decode cX6_readLaw 65 = .ok (.iconst (-1), 1) := by decide +kernel
theorem dX6_readLaw_66 : decode cX6_readLaw 66 = .ok (.if_icmp .eq 7, 3) := by decide +kernel
theorem dX6_readLaw_69 : decode cX6_readLaw 69 = .ok (.iconst 1, 1) := by decide +kernel
theorem dX6_readLaw_70 : decode cX6_readLaw 70 = .ok (.goto 4, 3) := by decide +kernel
theorem dX6_readLaw_73 : decode cX6_readLaw 73 = .ok (.iconst 0, 1) := by decide +kernel
theorem dX6_readLaw_74 : decode cX6_readLaw 74 = .ok (.ireturn, 1) := by decide +kernel
theorem dX6_readThing_0 : decode cX6_readThing 0 = .ok (.aload_n 0, 1) := by decide +kernel
theorem dX6_readThing_1 : decode cX6_readThing 1 = .ok (.invokevirtual 59, 3) := by decide +kernel
theorem dX6_readThing_4 : decode cX6_readThing 4 = .ok (.istore_n 2, 1) := by decide +kernel
theorem dX6_readThing_5 : decode cX6_readThing 5 = .ok (.iload_n 2, 1) := by decide +kernel
theorem dX6_readThing_6 : decode cX6_readThing 6 = .ok (.ifCond .lt 10, 3) := by decide +kernel
theorem dX6_readThing_9 : decode cX6_readThing 9 = .ok (.aload_n 1, 1) := by decide +kernel
theorem dX6_readThing_10 : decode cX6_readThing 10 = .ok (.getfield 62, 3) := by decide +kernel
theorem dX6_readThing_13 : decode cX6_readThing 13 = .ok (.ifCond .le 9, 3) := by decide +kernel
theorem dX6_readThing_16 : decode cX6_readThing 16 = .ok (.aload_n 0, 1) := by decide +kernel
theorem dX6_readThing_17 : decode cX6_readThing 17 = .ok (.iconst 1, 1) := by decide +kernel
theorem dX6_readThing_18 : decode cX6_readThing 18 = .ok (.invokevirtual 45, 3) := by decide +kernel
theorem dX6_readThing_21 : decode cX6_readThing 21 = .ok (.ireturn, 1) := by decide +kernel
theorem dX6_readThing_22 : decode cX6_readThing 22 = .ok (.aload_n 1, 1) := by decide +kernel
theorem dX6_readThing_23 : decode cX6_readThing 23 = .ok (.getfield 65, 3) := by decide +kernel
theorem dX6_readThing_26 : decode cX6_readThing 26 = .ok (.bipush 6, 2) := by decide +kernel
theorem dX6_readThing_28 : decode cX6_readThing 28 = .ok (.if_icmp .lt 9, 3) := by decide +kernel
theorem dX6_readThing_31 : decode cX6_readThing 31 = .ok (.aload_n 0, 1) := by decide +kernel
theorem dX6_readThing_32 : decode cX6_readThing 32 = .ok (.iconst 3, 1) := by decide +kernel
theorem dX6_readThing_33 : decode cX6_readThing 33 = .ok (.invokevirtual 45, 3) := by decide +kernel
theorem dX6_readThing_36 : decode cX6_readThing 36 = .ok (.ireturn, 1) := by decide +kernel
theorem dX6_readThing_37 : decode cX6_readThing 37 = .ok (.aload_n 0, 1) := by decide +kernel
theorem dX6_readThing_38 : decode cX6_readThing 38 = .ok (.dup, 1) := by decide +kernel
theorem dX6_readThing_39 : decode cX6_readThing 39 = .ok (.getfield 23, 3) := by decide +kernel
theorem dX6_readThing_42 : decode cX6_readThing 42 = .ok (.iconst 1, 1) := by decide +kernel
theorem dX6_readThing_43 : decode cX6_readThing 43 = .ok (.iadd, 1) := by decide +kernel
theorem dX6_readThing_44 : decode cX6_readThing 44 = .ok (.putfield 23, 3) := by decide +kernel
theorem dX6_readThing_47 : decode cX6_readThing 47 = .ok (.aload_n 0, 1) := by decide +kernel
theorem dX6_readThing_48 : decode cX6_readThing 48 = .ok (.iconst 0, 1) := by decide +kernel
theorem dX6_readThing_49 : decode cX6_readThing 49 = .ok (.bipush 9, 2) := by decide +kernel
theorem dX6_readThing_51 : decode cX6_readThing 51 = .ok (.bipush 44, 2) := by decide +kernel
theorem dX6_readThing_53 : decode cX6_readThing 53 = .ok (.invokevirtual 49, 3) := by decide +kernel
theorem dX6_readThing_56 : decode cX6_readThing 56 = .ok (.istore_n 3, 1) := by decide +kernel
theorem dX6_readThing_57 : decode cX6_readThing 57 = .ok (.iload_n 3, 1) := by decide +kernel
theorem dX6_readThing_58 : decode cX6_readThing 58 = .ok (.iconst (-1), 1) := by decide +kernel
theorem dX6_readThing_59 : decode cX6_readThing 59 = .ok (.if_icmp .ne 7, 3) := by decide +kernel
theorem dX6_readThing_62 : decode cX6_readThing 62 = .ok (.iconst (-1), 1) := by decide +kernel
theorem dX6_readThing_63 : decode cX6_readThing 63 = .ok (.goto 12, 3) := by decide +kernel
theorem dX6_readThing_66 : decode cX6_readThing 66 = .ok (.aload_n 0, 1) := by decide +kernel
theorem dX6_readThing_67 : decode cX6_readThing 67 = .ok (.iconst 1, 1) := by decide +kernel
theorem dX6_readThing_68 : decode cX6_readThing 68 = .ok (.bipush 20, 2) := by decide +kernel
theorem dX6_readThing_70 : decode cX6_readThing 70 = .ok (.bipush 44, 2) := by decide +kernel
theorem dX6_readThing_72 : decode cX6_readThing 72 = .ok (.invokevirtual 49, 3) := by decide +kernel
theorem dX6_readThing_75 : decode cX6_readThing 75 = .ok (.istore 4, 2) := by decide +kernel
theorem dX6_readThing_77 : decode cX6_readThing 77 = .ok (.iload 4, 2) := by decide +kernel
theorem dX6_readThing_79 : decode cX6_readThing 79 = .ok (.iconst (-1), 1) := by decide +kernel
theorem dX6_readThing_80 : decode cX6_readThing 80 = .ok (.if_icmp .ne 7, 3) := by decide +kernel
theorem dX6_readThing_83 : decode cX6_readThing 83 = .ok (.iconst (-1), 1) := by decide +kernel
theorem dX6_readThing_84 : decode cX6_readThing 84 = .ok (.goto 12, 3) := by decide +kernel
theorem dX6_readThing_87 : decode cX6_readThing 87 = .ok (.aload_n 0, 1) := by decide +kernel
theorem dX6_readThing_88 : decode cX6_readThing 88 = .ok (.iconst 0, 1) := by decide +kernel
theorem dX6_readThing_89 : decode cX6_readThing 89 = .ok (.bipush 9, 2) := by decide +kernel
theorem dX6_readThing_91 : decode cX6_readThing 91 = .ok (.bipush 59, 2) := by decide +kernel
theorem dX6_readThing_93 : decode cX6_readThing 93 = .ok (.invokevirtual 49, 3) := by decide +kernel
theorem dX6_readThing_96 : decode cX6_readThing 96 = .ok (.istore 5, 2) := by decide +kernel
theorem dX6_readThing_98 : decode cX6_readThing 98 = .ok (.iload 5, 2) := by decide +kernel
theorem dX6_readThing_100 : decode cX6_readThing 100 = .ok (.iconst (-1), 1) := by decide +kernel
theorem dX6_readThing_101 : decode cX6_readThing 101 = .ok (.if_icmp .ne 5, 3) := by decide +kernel
theorem dX6_readThing_104 : decode cX6_readThing 104 = .ok (.iconst 0, 1) := by decide +kernel
theorem dX6_readThing_105 : decode cX6_readThing 105 = .ok (.ireturn, 1) := by decide +kernel
theorem dX6_readThing_106 : decode cX6_readThing 106 = .ok (.aload_n 1, 1) := by decide +kernel
theorem dX6_readThing_107 : decode cX6_readThing 107 = .ok (.iload_n 2, 1) := by decide +kernel
theorem dX6_readThing_108 : decode cX6_readThing 108 = .ok (.iconst 1, 1) := by decide +kernel
theorem dX6_readThing_109 : decode cX6_readThing 109 = .ok (.iadd, 1) := by decide +kernel
theorem dX6_readThing_110 : decode cX6_readThing 110 = .ok (.iload_n 3, 1) := by decide +kernel
theorem dX6_readThing_111 : decode cX6_readThing 111 = .ok (.iload 4, 2) := by decide +kernel
theorem dX6_readThing_113 : decode cX6_readThing 113 = .ok (.iload 5, 2) := by decide +kernel
theorem dX6_readThing_115 : decode cX6_readThing 115 = .ok (.invokevirtual 68, 3) := by decide +kernel
theorem dX6_readThing_118 : decode cX6_readThing 118 = .ok (.iconst 1, 1) := by decide +kernel
theorem dX6_readThing_119 : decode cX6_readThing 119 = .ok (.ireturn, 1) := by decide +kernel
theorem dX6_readSeat_0 : decode cX6_readSeat 0 = .ok (.aload_n 1, 1) := by decide +kernel
theorem dX6_readSeat_1 : decode cX6_readSeat 1 = .ok (.getfield 62, 3) := by decide +kernel
theorem dX6_readSeat_4 : decode cX6_readSeat 4 = .ok (.bipush 6, 2) := by decide +kernel
theorem dX6_readSeat_6 : decode cX6_readSeat 6 = .ok (.if_icmp .lt 9, 3) := by decide +kernel
theorem dX6_readSeat_9 : decode cX6_readSeat 9 = .ok (.aload_n 0, 1) := by decide +kernel
theorem dX6_readSeat_10 : decode cX6_readSeat 10 = .ok (.iconst 3, 1) := by decide +kernel
theorem dX6_readSeat_11 : decode cX6_readSeat 11 = .ok (.invokevirtual 45, 3) := by decide +kernel
theorem dX6_readSeat_14 : decode cX6_readSeat 14 = .ok (.ireturn, 1) := by decide +kernel
theorem dX6_readSeat_15 : decode cX6_readSeat 15 = .ok (.aload_n 0, 1) := by decide +kernel
theorem dX6_readSeat_16 : decode cX6_readSeat 16 = .ok (.dup, 1) := by decide +kernel
theorem dX6_readSeat_17 : decode cX6_readSeat 17 = .ok (.getfield 23, 3) := by decide +kernel
theorem dX6_readSeat_20 : decode cX6_readSeat 20 = .ok (.iconst 1, 1) := by decide +kernel
theorem dX6_readSeat_21 : decode cX6_readSeat 21 = .ok (.iadd, 1) := by decide +kernel
theorem dX6_readSeat_22 : decode cX6_readSeat 22 = .ok (.putfield 23, 3) := by decide +kernel
theorem dX6_readSeat_25 : decode cX6_readSeat 25 = .ok (.aload_n 0, 1) := by decide +kernel
theorem dX6_readSeat_26 : decode cX6_readSeat 26 = .ok (.iconst 0, 1) := by decide +kernel
theorem dX6_readSeat_27 : decode cX6_readSeat 27 = .ok (.bipush 9, 2) := by decide +kernel
theorem dX6_readSeat_29 : decode cX6_readSeat 29 = .ok (.bipush 44, 2) := by decide +kernel
theorem dX6_readSeat_31 : decode cX6_readSeat 31 = .ok (.invokevirtual 49, 3) := by decide +kernel
theorem dX6_readSeat_34 : decode cX6_readSeat 34 = .ok (.istore_n 2, 1) := by decide +kernel
theorem dX6_readSeat_35 : decode cX6_readSeat 35 = .ok (.iload_n 2, 1) := by decide +kernel
theorem dX6_readSeat_36 : decode cX6_readSeat 36 = .ok (.iconst (-1), 1) := by decide +kernel
theorem dX6_readSeat_37 : decode cX6_readSeat 37 = .ok (.if_icmp .ne 7, 3) := by decide +kernel
theorem dX6_readSeat_40 : decode cX6_readSeat 40 = .ok (.iconst (-1), 1) := by decide +kernel
theorem dX6_readSeat_41 : decode cX6_readSeat 41 = .ok (.goto 12, 3) := by decide +kernel
theorem dX6_readSeat_44 : decode cX6_readSeat 44 = .ok (.aload_n 0, 1) := by decide +kernel
theorem dX6_readSeat_45 : decode cX6_readSeat 45 = .ok (.iconst 1, 1) := by decide +kernel
theorem dX6_readSeat_46 : decode cX6_readSeat 46 = .ok (.bipush 20, 2) := by decide +kernel
theorem dX6_readSeat_48 : decode cX6_readSeat 48 = .ok (.bipush 59, 2) := by decide +kernel
theorem dX6_readSeat_50 : decode cX6_readSeat 50 = .ok (.invokevirtual 49, 3) := by decide +kernel
theorem dX6_readSeat_53 : decode cX6_readSeat 53 = .ok (.istore_n 3, 1) := by decide +kernel
theorem dX6_readSeat_54 : decode cX6_readSeat 54 = .ok (.iload_n 3, 1) := by decide +kernel
theorem dX6_readSeat_55 : decode cX6_readSeat 55 = .ok (.iconst (-1), 1) := by decide +kernel
theorem dX6_readSeat_56 : decode cX6_readSeat 56 = .ok (.if_icmp .ne 5, 3) := by decide +kernel
theorem dX6_readSeat_59 : decode cX6_readSeat 59 = .ok (.iconst 0, 1) := by decide +kernel
theorem dX6_readSeat_60 : decode cX6_readSeat 60 = .ok (.ireturn, 1) := by decide +kernel
theorem dX6_readSeat_61 : decode cX6_readSeat 61 = .ok (.aload_n 1, 1) := by decide +kernel
theorem dX6_readSeat_62 : decode cX6_readSeat 62 = .ok (.iload_n 2, 1) := by decide +kernel
theorem dX6_readSeat_63 : decode cX6_readSeat 63 = .ok (.iload_n 3, 1) := by decide +kernel
theorem dX6_readSeat_64 : decode cX6_readSeat 64 = .ok (.invokevirtual 72, 3) := by decide +kernel
theorem dX6_readSeat_67 : decode cX6_readSeat 67 = .ok (.iconst 1, 1) := by decide +kernel
theorem dX6_readSeat_68 : decode cX6_readSeat 68 = .ok (.ireturn, 1) := by decide +kernel
theorem dX6_readNumber_0 : decode cX6_readNumber 0 = .ok (.iconst 0, 1) := by decide +kernel
theorem dX6_readNumber_1 : decode cX6_readNumber 1 = .ok (.istore 4, 2) := by decide +kernel
theorem dX6_readNumber_3 : decode cX6_readNumber 3 = .ok (.iconst 0, 1) := by decide +kernel
theorem dX6_readNumber_4 : decode cX6_readNumber 4 = .ok (.istore 5, 2) := by decide +kernel
theorem dX6_readNumber_6 : decode cX6_readNumber 6 = .ok (.iload 4, 2) := by decide +kernel
theorem dX6_readNumber_8 : decode cX6_readNumber 8 = .ok (.iconst 2, 1) := by decide +kernel
theorem dX6_readNumber_9 : decode cX6_readNumber 9 = .ok (.if_icmp .gt 46, 3) := by decide +kernel
theorem dX6_readNumber_12 : decode cX6_readNumber 12 = .ok (.aload_n 0, 1) := by decide +kernel
theorem dX6_readNumber_13 : decode cX6_readNumber 13 = .ok (.aload_n 0, 1) := by decide +kernel
theorem dX6_readNumber_14 : decode cX6_readNumber 14 = .ok (.getfield 23, 3) := by decide +kernel
theorem dX6_readNumber_17 : decode cX6_readNumber 17 = .ok (.iload 4, 2) := by decide +kernel
theorem dX6_readNumber_19 : decode cX6_readNumber 19 = .ok (.iadd, 1) := by decide +kernel
theorem dX6_readNumber_20 : decode cX6_readNumber 20 = .ok (.invokevirtual 76, 3) := by decide +kernel
theorem dX6_readNumber_23 : decode cX6_readNumber 23 = .ok (.ifCond .eq 32, 3) := by decide +kernel
theorem dX6_readNumber_26 : decode cX6_readNumber 26 = .ok (.iload 5, 2) := by decide +kernel
theorem dX6_readNumber_28 : decode cX6_readNumber 28 = .ok (.bipush 10, 2) := by decide +kernel
theorem dX6_readNumber_30 : decode cX6_readNumber 30 = .ok (.imul, 1) := by decide +kernel
theorem dX6_readNumber_31 : decode cX6_readNumber 31 = .ok (.aload_n 0, 1) := by decide +kernel
theorem dX6_readNumber_32 : decode cX6_readNumber 32 = .ok (.getfield 9, 3) := by decide +kernel
theorem dX6_readNumber_35 : decode cX6_readNumber 35 = .ok (.aload_n 0, 1) := by decide +kernel
theorem dX6_readNumber_36 : decode cX6_readNumber 36 = .ok (.getfield 23, 3) := by decide +kernel
theorem dX6_readNumber_39 : decode cX6_readNumber 39 = .ok (.iload 4, 2) := by decide +kernel
theorem dX6_readNumber_41 : decode cX6_readNumber 41 = .ok (.iadd, 1) := by decide +kernel
theorem dX6_readNumber_42 : decode cX6_readNumber 42 = .ok (.iaload, 1) := by decide +kernel
theorem dX6_readNumber_43 : decode cX6_readNumber 43 = .ok (.iadd, 1) := by decide +kernel
theorem dX6_readNumber_44 : decode cX6_readNumber 44 = .ok (.bipush 48, 2) := by decide +kernel
theorem dX6_readNumber_46 : decode cX6_readNumber 46 = .ok (.isub, 1) := by decide +kernel
theorem dX6_readNumber_47 : decode cX6_readNumber 47 = .ok (.istore 5, 2) := by decide +kernel
theorem dX6_readNumber_49 : decode cX6_readNumber 49 = .ok (.iinc 4 1, 3) := by decide +kernel
theorem dX6_readNumber_52 : decode cX6_readNumber 52 = .ok (.goto (-46), 3) := by decide +kernel
theorem dX6_readNumber_55 : decode cX6_readNumber 55 = .ok (.iload 4, 2) := by decide +kernel
theorem dX6_readNumber_57 : decode cX6_readNumber 57 = .ok (.ifCond .eq 9, 3) := by decide +kernel
theorem dX6_readNumber_60 : decode cX6_readNumber 60 = .ok (.iload 4, 2) := by decide +kernel
theorem dX6_readNumber_62 : decode cX6_readNumber 62 = .ok (.iconst 2, 1) := by decide +kernel
theorem dX6_readNumber_63 : decode cX6_readNumber 63 = .ok (.if_icmp .le 11, 3) := by decide +kernel
theorem dX6_readNumber_66 : decode cX6_readNumber 66 = .ok (.aload_n 0, 1) := by decide +kernel
theorem dX6_readNumber_67 : decode cX6_readNumber 67 = .ok (.iconst 1, 1) := by decide +kernel
theorem dX6_readNumber_68 : decode cX6_readNumber 68 = .ok (.invokevirtual 45, 3) := by decide +kernel
theorem dX6_readNumber_71 : decode cX6_readNumber 71 = .ok (.pop, 1) := by decide +kernel
theorem dX6_readNumber_72 : decode cX6_readNumber 72 = .ok (.iconst (-1), 1) := by decide +kernel
theorem dX6_readNumber_73 : decode cX6_readNumber 73 = .ok (.ireturn, 1) := by decide +kernel
theorem dX6_readNumber_74 : decode cX6_readNumber 74 = .ok (.iload 5, 2) := by decide +kernel
theorem dX6_readNumber_76 : decode cX6_readNumber 76 = .ok (.iload_n 1, 1) := by decide +kernel
theorem dX6_readNumber_77 : decode cX6_readNumber 77 = .ok (.if_icmp .lt 9, 3) := by decide +kernel
theorem dX6_readNumber_80 : decode cX6_readNumber 80 = .ok (.iload 5, 2) := by decide +kernel
theorem dX6_readNumber_82 : decode cX6_readNumber 82 = .ok (.iload_n 2, 1) := by decide +kernel
theorem dX6_readNumber_83 : decode cX6_readNumber 83 = .ok (.if_icmp .le 11, 3) := by decide +kernel
theorem dX6_readNumber_86 : decode cX6_readNumber 86 = .ok (.aload_n 0, 1) := by decide +kernel
theorem dX6_readNumber_87 : decode cX6_readNumber 87 = .ok (.iconst 2, 1) := by decide +kernel
theorem dX6_readNumber_88 : decode cX6_readNumber 88 = .ok (.invokevirtual 45, 3) := by decide +kernel
theorem dX6_readNumber_91 : decode cX6_readNumber 91 = .ok (.pop, 1) := by decide +kernel
theorem dX6_readNumber_92 : decode cX6_readNumber 92 = .ok (.iconst (-1), 1) := by decide +kernel
theorem dX6_readNumber_93 : decode cX6_readNumber 93 = .ok (.ireturn, 1) := by decide +kernel
theorem dX6_readNumber_94 : decode cX6_readNumber 94 = .ok (.aload_n 0, 1) := by decide +kernel
theorem dX6_readNumber_95 : decode cX6_readNumber 95 = .ok (.dup, 1) := by decide +kernel
theorem dX6_readNumber_96 : decode cX6_readNumber 96 = .ok (.getfield 23, 3) := by decide +kernel
theorem dX6_readNumber_99 : decode cX6_readNumber 99 = .ok (.iload 4, 2) := by decide +kernel
theorem dX6_readNumber_101 : decode cX6_readNumber 101 = .ok (.iadd, 1) := by decide +kernel
theorem dX6_readNumber_102 : decode cX6_readNumber 102 = .ok (.putfield 23, 3) := by decide +kernel
theorem dX6_readNumber_105 : decode cX6_readNumber 105 = .ok (.aload_n 0, 1) := by decide +kernel
theorem dX6_readNumber_106 : decode cX6_readNumber 106 = .ok (.invokevirtual 38, 3) := by decide +kernel
theorem dX6_readNumber_109 : decode cX6_readNumber 109 = .ok (.iload_n 3, 1) := by decide +kernel
theorem dX6_readNumber_110 : decode cX6_readNumber 110 = .ok (.if_icmp .eq 11, 3) := by decide +kernel
theorem dX6_readNumber_113 : decode cX6_readNumber 113 = .ok (.aload_n 0, 1) := by decide +kernel
theorem dX6_readNumber_114 : decode cX6_readNumber 114 = .ok (.iconst 1, 1) := by decide +kernel
theorem dX6_readNumber_115 : decode cX6_readNumber 115 = .ok (.invokevirtual 45, 3) := by decide +kernel
theorem dX6_readNumber_118 : decode cX6_readNumber 118 = .ok (.pop, 1) := by decide +kernel
theorem dX6_readNumber_119 : decode cX6_readNumber 119 = .ok (.iconst (-1), 1) := by decide +kernel
theorem dX6_readNumber_120 : decode cX6_readNumber 120 = .ok (.ireturn, 1) := by decide +kernel
theorem dX6_readNumber_121 : decode cX6_readNumber 121 = .ok (.aload_n 0, 1) := by decide +kernel
theorem dX6_readNumber_122 : decode cX6_readNumber 122 = .ok (.dup, 1) := by decide +kernel
theorem dX6_readNumber_123 : decode cX6_readNumber 123 = .ok (.getfield 23, 3) := by decide +kernel
theorem dX6_readNumber_126 : decode cX6_readNumber 126 = .ok (.iconst 1, 1) := by decide +kernel
theorem dX6_readNumber_127 : decode cX6_readNumber 127 = .ok (.iadd, 1) := by decide +kernel
theorem dX6_readNumber_128 : decode cX6_readNumber 128 = .ok (.putfield 23, 3) := by decide +kernel
theorem dX6_readNumber_131 : decode cX6_readNumber 131 = .ok (.iload 5, 2) := by decide +kernel
theorem dX6_readNumber_133 : decode cX6_readNumber 133 = .ok (.ireturn, 1) := by decide +kernel
theorem dX6_isFigure_0 : decode cX6_isFigure 0 = .ok (.iload_n 1, 1) := by decide +kernel
theorem dX6_isFigure_1 : decode cX6_isFigure 1 = .ok (.ifCond .lt 37, 3) := by decide +kernel
theorem dX6_isFigure_4 : decode cX6_isFigure 4 = .ok (.iload_n 1, 1) := by decide +kernel
theorem dX6_isFigure_5 : decode cX6_isFigure 5 = .ok (.aload_n 0, 1) := by decide +kernel
theorem dX6_isFigure_6 : decode cX6_isFigure 6 = .ok (.getfield 13, 3) := by decide +kernel
theorem dX6_isFigure_9 : decode cX6_isFigure 9 = .ok (.if_icmp .ge 29, 3) := by decide +kernel
theorem dX6_isFigure_12 : decode cX6_isFigure 12 = .ok (.aload_n 0, 1) := by decide +kernel
theorem dX6_isFigure_13 : decode cX6_isFigure 13 = .ok (.getfield 9, 3) := by decide +kernel
theorem dX6_isFigure_16 : decode cX6_isFigure 16 = .ok (.iload_n 1, 1) := by decide +kernel
theorem dX6_isFigure_17 : decode cX6_isFigure 17 = .ok (.iaload, 1) := by decide +kernel
theorem dX6_isFigure_18 : decode cX6_isFigure 18 = .ok (.bipush 48, 2) := by decide +kernel
theorem dX6_isFigure_20 : decode cX6_isFigure 20 = .ok (.if_icmp .lt 18, 3) := by decide +kernel
theorem dX6_isFigure_23 : decode cX6_isFigure 23 = .ok (.aload_n 0, 1) := by decide +kernel
theorem dX6_isFigure_24 : decode cX6_isFigure 24 = .ok (.getfield 9, 3) := by decide +kernel
theorem dX6_isFigure_27 : decode cX6_isFigure 27 = .ok (.iload_n 1, 1) := by decide +kernel
theorem dX6_isFigure_28 : decode cX6_isFigure 28 = .ok (.iaload, 1) := by decide +kernel
theorem dX6_isFigure_29 : decode cX6_isFigure 29 = .ok (.bipush 57, 2) := by decide +kernel
theorem dX6_isFigure_31 : decode cX6_isFigure 31 = .ok (.if_icmp .gt 7, 3) := by decide +kernel
theorem dX6_isFigure_34 : decode cX6_isFigure 34 = .ok (.iconst 1, 1) := by decide +kernel
theorem dX6_isFigure_35 : decode cX6_isFigure 35 = .ok (.goto 4, 3) := by decide +kernel
theorem dX6_isFigure_38 : decode cX6_isFigure 38 = .ok (.iconst 0, 1) := by decide +kernel
theorem dX6_isFigure_39 : decode cX6_isFigure 39 = .ok (.ireturn, 1) := by decide +kernel
theorem dX6_here_0 : decode cX6_here 0 = .ok (.aload_n 0, 1) := by decide +kernel
theorem dX6_here_1 : decode cX6_here 1 = .ok (.getfield 23, 3) := by decide +kernel
theorem dX6_here_4 : decode cX6_here 4 = .ok (.aload_n 0, 1) := by decide +kernel
theorem dX6_here_5 : decode cX6_here 5 = .ok (.getfield 13, 3) := by decide +kernel
theorem dX6_here_8 : decode cX6_here 8 = .ok (.if_icmp .ge 15, 3) := by decide +kernel
theorem dX6_here_11 : decode cX6_here 11 = .ok (.aload_n 0, 1) := by decide +kernel
theorem dX6_here_12 : decode cX6_here 12 = .ok (.getfield 9, 3) := by decide +kernel
theorem dX6_here_15 : decode cX6_here 15 = .ok (.aload_n 0, 1) := by decide +kernel
theorem dX6_here_16 : decode cX6_here 16 = .ok (.getfield 23, 3) := by decide +kernel
theorem dX6_here_19 : decode cX6_here 19 = .ok (.iaload, 1) := by decide +kernel
theorem dX6_here_20 : decode cX6_here 20 = .ok (.goto 4, 3) := by decide +kernel
theorem dX6_here_23 : decode cX6_here 23 = .ok (.iconst (-1), 1) := by decide +kernel
theorem dX6_here_24 : decode cX6_here 24 = .ok (.ireturn, 1) := by decide +kernel
theorem dX6_sortHere_0 : decode cX6_sortHere 0 = .ok (.aload_n 0, 1) := by decide +kernel
theorem dX6_sortHere_1 : decode cX6_sortHere 1 = .ok (.getfield 23, 3) := by decide +kernel
theorem dX6_sortHere_4 : decode cX6_sortHere 4 = .ok (.aload_n 0, 1) := by decide +kernel
theorem dX6_sortHere_5 : decode cX6_sortHere 5 = .ok (.getfield 13, 3) := by decide +kernel
theorem dX6_sortHere_8 : decode cX6_sortHere 8 = .ok (.if_icmp .ge 21, 3) := by decide +kernel
theorem dX6_sortHere_11 : decode cX6_sortHere 11 = .ok (.ldc 79, 2) := by decide +kernel
theorem dX6_sortHere_13 : decode cX6_sortHere 13 = .ok (.aload_n 0, 1) := by decide +kernel
theorem dX6_sortHere_14 : decode cX6_sortHere 14 = .ok (.getfield 9, 3) := by decide +kernel
theorem dX6_sortHere_17 : decode cX6_sortHere 17 = .ok (.aload_n 0, 1) := by decide +kernel
theorem dX6_sortHere_18 : decode cX6_sortHere 18 = .ok (.getfield 23, 3) := by decide +kernel
theorem dX6_sortHere_21 : decode cX6_sortHere 21 = .ok (.iaload, 1) := by decide +kernel
theorem dX6_sortHere_22 : decode cX6_sortHere 22 = .ok (.i2c, 1) := by decide +kernel
theorem dX6_sortHere_23 : decode cX6_sortHere 23 = .ok (.invokevirtual 81, 3) := by decide +kernel
theorem dX6_sortHere_26 : decode cX6_sortHere 26 = .ok (.goto 4, 3) := by decide +kernel
theorem dX6_sortHere_29 : decode cX6_sortHere 29 = .ok (.iconst (-1), 1) := by decide +kernel
theorem dX6_sortHere_30 : decode cX6_sortHere 30 = .ok (.ireturn, 1) := by decide +kernel
theorem dX6_flawed_0 : decode cX6_flawed 0 = .ok (.aload_n 0, 1) := by decide +kernel
theorem dX6_flawed_1 : decode cX6_flawed 1 = .ok (.iload_n 1, 1) := by decide +kernel
theorem dX6_flawed_2 : decode cX6_flawed 2 = .ok (.putfield 17, 3) := by decide +kernel
theorem dX6_flawed_5 : decode cX6_flawed 5 = .ok (.aload_n 0, 1) := by decide +kernel
theorem dX6_flawed_6 : decode cX6_flawed 6 = .ok (.aload_n 0, 1) := by decide +kernel
theorem dX6_flawed_7 : decode cX6_flawed 7 = .ok (.getfield 23, 3) := by decide +kernel
theorem dX6_flawed_10 : decode cX6_flawed 10 = .ok (.putfield 20, 3) := by decide +kernel
theorem dX6_flawed_13 : decode cX6_flawed 13 = .ok (.iconst 0, 1) := by decide +kernel
theorem dX6_flawed_14 : decode cX6_flawed 14 = .ok (.ireturn, 1) := by decide +kernel
theorem dX7_init_0 : decode cX7_init 0 = .ok (.aload_n 0, 1) := by decide +kernel
theorem dX7_init_1 : decode cX7_init 1 = .ok (.invokespecial 1, 3) := by decide +kernel
theorem dX7_init_4 : decode cX7_init 4 = .ok (.aload_n 0, 1) := by decide +kernel
theorem dX7_init_5 : decode cX7_init 5 = .ok (.new 7, 3) := by decide +kernel
theorem dX7_init_8 : decode cX7_init 8 = .ok (.dup, 1) := by decide +kernel
theorem dX7_init_9 : decode cX7_init 9 = .ok (.invokespecial 9, 3) := by decide +kernel
theorem dX7_init_12 : decode cX7_init 12 = .ok (.putfield 10, 3) := by decide +kernel
theorem dX7_init_15 : decode cX7_init 15 = .ok (.aload_n 0, 1) := by decide +kernel
theorem dX7_init_16 : decode cX7_init 16 = .ok (.new 16, 3) := by decide +kernel
theorem dX7_init_19 : decode cX7_init 19 = .ok (.dup, 1) := by decide +kernel
theorem dX7_init_20 : decode cX7_init 20 = .ok (.invokespecial 18, 3) := by decide +kernel
theorem dX7_init_23 : decode cX7_init 23 = .ok (.putfield 19, 3) := by decide +kernel
theorem dX7_init_26 : decode cX7_init 26 = .ok (.aload_n 0, 1) := by decide +kernel
theorem dX7_init_27 : decode cX7_init 27 = .ok (.new 23, 3) := by decide +kernel
theorem dX7_init_30 : decode cX7_init 30 = .ok (.dup, 1) := by decide +kernel
theorem dX7_init_31 : decode cX7_init 31 = .ok (.invokespecial 25, 3) := by decide +kernel
theorem dX7_init_34 : decode cX7_init 34 = .ok (.putfield 26, 3) := by decide +kernel
theorem dX7_init_37 : decode cX7_init 37 = .ok (.aload_n 0, 1) := by decide +kernel
theorem dX7_init_38 : decode cX7_init 38 = .ok (.new 23, 3) := by decide +kernel
theorem dX7_init_41 : decode cX7_init 41 = .ok (.dup, 1) := by decide +kernel
theorem dX7_init_42 : decode cX7_init 42 = .ok (.invokespecial 25, 3) := by decide +kernel
theorem dX7_init_45 : decode cX7_init 45 = .ok (.putfield 30, 3) := by decide +kernel
theorem dX7_init_48 : decode cX7_init 48 = .ok (.aload_n 0, 1) := by decide +kernel
theorem dX7_init_49 : decode cX7_init 49 = .ok (.new 33, 3) := by decide +kernel
theorem dX7_init_52 : decode cX7_init 52 = .ok (.dup, 1) := by decide +kernel
theorem dX7_init_53 : decode cX7_init 53 = .ok (.invokespecial 35, 3) := by decide +kernel
theorem dX7_init_56 : decode cX7_init 56 = .ok (.putfield 36, 3) := by decide +kernel
theorem dX7_init_59 : decode cX7_init 59 = .ok (.aload_n 0, 1) := by decide +kernel
theorem dX7_init_60 : decode cX7_init 60 = .ok (.new 23, 3) := by decide +kernel
theorem dX7_init_63 : decode cX7_init 63 = .ok (.dup, 1) := by decide +kernel
theorem dX7_init_64 : decode cX7_init 64 = .ok (.invokespecial 25, 3) := by decide +kernel
theorem dX7_init_67 : decode cX7_init 67 = .ok (.putfield 40, 3) := by decide +kernel
theorem dX7_init_70 : decode cX7_init 70 = .ok (.aload_n 0, 1) := by decide +kernel
theorem dX7_init_71 : decode cX7_init 71 = .ok (.new 23, 3) := by decide +kernel
theorem dX7_init_74 : decode cX7_init 74 = .ok (.dup, 1) := by decide +kernel
theorem dX7_init_75 : decode cX7_init 75 = .ok (.invokespecial 25, 3) := by decide +kernel
theorem dX7_init_78 : decode cX7_init 78 = .ok (.putfield 43, 3) := by decide +kernel
theorem dX7_init_81 : decode cX7_init 81 = .ok (.aload_n 0, 1) := by decide +kernel
theorem dX7_init_82 : decode cX7_init 82 = .ok (.new 46, 3) := by decide +kernel
theorem dX7_init_85 : decode cX7_init 85 = .ok (.dup, 1) := by decide +kernel
theorem dX7_init_86 : decode cX7_init 86 = .ok (.invokespecial 48, 3) := by decide +kernel
theorem dX7_init_89 : decode cX7_init 89 = .ok (.putfield 49, 3) := by decide +kernel
theorem dX7_init_92 : decode cX7_init 92 = .ok (.aload_n 0, 1) := by decide +kernel
theorem dX7_init_93 : decode cX7_init 93 = .ok (.new 53, 3) := by decide +kernel
theorem dX7_init_96 : decode cX7_init 96 = .ok (.dup, 1) := by decide +kernel
theorem dX7_init_97 : decode cX7_init 97 = .ok (.invokespecial 55, 3) := by decide +kernel
theorem dX7_init_100 : decode cX7_init 100 = .ok (.putfield 56, 3) := by decide +kernel
theorem dX7_init_103 : decode cX7_init 103 = .ok (.aload_n 0, 1) := by decide +kernel
theorem dX7_init_104 : decode cX7_init 104 = .ok (.new 60, 3) := by decide +kernel
theorem dX7_init_107 : decode cX7_init 107 = .ok (.dup, 1) := by decide +kernel
theorem dX7_init_108 : decode cX7_init 108 = .ok (.invokespecial 62, 3) := by decide +kernel
theorem dX7_init_111 : decode cX7_init 111 = .ok (.putfield 63, 3) := by decide +kernel
theorem dX7_init_114 : decode cX7_init 114 = .ok (.aload_n 0, 1) := by decide +kernel
theorem dX7_init_115 : decode cX7_init 115 = .ok (.iconst 0, 1) := by decide +kernel
theorem dX7_init_116 : decode cX7_init 116 = .ok (.putfield 67, 3) := by decide +kernel
theorem dX7_init_119 : decode cX7_init 119 = .ok (.return_, 1) := by decide +kernel
theorem dX7_row_0 : decode cX7_row 0 = .ok (.iload_n 1, 1) := by decide +kernel
theorem dX7_row_1 : decode cX7_row 1 = .ok (.invokestatic 71, 3) := by decide +kernel
theorem dX7_row_4 : decode cX7_row 4 = .ok (.ifCond .eq 16, 3) := by decide +kernel
theorem dX7_row_7 : decode cX7_row 7 = .ok (.iload_n 2, 1) := by decide +kernel
theorem dX7_row_8 : decode cX7_row 8 = .ok (.invokestatic 75, 3) := by decide +kernel
theorem dX7_row_11 : decode cX7_row 11 = .ok (.ifCond .eq 9, 3) := by decide +kernel
theorem dX7_row_14 : decode cX7_row 14 = .ok (.iload_n 3, 1) := by decide +kernel
theorem dX7_row_15 : decode cX7_row 15 = .ok (.bipush 40, 2) := by decide +kernel
theorem dX7_row_17 : decode cX7_row 17 = .ok (.if_icmp .le 6, 3) := by decide +kernel
theorem dX7_row_20 : decode cX7_row 20 = .ok (.ldc 78, 2) := by decide +kernel
theorem dX7_row_22 : decode cX7_row 22 = .ok (.ireturn, 1) := by decide +kernel
theorem dX7_row_23 : decode cX7_row 23 = .ok (.iload_n 3, 1) := by decide +kernel
theorem dX7_row_24 : decode cX7_row 24 = .ok (.ifCond .ge 9, 3) := by decide +kernel
theorem dX7_row_27 : decode cX7_row 27 = .ok (.aload_n 0, 1) := by decide +kernel
theorem dX7_row_28 : decode cX7_row 28 = .ok (.iconst 4, 1) := by decide +kernel
theorem dX7_row_29 : decode cX7_row 29 = .ok (.invokevirtual 79, 3) := by decide +kernel
theorem dX7_row_32 : decode cX7_row 32 = .ok (.ireturn, 1) := by decide +kernel
theorem dX7_row_33 : decode cX7_row 33 = .ok (.aload_n 0, 1) := by decide +kernel
theorem dX7_row_34 : decode cX7_row 34 = .ok (.getfield 10, 3) := by decide +kernel
theorem dX7_row_37 : decode cX7_row 37 = .ok (.iload_n 1, 1) := by decide +kernel
theorem dX7_row_38 : decode cX7_row 38 = .ok (.iload_n 2, 1) := by decide +kernel
theorem dX7_row_39 : decode cX7_row 39 = .ok (.iload_n 3, 1) := by decide +kernel
theorem dX7_row_40 : decode cX7_row 40 = .ok (.invokevirtual 83, 3) := by decide +kernel
theorem dX7_row_43 : decode cX7_row 43 = .ok (.aload_n 0, 1) := by decide +kernel
theorem dX7_row_44 : decode cX7_row 44 = .ok (.iload_n 3, 1) := by decide +kernel
theorem dX7_row_45 : decode cX7_row 45 = .ok (.invokevirtual 87, 3) := by decide +kernel
theorem dX7_row_48 : decode cX7_row 48 = .ok (.ireturn, 1) := by decide +kernel
theorem dX7_set_0 : decode cX7_set 0 = .ok (.iload_n 1, 1) := by decide +kernel
theorem dX7_set_1 : decode cX7_set 1 = .ok (.invokestatic 71, 3) := by decide +kernel
theorem dX7_set_4 : decode cX7_set 4 = .ok (.ifCond .ne 6, 3) := by decide +kernel
theorem dX7_set_7 : decode cX7_set 7 = .ok (.ldc 78, 2) := by decide +kernel
theorem dX7_set_9 : decode cX7_set 9 = .ok (.ireturn, 1) := by decide +kernel
theorem dX7_set_10 : decode cX7_set 10 = .ok (.aload_n 0, 1) := by decide +kernel
theorem dX7_set_11 : decode cX7_set 11 = .ok (.getfield 10, 3) := by decide +kernel
theorem dX7_set_14 : decode cX7_set 14 = .ok (.iload_n 1, 1) := by decide +kernel
theorem dX7_set_15 : decode cX7_set 15 = .ok (.iload_n 2, 1) := by decide +kernel
theorem dX7_set_16 : decode cX7_set 16 = .ok (.iconst 1, 1) := by decide +kernel
theorem dX7_set_17 : decode cX7_set 17 = .ok (.invokevirtual 90, 3) := by decide +kernel
theorem dX7_set_20 : decode cX7_set 20 = .ok (.istore 4, 2) := by decide +kernel
theorem dX7_set_22 : decode cX7_set 22 = .ok (.iload 4, 2) := by decide +kernel
theorem dX7_set_24 : decode cX7_set 24 = .ok (.ifCond .eq 10, 3) := by decide +kernel
theorem dX7_set_27 : decode cX7_set 27 = .ok (.aload_n 0, 1) := by decide +kernel
theorem dX7_set_28 : decode cX7_set 28 = .ok (.iload 4, 2) := by decide +kernel
theorem dX7_set_30 : decode cX7_set 30 = .ok (.invokevirtual 79, 3) := by decide +kernel
theorem dX7_set_33 : decode cX7_set 33 = .ok (.ireturn, 1) := by decide +kernel
theorem dX7_set_34 : decode cX7_set 34 = .ok (.aload_n 0, 1) := by decide +kernel
theorem dX7_set_35 : decode cX7_set 35 = .ok (.aload_n 0, 1) := by decide +kernel
theorem dX7_set_36 : decode cX7_set 36 = .ok (.getfield 10, 3) := by decide +kernel
theorem dX7_set_39 : decode cX7_set 39 = .ok (.iload_n 1, 1) := by decide +kernel
theorem dX7_set_40 : decode cX7_set 40 = .ok (.iload_n 2, 1) := by decide +kernel
theorem dX7_set_41 : decode cX7_set 41 = .ok (.iload_n 3, 1) := by decide +kernel
theorem dX7_set_42 : decode cX7_set 42 = .ok (.invokevirtual 94, 3) := by decide +kernel
theorem dX7_set_45 : decode cX7_set 45 = .ok (.invokevirtual 87, 3) := by decide +kernel
theorem dX7_set_48 : decode cX7_set 48 = .ok (.ireturn, 1) := by decide +kernel
theorem dX7_copy_0 : decode cX7_copy 0 = .ok (.iload_n 1, 1) := by decide +kernel
theorem dX7_copy_1 : decode cX7_copy 1 = .ok (.invokestatic 71, 3) := by decide +kernel
theorem dX7_copy_4 : decode cX7_copy 4 = .ok (.ifCond .eq 10, 3) := by decide +kernel
theorem dX7_copy_7 : decode cX7_copy 7 = .ok (.iload_n 3, 1) := by decide +kernel
theorem dX7_copy_8 : decode cX7_copy 8 = .ok (.invokestatic 71, 3) := by decide +kernel
theorem dX7_copy_11 : decode cX7_copy 11 = .ok (.ifCond .ne 6, 3) := by decide +kernel
theorem dX7_copy_14 : decode cX7_copy 14 = .ok (.ldc 78, 2) := by decide +kernel
theorem dX7_copy_16 : decode cX7_copy 16 = .ok (.ireturn, 1) := by decide +kernel
theorem dX7_copy_17 : decode cX7_copy 17 = .ok (.aload_n 0, 1) := by decide +kernel
theorem dX7_copy_18 : decode cX7_copy 18 = .ok (.getfield 10, 3) := by decide +kernel
theorem dX7_copy_21 : decode cX7_copy 21 = .ok (.iload_n 1, 1) := by decide +kernel
theorem dX7_copy_22 : decode cX7_copy 22 = .ok (.iload_n 2, 1) := by decide +kernel
theorem dX7_copy_23 : decode cX7_copy 23 = .ok (.iload_n 3, 1) := by decide +kernel
theorem dX7_copy_24 : decode cX7_copy 24 = .ok (.iload 4, 2) := by decide +kernel
theorem dX7_copy_26 : decode cX7_copy 26 = .ok (.iload 5, 2) := by decide +kernel
theorem dX7_copy_28 : decode cX7_copy 28 = .ok (.invokevirtual 97, 3) := by decide +kernel
theorem dX7_copy_31 : decode cX7_copy 31 = .ok (.istore 6, 2) := by decide +kernel
theorem dX7_copy_33 : decode cX7_copy 33 = .ok (.iload 6, 2) := by decide +kernel
theorem dX7_copy_35 : decode cX7_copy 35 = .ok (.ifCond .eq 10, 3) := by decide +kernel
theorem dX7_copy_38 : decode cX7_copy 38 = .ok (.aload_n 0, 1) := by decide +kernel
theorem dX7_copy_39 : decode cX7_copy 39 = .ok (.iload 6, 2) := by decide +kernel
theorem dX7_copy_41 : decode cX7_copy 41 = .ok (.invokevirtual 79, 3) := by decide +kernel
theorem dX7_copy_44 : decode cX7_copy 44 = .ok (.ireturn, 1) := by decide +kernel
theorem dX7_copy_45 : decode cX7_copy 45 = .ok (.aload_n 0, 1) := by decide +kernel
theorem dX7_copy_46 : decode cX7_copy 46 = .ok (.getfield 10, 3) := by decide +kernel
theorem dX7_copy_49 : decode cX7_copy 49 = .ok (.iload_n 1, 1) := by decide +kernel
theorem dX7_copy_50 : decode cX7_copy 50 = .ok (.iload_n 2, 1) := by decide +kernel
theorem dX7_copy_51 : decode cX7_copy 51 = .ok (.iload_n 3, 1) := by decide +kernel
theorem dX7_copy_52 : decode cX7_copy 52 = .ok (.iload 4, 2) := by decide +kernel
theorem dX7_copy_54 : decode cX7_copy 54 = .ok (.iload 5, 2) := by decide +kernel
theorem dX7_copy_56 : decode cX7_copy 56 = .ok (.invokevirtual 101, 3) := by decide +kernel
theorem dX7_copy_59 : decode cX7_copy 59 = .ok (.aload_n 0, 1) := by decide +kernel
theorem dX7_copy_60 : decode cX7_copy 60 = .ok (.iload 5, 2) := by decide +kernel
theorem dX7_copy_62 : decode cX7_copy 62 = .ok (.invokevirtual 87, 3) := by decide +kernel
theorem dX7_copy_65 : decode cX7_copy 65 = .ok (.ireturn, 1) := by decide +kernel
theorem dX7_drop_0 : decode cX7_drop 0 = .ok (.iload_n 1, 1) := by decide +kernel
theorem dX7_drop_1 : decode cX7_drop 1 = .ok (.invokestatic 71, 3) := by decide +kernel
theorem dX7_drop_4 : decode cX7_drop 4 = .ok (.ifCond .ne 6, 3) := by decide +kernel
theorem dX7_drop_7 : decode cX7_drop 7 = .ok (.ldc 78, 2) := by decide +kernel
theorem dX7_drop_9 : decode cX7_drop 9 = .ok (.ireturn, 1) := by decide +kernel
theorem dX7_drop_10 : decode cX7_drop 10 = .ok (.aload_n 0, 1) := by decide +kernel
theorem dX7_drop_11 : decode cX7_drop 11 = .ok (.getfield 10, 3) := by decide +kernel
theorem dX7_drop_14 : decode cX7_drop 14 = .ok (.iload_n 1, 1) := by decide +kernel
theorem dX7_drop_15 : decode cX7_drop 15 = .ok (.invokevirtual 105, 3) := by decide +kernel
theorem dX7_drop_18 : decode cX7_drop 18 = .ok (.ifCond .eq 9, 3) := by decide +kernel
theorem dX7_drop_21 : decode cX7_drop 21 = .ok (.aload_n 0, 1) := by decide +kernel
theorem dX7_drop_22 : decode cX7_drop 22 = .ok (.iconst 1, 1) := by decide +kernel
theorem dX7_drop_23 : decode cX7_drop 23 = .ok (.invokevirtual 79, 3) := by decide +kernel
theorem dX7_drop_26 : decode cX7_drop 26 = .ok (.ireturn, 1) := by decide +kernel
theorem dX7_drop_27 : decode cX7_drop 27 = .ok (.aload_n 0, 1) := by decide +kernel
theorem dX7_drop_28 : decode cX7_drop 28 = .ok (.aload_n 0, 1) := by decide +kernel
theorem dX7_drop_29 : decode cX7_drop 29 = .ok (.getfield 10, 3) := by decide +kernel
theorem dX7_drop_32 : decode cX7_drop 32 = .ok (.iload_n 1, 1) := by decide +kernel
theorem dX7_drop_33 : decode cX7_drop 33 = .ok (.invokevirtual 108, 3) := by decide +kernel
theorem dX7_drop_36 : decode cX7_drop 36 = .ok (.invokevirtual 87, 3) := by decide +kernel
theorem dX7_drop_39 : decode cX7_drop 39 = .ok (.ireturn, 1) := by decide +kernel
theorem dX7_feed_0 : decode cX7_feed 0 = .ok (.iload_n 1, 1) := by decide +kernel
theorem dX7_feed_1 : decode cX7_feed 1 = .ok (.ifCond .lt 10, 3) := by decide +kernel
theorem dX7_feed_4 : decode cX7_feed 4 = .ok (.iload_n 1, 1) := by decide +kernel
theorem dX7_feed_5 : decode cX7_feed 5 = .ok (.sipush 255, 3) := by decide +kernel
theorem dX7_feed_8 : decode cX7_feed 8 = .ok (.if_icmp .le 6, 3) := by decide +kernel
theorem dX7_feed_11 : decode cX7_feed 11 = .ok (.ldc 78, 2) := by decide +kernel
theorem dX7_feed_13 : decode cX7_feed 13 = .ok (.ireturn, 1) := by decide +kernel
theorem dX7_feed_14 : decode cX7_feed 14 = .ok (.aload_n 0, 1) := by decide +kernel
theorem dX7_feed_15 : decode cX7_feed 15 = .ok (.getfield 19, 3) := by decide +kernel
theorem dX7_feed_18 : decode cX7_feed 18 = .ok (.invokevirtual 111, 3) := by decide +kernel
theorem dX7_feed_21 : decode cX7_feed 21 = .ok (.ifCond .eq 6, 3) := by decide +kernel
theorem dX7_feed_24 : decode cX7_feed 24 = .ok (.ldc 115, 2) := by decide +kernel
theorem dX7_feed_26 : decode cX7_feed 26 = .ok (.ireturn, 1) := by decide +kernel
theorem dX7_feed_27 : decode cX7_feed 27 = .ok (.aload_n 0, 1) := by decide +kernel
theorem dX7_feed_28 : decode cX7_feed 28 = .ok (.getfield 19, 3) := by decide +kernel
theorem dX7_feed_31 : decode cX7_feed 31 = .ok (.iload_n 1, 1) := by decide +kernel
theorem dX7_feed_32 : decode cX7_feed 32 = .ok (.invokevirtual 116, 3) := by decide +kernel
theorem dX7_feed_35 : decode cX7_feed 35 = .ok (.ireturn, 1) := by decide +kernel
theorem dX7_show_0 : decode cX7_show 0 = .ok (.aload_n 0, 1) := by decide +kernel
theorem dX7_show_1 : decode cX7_show 1 = .ok (.getfield 19, 3) := by decide +kernel
theorem dX7_show_4 : decode cX7_show 4 = .ok (.aload_n 0, 1) := by decide +kernel
theorem dX7_show_5 : decode cX7_show 5 = .ok (.getfield 30, 3) := by decide +kernel
theorem dX7_show_8 : decode cX7_show 8 = .ok (.invokevirtual 119, 3) := by decide +kernel
theorem dX7_show_11 : decode cX7_show 11 = .ok (.istore_n 1, 1) := by decide +kernel
theorem dX7_show_12 : decode cX7_show 12 = .ok (.aload_n 0, 1) := by decide +kernel
theorem dX7_show_13 : decode cX7_show 13 = .ok (.getfield 19, 3) := by decide +kernel
theorem dX7_show_16 : decode cX7_show 16 = .ok (.invokevirtual 123, 3) := by decide +kernel
theorem dX7_show_19 : decode cX7_show 19 = .ok (.iload_n 1, 1) := by decide +kernel
theorem dX7_show_20 : decode cX7_show 20 = .ok (.ifCond .ne 14, 3) := by decide +kernel
theorem dX7_show_23 : decode cX7_show 23 = .ok (.ldc 126, 2) := by decide +kernel
theorem dX7_show_25 : decode cX7_show 25 = .ok (.aload_n 0, 1) := by decide +kernel
theorem dX7_show_26 : decode cX7_show 26 = .ok (.getfield 19, 3) := by decide +kernel
theorem dX7_show_29 : decode cX7_show 29 = .ok (.invokevirtual 127, 3) := by decide +kernel
theorem dX7_show_32 : decode cX7_show 32 = .ok (.isub, 1) := by decide +kernel
theorem dX7_show_33 : decode cX7_show 33 = .ok (.ireturn, 1) := by decide +kernel
theorem dX7_show_34 : decode cX7_show 34 = .ok (.aload_n 0, 1) := by decide +kernel
theorem dX7_show_35 : decode cX7_show 35 = .ok (.getfield 26, 3) := by decide +kernel
theorem dX7_show_38 : decode cX7_show 38 = .ok (.aload_n 0, 1) := by decide +kernel
theorem dX7_show_39 : decode cX7_show 39 = .ok (.getfield 30, 3) := by decide +kernel
theorem dX7_show_42 : decode cX7_show 42 = .ok (.invokevirtual 131, 3) := by decide +kernel
theorem dX7_show_45 : decode cX7_show 45 = .ok (.aload_n 0, 1) := by decide +kernel
theorem dX7_show_46 : decode cX7_show 46 = .ok (.getfield 36, 3) := by decide +kernel
theorem dX7_show_49 : decode cX7_show 49 = .ok (.invokevirtual 135, 3) := by decide +kernel
theorem dX7_show_52 : decode cX7_show 52 = .ok (.aload_n 0, 1) := by decide +kernel
theorem dX7_show_53 : decode cX7_show 53 = .ok (.getfield 26, 3) := by decide +kernel
theorem dX7_show_56 : decode cX7_show 56 = .ok (.getfield 138, 3) := by decide +kernel
theorem dX7_show_59 : decode cX7_show 59 = .ok (.ireturn, 1) := by decide +kernel
theorem dX7_fault_0 : decode cX7_fault 0 = .ok (.aload_n 0, 1) := by decide +kernel
theorem dX7_fault_1 : decode cX7_fault 1 = .ok (.getfield 19, 3) := by decide +kernel
theorem dX7_fault_4 : decode cX7_fault 4 = .ok (.invokevirtual 141, 3) := by decide +kernel
theorem dX7_fault_7 : decode cX7_fault 7 = .ok (.ireturn, 1) := by decide +kernel
theorem dX7_undo_0 : decode cX7_undo 0 = .ok (.aload_n 0, 1) := by decide +kernel
theorem dX7_undo_1 : decode cX7_undo 1 = .ok (.getfield 36, 3) := by decide +kernel
theorem dX7_undo_4 : decode cX7_undo 4 = .ok (.invokevirtual 144, 3) := by decide +kernel
theorem dX7_undo_7 : decode cX7_undo 7 = .ok (.ifCond .ne 6, 3) := by decide +kernel
theorem dX7_undo_10 : decode cX7_undo 10 = .ok (.ldc 147, 2) := by decide +kernel
theorem dX7_undo_12 : decode cX7_undo 12 = .ok (.ireturn, 1) := by decide +kernel
theorem dX7_undo_13 : decode cX7_undo 13 = .ok (.aload_n 0, 1) := by decide +kernel
theorem dX7_undo_14 : decode cX7_undo 14 = .ok (.getfield 36, 3) := by decide +kernel
theorem dX7_undo_17 : decode cX7_undo 17 = .ok (.aload_n 0, 1) := by decide +kernel
theorem dX7_undo_18 : decode cX7_undo 18 = .ok (.getfield 26, 3) := by decide +kernel
theorem dX7_undo_21 : decode cX7_undo 21 = .ok (.invokevirtual 148, 3) := by decide +kernel
theorem dX7_undo_24 : decode cX7_undo 24 = .ok (.aload_n 0, 1) := by decide +kernel
theorem dX7_undo_25 : decode cX7_undo 25 = .ok (.getfield 36, 3) := by decide +kernel
theorem dX7_undo_28 : decode cX7_undo 28 = .ok (.invokevirtual 144, 3) := by decide +kernel
theorem dX7_undo_31 : decode cX7_undo 31 = .ok (.ireturn, 1) := by decide +kernel
theorem dX7_taps_0 : decode cX7_taps 0 = .ok (.aload_n 0, 1) := by decide +kernel
theorem dX7_taps_1 : decode cX7_taps 1 = .ok (.invokevirtual 151, 3) := by decide +kernel
theorem dX7_taps_4 : decode cX7_taps 4 = .ok (.ifCond .eq 6, 3) := by decide +kernel
theorem dX7_taps_7 : decode cX7_taps 7 = .ok (.ldc 147, 2) := by decide +kernel
theorem dX7_taps_9 : decode cX7_taps 9 = .ok (.ireturn, 1) := by decide +kernel
theorem dX7_taps_10 : decode cX7_taps 10 = .ok (.iload_n 1, 1) := by decide +kernel
theorem dX7_taps_11 : decode cX7_taps 11 = .ok (.iconst 1, 1) := by decide +kernel
theorem dX7_taps_12 : decode cX7_taps 12 = .ok (.if_icmp .lt 9, 3) := by decide +kernel
theorem dX7_taps_15 : decode cX7_taps 15 = .ok (.iload_n 1, 1) := by decide +kernel
theorem dX7_taps_16 : decode cX7_taps 16 = .ok (.bipush 24, 2) := by decide +kernel
theorem dX7_taps_18 : decode cX7_taps 18 = .ok (.if_icmp .le 6, 3) := by decide +kernel
theorem dX7_taps_21 : decode cX7_taps 21 = .ok (.ldc 78, 2) := by decide +kernel
theorem dX7_taps_23 : decode cX7_taps 23 = .ok (.ireturn, 1) := by decide +kernel
theorem dX7_taps_24 : decode cX7_taps 24 = .ok (.aload_n 0, 1) := by decide +kernel
theorem dX7_taps_25 : decode cX7_taps 25 = .ok (.getfield 26, 3) := by decide +kernel
theorem dX7_taps_28 : decode cX7_taps 28 = .ok (.getfield 154, 3) := by decide +kernel
theorem dX7_taps_31 : decode cX7_taps 31 = .ok (.iload_n 1, 1) := by decide +kernel
theorem dX7_taps_32 : decode cX7_taps 32 = .ok (.iadd, 1) := by decide +kernel
theorem dX7_taps_33 : decode cX7_taps 33 = .ok (.sipush 999, 3) := by decide +kernel
theorem dX7_taps_36 : decode cX7_taps 36 = .ok (.if_icmp .le 6, 3) := by decide +kernel
theorem dX7_taps_39 : decode cX7_taps 39 = .ok (.ldc 115, 2) := by decide +kernel
theorem dX7_taps_41 : decode cX7_taps 41 = .ok (.ireturn, 1) := by decide +kernel
theorem dX7_taps_42 : decode cX7_taps 42 = .ok (.iconst 0, 1) := by decide +kernel
theorem dX7_taps_43 : decode cX7_taps 43 = .ok (.istore_n 2, 1) := by decide +kernel
theorem dX7_taps_44 : decode cX7_taps 44 = .ok (.iload_n 2, 1) := by decide +kernel
theorem dX7_taps_45 : decode cX7_taps 45 = .ok (.iload_n 1, 1) := by decide +kernel
theorem dX7_taps_46 : decode cX7_taps 46 = .ok (.if_icmp .ge 27, 3) := by decide +kernel
theorem dX7_taps_49 : decode cX7_taps 49 = .ok (.aload_n 0, 1) := by decide +kernel
theorem dX7_taps_50 : decode cX7_taps 50 = .ok (.getfield 36, 3) := by decide +kernel
theorem dX7_taps_53 : decode cX7_taps 53 = .ok (.aload_n 0, 1) := by decide +kernel
theorem dX7_taps_54 : decode cX7_taps 54 = .ok (.getfield 26, 3) := by decide +kernel
theorem dX7_taps_57 : decode cX7_taps 57 = .ok (.invokevirtual 157, 3) := by decide +kernel
theorem dX7_taps_60 : decode cX7_taps 60 = .ok (.aload_n 0, 1) := by decide +kernel
theorem dX7_taps_61 : decode cX7_taps 61 = .ok (.getfield 26, 3) := by decide +kernel
theorem dX7_taps_64 : decode cX7_taps 64 = .ok (.invokevirtual 160, 3) := by decide +kernel
theorem dX7_taps_67 : decode cX7_taps 67 = .ok (.iinc 2 1, 3) := by decide +kernel
theorem dX7_taps_70 : decode cX7_taps 70 = .ok (.goto (-26), 3) := by decide +kernel
theorem dX7_taps_73 : decode cX7_taps 73 = .ok (.aload_n 0, 1) := by decide +kernel
theorem dX7_taps_74 : decode cX7_taps 74 = .ok (.getfield 26, 3) := by decide +kernel
theorem dX7_taps_77 : decode cX7_taps 77 = .ok (.getfield 163, 3) := by decide +kernel
theorem dX7_taps_80 : decode cX7_taps 80 = .ok (.ireturn, 1) := by decide +kernel
theorem dX7_front_0 : decode cX7_front 0 = .ok (.aload_n 0, 1) := by decide +kernel
theorem dX7_front_1 : decode cX7_front 1 = .ok (.getfield 26, 3) := by decide +kernel
theorem dX7_front_4 : decode cX7_front 4 = .ok (.iload_n 1, 1) := by decide +kernel
theorem dX7_front_5 : decode cX7_front 5 = .ok (.invokevirtual 166, 3) := by decide +kernel
theorem dX7_front_8 : decode cX7_front 8 = .ok (.ifCond .ne 6, 3) := by decide +kernel
theorem dX7_front_11 : decode cX7_front 11 = .ok (.ldc 78, 2) := by decide +kernel
theorem dX7_front_13 : decode cX7_front 13 = .ok (.ireturn, 1) := by decide +kernel
theorem dX7_front_14 : decode cX7_front 14 = .ok (.aload_n 0, 1) := by decide +kernel
theorem dX7_front_15 : decode cX7_front 15 = .ok (.getfield 26, 3) := by decide +kernel
theorem dX7_front_18 : decode cX7_front 18 = .ok (.iload_n 1, 1) := by decide +kernel
theorem dX7_front_19 : decode cX7_front 19 = .ok (.invokevirtual 169, 3) := by decide +kernel
theorem dX7_front_22 : decode cX7_front 22 = .ok (.istore_n 2, 1) := by decide +kernel
theorem dX7_front_23 : decode cX7_front 23 = .ok (.iload_n 2, 1) := by decide +kernel
theorem dX7_front_24 : decode cX7_front 24 = .ok (.ifCond .ge 6, 3) := by decide +kernel
theorem dX7_front_27 : decode cX7_front 27 = .ok (.ldc 147, 2) := by decide +kernel
theorem dX7_front_29 : decode cX7_front 29 = .ok (.ireturn, 1) := by decide +kernel
theorem dX7_front_30 : decode cX7_front 30 = .ok (.aload_n 0, 1) := by decide +kernel
theorem dX7_front_31 : decode cX7_front 31 = .ok (.getfield 36, 3) := by decide +kernel
theorem dX7_front_34 : decode cX7_front 34 = .ok (.aload_n 0, 1) := by decide +kernel
theorem dX7_front_35 : decode cX7_front 35 = .ok (.getfield 26, 3) := by decide +kernel
theorem dX7_front_38 : decode cX7_front 38 = .ok (.invokevirtual 157, 3) := by decide +kernel
theorem dX7_front_41 : decode cX7_front 41 = .ok (.aload_n 0, 1) := by decide +kernel
theorem dX7_front_42 : decode cX7_front 42 = .ok (.getfield 26, 3) := by decide +kernel
theorem dX7_front_45 : decode cX7_front 45 = .ok (.iload_n 1, 1) := by decide +kernel
theorem dX7_front_46 : decode cX7_front 46 = .ok (.invokevirtual 172, 3) := by decide +kernel
theorem dX7_front_49 : decode cX7_front 49 = .ok (.iload_n 2, 1) := by decide +kernel
theorem dX7_front_50 : decode cX7_front 50 = .ok (.ireturn, 1) := by decide +kernel
theorem dX7_off_0 : decode cX7_off 0 = .ok (.aload_n 0, 1) := by decide +kernel
theorem dX7_off_1 : decode cX7_off 1 = .ok (.getfield 26, 3) := by decide +kernel
theorem dX7_off_4 : decode cX7_off 4 = .ok (.iload_n 1, 1) := by decide +kernel
theorem dX7_off_5 : decode cX7_off 5 = .ok (.invokevirtual 166, 3) := by decide +kernel
theorem dX7_off_8 : decode cX7_off 8 = .ok (.ifCond .ne 6, 3) := by decide +kernel
theorem dX7_off_11 : decode cX7_off 11 = .ok (.ldc 78, 2) := by decide +kernel
theorem dX7_off_13 : decode cX7_off 13 = .ok (.ireturn, 1) := by decide +kernel
theorem dX7_off_14 : decode cX7_off 14 = .ok (.aload_n 0, 1) := by decide +kernel
theorem dX7_off_15 : decode cX7_off 15 = .ok (.getfield 26, 3) := by decide +kernel
theorem dX7_off_18 : decode cX7_off 18 = .ok (.iload_n 1, 1) := by decide +kernel
theorem dX7_off_19 : decode cX7_off 19 = .ok (.invokevirtual 169, 3) := by decide +kernel
theorem dX7_off_22 : decode cX7_off 22 = .ok (.istore_n 2, 1) := by decide +kernel
theorem dX7_off_23 : decode cX7_off 23 = .ok (.iload_n 2, 1) := by decide +kernel
theorem dX7_off_24 : decode cX7_off 24 = .ok (.ifCond .ge 6, 3) := by decide +kernel
theorem dX7_off_27 : decode cX7_off 27 = .ok (.ldc 147, 2) := by decide +kernel
theorem dX7_off_29 : decode cX7_off 29 = .ok (.ireturn, 1) := by decide +kernel
theorem dX7_off_30 : decode cX7_off 30 = .ok (.aload_n 0, 1) := by decide +kernel
theorem dX7_off_31 : decode cX7_off 31 = .ok (.getfield 36, 3) := by decide +kernel
theorem dX7_off_34 : decode cX7_off 34 = .ok (.aload_n 0, 1) := by decide +kernel
theorem dX7_off_35 : decode cX7_off 35 = .ok (.getfield 26, 3) := by decide +kernel
theorem dX7_off_38 : decode cX7_off 38 = .ok (.invokevirtual 157, 3) := by decide +kernel
theorem dX7_off_41 : decode cX7_off 41 = .ok (.aload_n 0, 1) := by decide +kernel
theorem dX7_off_42 : decode cX7_off 42 = .ok (.getfield 26, 3) := by decide +kernel
theorem dX7_off_45 : decode cX7_off 45 = .ok (.iload_n 1, 1) := by decide +kernel
theorem dX7_off_46 : decode cX7_off 46 = .ok (.invokevirtual 176, 3) := by decide +kernel
theorem dX7_off_49 : decode cX7_off 49 = .ok (.iload_n 2, 1) := by decide +kernel
theorem dX7_off_50 : decode cX7_off 50 = .ok (.ireturn, 1) := by decide +kernel
theorem dX7_back_0 : decode cX7_back 0 = .ok (.aload_n 0, 1) := by decide +kernel
theorem dX7_back_1 : decode cX7_back 1 = .ok (.getfield 26, 3) := by decide +kernel
theorem dX7_back_4 : decode cX7_back 4 = .ok (.iload_n 1, 1) := by decide +kernel
theorem dX7_back_5 : decode cX7_back 5 = .ok (.invokevirtual 166, 3) := by decide +kernel
theorem dX7_back_8 : decode cX7_back 8 = .ok (.ifCond .ne 6, 3) := by decide +kernel
theorem dX7_back_11 : decode cX7_back 11 = .ok (.ldc 78, 2) := by decide +kernel
theorem dX7_back_13 : decode cX7_back 13 = .ok (.ireturn, 1) := by decide +kernel
theorem dX7_back_14 : decode cX7_back 14 = .ok (.aload_n 0, 1) := by decide +kernel
theorem dX7_back_15 : decode cX7_back 15 = .ok (.getfield 26, 3) := by decide +kernel
theorem dX7_back_18 : decode cX7_back 18 = .ok (.iload_n 1, 1) := by decide +kernel
theorem dX7_back_19 : decode cX7_back 19 = .ok (.invokevirtual 169, 3) := by decide +kernel
theorem dX7_back_22 : decode cX7_back 22 = .ok (.ifCond .lt 6, 3) := by decide +kernel
theorem dX7_back_25 : decode cX7_back 25 = .ok (.ldc 147, 2) := by decide +kernel
theorem dX7_back_27 : decode cX7_back 27 = .ok (.ireturn, 1) := by decide +kernel
theorem dX7_back_28 : decode cX7_back 28 = .ok (.aload_n 0, 1) := by decide +kernel
theorem dX7_back_29 : decode cX7_back 29 = .ok (.getfield 36, 3) := by decide +kernel
theorem dX7_back_32 : decode cX7_back 32 = .ok (.aload_n 0, 1) := by decide +kernel
theorem dX7_back_33 : decode cX7_back 33 = .ok (.getfield 26, 3) := by decide +kernel
theorem dX7_back_36 : decode cX7_back 36 = .ok (.invokevirtual 157, 3) := by decide +kernel
theorem dX7_back_39 : decode cX7_back 39 = .ok (.aload_n 0, 1) := by decide +kernel
theorem dX7_back_40 : decode cX7_back 40 = .ok (.getfield 26, 3) := by decide +kernel
theorem dX7_back_43 : decode cX7_back 43 = .ok (.iload_n 1, 1) := by decide +kernel
theorem dX7_back_44 : decode cX7_back 44 = .ok (.invokevirtual 179, 3) := by decide +kernel
theorem dX7_back_47 : decode cX7_back 47 = .ok (.aload_n 0, 1) := by decide +kernel
theorem dX7_back_48 : decode cX7_back 48 = .ok (.getfield 26, 3) := by decide +kernel
theorem dX7_back_51 : decode cX7_back 51 = .ok (.getfield 182, 3) := by decide +kernel
theorem dX7_back_54 : decode cX7_back 54 = .ok (.ireturn, 1) := by decide +kernel
theorem dX7_sit_0 : decode cX7_sit 0 = .ok (.aload_n 0, 1) := by decide +kernel
theorem dX7_sit_1 : decode cX7_sit 1 = .ok (.getfield 26, 3) := by decide +kernel
theorem dX7_sit_4 : decode cX7_sit 4 = .ok (.iload_n 1, 1) := by decide +kernel
theorem dX7_sit_5 : decode cX7_sit 5 = .ok (.invokevirtual 185, 3) := by decide +kernel
theorem dX7_sit_8 : decode cX7_sit 8 = .ok (.ifCond .eq 13, 3) := by decide +kernel
theorem dX7_sit_11 : decode cX7_sit 11 = .ok (.iload_n 2, 1) := by decide +kernel
