theorem dX8_readThing_104 : decode cX8_readThing 104 = .ok (.bipush 20, 2) := by decide +kernel
theorem dX8_readThing_106 : decode cX8_readThing 106 = .ok (.bipush 19, 2) := by decide +kernel
theorem dX8_readThing_108 : decode cX8_readThing 108 = .ok (.iload_n 2, 1) := by decide +kernel
theorem dX8_readThing_109 : decode cX8_readThing 109 = .ok (.iadd, 1) := by decide +kernel
theorem dX8_readThing_110 : decode cX8_readThing 110 = .ok (.bipush 44, 2) := by decide +kernel
theorem dX8_readThing_112 : decode cX8_readThing 112 = .ok (.invokevirtual 123, 3) := by decide +kernel
theorem dX8_readThing_115 : decode cX8_readThing 115 = .ok (.ifCond .eq 23, 3) := by decide +kernel
theorem dX8_readThing_118 : decode cX8_readThing 118 = .ok (.aload_n 0, 1) := by decide +kernel
theorem dX8_readThing_119 : decode cX8_readThing 119 = .ok (.iconst 0, 1) := by decide +kernel
theorem dX8_readThing_120 : decode cX8_readThing 120 = .ok (.bipush 9, 2) := by decide +kernel
theorem dX8_readThing_122 : decode cX8_readThing 122 = .ok (.bipush 25, 2) := by decide +kernel
theorem dX8_readThing_124 : decode cX8_readThing 124 = .ok (.iload_n 2, 1) := by decide +kernel
theorem dX8_readThing_125 : decode cX8_readThing 125 = .ok (.iadd, 1) := by decide +kernel
theorem dX8_readThing_126 : decode cX8_readThing 126 = .ok (.bipush 59, 2) := by decide +kernel
theorem dX8_readThing_128 : decode cX8_readThing 128 = .ok (.invokevirtual 123, 3) := by decide +kernel
theorem dX8_readThing_131 : decode cX8_readThing 131 = .ok (.ifCond .eq 7, 3) := by decide +kernel
theorem dX8_readThing_134 : decode cX8_readThing 134 = .ok (.iconst 1, 1) := by decide +kernel
theorem dX8_readThing_135 : decode cX8_readThing 135 = .ok (.goto 4, 3) := by decide +kernel
theorem dX8_readThing_138 : decode cX8_readThing 138 = .ok (.iconst 0, 1) := by decide +kernel
theorem dX8_readThing_139 : decode cX8_readThing 139 = .ok (.ireturn, 1) := by decide +kernel
theorem dX8_readSeat_0 : decode cX8_readSeat 0 = .ok (.aload_n 0, 1) := by decide +kernel
theorem dX8_readSeat_1 : decode cX8_readSeat 1 = .ok (.getfield 28, 3) := by decide +kernel
theorem dX8_readSeat_4 : decode cX8_readSeat 4 = .ok (.iconst 3, 1) := by decide +kernel
theorem dX8_readSeat_5 : decode cX8_readSeat 5 = .ok (.iaload, 1) := by decide +kernel
theorem dX8_readSeat_6 : decode cX8_readSeat 6 = .ok (.istore_n 1, 1) := by decide +kernel
theorem dX8_readSeat_7 : decode cX8_readSeat 7 = .ok (.iload_n 1, 1) := by decide +kernel
theorem dX8_readSeat_8 : decode cX8_readSeat 8 = .ok (.bipush 6, 2) := by decide +kernel
theorem dX8_readSeat_10 : decode cX8_readSeat 10 = .ok (.if_icmp .eq 12, 3) := by decide +kernel
theorem dX8_readSeat_13 : decode cX8_readSeat 13 = .ok (.aload_n 0, 1) := by decide +kernel
theorem dX8_readSeat_14 : decode cX8_readSeat 14 = .ok (.getfield 28, 3) := by decide +kernel
theorem dX8_readSeat_17 : decode cX8_readSeat 17 = .ok (.iconst 2, 1) := by decide +kernel
theorem dX8_readSeat_18 : decode cX8_readSeat 18 = .ok (.iaload, 1) := by decide +kernel
theorem dX8_readSeat_19 : decode cX8_readSeat 19 = .ok (.ifCond .ne 22, 3) := by decide +kernel
theorem dX8_readSeat_22 : decode cX8_readSeat 22 = .ok (.aload_n 0, 1) := by decide +kernel
theorem dX8_readSeat_23 : decode cX8_readSeat 23 = .ok (.aload_n 0, 1) := by decide +kernel
theorem dX8_readSeat_24 : decode cX8_readSeat 24 = .ok (.getfield 28, 3) := by decide +kernel
theorem dX8_readSeat_27 : decode cX8_readSeat 27 = .ok (.iconst 2, 1) := by decide +kernel
theorem dX8_readSeat_28 : decode cX8_readSeat 28 = .ok (.iaload, 1) := by decide +kernel
theorem dX8_readSeat_29 : decode cX8_readSeat 29 = .ok (.ifCond .ne 7, 3) := by decide +kernel
theorem dX8_readSeat_32 : decode cX8_readSeat 32 = .ok (.iconst 1, 1) := by decide +kernel
theorem dX8_readSeat_33 : decode cX8_readSeat 33 = .ok (.goto 4, 3) := by decide +kernel
theorem dX8_readSeat_36 : decode cX8_readSeat 36 = .ok (.iconst 3, 1) := by decide +kernel
theorem dX8_readSeat_37 : decode cX8_readSeat 37 = .ok (.invokevirtual 114, 3) := by decide +kernel
theorem dX8_readSeat_40 : decode cX8_readSeat 40 = .ok (.ireturn, 1) := by decide +kernel
theorem dX8_readSeat_41 : decode cX8_readSeat 41 = .ok (.aload_n 0, 1) := by decide +kernel
theorem dX8_readSeat_42 : decode cX8_readSeat 42 = .ok (.invokevirtual 117, 3) := by decide +kernel
theorem dX8_readSeat_45 : decode cX8_readSeat 45 = .ok (.aload_n 0, 1) := by decide +kernel
theorem dX8_readSeat_46 : decode cX8_readSeat 46 = .ok (.getfield 28, 3) := by decide +kernel
theorem dX8_readSeat_49 : decode cX8_readSeat 49 = .ok (.iconst 3, 1) := by decide +kernel
theorem dX8_readSeat_50 : decode cX8_readSeat 50 = .ok (.dup2, 1) := by decide +kernel
theorem dX8_readSeat_51 : decode cX8_readSeat 51 = .ok (.iaload, 1) := by decide +kernel
theorem dX8_readSeat_52 : decode cX8_readSeat 52 = .ok (.iconst 1, 1) := by decide +kernel
theorem dX8_readSeat_53 : decode cX8_readSeat 53 = .ok (.iadd, 1) := by decide +kernel
theorem dX8_readSeat_54 : decode cX8_readSeat 54 = .ok (.iastore, 1) := by decide +kernel
theorem dX8_readSeat_55 : decode cX8_readSeat 55 = .ok (.aload_n 0, 1) := by decide +kernel
theorem dX8_readSeat_56 : decode cX8_readSeat 56 = .ok (.iconst 0, 1) := by decide +kernel
theorem dX8_readSeat_57 : decode cX8_readSeat 57 = .ok (.bipush 9, 2) := by decide +kernel
theorem dX8_readSeat_59 : decode cX8_readSeat 59 = .ok (.bipush 37, 2) := by decide +kernel
theorem dX8_readSeat_61 : decode cX8_readSeat 61 = .ok (.iload_n 1, 1) := by decide +kernel
theorem dX8_readSeat_62 : decode cX8_readSeat 62 = .ok (.iadd, 1) := by decide +kernel
theorem dX8_readSeat_63 : decode cX8_readSeat 63 = .ok (.bipush 44, 2) := by decide +kernel
theorem dX8_readSeat_65 : decode cX8_readSeat 65 = .ok (.invokevirtual 123, 3) := by decide +kernel
theorem dX8_readSeat_68 : decode cX8_readSeat 68 = .ok (.ifCond .eq 23, 3) := by decide +kernel
theorem dX8_readSeat_71 : decode cX8_readSeat 71 = .ok (.aload_n 0, 1) := by decide +kernel
theorem dX8_readSeat_72 : decode cX8_readSeat 72 = .ok (.iconst 1, 1) := by decide +kernel
theorem dX8_readSeat_73 : decode cX8_readSeat 73 = .ok (.bipush 20, 2) := by decide +kernel
theorem dX8_readSeat_75 : decode cX8_readSeat 75 = .ok (.bipush 43, 2) := by decide +kernel
theorem dX8_readSeat_77 : decode cX8_readSeat 77 = .ok (.iload_n 1, 1) := by decide +kernel
theorem dX8_readSeat_78 : decode cX8_readSeat 78 = .ok (.iadd, 1) := by decide +kernel
theorem dX8_readSeat_79 : decode cX8_readSeat 79 = .ok (.bipush 59, 2) := by decide +kernel
theorem dX8_readSeat_81 : decode cX8_readSeat 81 = .ok (.invokevirtual 123, 3) := by decide +kernel
theorem dX8_readSeat_84 : decode cX8_readSeat 84 = .ok (.ifCond .eq 7, 3) := by decide +kernel
theorem dX8_readSeat_87 : decode cX8_readSeat 87 = .ok (.iconst 1, 1) := by decide +kernel
theorem dX8_readSeat_88 : decode cX8_readSeat 88 = .ok (.goto 4, 3) := by decide +kernel
theorem dX8_readSeat_91 : decode cX8_readSeat 91 = .ok (.iconst 0, 1) := by decide +kernel
theorem dX8_readSeat_92 : decode cX8_readSeat 92 = .ok (.ireturn, 1) := by decide +kernel
theorem dX8_readShow_0 : decode cX8_readShow 0 = .ok (.aload_n 0, 1) := by decide +kernel
theorem dX8_readShow_1 : decode cX8_readShow 1 = .ok (.iconst 0, 1) := by decide +kernel
theorem dX8_readShow_2 : decode cX8_readShow 2 = .ok (.putfield 88, 3) := by decide +kernel
theorem dX8_readShow_5 : decode cX8_readShow 5 = .ok (.iconst 0, 1) := by decide +kernel
theorem dX8_readShow_6 : decode cX8_readShow 6 = .ok (.istore_n 1, 1) := by decide +kernel
theorem dX8_readShow_7 : decode cX8_readShow 7 = .ok (.iload_n 1, 1) := by decide +kernel
theorem dX8_readShow_8 : decode cX8_readShow 8 = .ok (.bipush 55, 2) := by decide +kernel
theorem dX8_readShow_10 : decode cX8_readShow 10 = .ok (.if_icmp .ge 16, 3) := by decide +kernel
theorem dX8_readShow_13 : decode cX8_readShow 13 = .ok (.aload_n 0, 1) := by decide +kernel
theorem dX8_readShow_14 : decode cX8_readShow 14 = .ok (.getfield 28, 3) := by decide +kernel
theorem dX8_readShow_17 : decode cX8_readShow 17 = .ok (.iload_n 1, 1) := by decide +kernel
theorem dX8_readShow_18 : decode cX8_readShow 18 = .ok (.iconst 0, 1) := by decide +kernel
theorem dX8_readShow_19 : decode cX8_readShow 19 = .ok (.iastore, 1) := by decide +kernel
theorem dX8_readShow_20 : decode cX8_readShow 20 = .ok (.iinc 1 1, 3) := by decide +kernel
theorem dX8_readShow_23 : decode cX8_readShow 23 = .ok (.goto (-16), 3) := by decide +kernel
theorem dX8_readShow_26 : decode cX8_readShow 26 = .ok (.aload_n 0, 1) := by decide +kernel
theorem dX8_readShow_27 : decode cX8_readShow 27 = .ok (.invokevirtual 117, 3) := by decide +kernel
theorem dX8_readShow_30 : decode cX8_readShow 30 = .ok (.aload_n 0, 1) := by decide +kernel
theorem dX8_readShow_31 : decode cX8_readShow 31 = .ok (.bipush 114, 2) := by decide +kernel
theorem dX8_readShow_33 : decode cX8_readShow 33 = .ok (.invokevirtual 120, 3) := by decide +kernel
theorem dX8_readShow_36 : decode cX8_readShow 36 = .ok (.ifCond .eq 29, 3) := by decide +kernel
theorem dX8_readShow_39 : decode cX8_readShow 39 = .ok (.aload_n 0, 1) := by decide +kernel
theorem dX8_readShow_40 : decode cX8_readShow 40 = .ok (.iconst 0, 1) := by decide +kernel
theorem dX8_readShow_41 : decode cX8_readShow 41 = .ok (.bipush 60, 2) := by decide +kernel
theorem dX8_readShow_43 : decode cX8_readShow 43 = .ok (.iconst 0, 1) := by decide +kernel
theorem dX8_readShow_44 : decode cX8_readShow 44 = .ok (.bipush 44, 2) := by decide +kernel
theorem dX8_readShow_46 : decode cX8_readShow 46 = .ok (.invokevirtual 123, 3) := by decide +kernel
theorem dX8_readShow_49 : decode cX8_readShow 49 = .ok (.ifCond .eq 16, 3) := by decide +kernel
theorem dX8_readShow_52 : decode cX8_readShow 52 = .ok (.aload_n 0, 1) := by decide +kernel
theorem dX8_readShow_53 : decode cX8_readShow 53 = .ok (.iconst 0, 1) := by decide +kernel
theorem dX8_readShow_54 : decode cX8_readShow 54 = .ok (.bipush 9, 2) := by decide +kernel
theorem dX8_readShow_56 : decode cX8_readShow 56 = .ok (.iconst 1, 1) := by decide +kernel
theorem dX8_readShow_57 : decode cX8_readShow 57 = .ok (.bipush 59, 2) := by decide +kernel
theorem dX8_readShow_59 : decode cX8_readShow 59 = .ok (.invokevirtual 123, 3) := by decide +kernel
theorem dX8_readShow_62 : decode cX8_readShow 62 = .ok (.ifCond .ne 5, 3) := by decide +kernel
theorem dX8_readShow_65 : decode cX8_readShow 65 = .ok (.iconst 0, 1) := by decide +kernel
theorem dX8_readShow_66 : decode cX8_readShow 66 = .ok (.ireturn, 1) := by decide +kernel
theorem dX8_readShow_67 : decode cX8_readShow 67 = .ok (.iconst 1, 1) := by decide +kernel
theorem dX8_readShow_68 : decode cX8_readShow 68 = .ok (.istore_n 1, 1) := by decide +kernel
theorem dX8_readShow_69 : decode cX8_readShow 69 = .ok (.iload_n 1, 1) := by decide +kernel
theorem dX8_readShow_70 : decode cX8_readShow 70 = .ok (.ifCond .eq 124, 3) := by decide +kernel
theorem dX8_readShow_73 : decode cX8_readShow 73 = .ok (.aload_n 0, 1) := by decide +kernel
theorem dX8_readShow_74 : decode cX8_readShow 74 = .ok (.getfield 94, 3) := by decide +kernel
theorem dX8_readShow_77 : decode cX8_readShow 77 = .ok (.iconst 3, 1) := by decide +kernel
theorem dX8_readShow_78 : decode cX8_readShow 78 = .ok (.if_icmp .ne 12, 3) := by decide +kernel
theorem dX8_readShow_81 : decode cX8_readShow 81 = .ok (.aload_n 0, 1) := by decide +kernel
theorem dX8_readShow_82 : decode cX8_readShow 82 = .ok (.getfield 28, 3) := by decide +kernel
theorem dX8_readShow_85 : decode cX8_readShow 85 = .ok (.iconst 2, 1) := by decide +kernel
theorem dX8_readShow_86 : decode cX8_readShow 86 = .ok (.iaload, 1) := by decide +kernel
theorem dX8_readShow_87 : decode cX8_readShow 87 = .ok (.ifCond .ne 107, 3) := by decide +kernel
theorem dX8_readShow_90 : decode cX8_readShow 90 = .ok (.aload_n 0, 1) := by decide +kernel
theorem dX8_readShow_91 : decode cX8_readShow 91 = .ok (.bipush 112, 2) := by decide +kernel
theorem dX8_readShow_93 : decode cX8_readShow 93 = .ok (.invokevirtual 111, 3) := by decide +kernel
theorem dX8_readShow_96 : decode cX8_readShow 96 = .ok (.ifCond .eq 7, 3) := by decide +kernel
theorem dX8_readShow_99 : decode cX8_readShow 99 = .ok (.iconst 1, 1) := by decide +kernel
theorem dX8_readShow_100 : decode cX8_readShow 100 = .ok (.goto 56, 3) := by decide +kernel
theorem dX8_readShow_103 : decode cX8_readShow 103 = .ok (.aload_n 0, 1) := by decide +kernel
theorem dX8_readShow_104 : decode cX8_readShow 104 = .ok (.bipush 98, 2) := by decide +kernel
theorem dX8_readShow_106 : decode cX8_readShow 106 = .ok (.invokevirtual 111, 3) := by decide +kernel
theorem dX8_readShow_109 : decode cX8_readShow 109 = .ok (.ifCond .eq 7, 3) := by decide +kernel
theorem dX8_readShow_112 : decode cX8_readShow 112 = .ok (.iconst 2, 1) := by decide +kernel
theorem dX8_readShow_113 : decode cX8_readShow 113 = .ok (.goto 43, 3) := by decide +kernel
theorem dX8_readShow_116 : decode cX8_readShow 116 = .ok (.aload_n 0, 1) := by decide +kernel
theorem dX8_readShow_117 : decode cX8_readShow 117 = .ok (.bipush 102, 2) := by decide +kernel
theorem dX8_readShow_119 : decode cX8_readShow 119 = .ok (.invokevirtual 111, 3) := by decide +kernel
theorem dX8_readShow_122 : decode cX8_readShow 122 = .ok (.ifCond .eq 7, 3) := by decide +kernel
theorem dX8_readShow_125 : decode cX8_readShow 125 = .ok (.iconst 3, 1) := by decide +kernel
theorem dX8_readShow_126 : decode cX8_readShow 126 = .ok (.goto 30, 3) := by decide +kernel
theorem dX8_readShow_129 : decode cX8_readShow 129 = .ok (.aload_n 0, 1) := by decide +kernel
theorem dX8_readShow_130 : decode cX8_readShow 130 = .ok (.bipush 108, 2) := by decide +kernel
theorem dX8_readShow_132 : decode cX8_readShow 132 = .ok (.invokevirtual 111, 3) := by decide +kernel
theorem dX8_readShow_135 : decode cX8_readShow 135 = .ok (.ifCond .eq 7, 3) := by decide +kernel
theorem dX8_readShow_138 : decode cX8_readShow 138 = .ok (.iconst 4, 1) := by decide +kernel
theorem dX8_readShow_139 : decode cX8_readShow 139 = .ok (.goto 17, 3) := by decide +kernel
theorem dX8_readShow_142 : decode cX8_readShow 142 = .ok (.aload_n 0, 1) := by decide +kernel
theorem dX8_readShow_143 : decode cX8_readShow 143 = .ok (.bipush 104, 2) := by decide +kernel
theorem dX8_readShow_145 : decode cX8_readShow 145 = .ok (.invokevirtual 111, 3) := by decide +kernel
theorem dX8_readShow_148 : decode cX8_readShow 148 = .ok (.ifCond .eq 7, 3) := by decide +kernel
theorem dX8_readShow_151 : decode cX8_readShow 151 = .ok (.iconst 5, 1) := by decide +kernel
theorem dX8_readShow_152 : decode cX8_readShow 152 = .ok (.goto 4, 3) := by decide +kernel
theorem dX8_readShow_155 : decode cX8_readShow 155 = .ok (.iconst 0, 1) := by decide +kernel
theorem dX8_readShow_156 : decode cX8_readShow 156 = .ok (.istore_n 2, 1) := by decide +kernel
theorem dX8_readShow_157 : decode cX8_readShow 157 = .ok (.iload_n 2, 1) := by decide +kernel
theorem dX8_readShow_158 : decode cX8_readShow 158 = .ok (.ifCond .le 11, 3) := by decide +kernel
theorem dX8_readShow_161 : decode cX8_readShow 161 = .ok (.aload_n 0, 1) := by decide +kernel
theorem dX8_readShow_162 : decode cX8_readShow 162 = .ok (.iload_n 2, 1) := by decide +kernel
theorem dX8_readShow_163 : decode cX8_readShow 163 = .ok (.invokevirtual 127, 3) := by decide +kernel
theorem dX8_readShow_166 : decode cX8_readShow 166 = .ok (.goto 24, 3) := by decide +kernel
theorem dX8_readShow_169 : decode cX8_readShow 169 = .ok (.aload_n 0, 1) := by decide +kernel
theorem dX8_readShow_170 : decode cX8_readShow 170 = .ok (.bipush 122, 2) := by decide +kernel
theorem dX8_readShow_172 : decode cX8_readShow 172 = .ok (.invokevirtual 111, 3) := by decide +kernel
theorem dX8_readShow_175 : decode cX8_readShow 175 = .ok (.ifCond .eq 10, 3) := by decide +kernel
theorem dX8_readShow_178 : decode cX8_readShow 178 = .ok (.aload_n 0, 1) := by decide +kernel
theorem dX8_readShow_179 : decode cX8_readShow 179 = .ok (.invokevirtual 130, 3) := by decide +kernel
theorem dX8_readShow_182 : decode cX8_readShow 182 = .ok (.goto 8, 3) := by decide +kernel
theorem dX8_readShow_185 : decode cX8_readShow 185 = .ok (.aload_n 0, 1) := by decide +kernel
theorem dX8_readShow_186 : decode cX8_readShow 186 = .ok (.iconst 1, 1) := by decide +kernel
theorem dX8_readShow_187 : decode cX8_readShow 187 = .ok (.invokevirtual 114, 3) := by decide +kernel
theorem dX8_readShow_190 : decode cX8_readShow 190 = .ok (.istore_n 1, 1) := by decide +kernel
theorem dX8_readShow_191 : decode cX8_readShow 191 = .ok (.goto (-122), 3) := by decide +kernel
theorem dX8_readShow_194 : decode cX8_readShow 194 = .ok (.iload_n 1, 1) := by decide +kernel
theorem dX8_readShow_195 : decode cX8_readShow 195 = .ok (.ireturn, 1) := by decide +kernel
theorem dX8_show_0 : decode cX8_show 0 = .ok (.aload_n 0, 1) := by decide +kernel
theorem dX8_show_1 : decode cX8_show 1 = .ok (.invokevirtual 134, 3) := by decide +kernel
theorem dX8_show_4 : decode cX8_show 4 = .ok (.istore_n 1, 1) := by decide +kernel
theorem dX8_show_5 : decode cX8_show 5 = .ok (.aload_n 0, 1) := by decide +kernel
theorem dX8_show_6 : decode cX8_show 6 = .ok (.iconst 0, 1) := by decide +kernel
theorem dX8_show_7 : decode cX8_show 7 = .ok (.putfield 84, 3) := by decide +kernel
theorem dX8_show_10 : decode cX8_show 10 = .ok (.iload_n 1, 1) := by decide +kernel
theorem dX8_show_11 : decode cX8_show 11 = .ok (.ifCond .ne 19, 3) := by decide +kernel
theorem dX8_show_14 : decode cX8_show 14 = .ok (.aload_n 0, 1) := by decide +kernel
theorem dX8_show_15 : decode cX8_show 15 = .ok (.aload_n 0, 1) := by decide +kernel
theorem dX8_show_16 : decode cX8_show 16 = .ok (.getfield 108, 3) := by decide +kernel
theorem dX8_show_19 : decode cX8_show 19 = .ok (.putfield 137, 3) := by decide +kernel
theorem dX8_show_22 : decode cX8_show 22 = .ok (.ldc 140, 2) := by decide +kernel
theorem dX8_show_24 : decode cX8_show 24 = .ok (.aload_n 0, 1) := by decide +kernel
theorem dX8_show_25 : decode cX8_show 25 = .ok (.getfield 91, 3) := by decide +kernel
theorem dX8_show_28 : decode cX8_show 28 = .ok (.isub, 1) := by decide +kernel
theorem dX8_show_29 : decode cX8_show 29 = .ok (.ireturn, 1) := by decide +kernel
theorem dX8_show_30 : decode cX8_show 30 = .ok (.iconst 0, 1) := by decide +kernel
theorem dX8_show_31 : decode cX8_show 31 = .ok (.istore_n 2, 1) := by decide +kernel
theorem dX8_show_32 : decode cX8_show 32 = .ok (.iload_n 2, 1) := by decide +kernel
theorem dX8_show_33 : decode cX8_show 33 = .ok (.bipush 55, 2) := by decide +kernel
theorem dX8_show_35 : decode cX8_show 35 = .ok (.if_icmp .ge 21, 3) := by decide +kernel
theorem dX8_show_38 : decode cX8_show 38 = .ok (.aload_n 0, 1) := by decide +kernel
theorem dX8_show_39 : decode cX8_show 39 = .ok (.getfield 19, 3) := by decide +kernel
theorem dX8_show_42 : decode cX8_show 42 = .ok (.iload_n 2, 1) := by decide +kernel
theorem dX8_show_43 : decode cX8_show 43 = .ok (.aload_n 0, 1) := by decide +kernel
theorem dX8_show_44 : decode cX8_show 44 = .ok (.getfield 28, 3) := by decide +kernel
theorem dX8_show_47 : decode cX8_show 47 = .ok (.iload_n 2, 1) := by decide +kernel
theorem dX8_show_48 : decode cX8_show 48 = .ok (.iaload, 1) := by decide +kernel
theorem dX8_show_49 : decode cX8_show 49 = .ok (.iastore, 1) := by decide +kernel
theorem dX8_show_50 : decode cX8_show 50 = .ok (.iinc 2 1, 3) := by decide +kernel
theorem dX8_show_53 : decode cX8_show 53 = .ok (.goto (-21), 3) := by decide +kernel
theorem dX8_show_56 : decode cX8_show 56 = .ok (.aload_n 0, 1) := by decide +kernel
theorem dX8_show_57 : decode cX8_show 57 = .ok (.iconst 1, 1) := by decide +kernel
theorem dX8_show_58 : decode cX8_show 58 = .ok (.putfield 141, 3) := by decide +kernel
theorem dX8_show_61 : decode cX8_show 61 = .ok (.aload_n 0, 1) := by decide +kernel
theorem dX8_show_62 : decode cX8_show 62 = .ok (.iconst 0, 1) := by decide +kernel
theorem dX8_show_63 : decode cX8_show 63 = .ok (.putfield 145, 3) := by decide +kernel
theorem dX8_show_66 : decode cX8_show 66 = .ok (.aload_n 0, 1) := by decide +kernel
theorem dX8_show_67 : decode cX8_show 67 = .ok (.getfield 19, 3) := by decide +kernel
theorem dX8_show_70 : decode cX8_show 70 = .ok (.iconst 2, 1) := by decide +kernel
theorem dX8_show_71 : decode cX8_show 71 = .ok (.iaload, 1) := by decide +kernel
theorem dX8_show_72 : decode cX8_show 72 = .ok (.ireturn, 1) := by decide +kernel
theorem dX8_fault_0 : decode cX8_fault 0 = .ok (.aload_n 0, 1) := by decide +kernel
theorem dX8_fault_1 : decode cX8_fault 1 = .ok (.getfield 137, 3) := by decide +kernel
theorem dX8_fault_4 : decode cX8_fault 4 = .ok (.ireturn, 1) := by decide +kernel
theorem dX8_isThing_0 : decode cX8_isThing 0 = .ok (.iload_n 1, 1) := by decide +kernel
theorem dX8_isThing_1 : decode cX8_isThing 1 = .ok (.i2l, 1) := by decide +kernel
theorem dX8_isThing_2 : decode cX8_isThing 2 = .ok (.lconst 0, 1) := by decide +kernel
theorem dX8_isThing_3 : decode cX8_isThing 3 = .ok (.aload_n 0, 1) := by decide +kernel
theorem dX8_isThing_4 : decode cX8_isThing 4 = .ok (.getfield 19, 3) := by decide +kernel
theorem dX8_isThing_7 : decode cX8_isThing 7 = .ok (.iconst 2, 1) := by decide +kernel
theorem dX8_isThing_8 : decode cX8_isThing 8 = .ok (.iaload, 1) := by decide +kernel
theorem dX8_isThing_9 : decode cX8_isThing 9 = .ok (.iconst 1, 1) := by decide +kernel
theorem dX8_isThing_10 : decode cX8_isThing 10 = .ok (.isub, 1) := by decide +kernel
theorem dX8_isThing_11 : decode cX8_isThing 11 = .ok (.i2l, 1) := by decide +kernel
theorem dX8_isThing_12 : decode cX8_isThing 12 = .ok (.invokestatic 60, 3) := by decide +kernel
theorem dX8_isThing_15 : decode cX8_isThing 15 = .ok (.ireturn, 1) := by decide +kernel
theorem dX8_isSeat_0 : decode cX8_isSeat 0 = .ok (.iload_n 1, 1) := by decide +kernel
theorem dX8_isSeat_1 : decode cX8_isSeat 1 = .ok (.i2l, 1) := by decide +kernel
theorem dX8_isSeat_2 : decode cX8_isSeat 2 = .ok (.lconst 0, 1) := by decide +kernel
theorem dX8_isSeat_3 : decode cX8_isSeat 3 = .ok (.aload_n 0, 1) := by decide +kernel
theorem dX8_isSeat_4 : decode cX8_isSeat 4 = .ok (.getfield 19, 3) := by decide +kernel
theorem dX8_isSeat_7 : decode cX8_isSeat 7 = .ok (.iconst 3, 1) := by decide +kernel
theorem dX8_isSeat_8 : decode cX8_isSeat 8 = .ok (.iaload, 1) := by decide +kernel
theorem dX8_isSeat_9 : decode cX8_isSeat 9 = .ok (.iconst 1, 1) := by decide +kernel
theorem dX8_isSeat_10 : decode cX8_isSeat 10 = .ok (.isub, 1) := by decide +kernel
theorem dX8_isSeat_11 : decode cX8_isSeat 11 = .ok (.i2l, 1) := by decide +kernel
theorem dX8_isSeat_12 : decode cX8_isSeat 12 = .ok (.invokestatic 60, 3) := by decide +kernel
theorem dX8_isSeat_15 : decode cX8_isSeat 15 = .ok (.ireturn, 1) := by decide +kernel
theorem dX8_seatsOf_0 : decode cX8_seatsOf 0 = .ok (.iconst 0, 1) := by decide +kernel
theorem dX8_seatsOf_1 : decode cX8_seatsOf 1 = .ok (.istore_n 2, 1) := by decide +kernel
theorem dX8_seatsOf_2 : decode cX8_seatsOf 2 = .ok (.iconst 0, 1) := by decide +kernel
theorem dX8_seatsOf_3 : decode cX8_seatsOf 3 = .ok (.istore_n 3, 1) := by decide +kernel
theorem dX8_seatsOf_4 : decode cX8_seatsOf 4 = .ok (.iload_n 3, 1) := by decide +kernel
theorem dX8_seatsOf_5 : decode cX8_seatsOf 5 = .ok (.aload_n 0, 1) := by decide +kernel
theorem dX8_seatsOf_6 : decode cX8_seatsOf 6 = .ok (.getfield 19, 3) := by decide +kernel
theorem dX8_seatsOf_9 : decode cX8_seatsOf 9 = .ok (.iconst 3, 1) := by decide +kernel
theorem dX8_seatsOf_10 : decode cX8_seatsOf 10 = .ok (.iaload, 1) := by decide +kernel
theorem dX8_seatsOf_11 : decode cX8_seatsOf 11 = .ok (.if_icmp .ge 32, 3) := by decide +kernel
theorem dX8_seatsOf_14 : decode cX8_seatsOf 14 = .ok (.iload_n 2, 1) := by decide +kernel
theorem dX8_seatsOf_15 : decode cX8_seatsOf 15 = .ok (.aload_n 0, 1) := by decide +kernel
theorem dX8_seatsOf_16 : decode cX8_seatsOf 16 = .ok (.getfield 19, 3) := by decide +kernel
theorem dX8_seatsOf_19 : decode cX8_seatsOf 19 = .ok (.bipush 49, 2) := by decide +kernel
theorem dX8_seatsOf_21 : decode cX8_seatsOf 21 = .ok (.iload_n 3, 1) := by decide +kernel
theorem dX8_seatsOf_22 : decode cX8_seatsOf 22 = .ok (.iadd, 1) := by decide +kernel
theorem dX8_seatsOf_23 : decode cX8_seatsOf 23 = .ok (.iaload, 1) := by decide +kernel
theorem dX8_seatsOf_24 : decode cX8_seatsOf 24 = .ok (.iload_n 1, 1) := by decide +kernel
theorem dX8_seatsOf_25 : decode cX8_seatsOf 25 = .ok (.if_icmp .ne 9, 3) := by decide +kernel
theorem dX8_seatsOf_28 : decode cX8_seatsOf 28 = .ok (.iconst 1, 1) := by decide +kernel
theorem dX8_seatsOf_29 : decode cX8_seatsOf 29 = .ok (.iload_n 3, 1) := by decide +kernel
theorem dX8_seatsOf_30 : decode cX8_seatsOf 30 = .ok (.ishl, 1) := by decide +kernel
theorem dX8_seatsOf_31 : decode cX8_seatsOf 31 = .ok (.goto 4, 3) := by decide +kernel
theorem dX8_seatsOf_34 : decode cX8_seatsOf 34 = .ok (.iconst 0, 1) := by decide +kernel
theorem dX8_seatsOf_35 : decode cX8_seatsOf 35 = .ok (.ior, 1) := by decide +kernel
theorem dX8_seatsOf_36 : decode cX8_seatsOf 36 = .ok (.istore_n 2, 1) := by decide +kernel
theorem dX8_seatsOf_37 : decode cX8_seatsOf 37 = .ok (.iinc 3 1, 3) := by decide +kernel
theorem dX8_seatsOf_40 : decode cX8_seatsOf 40 = .ok (.goto (-36), 3) := by decide +kernel
theorem dX8_seatsOf_43 : decode cX8_seatsOf 43 = .ok (.iload_n 2, 1) := by decide +kernel
theorem dX8_seatsOf_44 : decode cX8_seatsOf 44 = .ok (.ireturn, 1) := by decide +kernel
theorem dX8_wantersOf_0 : decode cX8_wantersOf 0 = .ok (.iconst 0, 1) := by decide +kernel
theorem dX8_wantersOf_1 : decode cX8_wantersOf 1 = .ok (.istore_n 2, 1) := by decide +kernel
theorem dX8_wantersOf_2 : decode cX8_wantersOf 2 = .ok (.iconst 0, 1) := by decide +kernel
theorem dX8_wantersOf_3 : decode cX8_wantersOf 3 = .ok (.istore_n 3, 1) := by decide +kernel
theorem dX8_wantersOf_4 : decode cX8_wantersOf 4 = .ok (.iload_n 3, 1) := by decide +kernel
theorem dX8_wantersOf_5 : decode cX8_wantersOf 5 = .ok (.aload_n 0, 1) := by decide +kernel
theorem dX8_wantersOf_6 : decode cX8_wantersOf 6 = .ok (.getfield 19, 3) := by decide +kernel
theorem dX8_wantersOf_9 : decode cX8_wantersOf 9 = .ok (.iconst 3, 1) := by decide +kernel
theorem dX8_wantersOf_10 : decode cX8_wantersOf 10 = .ok (.iaload, 1) := by decide +kernel
theorem dX8_wantersOf_11 : decode cX8_wantersOf 11 = .ok (.if_icmp .ge 44, 3) := by decide +kernel
theorem dX8_wantersOf_14 : decode cX8_wantersOf 14 = .ok (.iload_n 2, 1) := by decide +kernel
theorem dX8_wantersOf_15 : decode cX8_wantersOf 15 = .ok (.aload_n 0, 1) := by decide +kernel
theorem dX8_wantersOf_16 : decode cX8_wantersOf 16 = .ok (.getfield 19, 3) := by decide +kernel
theorem dX8_wantersOf_19 : decode cX8_wantersOf 19 = .ok (.bipush 49, 2) := by decide +kernel
theorem dX8_wantersOf_21 : decode cX8_wantersOf 21 = .ok (.iload_n 3, 1) := by decide +kernel
theorem dX8_wantersOf_22 : decode cX8_wantersOf 22 = .ok (.iadd, 1) := by decide +kernel
theorem dX8_wantersOf_23 : decode cX8_wantersOf 23 = .ok (.iaload, 1) := by decide +kernel
theorem dX8_wantersOf_24 : decode cX8_wantersOf 24 = .ok (.ifCond .ne 22, 3) := by decide +kernel
theorem dX8_wantersOf_27 : decode cX8_wantersOf 27 = .ok (.aload_n 0, 1) := by decide +kernel
theorem dX8_wantersOf_28 : decode cX8_wantersOf 28 = .ok (.getfield 19, 3) := by decide +kernel
theorem dX8_wantersOf_31 : decode cX8_wantersOf 31 = .ok (.bipush 37, 2) := by decide +kernel
theorem dX8_wantersOf_33 : decode cX8_wantersOf 33 = .ok (.iload_n 3, 1) := by decide +kernel
theorem dX8_wantersOf_34 : decode cX8_wantersOf 34 = .ok (.iadd, 1) := by decide +kernel
theorem dX8_wantersOf_35 : decode cX8_wantersOf 35 = .ok (.iaload, 1) := by decide +kernel
theorem dX8_wantersOf_36 : decode cX8_wantersOf 36 = .ok (.iload_n 1, 1) := by decide +kernel
theorem dX8_wantersOf_37 : decode cX8_wantersOf 37 = .ok (.if_icmp .ne 9, 3) := by decide +kernel
theorem dX8_wantersOf_40 : decode cX8_wantersOf 40 = .ok (.iconst 1, 1) := by decide +kernel
theorem dX8_wantersOf_41 : decode cX8_wantersOf 41 = .ok (.iload_n 3, 1) := by decide +kernel
theorem dX8_wantersOf_42 : decode cX8_wantersOf 42 = .ok (.ishl, 1) := by decide +kernel
theorem dX8_wantersOf_43 : decode cX8_wantersOf 43 = .ok (.goto 4, 3) := by decide +kernel
theorem dX8_wantersOf_46 : decode cX8_wantersOf 46 = .ok (.iconst 0, 1) := by decide +kernel
theorem dX8_wantersOf_47 : decode cX8_wantersOf 47 = .ok (.ior, 1) := by decide +kernel
theorem dX8_wantersOf_48 : decode cX8_wantersOf 48 = .ok (.istore_n 2, 1) := by decide +kernel
theorem dX8_wantersOf_49 : decode cX8_wantersOf 49 = .ok (.iinc 3 1, 3) := by decide +kernel
theorem dX8_wantersOf_52 : decode cX8_wantersOf 52 = .ok (.goto (-48), 3) := by decide +kernel
theorem dX8_wantersOf_55 : decode cX8_wantersOf 55 = .ok (.iload_n 2, 1) := by decide +kernel
theorem dX8_wantersOf_56 : decode cX8_wantersOf 56 = .ok (.ireturn, 1) := by decide +kernel
theorem dX8_wantedBy_0 : decode cX8_wantedBy 0 = .ok (.aload_n 0, 1) := by decide +kernel
theorem dX8_wantedBy_1 : decode cX8_wantedBy 1 = .ok (.aload_n 0, 1) := by decide +kernel
theorem dX8_wantedBy_2 : decode cX8_wantedBy 2 = .ok (.getfield 19, 3) := by decide +kernel
theorem dX8_wantedBy_5 : decode cX8_wantedBy 5 = .ok (.bipush 13, 2) := by decide +kernel
theorem dX8_wantedBy_7 : decode cX8_wantedBy 7 = .ok (.iload_n 1, 1) := by decide +kernel
theorem dX8_wantedBy_8 : decode cX8_wantedBy 8 = .ok (.iadd, 1) := by decide +kernel
theorem dX8_wantedBy_9 : decode cX8_wantedBy 9 = .ok (.iaload, 1) := by decide +kernel
theorem dX8_wantedBy_10 : decode cX8_wantedBy 10 = .ok (.invokevirtual 148, 3) := by decide +kernel
theorem dX8_wantedBy_13 : decode cX8_wantedBy 13 = .ok (.invokestatic 151, 3) := by decide +kernel
theorem dX8_wantedBy_16 : decode cX8_wantedBy 16 = .ok (.ireturn, 1) := by decide +kernel
theorem dX8_placeOf_0 : decode cX8_placeOf 0 = .ok (.ldc 154, 2) := by decide +kernel
theorem dX8_placeOf_2 : decode cX8_placeOf 2 = .ok (.istore_n 2, 1) := by decide +kernel
theorem dX8_placeOf_3 : decode cX8_placeOf 3 = .ok (.iconst 0, 1) := by decide +kernel
theorem dX8_placeOf_4 : decode cX8_placeOf 4 = .ok (.istore_n 3, 1) := by decide +kernel
theorem dX8_placeOf_5 : decode cX8_placeOf 5 = .ok (.iload_n 3, 1) := by decide +kernel
theorem dX8_placeOf_6 : decode cX8_placeOf 6 = .ok (.aload_n 0, 1) := by decide +kernel
theorem dX8_placeOf_7 : decode cX8_placeOf 7 = .ok (.getfield 19, 3) := by decide +kernel
theorem dX8_placeOf_10 : decode cX8_placeOf 10 = .ok (.bipush 6, 2) := by decide +kernel
theorem dX8_placeOf_12 : decode cX8_placeOf 12 = .ok (.iaload, 1) := by decide +kernel
theorem dX8_placeOf_13 : decode cX8_placeOf 13 = .ok (.if_icmp .ge 28, 3) := by decide +kernel
theorem dX8_placeOf_16 : decode cX8_placeOf 16 = .ok (.aload_n 0, 1) := by decide +kernel
theorem dX8_placeOf_17 : decode cX8_placeOf 17 = .ok (.getfield 19, 3) := by decide +kernel
theorem dX8_placeOf_20 : decode cX8_placeOf 20 = .ok (.bipush 31, 2) := by decide +kernel
theorem dX8_placeOf_22 : decode cX8_placeOf 22 = .ok (.iload_n 3, 1) := by decide +kernel
theorem dX8_placeOf_23 : decode cX8_placeOf 23 = .ok (.iadd, 1) := by decide +kernel
theorem dX8_placeOf_24 : decode cX8_placeOf 24 = .ok (.iaload, 1) := by decide +kernel
theorem dX8_placeOf_25 : decode cX8_placeOf 25 = .ok (.iload_n 1, 1) := by decide +kernel
theorem dX8_placeOf_26 : decode cX8_placeOf 26 = .ok (.if_icmp .ne 7, 3) := by decide +kernel
theorem dX8_placeOf_29 : decode cX8_placeOf 29 = .ok (.iload_n 3, 1) := by decide +kernel
theorem dX8_placeOf_30 : decode cX8_placeOf 30 = .ok (.goto 4, 3) := by decide +kernel
theorem dX8_placeOf_33 : decode cX8_placeOf 33 = .ok (.iload_n 2, 1) := by decide +kernel
theorem dX8_placeOf_34 : decode cX8_placeOf 34 = .ok (.istore_n 2, 1) := by decide +kernel
theorem dX8_placeOf_35 : decode cX8_placeOf 35 = .ok (.iinc 3 1, 3) := by decide +kernel
theorem dX8_placeOf_38 : decode cX8_placeOf 38 = .ok (.goto (-33), 3) := by decide +kernel
theorem dX8_placeOf_41 : decode cX8_placeOf 41 = .ok (.iload_n 2, 1) := by decide +kernel
theorem dX8_placeOf_42 : decode cX8_placeOf 42 = .ok (.ireturn, 1) := by decide +kernel
theorem dX8_takeOff_0 : decode cX8_takeOff 0 = .ok (.aload_n 0, 1) := by decide +kernel
theorem dX8_takeOff_1 : decode cX8_takeOff 1 = .ok (.iload_n 1, 1) := by decide +kernel
theorem dX8_takeOff_2 : decode cX8_takeOff 2 = .ok (.invokevirtual 155, 3) := by decide +kernel
theorem dX8_takeOff_5 : decode cX8_takeOff 5 = .ok (.istore_n 2, 1) := by decide +kernel
theorem dX8_takeOff_6 : decode cX8_takeOff 6 = .ok (.iload_n 2, 1) := by decide +kernel
theorem dX8_takeOff_7 : decode cX8_takeOff 7 = .ok (.iconst 1, 1) := by decide +kernel
theorem dX8_takeOff_8 : decode cX8_takeOff 8 = .ok (.iadd, 1) := by decide +kernel
theorem dX8_takeOff_9 : decode cX8_takeOff 9 = .ok (.istore_n 3, 1) := by decide +kernel
theorem dX8_takeOff_10 : decode cX8_takeOff 10 = .ok (.iload_n 3, 1) := by decide +kernel
theorem dX8_takeOff_11 : decode cX8_takeOff 11 = .ok (.aload_n 0, 1) := by decide +kernel
theorem dX8_takeOff_12 : decode cX8_takeOff 12 = .ok (.getfield 19, 3) := by decide +kernel
theorem dX8_takeOff_15 : decode cX8_takeOff 15 = .ok (.bipush 6, 2) := by decide +kernel
theorem dX8_takeOff_17 : decode cX8_takeOff 17 = .ok (.iaload, 1) := by decide +kernel
theorem dX8_takeOff_18 : decode cX8_takeOff 18 = .ok (.if_icmp .ge 29, 3) := by decide +kernel
theorem dX8_takeOff_21 : decode cX8_takeOff 21 = .ok (.aload_n 0, 1) := by decide +kernel
theorem dX8_takeOff_22 : decode cX8_takeOff 22 = .ok (.getfield 19, 3) := by decide +kernel
theorem dX8_takeOff_25 : decode cX8_takeOff 25 = .ok (.bipush 31, 2) := by decide +kernel
theorem dX8_takeOff_27 : decode cX8_takeOff 27 = .ok (.iload_n 3, 1) := by decide +kernel
theorem dX8_takeOff_28 : decode cX8_takeOff 28 = .ok (.iadd, 1) := by decide +kernel
theorem dX8_takeOff_29 : decode cX8_takeOff 29 = .ok (.iconst 1, 1) := by decide +kernel
theorem dX8_takeOff_30 : decode cX8_takeOff 30 = .ok (.isub, 1) := by decide +kernel
theorem dX8_takeOff_31 : decode cX8_takeOff 31 = .ok (.aload_n 0, 1) := by decide +kernel
theorem dX8_takeOff_32 : decode cX8_takeOff 32 = .ok (.getfield 19, 3) := by decide +kernel
theorem dX8_takeOff_35 : decode cX8_takeOff 35 = .ok (.bipush 31, 2) := by decide +kernel
theorem dX8_takeOff_37 : decode cX8_takeOff 37 = .ok (.iload_n 3, 1) := by decide +kernel
theorem dX8_takeOff_38 : decode cX8_takeOff 38 = .ok (.iadd, 1) := by decide +kernel
theorem dX8_takeOff_39 : decode cX8_takeOff 39 = .ok (.iaload, 1) := by decide +kernel
theorem dX8_takeOff_40 : decode cX8_takeOff 40 = .ok (.iastore, 1) := by decide +kernel
theorem dX8_takeOff_41 : decode cX8_takeOff 41 = .ok (.iinc 3 1, 3) := by decide +kernel
theorem dX8_takeOff_44 : decode cX8_takeOff 44 = .ok (.goto (-34), 3) := by decide +kernel
theorem dX8_takeOff_47 : decode cX8_takeOff 47 = .ok (.aload_n 0, 1) := by decide +kernel
theorem dX8_takeOff_48 : decode cX8_takeOff 48 = .ok (.getfield 19, 3) := by decide +kernel
theorem dX8_takeOff_51 : decode cX8_takeOff 51 = .ok (.bipush 6, 2) := by decide +kernel
theorem dX8_takeOff_53 : decode cX8_takeOff 53 = .ok (.dup2, 1) := by decide +kernel
theorem dX8_takeOff_54 : decode cX8_takeOff 54 = .ok (.iaload, 1) := by decide +kernel
theorem dX8_takeOff_55 : decode cX8_takeOff 55 = .ok (.iconst 1, 1) := by decide +kernel
theorem dX8_takeOff_56 : decode cX8_takeOff 56 = .ok (.isub, 1) := by decide +kernel
theorem dX8_takeOff_57 : decode cX8_takeOff 57 = .ok (.iastore, 1) := by decide +kernel
theorem dX8_takeOff_58 : decode cX8_takeOff 58 = .ok (.return_, 1) := by decide +kernel
theorem dX8_layBehind_0 : decode cX8_layBehind 0 = .ok (.aload_n 0, 1) := by decide +kernel
theorem dX8_layBehind_1 : decode cX8_layBehind 1 = .ok (.getfield 19, 3) := by decide +kernel
theorem dX8_layBehind_4 : decode cX8_layBehind 4 = .ok (.bipush 31, 2) := by decide +kernel
theorem dX8_layBehind_6 : decode cX8_layBehind 6 = .ok (.aload_n 0, 1) := by decide +kernel
theorem dX8_layBehind_7 : decode cX8_layBehind 7 = .ok (.getfield 19, 3) := by decide +kernel
theorem dX8_layBehind_10 : decode cX8_layBehind 10 = .ok (.bipush 6, 2) := by decide +kernel
theorem dX8_layBehind_12 : decode cX8_layBehind 12 = .ok (.iaload, 1) := by decide +kernel
theorem dX8_layBehind_13 : decode cX8_layBehind 13 = .ok (.iadd, 1) := by decide +kernel
theorem dX8_layBehind_14 : decode cX8_layBehind 14 = .ok (.iload_n 1, 1) := by decide +kernel
theorem dX8_layBehind_15 : decode cX8_layBehind 15 = .ok (.iastore, 1) := by decide +kernel
theorem dX8_layBehind_16 : decode cX8_layBehind 16 = .ok (.aload_n 0, 1) := by decide +kernel
theorem dX8_layBehind_17 : decode cX8_layBehind 17 = .ok (.getfield 19, 3) := by decide +kernel
theorem dX8_layBehind_20 : decode cX8_layBehind 20 = .ok (.bipush 6, 2) := by decide +kernel
theorem dX8_layBehind_22 : decode cX8_layBehind 22 = .ok (.dup2, 1) := by decide +kernel
theorem dX8_layBehind_23 : decode cX8_layBehind 23 = .ok (.iaload, 1) := by decide +kernel
theorem dX8_layBehind_24 : decode cX8_layBehind 24 = .ok (.iconst 1, 1) := by decide +kernel
theorem dX8_layBehind_25 : decode cX8_layBehind 25 = .ok (.iadd, 1) := by decide +kernel
theorem dX8_layBehind_26 : decode cX8_layBehind 26 = .ok (.iastore, 1) := by decide +kernel
theorem dX8_layBehind_27 : decode cX8_layBehind 27 = .ok (.return_, 1) := by decide +kernel
theorem dX8_layFirst_0 : decode cX8_layFirst 0 = .ok (.aload_n 0, 1) := by decide +kernel
theorem dX8_layFirst_1 : decode cX8_layFirst 1 = .ok (.iload_n 1, 1) := by decide +kernel
theorem dX8_layFirst_2 : decode cX8_layFirst 2 = .ok (.invokevirtual 155, 3) := by decide +kernel
theorem dX8_layFirst_5 : decode cX8_layFirst 5 = .ok (.ifCond .lt 8, 3) := by decide +kernel
theorem dX8_layFirst_8 : decode cX8_layFirst 8 = .ok (.aload_n 0, 1) := by decide +kernel
theorem dX8_layFirst_9 : decode cX8_layFirst 9 = .ok (.iload_n 1, 1) := by decide +kernel
theorem dX8_layFirst_10 : decode cX8_layFirst 10 = .ok (.invokevirtual 158, 3) := by decide +kernel
theorem dX8_layFirst_13 : decode cX8_layFirst 13 = .ok (.aload_n 0, 1) := by decide +kernel
theorem dX8_layFirst_14 : decode cX8_layFirst 14 = .ok (.getfield 19, 3) := by decide +kernel
theorem dX8_layFirst_17 : decode cX8_layFirst 17 = .ok (.bipush 6, 2) := by decide +kernel
theorem dX8_layFirst_19 : decode cX8_layFirst 19 = .ok (.iaload, 1) := by decide +kernel
theorem dX8_layFirst_20 : decode cX8_layFirst 20 = .ok (.istore_n 2, 1) := by decide +kernel
theorem dX8_layFirst_21 : decode cX8_layFirst 21 = .ok (.iload_n 2, 1) := by decide +kernel
theorem dX8_layFirst_22 : decode cX8_layFirst 22 = .ok (.ifCond .le 29, 3) := by decide +kernel
theorem dX8_layFirst_25 : decode cX8_layFirst 25 = .ok (.aload_n 0, 1) := by decide +kernel
theorem dX8_layFirst_26 : decode cX8_layFirst 26 = .ok (.getfield 19, 3) := by decide +kernel
theorem dX8_layFirst_29 : decode cX8_layFirst 29 = .ok (.bipush 31, 2) := by decide +kernel
theorem dX8_layFirst_31 : decode cX8_layFirst 31 = .ok (.iload_n 2, 1) := by decide +kernel
theorem dX8_layFirst_32 : decode cX8_layFirst 32 = .ok (.iadd, 1) := by decide +kernel
theorem dX8_layFirst_33 : decode cX8_layFirst 33 = .ok (.aload_n 0, 1) := by decide +kernel
theorem dX8_layFirst_34 : decode cX8_layFirst 34 = .ok (.getfield 19, 3) := by decide +kernel
theorem dX8_layFirst_37 : decode cX8_layFirst 37 = .ok (.bipush 31, 2) := by decide +kernel
theorem dX8_layFirst_39 : decode cX8_layFirst 39 = .ok (.iload_n 2, 1) := by decide +kernel
theorem dX8_layFirst_40 : decode cX8_layFirst 40 = .ok (.iadd, 1) := by decide +kernel
theorem dX8_layFirst_41 : decode cX8_layFirst 41 = .ok (.iconst 1, 1) := by decide +kernel
theorem dX8_layFirst_42 : decode cX8_layFirst 42 = .ok (.isub, 1) := by decide +kernel
theorem dX8_layFirst_43 : decode cX8_layFirst 43 = .ok (.iaload, 1) := by decide +kernel
theorem dX8_layFirst_44 : decode cX8_layFirst 44 = .ok (.iastore, 1) := by decide +kernel
theorem dX8_layFirst_45 : decode cX8_layFirst 45 = .ok (.iinc 2 (-1), 3) := by decide +kernel
theorem dX8_layFirst_48 : decode cX8_layFirst 48 = .ok (.goto (-27), 3) := by decide +kernel
theorem dX8_layFirst_51 : decode cX8_layFirst 51 = .ok (.aload_n 0, 1) := by decide +kernel
theorem dX8_layFirst_52 : decode cX8_layFirst 52 = .ok (.getfield 19, 3) := by decide +kernel
theorem dX8_layFirst_55 : decode cX8_layFirst 55 = .ok (.bipush 31, 2) := by decide +kernel
theorem dX8_layFirst_57 : decode cX8_layFirst 57 = .ok (.iload_n 1, 1) := by decide +kernel
theorem dX8_layFirst_58 : decode cX8_layFirst 58 = .ok (.iastore, 1) := by decide +kernel
theorem dX8_layFirst_59 : decode cX8_layFirst 59 = .ok (.aload_n 0, 1) := by decide +kernel
theorem dX8_layFirst_60 : decode cX8_layFirst 60 = .ok (.getfield 19, 3) := by decide +kernel
theorem dX8_layFirst_63 : decode cX8_layFirst 63 = .ok (.bipush 6, 2) := by decide +kernel
theorem dX8_layFirst_65 : decode cX8_layFirst 65 = .ok (.dup2, 1) := by decide +kernel
theorem dX8_layFirst_66 : decode cX8_layFirst 66 = .ok (.iaload, 1) := by decide +kernel
theorem dX8_layFirst_67 : decode cX8_layFirst 67 = .ok (.iconst 1, 1) := by decide +kernel
theorem dX8_layFirst_68 : decode cX8_layFirst 68 = .ok (.iadd, 1) := by decide +kernel
theorem dX8_layFirst_69 : decode cX8_layFirst 69 = .ok (.iastore, 1) := by decide +kernel
theorem dX8_layFirst_70 : decode cX8_layFirst 70 = .ok (.return_, 1) := by decide +kernel
theorem dX8_nextThing_0 : decode cX8_nextThing 0 = .ok (.ldc 154, 2) := by decide +kernel
theorem dX8_nextThing_2 : decode cX8_nextThing 2 = .ok (.istore_n 1, 1) := by decide +kernel
theorem dX8_nextThing_3 : decode cX8_nextThing 3 = .ok (.iconst (-1), 1) := by decide +kernel
theorem dX8_nextThing_4 : decode cX8_nextThing 4 = .ok (.istore_n 2, 1) := by decide +kernel
theorem dX8_nextThing_5 : decode cX8_nextThing 5 = .ok (.iconst 0, 1) := by decide +kernel
theorem dX8_nextThing_6 : decode cX8_nextThing 6 = .ok (.istore_n 3, 1) := by decide +kernel
theorem dX8_nextThing_7 : decode cX8_nextThing 7 = .ok (.iload_n 3, 1) := by decide +kernel
theorem dX8_nextThing_8 : decode cX8_nextThing 8 = .ok (.aload_n 0, 1) := by decide +kernel
theorem dX8_nextThing_9 : decode cX8_nextThing 9 = .ok (.getfield 19, 3) := by decide +kernel
theorem dX8_nextThing_12 : decode cX8_nextThing 12 = .ok (.bipush 6, 2) := by decide +kernel
theorem dX8_nextThing_14 : decode cX8_nextThing 14 = .ok (.iaload, 1) := by decide +kernel
theorem dX8_nextThing_15 : decode cX8_nextThing 15 = .ok (.if_icmp .ge 57, 3) := by decide +kernel
theorem dX8_nextThing_18 : decode cX8_nextThing 18 = .ok (.aload_n 0, 1) := by decide +kernel
theorem dX8_nextThing_19 : decode cX8_nextThing 19 = .ok (.aload_n 0, 1) := by decide +kernel
theorem dX8_nextThing_20 : decode cX8_nextThing 20 = .ok (.getfield 19, 3) := by decide +kernel
theorem dX8_nextThing_23 : decode cX8_nextThing 23 = .ok (.bipush 31, 2) := by decide +kernel
theorem dX8_nextThing_25 : decode cX8_nextThing 25 = .ok (.iload_n 3, 1) := by decide +kernel
theorem dX8_nextThing_26 : decode cX8_nextThing 26 = .ok (.iadd, 1) := by decide +kernel
theorem dX8_nextThing_27 : decode cX8_nextThing 27 = .ok (.iaload, 1) := by decide +kernel
theorem dX8_nextThing_28 : decode cX8_nextThing 28 = .ok (.invokevirtual 162, 3) := by decide +kernel
theorem dX8_nextThing_31 : decode cX8_nextThing 31 = .ok (.istore 4, 2) := by decide +kernel
theorem dX8_nextThing_33 : decode cX8_nextThing 33 = .ok (.iload 4, 2) := by decide +kernel
theorem dX8_nextThing_35 : decode cX8_nextThing 35 = .ok (.iload_n 2, 1) := by decide +kernel
theorem dX8_nextThing_36 : decode cX8_nextThing 36 = .ok (.if_icmp .le 15, 3) := by decide +kernel
theorem dX8_nextThing_39 : decode cX8_nextThing 39 = .ok (.aload_n 0, 1) := by decide +kernel
theorem dX8_nextThing_40 : decode cX8_nextThing 40 = .ok (.getfield 19, 3) := by decide +kernel
theorem dX8_nextThing_43 : decode cX8_nextThing 43 = .ok (.bipush 31, 2) := by decide +kernel
theorem dX8_nextThing_45 : decode cX8_nextThing 45 = .ok (.iload_n 3, 1) := by decide +kernel
theorem dX8_nextThing_46 : decode cX8_nextThing 46 = .ok (.iadd, 1) := by decide +kernel
theorem dX8_nextThing_47 : decode cX8_nextThing 47 = .ok (.iaload, 1) := by decide +kernel
theorem dX8_nextThing_48 : decode cX8_nextThing 48 = .ok (.goto 4, 3) := by decide +kernel
theorem dX8_nextThing_51 : decode cX8_nextThing 51 = .ok (.iload_n 1, 1) := by decide +kernel
theorem dX8_nextThing_52 : decode cX8_nextThing 52 = .ok (.istore_n 1, 1) := by decide +kernel
theorem dX8_nextThing_53 : decode cX8_nextThing 53 = .ok (.iload 4, 2) := by decide +kernel
theorem dX8_nextThing_55 : decode cX8_nextThing 55 = .ok (.iload_n 2, 1) := by decide +kernel
theorem dX8_nextThing_56 : decode cX8_nextThing 56 = .ok (.if_icmp .le 8, 3) := by decide +kernel
theorem dX8_nextThing_59 : decode cX8_nextThing 59 = .ok (.iload 4, 2) := by decide +kernel
theorem dX8_nextThing_61 : decode cX8_nextThing 61 = .ok (.goto 4, 3) := by decide +kernel
theorem dX8_nextThing_64 : decode cX8_nextThing 64 = .ok (.iload_n 2, 1) := by decide +kernel
theorem dX8_nextThing_65 : decode cX8_nextThing 65 = .ok (.istore_n 2, 1) := by decide +kernel
theorem dX8_nextThing_66 : decode cX8_nextThing 66 = .ok (.iinc 3 1, 3) := by decide +kernel
theorem dX8_nextThing_69 : decode cX8_nextThing 69 = .ok (.goto (-62), 3) := by decide +kernel
theorem dX8_nextThing_72 : decode cX8_nextThing 72 = .ok (.iload_n 1, 1) := by decide +kernel
theorem dX8_nextThing_73 : decode cX8_nextThing 73 = .ok (.ireturn, 1) := by decide +kernel
theorem dX8_isComingBack_0 : decode cX8_isComingBack 0 = .ok (.aload_n 0, 1) := by decide +kernel
theorem dX8_isComingBack_1 : decode cX8_isComingBack 1 = .ok (.getfield 19, 3) := by decide +kernel
theorem dX8_isComingBack_4 : decode cX8_isComingBack 4 = .ok (.bipush 7, 2) := by decide +kernel
theorem dX8_isComingBack_6 : decode cX8_isComingBack 6 = .ok (.iload_n 1, 1) := by decide +kernel
theorem dX8_isComingBack_7 : decode cX8_isComingBack 7 = .ok (.iadd, 1) := by decide +kernel
theorem dX8_isComingBack_8 : decode cX8_isComingBack 8 = .ok (.iaload, 1) := by decide +kernel
theorem dX8_isComingBack_9 : decode cX8_isComingBack 9 = .ok (.istore_n 2, 1) := by decide +kernel
theorem dX8_isComingBack_10 : decode cX8_isComingBack 10 = .ok (.iload_n 2, 1) := by decide +kernel
theorem dX8_isComingBack_11 : decode cX8_isComingBack 11 = .ok (.iconst 5, 1) := by decide +kernel
theorem dX8_isComingBack_12 : decode cX8_isComingBack 12 = .ok (.if_icmp .eq 16, 3) := by decide +kernel
theorem dX8_isComingBack_15 : decode cX8_isComingBack 15 = .ok (.iload_n 2, 1) := by decide +kernel
theorem dX8_isComingBack_16 : decode cX8_isComingBack 16 = .ok (.iconst 4, 1) := by decide +kernel
theorem dX8_isComingBack_17 : decode cX8_isComingBack 17 = .ok (.if_icmp .ne 15, 3) := by decide +kernel
theorem dX8_isComingBack_20 : decode cX8_isComingBack 20 = .ok (.aload_n 0, 1) := by decide +kernel
theorem dX8_isComingBack_21 : decode cX8_isComingBack 21 = .ok (.iconst 1, 1) := by decide +kernel
theorem dX8_isComingBack_22 : decode cX8_isComingBack 22 = .ok (.invokevirtual 165, 3) := by decide +kernel
theorem dX8_isComingBack_25 : decode cX8_isComingBack 25 = .ok (.ifCond .ne 7, 3) := by decide +kernel
theorem dX8_isComingBack_28 : decode cX8_isComingBack 28 = .ok (.iconst 1, 1) := by decide +kernel
theorem dX8_isComingBack_29 : decode cX8_isComingBack 29 = .ok (.goto 4, 3) := by decide +kernel
theorem dX8_isComingBack_32 : decode cX8_isComingBack 32 = .ok (.iconst 0, 1) := by decide +kernel
theorem dX8_isComingBack_33 : decode cX8_isComingBack 33 = .ok (.ireturn, 1) := by decide +kernel
theorem dX8_pleasedBy_0 : decode cX8_pleasedBy 0 = .ok (.aload_n 0, 1) := by decide +kernel
theorem dX8_pleasedBy_1 : decode cX8_pleasedBy 1 = .ok (.iload_n 1, 1) := by decide +kernel
theorem dX8_pleasedBy_2 : decode cX8_pleasedBy 2 = .ok (.invokevirtual 168, 3) := by decide +kernel
theorem dX8_pleasedBy_5 : decode cX8_pleasedBy 5 = .ok (.ifCond .eq 7, 3) := by decide +kernel
theorem dX8_pleasedBy_8 : decode cX8_pleasedBy 8 = .ok (.iconst 0, 1) := by decide +kernel
theorem dX8_pleasedBy_9 : decode cX8_pleasedBy 9 = .ok (.goto 16, 3) := by decide +kernel
theorem dX8_pleasedBy_12 : decode cX8_pleasedBy 12 = .ok (.aload_n 0, 1) := by decide +kernel
theorem dX8_pleasedBy_13 : decode cX8_pleasedBy 13 = .ok (.aload_n 0, 1) := by decide +kernel
theorem dX8_pleasedBy_14 : decode cX8_pleasedBy 14 = .ok (.getfield 19, 3) := by decide +kernel
theorem dX8_pleasedBy_17 : decode cX8_pleasedBy 17 = .ok (.bipush 13, 2) := by decide +kernel
theorem dX8_pleasedBy_19 : decode cX8_pleasedBy 19 = .ok (.iload_n 1, 1) := by decide +kernel
theorem dX8_pleasedBy_20 : decode cX8_pleasedBy 20 = .ok (.iadd, 1) := by decide +kernel
theorem dX8_pleasedBy_21 : decode cX8_pleasedBy 21 = .ok (.iaload, 1) := by decide +kernel
theorem dX8_pleasedBy_22 : decode cX8_pleasedBy 22 = .ok (.invokevirtual 148, 3) := by decide +kernel
theorem dX8_pleasedBy_25 : decode cX8_pleasedBy 25 = .ok (.istore_n 2, 1) := by decide +kernel
theorem dX8_pleasedBy_26 : decode cX8_pleasedBy 26 = .ok (.aload_n 0, 1) := by decide +kernel
theorem dX8_pleasedBy_27 : decode cX8_pleasedBy 27 = .ok (.getfield 19, 3) := by decide +kernel
theorem dX8_pleasedBy_30 : decode cX8_pleasedBy 30 = .ok (.bipush 7, 2) := by decide +kernel
theorem dX8_pleasedBy_32 : decode cX8_pleasedBy 32 = .ok (.iload_n 1, 1) := by decide +kernel
theorem dX8_pleasedBy_33 : decode cX8_pleasedBy 33 = .ok (.iadd, 1) := by decide +kernel
theorem dX8_pleasedBy_34 : decode cX8_pleasedBy 34 = .ok (.iaload, 1) := by decide +kernel
theorem dX8_pleasedBy_35 : decode cX8_pleasedBy 35 = .ok (.iconst 3, 1) := by decide +kernel
theorem dX8_pleasedBy_36 : decode cX8_pleasedBy 36 = .ok (.if_icmp .ne 7, 3) := by decide +kernel
theorem dX8_pleasedBy_39 : decode cX8_pleasedBy 39 = .ok (.iload_n 2, 1) := by decide +kernel
theorem dX8_pleasedBy_40 : decode cX8_pleasedBy 40 = .ok (.goto 7, 3) := by decide +kernel
theorem dX8_pleasedBy_43 : decode cX8_pleasedBy 43 = .ok (.iload_n 2, 1) := by decide +kernel
theorem dX8_pleasedBy_44 : decode cX8_pleasedBy 44 = .ok (.iload_n 2, 1) := by decide +kernel
theorem dX8_pleasedBy_45 : decode cX8_pleasedBy 45 = .ok (.ineg, 1) := by decide +kernel
theorem dX8_pleasedBy_46 : decode cX8_pleasedBy 46 = .ok (.iand, 1) := by decide +kernel
theorem dX8_pleasedBy_47 : decode cX8_pleasedBy 47 = .ok (.ireturn, 1) := by decide +kernel
theorem dX8_clapsFor_0 : decode cX8_clapsFor 0 = .ok (.aload_n 0, 1) := by decide +kernel
theorem dX8_clapsFor_1 : decode cX8_clapsFor 1 = .ok (.getfield 19, 3) := by decide +kernel
theorem dX8_clapsFor_4 : decode cX8_clapsFor 4 = .ok (.bipush 25, 2) := by decide +kernel
theorem dX8_clapsFor_6 : decode cX8_clapsFor 6 = .ok (.iload_n 1, 1) := by decide +kernel
theorem dX8_clapsFor_7 : decode cX8_clapsFor 7 = .ok (.iadd, 1) := by decide +kernel
theorem dX8_clapsFor_8 : decode cX8_clapsFor 8 = .ok (.iaload, 1) := by decide +kernel
theorem dX8_clapsFor_9 : decode cX8_clapsFor 9 = .ok (.iload_n 2, 1) := by decide +kernel
theorem dX8_clapsFor_10 : decode cX8_clapsFor 10 = .ok (.invokestatic 151, 3) := by decide +kernel
theorem dX8_clapsFor_13 : decode cX8_clapsFor 13 = .ok (.imul, 1) := by decide +kernel
theorem dX8_clapsFor_14 : decode cX8_clapsFor 14 = .ok (.istore_n 3, 1) := by decide +kernel
theorem dX8_clapsFor_15 : decode cX8_clapsFor 15 = .ok (.aload_n 0, 1) := by decide +kernel
theorem dX8_clapsFor_16 : decode cX8_clapsFor 16 = .ok (.getfield 19, 3) := by decide +kernel
theorem dX8_clapsFor_19 : decode cX8_clapsFor 19 = .ok (.bipush 7, 2) := by decide +kernel
theorem dX8_clapsFor_21 : decode cX8_clapsFor 21 = .ok (.iload_n 1, 1) := by decide +kernel
theorem dX8_clapsFor_22 : decode cX8_clapsFor 22 = .ok (.iadd, 1) := by decide +kernel
theorem dX8_clapsFor_23 : decode cX8_clapsFor 23 = .ok (.iaload, 1) := by decide +kernel
theorem dX8_clapsFor_24 : decode cX8_clapsFor 24 = .ok (.iconst 2, 1) := by decide +kernel
theorem dX8_clapsFor_25 : decode cX8_clapsFor 25 = .ok (.if_icmp .ne 9, 3) := by decide +kernel
theorem dX8_clapsFor_28 : decode cX8_clapsFor 28 = .ok (.iconst 2, 1) := by decide +kernel
theorem dX8_clapsFor_29 : decode cX8_clapsFor 29 = .ok (.iload_n 3, 1) := by decide +kernel
theorem dX8_clapsFor_30 : decode cX8_clapsFor 30 = .ok (.imul, 1) := by decide +kernel
theorem dX8_clapsFor_31 : decode cX8_clapsFor 31 = .ok (.goto 4, 3) := by decide +kernel
theorem dX8_clapsFor_34 : decode cX8_clapsFor 34 = .ok (.iload_n 3, 1) := by decide +kernel
theorem dX8_clapsFor_35 : decode cX8_clapsFor 35 = .ok (.ireturn, 1) := by decide +kernel
theorem dX8_tapWith_0 : decode cX8_tapWith 0 = .ok (.iload_n 1, 1) := by decide +kernel
theorem dX8_tapWith_1 : decode cX8_tapWith 1 = .ok (.ifCond .lt 173, 3) := by decide +kernel
theorem dX8_tapWith_4 : decode cX8_tapWith 4 = .ok (.aload_n 0, 1) := by decide +kernel
theorem dX8_tapWith_5 : decode cX8_tapWith 5 = .ok (.iload_n 1, 1) := by decide +kernel
theorem dX8_tapWith_6 : decode cX8_tapWith 6 = .ok (.invokevirtual 168, 3) := by decide +kernel
theorem dX8_tapWith_9 : decode cX8_tapWith 9 = .ok (.istore_n 3, 1) := by decide +kernel
theorem dX8_tapWith_10 : decode cX8_tapWith 10 = .ok (.aload_n 0, 1) := by decide +kernel
theorem dX8_tapWith_11 : decode cX8_tapWith 11 = .ok (.iload_n 1, 1) := by decide +kernel
theorem dX8_tapWith_12 : decode cX8_tapWith 12 = .ok (.invokevirtual 171, 3) := by decide +kernel
theorem dX8_tapWith_15 : decode cX8_tapWith 15 = .ok (.istore 4, 2) := by decide +kernel
theorem dX8_tapWith_17 : decode cX8_tapWith 17 = .ok (.aload_n 0, 1) := by decide +kernel
theorem dX8_tapWith_18 : decode cX8_tapWith 18 = .ok (.getfield 19, 3) := by decide +kernel
theorem dX8_tapWith_21 : decode cX8_tapWith 21 = .ok (.iconst 5, 1) := by decide +kernel
theorem dX8_tapWith_22 : decode cX8_tapWith 22 = .ok (.dup2, 1) := by decide +kernel
theorem dX8_tapWith_23 : decode cX8_tapWith 23 = .ok (.iaload, 1) := by decide +kernel
theorem dX8_tapWith_24 : decode cX8_tapWith 24 = .ok (.aload_n 0, 1) := by decide +kernel
theorem dX8_tapWith_25 : decode cX8_tapWith 25 = .ok (.iload_n 1, 1) := by decide +kernel
theorem dX8_tapWith_26 : decode cX8_tapWith 26 = .ok (.iload 4, 2) := by decide +kernel
theorem dX8_tapWith_28 : decode cX8_tapWith 28 = .ok (.invokevirtual 174, 3) := by decide +kernel
theorem dX8_tapWith_31 : decode cX8_tapWith 31 = .ok (.iadd, 1) := by decide +kernel
theorem dX8_tapWith_32 : decode cX8_tapWith 32 = .ok (.iastore, 1) := by decide +kernel
theorem dX8_tapWith_33 : decode cX8_tapWith 33 = .ok (.iconst 0, 1) := by decide +kernel
theorem dX8_tapWith_34 : decode cX8_tapWith 34 = .ok (.istore 5, 2) := by decide +kernel
theorem dX8_tapWith_36 : decode cX8_tapWith 36 = .ok (.iload 5, 2) := by decide +kernel
theorem dX8_tapWith_38 : decode cX8_tapWith 38 = .ok (.aload_n 0, 1) := by decide +kernel
theorem dX8_tapWith_39 : decode cX8_tapWith 39 = .ok (.getfield 19, 3) := by decide +kernel
theorem dX8_tapWith_42 : decode cX8_tapWith 42 = .ok (.iconst 3, 1) := by decide +kernel
theorem dX8_tapWith_43 : decode cX8_tapWith 43 = .ok (.iaload, 1) := by decide +kernel
theorem dX8_tapWith_44 : decode cX8_tapWith 44 = .ok (.if_icmp .ge 112, 3) := by decide +kernel
theorem dX8_tapWith_47 : decode cX8_tapWith 47 = .ok (.aload_n 0, 1) := by decide +kernel
theorem dX8_tapWith_48 : decode cX8_tapWith 48 = .ok (.getfield 19, 3) := by decide +kernel
theorem dX8_tapWith_51 : decode cX8_tapWith 51 = .ok (.bipush 49, 2) := by decide +kernel
theorem dX8_tapWith_53 : decode cX8_tapWith 53 = .ok (.iload 5, 2) := by decide +kernel
theorem dX8_tapWith_55 : decode cX8_tapWith 55 = .ok (.iadd, 1) := by decide +kernel
theorem dX8_tapWith_56 : decode cX8_tapWith 56 = .ok (.iload 4, 2) := by decide +kernel
theorem dX8_tapWith_58 : decode cX8_tapWith 58 = .ok (.iload 5, 2) := by decide +kernel
theorem dX8_tapWith_60 : decode cX8_tapWith 60 = .ok (.invokestatic 177, 3) := by decide +kernel
theorem dX8_tapWith_63 : decode cX8_tapWith 63 = .ok (.ifCond .eq 7, 3) := by decide +kernel
theorem dX8_tapWith_66 : decode cX8_tapWith 66 = .ok (.iconst 1, 1) := by decide +kernel
theorem dX8_tapWith_67 : decode cX8_tapWith 67 = .ok (.goto 13, 3) := by decide +kernel
theorem dX8_tapWith_70 : decode cX8_tapWith 70 = .ok (.aload_n 0, 1) := by decide +kernel
theorem dX8_tapWith_71 : decode cX8_tapWith 71 = .ok (.getfield 19, 3) := by decide +kernel
theorem dX8_tapWith_74 : decode cX8_tapWith 74 = .ok (.bipush 49, 2) := by decide +kernel
theorem dX8_tapWith_76 : decode cX8_tapWith 76 = .ok (.iload 5, 2) := by decide +kernel
theorem dX8_tapWith_78 : decode cX8_tapWith 78 = .ok (.iadd, 1) := by decide +kernel
theorem dX8_tapWith_79 : decode cX8_tapWith 79 = .ok (.iaload, 1) := by decide +kernel
theorem dX8_tapWith_80 : decode cX8_tapWith 80 = .ok (.iastore, 1) := by decide +kernel
theorem dX8_tapWith_81 : decode cX8_tapWith 81 = .ok (.aload_n 0, 1) := by decide +kernel
theorem dX8_tapWith_82 : decode cX8_tapWith 82 = .ok (.getfield 19, 3) := by decide +kernel
theorem dX8_tapWith_85 : decode cX8_tapWith 85 = .ok (.bipush 7, 2) := by decide +kernel
theorem dX8_tapWith_87 : decode cX8_tapWith 87 = .ok (.iload_n 1, 1) := by decide +kernel
theorem dX8_tapWith_88 : decode cX8_tapWith 88 = .ok (.iadd, 1) := by decide +kernel
theorem dX8_tapWith_89 : decode cX8_tapWith 89 = .ok (.iaload, 1) := by decide +kernel
theorem dX8_tapWith_90 : decode cX8_tapWith 90 = .ok (.iconst 5, 1) := by decide +kernel
theorem dX8_tapWith_91 : decode cX8_tapWith 91 = .ok (.if_icmp .ne 59, 3) := by decide +kernel
theorem dX8_tapWith_94 : decode cX8_tapWith 94 = .ok (.aload_n 0, 1) := by decide +kernel
theorem dX8_tapWith_95 : decode cX8_tapWith 95 = .ok (.getfield 19, 3) := by decide +kernel
theorem dX8_tapWith_98 : decode cX8_tapWith 98 = .ok (.bipush 49, 2) := by decide +kernel
theorem dX8_tapWith_100 : decode cX8_tapWith 100 = .ok (.iload 5, 2) := by decide +kernel
theorem dX8_tapWith_102 : decode cX8_tapWith 102 = .ok (.iadd, 1) := by decide +kernel
theorem dX8_tapWith_103 : decode cX8_tapWith 103 = .ok (.iaload, 1) := by decide +kernel
theorem dX8_tapWith_104 : decode cX8_tapWith 104 = .ok (.ifCond .ne 46, 3) := by decide +kernel
theorem dX8_tapWith_107 : decode cX8_tapWith 107 = .ok (.aload_n 0, 1) := by decide +kernel
theorem dX8_tapWith_108 : decode cX8_tapWith 108 = .ok (.getfield 19, 3) := by decide +kernel
theorem dX8_tapWith_111 : decode cX8_tapWith 111 = .ok (.bipush 43, 2) := by decide +kernel
theorem dX8_tapWith_113 : decode cX8_tapWith 113 = .ok (.iload 5, 2) := by decide +kernel
theorem dX8_tapWith_115 : decode cX8_tapWith 115 = .ok (.iadd, 1) := by decide +kernel
theorem dX8_tapWith_116 : decode cX8_tapWith 116 = .ok (.iaload, 1) := by decide +kernel
theorem dX8_tapWith_117 : decode cX8_tapWith 117 = .ok (.aload_n 0, 1) := by decide +kernel
theorem dX8_tapWith_118 : decode cX8_tapWith 118 = .ok (.getfield 19, 3) := by decide +kernel
theorem dX8_tapWith_121 : decode cX8_tapWith 121 = .ok (.iconst 1, 1) := by decide +kernel
theorem dX8_tapWith_122 : decode cX8_tapWith 122 = .ok (.iaload, 1) := by decide +kernel
theorem dX8_tapWith_123 : decode cX8_tapWith 123 = .ok (.iadd, 1) := by decide +kernel
theorem dX8_tapWith_124 : decode cX8_tapWith 124 = .ok (.istore 6, 2) := by decide +kernel
theorem dX8_tapWith_126 : decode cX8_tapWith 126 = .ok (.aload_n 0, 1) := by decide +kernel
theorem dX8_tapWith_127 : decode cX8_tapWith 127 = .ok (.getfield 19, 3) := by decide +kernel
theorem dX8_tapWith_130 : decode cX8_tapWith 130 = .ok (.bipush 43, 2) := by decide +kernel
theorem dX8_tapWith_132 : decode cX8_tapWith 132 = .ok (.iload 5, 2) := by decide +kernel
theorem dX8_tapWith_134 : decode cX8_tapWith 134 = .ok (.iadd, 1) := by decide +kernel
theorem dX8_tapWith_135 : decode cX8_tapWith 135 = .ok (.iload 6, 2) := by decide +kernel
theorem dX8_tapWith_137 : decode cX8_tapWith 137 = .ok (.bipush 99, 2) := by decide +kernel
theorem dX8_tapWith_139 : decode cX8_tapWith 139 = .ok (.if_icmp .le 8, 3) := by decide +kernel
theorem dX8_tapWith_142 : decode cX8_tapWith 142 = .ok (.bipush 99, 2) := by decide +kernel
theorem dX8_tapWith_144 : decode cX8_tapWith 144 = .ok (.goto 5, 3) := by decide +kernel
theorem dX8_tapWith_147 : decode cX8_tapWith 147 = .ok (.iload 6, 2) := by decide +kernel
theorem dX8_tapWith_149 : decode cX8_tapWith 149 = .ok (.iastore, 1) := by decide +kernel
theorem dX8_tapWith_150 : decode cX8_tapWith 150 = .ok (.iinc 5 1, 3) := by decide +kernel
theorem dX8_tapWith_153 : decode cX8_tapWith 153 = .ok (.goto (-117), 3) := by decide +kernel
theorem dX8_tapWith_156 : decode cX8_tapWith 156 = .ok (.aload_n 0, 1) := by decide +kernel
theorem dX8_tapWith_157 : decode cX8_tapWith 157 = .ok (.iload_n 1, 1) := by decide +kernel
theorem dX8_tapWith_158 : decode cX8_tapWith 158 = .ok (.invokevirtual 158, 3) := by decide +kernel
theorem dX8_tapWith_161 : decode cX8_tapWith 161 = .ok (.iload_n 3, 1) := by decide +kernel
theorem dX8_tapWith_162 : decode cX8_tapWith 162 = .ok (.ifCond .eq 12, 3) := by decide +kernel
theorem dX8_tapWith_165 : decode cX8_tapWith 165 = .ok (.iload_n 2, 1) := by decide +kernel
theorem dX8_tapWith_166 : decode cX8_tapWith 166 = .ok (.ifCond .eq 8, 3) := by decide +kernel
theorem dX8_tapWith_169 : decode cX8_tapWith 169 = .ok (.aload_n 0, 1) := by decide +kernel
theorem dX8_tapWith_170 : decode cX8_tapWith 170 = .ok (.iload_n 1, 1) := by decide +kernel
theorem dX8_tapWith_171 : decode cX8_tapWith 171 = .ok (.invokevirtual 181, 3) := by decide +kernel
theorem dX8_tapWith_174 : decode cX8_tapWith 174 = .ok (.iconst 0, 1) := by decide +kernel
theorem dX8_tapWith_175 : decode cX8_tapWith 175 = .ok (.istore_n 3, 1) := by decide +kernel
theorem dX8_tapWith_176 : decode cX8_tapWith 176 = .ok (.iload_n 3, 1) := by decide +kernel
theorem dX8_tapWith_177 : decode cX8_tapWith 177 = .ok (.aload_n 0, 1) := by decide +kernel
theorem dX8_tapWith_178 : decode cX8_tapWith 178 = .ok (.getfield 19, 3) := by decide +kernel
theorem dX8_tapWith_181 : decode cX8_tapWith 181 = .ok (.iconst 3, 1) := by decide +kernel
theorem dX8_tapWith_182 : decode cX8_tapWith 182 = .ok (.iaload, 1) := by decide +kernel
theorem dX8_tapWith_183 : decode cX8_tapWith 183 = .ok (.if_icmp .ge 60, 3) := by decide +kernel
theorem dX8_tapWith_186 : decode cX8_tapWith 186 = .ok (.aload_n 0, 1) := by decide +kernel
theorem dX8_tapWith_187 : decode cX8_tapWith 187 = .ok (.getfield 19, 3) := by decide +kernel
theorem dX8_tapWith_190 : decode cX8_tapWith 190 = .ok (.bipush 49, 2) := by decide +kernel
theorem dX8_tapWith_192 : decode cX8_tapWith 192 = .ok (.iload_n 3, 1) := by decide +kernel
theorem dX8_tapWith_193 : decode cX8_tapWith 193 = .ok (.iadd, 1) := by decide +kernel
theorem dX8_tapWith_194 : decode cX8_tapWith 194 = .ok (.iaload, 1) := by decide +kernel
theorem dX8_tapWith_195 : decode cX8_tapWith 195 = .ok (.ifCond .ne 42, 3) := by decide +kernel
theorem dX8_tapWith_198 : decode cX8_tapWith 198 = .ok (.aload_n 0, 1) := by decide +kernel
theorem dX8_tapWith_199 : decode cX8_tapWith 199 = .ok (.getfield 19, 3) := by decide +kernel
theorem dX8_tapWith_202 : decode cX8_tapWith 202 = .ok (.bipush 43, 2) := by decide +kernel
theorem dX8_tapWith_204 : decode cX8_tapWith 204 = .ok (.iload_n 3, 1) := by decide +kernel
theorem dX8_tapWith_205 : decode cX8_tapWith 205 = .ok (.iadd, 1) := by decide +kernel
theorem dX8_tapWith_206 : decode cX8_tapWith 206 = .ok (.dup2, 1) := by decide +kernel
theorem dX8_tapWith_207 : decode cX8_tapWith 207 = .ok (.iaload, 1) := by decide +kernel
theorem dX8_tapWith_208 : decode cX8_tapWith 208 = .ok (.iconst 1, 1) := by decide +kernel
theorem dX8_tapWith_209 : decode cX8_tapWith 209 = .ok (.isub, 1) := by decide +kernel
theorem dX8_tapWith_210 : decode cX8_tapWith 210 = .ok (.iastore, 1) := by decide +kernel
theorem dX8_tapWith_211 : decode cX8_tapWith 211 = .ok (.aload_n 0, 1) := by decide +kernel
theorem dX8_tapWith_212 : decode cX8_tapWith 212 = .ok (.getfield 19, 3) := by decide +kernel
theorem dX8_tapWith_215 : decode cX8_tapWith 215 = .ok (.bipush 49, 2) := by decide +kernel
theorem dX8_tapWith_217 : decode cX8_tapWith 217 = .ok (.iload_n 3, 1) := by decide +kernel
theorem dX8_tapWith_218 : decode cX8_tapWith 218 = .ok (.iadd, 1) := by decide +kernel
theorem dX8_tapWith_219 : decode cX8_tapWith 219 = .ok (.aload_n 0, 1) := by decide +kernel
theorem dX8_tapWith_220 : decode cX8_tapWith 220 = .ok (.getfield 19, 3) := by decide +kernel
theorem dX8_tapWith_223 : decode cX8_tapWith 223 = .ok (.bipush 43, 2) := by decide +kernel
theorem dX8_tapWith_225 : decode cX8_tapWith 225 = .ok (.iload_n 3, 1) := by decide +kernel
theorem dX8_tapWith_226 : decode cX8_tapWith 226 = .ok (.iadd, 1) := by decide +kernel
theorem dX8_tapWith_227 : decode cX8_tapWith 227 = .ok (.iaload, 1) := by decide +kernel
theorem dX8_tapWith_228 : decode cX8_tapWith 228 = .ok (.ifCond .ne 7, 3) := by decide +kernel
theorem dX8_tapWith_231 : decode cX8_tapWith 231 = .ok (.iconst 2, 1) := by decide +kernel
theorem dX8_tapWith_232 : decode cX8_tapWith 232 = .ok (.goto 4, 3) := by decide +kernel
theorem dX8_tapWith_235 : decode cX8_tapWith 235 = .ok (.iconst 0, 1) := by decide +kernel
theorem dX8_tapWith_236 : decode cX8_tapWith 236 = .ok (.iastore, 1) := by decide +kernel
theorem dX8_tapWith_237 : decode cX8_tapWith 237 = .ok (.iinc 3 1, 3) := by decide +kernel
theorem dX8_tapWith_240 : decode cX8_tapWith 240 = .ok (.goto (-64), 3) := by decide +kernel
theorem dX8_tapWith_243 : decode cX8_tapWith 243 = .ok (.aload_n 0, 1) := by decide +kernel
theorem dX8_tapWith_244 : decode cX8_tapWith 244 = .ok (.getfield 19, 3) := by decide +kernel
theorem dX8_tapWith_247 : decode cX8_tapWith 247 = .ok (.iconst 4, 1) := by decide +kernel
theorem dX8_tapWith_248 : decode cX8_tapWith 248 = .ok (.dup2, 1) := by decide +kernel
theorem dX8_tapWith_249 : decode cX8_tapWith 249 = .ok (.iaload, 1) := by decide +kernel
theorem dX8_tapWith_250 : decode cX8_tapWith 250 = .ok (.iconst 1, 1) := by decide +kernel
theorem dX8_tapWith_251 : decode cX8_tapWith 251 = .ok (.iadd, 1) := by decide +kernel
theorem dX8_tapWith_252 : decode cX8_tapWith 252 = .ok (.iastore, 1) := by decide +kernel
theorem dX8_tapWith_253 : decode cX8_tapWith 253 = .ok (.return_, 1) := by decide +kernel
theorem dX8_oneTap_0 : decode cX8_oneTap 0 = .ok (.aload_n 0, 1) := by decide +kernel
theorem dX8_oneTap_1 : decode cX8_oneTap 1 = .ok (.aload_n 0, 1) := by decide +kernel
theorem dX8_oneTap_2 : decode cX8_oneTap 2 = .ok (.invokevirtual 184, 3) := by decide +kernel
theorem dX8_oneTap_5 : decode cX8_oneTap 5 = .ok (.iconst 1, 1) := by decide +kernel
theorem dX8_oneTap_6 : decode cX8_oneTap 6 = .ok (.invokevirtual 188, 3) := by decide +kernel
theorem dX8_oneTap_9 : decode cX8_oneTap 9 = .ok (.return_, 1) := by decide +kernel
theorem dX8_note_0 : decode cX8_note 0 = .ok (.aload_n 0, 1) := by decide +kernel
theorem dX8_note_1 : decode cX8_note 1 = .ok (.getfield 145, 3) := by decide +kernel
theorem dX8_note_4 : decode cX8_note 4 = .ok (.bipush 24, 2) := by decide +kernel
theorem dX8_note_6 : decode cX8_note 6 = .ok (.if_icmp .ne 43, 3) := by decide +kernel
theorem dX8_note_9 : decode cX8_note 9 = .ok (.iconst 0, 1) := by decide +kernel
theorem dX8_note_10 : decode cX8_note 10 = .ok (.istore_n 1, 1) := by decide +kernel
theorem dX8_note_11 : decode cX8_note 11 = .ok (.iload_n 1, 1) := by decide +kernel
theorem dX8_note_12 : decode cX8_note 12 = .ok (.sipush 1265, 3) := by decide +kernel
theorem dX8_note_15 : decode cX8_note 15 = .ok (.if_icmp .ge 24, 3) := by decide +kernel
theorem dX8_note_18 : decode cX8_note 18 = .ok (.aload_n 0, 1) := by decide +kernel
theorem dX8_note_19 : decode cX8_note 19 = .ok (.getfield 31, 3) := by decide +kernel
theorem dX8_note_22 : decode cX8_note 22 = .ok (.iload_n 1, 1) := by decide +kernel
theorem dX8_note_23 : decode cX8_note 23 = .ok (.aload_n 0, 1) := by decide +kernel
theorem dX8_note_24 : decode cX8_note 24 = .ok (.getfield 31, 3) := by decide +kernel
theorem dX8_note_27 : decode cX8_note 27 = .ok (.iload_n 1, 1) := by decide +kernel
theorem dX8_note_28 : decode cX8_note 28 = .ok (.bipush 55, 2) := by decide +kernel
theorem dX8_note_30 : decode cX8_note 30 = .ok (.iadd, 1) := by decide +kernel
theorem dX8_note_31 : decode cX8_note 31 = .ok (.iaload, 1) := by decide +kernel
theorem dX8_note_32 : decode cX8_note 32 = .ok (.iastore, 1) := by decide +kernel
theorem dX8_note_33 : decode cX8_note 33 = .ok (.iinc 1 1, 3) := by decide +kernel
theorem dX8_note_36 : decode cX8_note 36 = .ok (.goto (-25), 3) := by decide +kernel
theorem dX8_note_39 : decode cX8_note 39 = .ok (.aload_n 0, 1) := by decide +kernel
theorem dX8_note_40 : decode cX8_note 40 = .ok (.dup, 1) := by decide +kernel
theorem dX8_note_41 : decode cX8_note 41 = .ok (.getfield 145, 3) := by decide +kernel
theorem dX8_note_44 : decode cX8_note 44 = .ok (.iconst 1, 1) := by decide +kernel
theorem dX8_note_45 : decode cX8_note 45 = .ok (.isub, 1) := by decide +kernel
theorem dX8_note_46 : decode cX8_note 46 = .ok (.putfield 145, 3) := by decide +kernel
theorem dX8_note_49 : decode cX8_note 49 = .ok (.iconst 0, 1) := by decide +kernel
theorem dX8_note_50 : decode cX8_note 50 = .ok (.istore_n 1, 1) := by decide +kernel
theorem dX8_note_51 : decode cX8_note 51 = .ok (.iload_n 1, 1) := by decide +kernel
theorem dX8_note_52 : decode cX8_note 52 = .ok (.bipush 55, 2) := by decide +kernel
theorem dX8_note_54 : decode cX8_note 54 = .ok (.if_icmp .ge 29, 3) := by decide +kernel
theorem dX8_note_57 : decode cX8_note 57 = .ok (.aload_n 0, 1) := by decide +kernel
theorem dX8_note_58 : decode cX8_note 58 = .ok (.getfield 31, 3) := by decide +kernel
theorem dX8_note_61 : decode cX8_note 61 = .ok (.bipush 55, 2) := by decide +kernel
theorem dX8_note_63 : decode cX8_note 63 = .ok (.aload_n 0, 1) := by decide +kernel
theorem dX8_note_64 : decode cX8_note 64 = .ok (.getfield 145, 3) := by decide +kernel
theorem dX8_note_67 : decode cX8_note 67 = .ok (.imul, 1) := by decide +kernel
theorem dX8_note_68 : decode cX8_note 68 = .ok (.iload_n 1, 1) := by decide +kernel
theorem dX8_note_69 : decode cX8_note 69 = .ok (.iadd, 1) := by decide +kernel
theorem dX8_note_70 : decode cX8_note 70 = .ok (.aload_n 0, 1) := by decide +kernel
theorem dX8_note_71 : decode cX8_note 71 = .ok (.getfield 19, 3) := by decide +kernel
theorem dX8_note_74 : decode cX8_note 74 = .ok (.iload_n 1, 1) := by decide +kernel
theorem dX8_note_75 : decode cX8_note 75 = .ok (.iaload, 1) := by decide +kernel
theorem dX8_note_76 : decode cX8_note 76 = .ok (.iastore, 1) := by decide +kernel
theorem dX8_note_77 : decode cX8_note 77 = .ok (.iinc 1 1, 3) := by decide +kernel
theorem dX8_note_80 : decode cX8_note 80 = .ok (.goto (-29), 3) := by decide +kernel
theorem dX8_note_83 : decode cX8_note 83 = .ok (.aload_n 0, 1) := by decide +kernel
theorem dX8_note_84 : decode cX8_note 84 = .ok (.dup, 1) := by decide +kernel
theorem dX8_note_85 : decode cX8_note 85 = .ok (.getfield 145, 3) := by decide +kernel
theorem dX8_note_88 : decode cX8_note 88 = .ok (.iconst 1, 1) := by decide +kernel
theorem dX8_note_89 : decode cX8_note 89 = .ok (.iadd, 1) := by decide +kernel
theorem dX8_note_90 : decode cX8_note 90 = .ok (.putfield 145, 3) := by decide +kernel
theorem dX8_note_93 : decode cX8_note 93 = .ok (.return_, 1) := by decide +kernel
theorem dX8_undo_0 : decode cX8_undo 0 = .ok (.aload_n 0, 1) := by decide +kernel
theorem dX8_undo_1 : decode cX8_undo 1 = .ok (.getfield 145, 3) := by decide +kernel
theorem dX8_undo_4 : decode cX8_undo 4 = .ok (.ifCond .ne 6, 3) := by decide +kernel
theorem dX8_undo_7 : decode cX8_undo 7 = .ok (.ldc 192, 2) := by decide +kernel
theorem dX8_undo_9 : decode cX8_undo 9 = .ok (.ireturn, 1) := by decide +kernel
theorem dX8_undo_10 : decode cX8_undo 10 = .ok (.aload_n 0, 1) := by decide +kernel
theorem dX8_undo_11 : decode cX8_undo 11 = .ok (.dup, 1) := by decide +kernel
theorem dX8_undo_12 : decode cX8_undo 12 = .ok (.getfield 145, 3) := by decide +kernel
theorem dX8_undo_15 : decode cX8_undo 15 = .ok (.iconst 1, 1) := by decide +kernel
theorem dX8_undo_16 : decode cX8_undo 16 = .ok (.isub, 1) := by decide +kernel
theorem dX8_undo_17 : decode cX8_undo 17 = .ok (.putfield 145, 3) := by decide +kernel
theorem dX8_undo_20 : decode cX8_undo 20 = .ok (.iconst 0, 1) := by decide +kernel
theorem dX8_undo_21 : decode cX8_undo 21 = .ok (.istore_n 1, 1) := by decide +kernel
theorem dX8_undo_22 : decode cX8_undo 22 = .ok (.iload_n 1, 1) := by decide +kernel
theorem dX8_undo_23 : decode cX8_undo 23 = .ok (.bipush 55, 2) := by decide +kernel
theorem dX8_undo_25 : decode cX8_undo 25 = .ok (.if_icmp .ge 29, 3) := by decide +kernel
theorem dX8_undo_28 : decode cX8_undo 28 = .ok (.aload_n 0, 1) := by decide +kernel
theorem dX8_undo_29 : decode cX8_undo 29 = .ok (.getfield 19, 3) := by decide +kernel
theorem dX8_undo_32 : decode cX8_undo 32 = .ok (.iload_n 1, 1) := by decide +kernel
theorem dX8_undo_33 : decode cX8_undo 33 = .ok (.aload_n 0, 1) := by decide +kernel
theorem dX8_undo_34 : decode cX8_undo 34 = .ok (.getfield 31, 3) := by decide +kernel
theorem dX8_undo_37 : decode cX8_undo 37 = .ok (.bipush 55, 2) := by decide +kernel
theorem dX8_undo_39 : decode cX8_undo 39 = .ok (.aload_n 0, 1) := by decide +kernel
theorem dX8_undo_40 : decode cX8_undo 40 = .ok (.getfield 145, 3) := by decide +kernel
theorem dX8_undo_43 : decode cX8_undo 43 = .ok (.imul, 1) := by decide +kernel
theorem dX8_undo_44 : decode cX8_undo 44 = .ok (.iload_n 1, 1) := by decide +kernel
theorem dX8_undo_45 : decode cX8_undo 45 = .ok (.iadd, 1) := by decide +kernel
theorem dX8_undo_46 : decode cX8_undo 46 = .ok (.iaload, 1) := by decide +kernel
theorem dX8_undo_47 : decode cX8_undo 47 = .ok (.iastore, 1) := by decide +kernel
theorem dX8_undo_48 : decode cX8_undo 48 = .ok (.iinc 1 1, 3) := by decide +kernel
theorem dX8_undo_51 : decode cX8_undo 51 = .ok (.goto (-29), 3) := by decide +kernel
theorem dX8_undo_54 : decode cX8_undo 54 = .ok (.aload_n 0, 1) := by decide +kernel
theorem dX8_undo_55 : decode cX8_undo 55 = .ok (.getfield 145, 3) := by decide +kernel
theorem dX8_undo_58 : decode cX8_undo 58 = .ok (.ireturn, 1) := by decide +kernel
theorem dX8_taps_0 : decode cX8_taps 0 = .ok (.aload_n 0, 1) := by decide +kernel
theorem dX8_taps_1 : decode cX8_taps 1 = .ok (.getfield 141, 3) := by decide +kernel
theorem dX8_taps_4 : decode cX8_taps 4 = .ok (.ifCond .ne 6, 3) := by decide +kernel
theorem dX8_taps_7 : decode cX8_taps 7 = .ok (.ldc 192, 2) := by decide +kernel
theorem dX8_taps_9 : decode cX8_taps 9 = .ok (.ireturn, 1) := by decide +kernel
theorem dX8_taps_10 : decode cX8_taps 10 = .ok (.iload_n 1, 1) := by decide +kernel
theorem dX8_taps_11 : decode cX8_taps 11 = .ok (.i2l, 1) := by decide +kernel
theorem dX8_taps_12 : decode cX8_taps 12 = .ok (.lconst 1, 1) := by decide +kernel
theorem dX8_taps_13 : decode cX8_taps 13 = .ok (.ldc2_w 193, 3) := by decide +kernel
theorem dX8_taps_16 : decode cX8_taps 16 = .ok (.invokestatic 60, 3) := by decide +kernel
theorem dX8_taps_19 : decode cX8_taps 19 = .ok (.ifCond .ne 6, 3) := by decide +kernel
theorem dX8_taps_22 : decode cX8_taps 22 = .ok (.ldc 70, 2) := by decide +kernel
theorem dX8_taps_24 : decode cX8_taps 24 = .ok (.ireturn, 1) := by decide +kernel
theorem dX8_taps_25 : decode cX8_taps 25 = .ok (.aload_n 0, 1) := by decide +kernel
theorem dX8_taps_26 : decode cX8_taps 26 = .ok (.getfield 19, 3) := by decide +kernel
theorem dX8_taps_29 : decode cX8_taps 29 = .ok (.iconst 4, 1) := by decide +kernel
theorem dX8_taps_30 : decode cX8_taps 30 = .ok (.iaload, 1) := by decide +kernel
theorem dX8_taps_31 : decode cX8_taps 31 = .ok (.iload_n 1, 1) := by decide +kernel
theorem dX8_taps_32 : decode cX8_taps 32 = .ok (.iadd, 1) := by decide +kernel
theorem dX8_taps_33 : decode cX8_taps 33 = .ok (.sipush 999, 3) := by decide +kernel
theorem dX8_taps_36 : decode cX8_taps 36 = .ok (.if_icmp .le 6, 3) := by decide +kernel
theorem dX8_taps_39 : decode cX8_taps 39 = .ok (.ldc 87, 2) := by decide +kernel
theorem dX8_taps_41 : decode cX8_taps 41 = .ok (.ireturn, 1) := by decide +kernel
theorem dX8_taps_42 : decode cX8_taps 42 = .ok (.iconst 0, 1) := by decide +kernel
theorem dX8_taps_43 : decode cX8_taps 43 = .ok (.istore_n 2, 1) := by decide +kernel
theorem dX8_taps_44 : decode cX8_taps 44 = .ok (.iload_n 2, 1) := by decide +kernel
theorem dX8_taps_45 : decode cX8_taps 45 = .ok (.iload_n 1, 1) := by decide +kernel
theorem dX8_taps_46 : decode cX8_taps 46 = .ok (.if_icmp .ge 17, 3) := by decide +kernel
theorem dX8_taps_49 : decode cX8_taps 49 = .ok (.aload_n 0, 1) := by decide +kernel
theorem dX8_taps_50 : decode cX8_taps 50 = .ok (.invokevirtual 195, 3) := by decide +kernel
theorem dX8_taps_53 : decode cX8_taps 53 = .ok (.aload_n 0, 1) := by decide +kernel
theorem dX8_taps_54 : decode cX8_taps 54 = .ok (.invokevirtual 198, 3) := by decide +kernel
theorem dX8_taps_57 : decode cX8_taps 57 = .ok (.iinc 2 1, 3) := by decide +kernel
theorem dX8_taps_60 : decode cX8_taps 60 = .ok (.goto (-16), 3) := by decide +kernel
theorem dX8_taps_63 : decode cX8_taps 63 = .ok (.aload_n 0, 1) := by decide +kernel
theorem dX8_taps_64 : decode cX8_taps 64 = .ok (.getfield 19, 3) := by decide +kernel
theorem dX8_taps_67 : decode cX8_taps 67 = .ok (.iconst 5, 1) := by decide +kernel
theorem dX8_taps_68 : decode cX8_taps 68 = .ok (.iaload, 1) := by decide +kernel
theorem dX8_taps_69 : decode cX8_taps 69 = .ok (.ireturn, 1) := by decide +kernel
theorem dX8_front_0 : decode cX8_front 0 = .ok (.aload_n 0, 1) := by decide +kernel
theorem dX8_front_1 : decode cX8_front 1 = .ok (.iload_n 1, 1) := by decide +kernel
theorem dX8_front_2 : decode cX8_front 2 = .ok (.invokevirtual 201, 3) := by decide +kernel
theorem dX8_front_5 : decode cX8_front 5 = .ok (.ifCond .ne 6, 3) := by decide +kernel
theorem dX8_front_8 : decode cX8_front 8 = .ok (.ldc 70, 2) := by decide +kernel
theorem dX8_front_10 : decode cX8_front 10 = .ok (.ireturn, 1) := by decide +kernel
theorem dX8_front_11 : decode cX8_front 11 = .ok (.aload_n 0, 1) := by decide +kernel
theorem dX8_front_12 : decode cX8_front 12 = .ok (.iload_n 1, 1) := by decide +kernel
theorem dX8_front_13 : decode cX8_front 13 = .ok (.invokevirtual 155, 3) := by decide +kernel
theorem dX8_front_16 : decode cX8_front 16 = .ok (.istore_n 2, 1) := by decide +kernel
theorem dX8_front_17 : decode cX8_front 17 = .ok (.iload_n 2, 1) := by decide +kernel
theorem dX8_front_18 : decode cX8_front 18 = .ok (.ifCond .ge 6, 3) := by decide +kernel
theorem dX8_front_21 : decode cX8_front 21 = .ok (.ldc 192, 2) := by decide +kernel
theorem dX8_front_23 : decode cX8_front 23 = .ok (.ireturn, 1) := by decide +kernel
theorem dX8_front_24 : decode cX8_front 24 = .ok (.aload_n 0, 1) := by decide +kernel
theorem dX8_front_25 : decode cX8_front 25 = .ok (.invokevirtual 195, 3) := by decide +kernel
theorem dX8_front_28 : decode cX8_front 28 = .ok (.aload_n 0, 1) := by decide +kernel
theorem dX8_front_29 : decode cX8_front 29 = .ok (.iload_n 1, 1) := by decide +kernel
theorem dX8_front_30 : decode cX8_front 30 = .ok (.invokevirtual 204, 3) := by decide +kernel
theorem dX8_front_33 : decode cX8_front 33 = .ok (.iload_n 2, 1) := by decide +kernel
theorem dX8_front_34 : decode cX8_front 34 = .ok (.ireturn, 1) := by decide +kernel
theorem dX8_off_0 : decode cX8_off 0 = .ok (.aload_n 0, 1) := by decide +kernel
theorem dX8_off_1 : decode cX8_off 1 = .ok (.iload_n 1, 1) := by decide +kernel
theorem dX8_off_2 : decode cX8_off 2 = .ok (.invokevirtual 201, 3) := by decide +kernel
theorem dX8_off_5 : decode cX8_off 5 = .ok (.ifCond .ne 6, 3) := by decide +kernel
theorem dX8_off_8 : decode cX8_off 8 = .ok (.ldc 70, 2) := by decide +kernel
theorem dX8_off_10 : decode cX8_off 10 = .ok (.ireturn, 1) := by decide +kernel
theorem dX8_off_11 : decode cX8_off 11 = .ok (.aload_n 0, 1) := by decide +kernel
theorem dX8_off_12 : decode cX8_off 12 = .ok (.iload_n 1, 1) := by decide +kernel
theorem dX8_off_13 : decode cX8_off 13 = .ok (.invokevirtual 155, 3) := by decide +kernel
theorem dX8_off_16 : decode cX8_off 16 = .ok (.istore_n 2, 1) := by decide +kernel
theorem dX8_off_17 : decode cX8_off 17 = .ok (.iload_n 2, 1) := by decide +kernel
theorem dX8_off_18 : decode cX8_off 18 = .ok (.ifCond .ge 6, 3) := by decide +kernel
theorem dX8_off_21 : decode cX8_off 21 = .ok (.ldc 192, 2) := by decide +kernel
theorem dX8_off_23 : decode cX8_off 23 = .ok (.ireturn, 1) := by decide +kernel
theorem dX8_off_24 : decode cX8_off 24 = .ok (.aload_n 0, 1) := by decide +kernel
theorem dX8_off_25 : decode cX8_off 25 = .ok (.invokevirtual 195, 3) := by decide +kernel
theorem dX8_off_28 : decode cX8_off 28 = .ok (.aload_n 0, 1) := by decide +kernel
theorem dX8_off_29 : decode cX8_off 29 = .ok (.iload_n 1, 1) := by decide +kernel
theorem dX8_off_30 : decode cX8_off 30 = .ok (.invokevirtual 158, 3) := by decide +kernel
theorem dX8_off_33 : decode cX8_off 33 = .ok (.iload_n 2, 1) := by decide +kernel
theorem dX8_off_34 : decode cX8_off 34 = .ok (.ireturn, 1) := by decide +kernel
theorem dX8_back_0 : decode cX8_back 0 = .ok (.aload_n 0, 1) := by decide +kernel
theorem dX8_back_1 : decode cX8_back 1 = .ok (.iload_n 1, 1) := by decide +kernel
theorem dX8_back_2 : decode cX8_back 2 = .ok (.invokevirtual 201, 3) := by decide +kernel
theorem dX8_back_5 : decode cX8_back 5 = .ok (.ifCond .ne 6, 3) := by decide +kernel
theorem dX8_back_8 : decode cX8_back 8 = .ok (.ldc 70, 2) := by decide +kernel
theorem dX8_back_10 : decode cX8_back 10 = .ok (.ireturn, 1) := by decide +kernel
theorem dX8_back_11 : decode cX8_back 11 = .ok (.aload_n 0, 1) := by decide +kernel
theorem dX8_back_12 : decode cX8_back 12 = .ok (.iload_n 1, 1) := by decide +kernel
theorem dX8_back_13 : decode cX8_back 13 = .ok (.invokevirtual 155, 3) := by decide +kernel
theorem dX8_back_16 : decode cX8_back 16 = .ok (.ifCond .lt 6, 3) := by decide +kernel
theorem dX8_back_19 : decode cX8_back 19 = .ok (.ldc 192, 2) := by decide +kernel
theorem dX8_back_21 : decode cX8_back 21 = .ok (.ireturn, 1) := by decide +kernel
theorem dX8_back_22 : decode cX8_back 22 = .ok (.aload_n 0, 1) := by decide +kernel
theorem dX8_back_23 : decode cX8_back 23 = .ok (.invokevirtual 195, 3) := by decide +kernel
theorem dX8_back_26 : decode cX8_back 26 = .ok (.aload_n 0, 1) := by decide +kernel
theorem dX8_back_27 : decode cX8_back 27 = .ok (.iload_n 1, 1) := by decide +kernel
theorem dX8_back_28 : decode cX8_back 28 = .ok (.invokevirtual 181, 3) := by decide +kernel
theorem dX8_back_31 : decode cX8_back 31 = .ok (.aload_n 0, 1) := by decide +kernel
theorem dX8_back_32 : decode cX8_back 32 = .ok (.getfield 19, 3) := by decide +kernel
theorem dX8_back_35 : decode cX8_back 35 = .ok (.bipush 6, 2) := by decide +kernel
theorem dX8_back_37 : decode cX8_back 37 = .ok (.iaload, 1) := by decide +kernel
theorem dX8_back_38 : decode cX8_back 38 = .ok (.ireturn, 1) := by decide +kernel
theorem dX8_seatAnew_0 : decode cX8_seatAnew 0 = .ok (.aload_n 0, 1) := by decide +kernel
theorem dX8_seatAnew_1 : decode cX8_seatAnew 1 = .ok (.getfield 19, 3) := by decide +kernel
theorem dX8_seatAnew_4 : decode cX8_seatAnew 4 = .ok (.bipush 37, 2) := by decide +kernel
theorem dX8_seatAnew_6 : decode cX8_seatAnew 6 = .ok (.iload_n 1, 1) := by decide +kernel
theorem dX8_seatAnew_7 : decode cX8_seatAnew 7 = .ok (.iadd, 1) := by decide +kernel
theorem dX8_seatAnew_8 : decode cX8_seatAnew 8 = .ok (.iload_n 2, 1) := by decide +kernel
theorem dX8_seatAnew_9 : decode cX8_seatAnew 9 = .ok (.iastore, 1) := by decide +kernel
theorem dX8_seatAnew_10 : decode cX8_seatAnew 10 = .ok (.aload_n 0, 1) := by decide +kernel
theorem dX8_seatAnew_11 : decode cX8_seatAnew 11 = .ok (.getfield 19, 3) := by decide +kernel
theorem dX8_seatAnew_14 : decode cX8_seatAnew 14 = .ok (.bipush 43, 2) := by decide +kernel
theorem dX8_seatAnew_16 : decode cX8_seatAnew 16 = .ok (.iload_n 1, 1) := by decide +kernel
theorem dX8_seatAnew_17 : decode cX8_seatAnew 17 = .ok (.iadd, 1) := by decide +kernel
theorem dX8_seatAnew_18 : decode cX8_seatAnew 18 = .ok (.iload_n 3, 1) := by decide +kernel
theorem dX8_seatAnew_19 : decode cX8_seatAnew 19 = .ok (.iastore, 1) := by decide +kernel
theorem dX8_seatAnew_20 : decode cX8_seatAnew 20 = .ok (.aload_n 0, 1) := by decide +kernel
theorem dX8_seatAnew_21 : decode cX8_seatAnew 21 = .ok (.getfield 19, 3) := by decide +kernel
theorem dX8_seatAnew_24 : decode cX8_seatAnew 24 = .ok (.bipush 49, 2) := by decide +kernel
theorem dX8_seatAnew_26 : decode cX8_seatAnew 26 = .ok (.iload_n 1, 1) := by decide +kernel
theorem dX8_seatAnew_27 : decode cX8_seatAnew 27 = .ok (.iadd, 1) := by decide +kernel
theorem dX8_seatAnew_28 : decode cX8_seatAnew 28 = .ok (.iconst 0, 1) := by decide +kernel
theorem dX8_seatAnew_29 : decode cX8_seatAnew 29 = .ok (.iastore, 1) := by decide +kernel
theorem dX8_seatAnew_30 : decode cX8_seatAnew 30 = .ok (.return_, 1) := by decide +kernel
theorem dX8_sit_0 : decode cX8_sit 0 = .ok (.aload_n 0, 1) := by decide +kernel
theorem dX8_sit_1 : decode cX8_sit 1 = .ok (.iload_n 1, 1) := by decide +kernel
theorem dX8_sit_2 : decode cX8_sit 2 = .ok (.invokevirtual 207, 3) := by decide +kernel
theorem dX8_sit_5 : decode cX8_sit 5 = .ok (.ifCond .eq 27, 3) := by decide +kernel
theorem dX8_sit_8 : decode cX8_sit 8 = .ok (.iload_n 2, 1) := by decide +kernel
theorem dX8_sit_9 : decode cX8_sit 9 = .ok (.i2l, 1) := by decide +kernel
theorem dX8_sit_10 : decode cX8_sit 10 = .ok (.lconst 0, 1) := by decide +kernel
theorem dX8_sit_11 : decode cX8_sit 11 = .ok (.ldc2_w 210, 3) := by decide +kernel
theorem dX8_sit_14 : decode cX8_sit 14 = .ok (.invokestatic 60, 3) := by decide +kernel
theorem dX8_sit_17 : decode cX8_sit 17 = .ok (.ifCond .eq 15, 3) := by decide +kernel
theorem dX8_sit_20 : decode cX8_sit 20 = .ok (.iload_n 3, 1) := by decide +kernel
theorem dX8_sit_21 : decode cX8_sit 21 = .ok (.i2l, 1) := by decide +kernel
theorem dX8_sit_22 : decode cX8_sit 22 = .ok (.lconst 1, 1) := by decide +kernel
theorem dX8_sit_23 : decode cX8_sit 23 = .ok (.ldc2_w 212, 3) := by decide +kernel
theorem dX8_sit_26 : decode cX8_sit 26 = .ok (.invokestatic 60, 3) := by decide +kernel
theorem dX8_sit_29 : decode cX8_sit 29 = .ok (.ifCond .ne 6, 3) := by decide +kernel
theorem dX8_sit_32 : decode cX8_sit 32 = .ok (.ldc 70, 2) := by decide +kernel
theorem dX8_sit_34 : decode cX8_sit 34 = .ok (.ireturn, 1) := by decide +kernel
theorem dX8_sit_35 : decode cX8_sit 35 = .ok (.aload_n 0, 1) := by decide +kernel
theorem dX8_sit_36 : decode cX8_sit 36 = .ok (.getfield 19, 3) := by decide +kernel
theorem dX8_sit_39 : decode cX8_sit 39 = .ok (.bipush 49, 2) := by decide +kernel
theorem dX8_sit_41 : decode cX8_sit 41 = .ok (.iload_n 1, 1) := by decide +kernel
theorem dX8_sit_42 : decode cX8_sit 42 = .ok (.iadd, 1) := by decide +kernel
theorem dX8_sit_43 : decode cX8_sit 43 = .ok (.iaload, 1) := by decide +kernel
theorem dX8_sit_44 : decode cX8_sit 44 = .ok (.ifCond .ne 6, 3) := by decide +kernel
theorem dX8_sit_47 : decode cX8_sit 47 = .ok (.ldc 192, 2) := by decide +kernel
theorem dX8_sit_49 : decode cX8_sit 49 = .ok (.ireturn, 1) := by decide +kernel
theorem dX8_sit_50 : decode cX8_sit 50 = .ok (.aload_n 0, 1) := by decide +kernel
theorem dX8_sit_51 : decode cX8_sit 51 = .ok (.invokevirtual 195, 3) := by decide +kernel
theorem dX8_sit_54 : decode cX8_sit 54 = .ok (.aload_n 0, 1) := by decide +kernel
theorem dX8_sit_55 : decode cX8_sit 55 = .ok (.iload_n 1, 1) := by decide +kernel
theorem dX8_sit_56 : decode cX8_sit 56 = .ok (.iload_n 2, 1) := by decide +kernel
theorem dX8_sit_57 : decode cX8_sit 57 = .ok (.iload_n 3, 1) := by decide +kernel
theorem dX8_sit_58 : decode cX8_sit 58 = .ok (.invokevirtual 214, 3) := by decide +kernel
theorem dX8_sit_61 : decode cX8_sit 61 = .ok (.aload_n 0, 1) := by decide +kernel
theorem dX8_sit_62 : decode cX8_sit 62 = .ok (.iconst 0, 1) := by decide +kernel
theorem dX8_sit_63 : decode cX8_sit 63 = .ok (.invokevirtual 165, 3) := by decide +kernel
theorem dX8_sit_66 : decode cX8_sit 66 = .ok (.ireturn, 1) := by decide +kernel
theorem dX8_thing_0 : decode cX8_thing 0 = .ok (.aload_n 0, 1) := by decide +kernel
theorem dX8_thing_1 : decode cX8_thing 1 = .ok (.iload_n 1, 1) := by decide +kernel
theorem dX8_thing_2 : decode cX8_thing 2 = .ok (.invokevirtual 201, 3) := by decide +kernel
theorem dX8_thing_5 : decode cX8_thing 5 = .ok (.ifCond .ne 6, 3) := by decide +kernel
theorem dX8_thing_8 : decode cX8_thing 8 = .ok (.ldc 70, 2) := by decide +kernel
theorem dX8_thing_10 : decode cX8_thing 10 = .ok (.ireturn, 1) := by decide +kernel
theorem dX8_thing_11 : decode cX8_thing 11 = .ok (.iload_n 2, 1) := by decide +kernel
theorem dX8_thing_12 : decode cX8_thing 12 = .ok (.tableswitch 78 0 4 #[36, 46, 56, 66, 72], 36) := by decide +kernel
theorem dX8_thing_48 : decode cX8_thing 48 = .ok (.aload_n 0, 1) := by decide +kernel
theorem dX8_thing_49 : decode cX8_thing 49 = .ok (.getfield 19, 3) := by decide +kernel
theorem dX8_thing_52 : decode cX8_thing 52 = .ok (.bipush 13, 2) := by decide +kernel
theorem dX8_thing_54 : decode cX8_thing 54 = .ok (.iload_n 1, 1) := by decide +kernel
theorem dX8_thing_55 : decode cX8_thing 55 = .ok (.iadd, 1) := by decide +kernel
theorem dX8_thing_56 : decode cX8_thing 56 = .ok (.iaload, 1) := by decide +kernel
theorem dX8_thing_57 : decode cX8_thing 57 = .ok (.ireturn, 1) := by decide +kernel
theorem dX8_thing_58 : decode cX8_thing 58 = .ok (.aload_n 0, 1) := by decide +kernel
theorem dX8_thing_59 : decode cX8_thing 59 = .ok (.getfield 19, 3) := by decide +kernel
theorem dX8_thing_62 : decode cX8_thing 62 = .ok (.bipush 19, 2) := by decide +kernel
theorem dX8_thing_64 : decode cX8_thing 64 = .ok (.iload_n 1, 1) := by decide +kernel
theorem dX8_thing_65 : decode cX8_thing 65 = .ok (.iadd, 1) := by decide +kernel
theorem dX8_thing_66 : decode cX8_thing 66 = .ok (.iaload, 1) := by decide +kernel
theorem dX8_thing_67 : decode cX8_thing 67 = .ok (.ireturn, 1) := by decide +kernel
theorem dX8_thing_68 : decode cX8_thing 68 = .ok (.aload_n 0, 1) := by decide +kernel
theorem dX8_thing_69 : decode cX8_thing 69 = .ok (.getfield 19, 3) := by decide +kernel
theorem dX8_thing_72 : decode cX8_thing 72 = .ok (.bipush 25, 2) := by decide +kernel
theorem dX8_thing_74 : decode cX8_thing 74 = .ok (.iload_n 1, 1) := by decide +kernel
theorem dX8_thing_75 : decode cX8_thing 75 = .ok (.iadd, 1) := by decide +kernel
theorem dX8_thing_76 : decode cX8_thing 76 = .ok (.iaload, 1) := by decide +kernel
theorem dX8_thing_77 : decode cX8_thing 77 = .ok (.ireturn, 1) := by decide +kernel
theorem dX8_thing_78 : decode cX8_thing 78 = .ok (.aload_n 0, 1) := by decide +kernel
theorem dX8_thing_79 : decode cX8_thing 79 = .ok (.iload_n 1, 1) := by decide +kernel
theorem dX8_thing_80 : decode cX8_thing 80 = .ok (.invokevirtual 155, 3) := by decide +kernel
theorem dX8_thing_83 : decode cX8_thing 83 = .ok (.ireturn, 1) := by decide +kernel
theorem dX8_thing_84 : decode cX8_thing 84 = .ok (.aload_n 0, 1) := by decide +kernel
theorem dX8_thing_85 : decode cX8_thing 85 = .ok (.iload_n 1, 1) := by decide +kernel
theorem dX8_thing_86 : decode cX8_thing 86 = .ok (.invokevirtual 162, 3) := by decide +kernel
theorem dX8_thing_89 : decode cX8_thing 89 = .ok (.ireturn, 1) := by decide +kernel
theorem dX8_thing_90 : decode cX8_thing 90 = .ok (.ldc 70, 2) := by decide +kernel
theorem dX8_thing_92 : decode cX8_thing 92 = .ok (.ireturn, 1) := by decide +kernel
theorem dX8_seat_0 : decode cX8_seat 0 = .ok (.aload_n 0, 1) := by decide +kernel
theorem dX8_seat_1 : decode cX8_seat 1 = .ok (.iload_n 1, 1) := by decide +kernel
theorem dX8_seat_2 : decode cX8_seat 2 = .ok (.invokevirtual 207, 3) := by decide +kernel
theorem dX8_seat_5 : decode cX8_seat 5 = .ok (.ifCond .eq 15, 3) := by decide +kernel
theorem dX8_seat_8 : decode cX8_seat 8 = .ok (.iload_n 2, 1) := by decide +kernel
theorem dX8_seat_9 : decode cX8_seat 9 = .ok (.i2l, 1) := by decide +kernel
theorem dX8_seat_10 : decode cX8_seat 10 = .ok (.lconst 0, 1) := by decide +kernel
theorem dX8_seat_11 : decode cX8_seat 11 = .ok (.ldc2_w 68, 3) := by decide +kernel
theorem dX8_seat_14 : decode cX8_seat 14 = .ok (.invokestatic 60, 3) := by decide +kernel
theorem dX8_seat_17 : decode cX8_seat 17 = .ok (.ifCond .ne 8, 3) := by decide +kernel
theorem dX8_seat_20 : decode cX8_seat 20 = .ok (.ldc 70, 2) := by decide +kernel
theorem dX8_seat_22 : decode cX8_seat 22 = .ok (.goto 45, 3) := by decide +kernel
theorem dX8_seat_25 : decode cX8_seat 25 = .ok (.iload_n 2, 1) := by decide +kernel
theorem dX8_seat_26 : decode cX8_seat 26 = .ok (.ifCond .ne 15, 3) := by decide +kernel
theorem dX8_seat_29 : decode cX8_seat 29 = .ok (.aload_n 0, 1) := by decide +kernel
theorem dX8_seat_30 : decode cX8_seat 30 = .ok (.getfield 19, 3) := by decide +kernel
theorem dX8_seat_33 : decode cX8_seat 33 = .ok (.bipush 37, 2) := by decide +kernel
theorem dX8_seat_35 : decode cX8_seat 35 = .ok (.iload_n 1, 1) := by decide +kernel
theorem dX8_seat_36 : decode cX8_seat 36 = .ok (.iadd, 1) := by decide +kernel
theorem dX8_seat_37 : decode cX8_seat 37 = .ok (.iaload, 1) := by decide +kernel
theorem dX8_seat_38 : decode cX8_seat 38 = .ok (.goto 29, 3) := by decide +kernel
theorem dX8_seat_41 : decode cX8_seat 41 = .ok (.iload_n 2, 1) := by decide +kernel
theorem dX8_seat_42 : decode cX8_seat 42 = .ok (.iconst 1, 1) := by decide +kernel
theorem dX8_seat_43 : decode cX8_seat 43 = .ok (.if_icmp .ne 15, 3) := by decide +kernel
theorem dX8_seat_46 : decode cX8_seat 46 = .ok (.aload_n 0, 1) := by decide +kernel
theorem dX8_seat_47 : decode cX8_seat 47 = .ok (.getfield 19, 3) := by decide +kernel
theorem dX8_seat_50 : decode cX8_seat 50 = .ok (.bipush 43, 2) := by decide +kernel
theorem dX8_seat_52 : decode cX8_seat 52 = .ok (.iload_n 1, 1) := by decide +kernel
theorem dX8_seat_53 : decode cX8_seat 53 = .ok (.iadd, 1) := by decide +kernel
theorem dX8_seat_54 : decode cX8_seat 54 = .ok (.iaload, 1) := by decide +kernel
theorem dX8_seat_55 : decode cX8_seat 55 = .ok (.goto 12, 3) := by decide +kernel
theorem dX8_seat_58 : decode cX8_seat 58 = .ok (.aload_n 0, 1) := by decide +kernel
theorem dX8_seat_59 : decode cX8_seat 59 = .ok (.getfield 19, 3) := by decide +kernel
theorem dX8_seat_62 : decode cX8_seat 62 = .ok (.bipush 49, 2) := by decide +kernel
theorem dX8_seat_64 : decode cX8_seat 64 = .ok (.iload_n 1, 1) := by decide +kernel
theorem dX8_seat_65 : decode cX8_seat 65 = .ok (.iadd, 1) := by decide +kernel
theorem dX8_seat_66 : decode cX8_seat 66 = .ok (.iaload, 1) := by decide +kernel
theorem dX8_seat_67 : decode cX8_seat 67 = .ok (.ireturn, 1) := by decide +kernel
theorem dX8_list_0 : decode cX8_list 0 = .ok (.aload_n 0, 1) := by decide +kernel
theorem dX8_list_1 : decode cX8_list 1 = .ok (.getfield 141, 3) := by decide +kernel
theorem dX8_list_4 : decode cX8_list 4 = .ok (.ifCond .ne 8, 3) := by decide +kernel
theorem dX8_list_7 : decode cX8_list 7 = .ok (.ldc 192, 2) := by decide +kernel
theorem dX8_list_9 : decode cX8_list 9 = .ok (.goto 37, 3) := by decide +kernel
theorem dX8_list_12 : decode cX8_list 12 = .ok (.iload_n 1, 1) := by decide +kernel
theorem dX8_list_13 : decode cX8_list 13 = .ok (.ifCond .ge 8, 3) := by decide +kernel
theorem dX8_list_16 : decode cX8_list 16 = .ok (.ldc 70, 2) := by decide +kernel
theorem dX8_list_18 : decode cX8_list 18 = .ok (.goto 28, 3) := by decide +kernel
theorem dX8_list_21 : decode cX8_list 21 = .ok (.iload_n 1, 1) := by decide +kernel
theorem dX8_list_22 : decode cX8_list 22 = .ok (.aload_n 0, 1) := by decide +kernel
theorem dX8_list_23 : decode cX8_list 23 = .ok (.getfield 19, 3) := by decide +kernel
theorem dX8_list_26 : decode cX8_list 26 = .ok (.bipush 6, 2) := by decide +kernel
theorem dX8_list_28 : decode cX8_list 28 = .ok (.iaload, 1) := by decide +kernel
theorem dX8_list_29 : decode cX8_list 29 = .ok (.if_icmp .ge 15, 3) := by decide +kernel
theorem dX8_list_32 : decode cX8_list 32 = .ok (.aload_n 0, 1) := by decide +kernel
theorem dX8_list_33 : decode cX8_list 33 = .ok (.getfield 19, 3) := by decide +kernel
theorem dX8_list_36 : decode cX8_list 36 = .ok (.bipush 31, 2) := by decide +kernel
theorem dX8_list_38 : decode cX8_list 38 = .ok (.iload_n 1, 1) := by decide +kernel
theorem dX8_list_39 : decode cX8_list 39 = .ok (.iadd, 1) := by decide +kernel
theorem dX8_list_40 : decode cX8_list 40 = .ok (.iaload, 1) := by decide +kernel
theorem dX8_list_41 : decode cX8_list 41 = .ok (.goto 5, 3) := by decide +kernel
theorem dX8_list_44 : decode cX8_list 44 = .ok (.ldc 154, 2) := by decide +kernel
theorem dX8_list_46 : decode cX8_list 46 = .ok (.ireturn, 1) := by decide +kernel
theorem dX8_standing_0 : decode cX8_standing 0 = .ok (.iload_n 1, 1) := by decide +kernel
theorem dX8_standing_1 : decode cX8_standing 1 = .ok (.iconst 3, 1) := by decide +kernel
theorem dX8_standing_2 : decode cX8_standing 2 = .ok (.if_icmp .ne 12, 3) := by decide +kernel
theorem dX8_standing_5 : decode cX8_standing 5 = .ok (.aload_n 0, 1) := by decide +kernel
theorem dX8_standing_6 : decode cX8_standing 6 = .ok (.getfield 19, 3) := by decide +kernel
theorem dX8_standing_9 : decode cX8_standing 9 = .ok (.iconst 5, 1) := by decide +kernel
theorem dX8_standing_10 : decode cX8_standing 10 = .ok (.iaload, 1) := by decide +kernel
theorem dX8_standing_11 : decode cX8_standing 11 = .ok (.goto 8, 3) := by decide +kernel
theorem dX8_standing_14 : decode cX8_standing 14 = .ok (.aload_n 0, 1) := by decide +kernel
theorem dX8_standing_15 : decode cX8_standing 15 = .ok (.iload_n 1, 1) := by decide +kernel
theorem dX8_standing_16 : decode cX8_standing 16 = .ok (.invokevirtual 165, 3) := by decide +kernel
theorem dX8_standing_19 : decode cX8_standing 19 = .ok (.ireturn, 1) := by decide +kernel
theorem dX8_stand_0 : decode cX8_stand 0 = .ok (.aload_n 0, 1) := by decide +kernel
theorem dX8_stand_1 : decode cX8_stand 1 = .ok (.getfield 141, 3) := by decide +kernel
theorem dX8_stand_4 : decode cX8_stand 4 = .ok (.ifCond .ne 8, 3) := by decide +kernel
theorem dX8_stand_7 : decode cX8_stand 7 = .ok (.ldc 192, 2) := by decide +kernel
theorem dX8_stand_9 : decode cX8_stand 9 = .ok (.goto 25, 3) := by decide +kernel
theorem dX8_stand_12 : decode cX8_stand 12 = .ok (.iload_n 1, 1) := by decide +kernel
theorem dX8_stand_13 : decode cX8_stand 13 = .ok (.i2l, 1) := by decide +kernel
theorem dX8_stand_14 : decode cX8_stand 14 = .ok (.lconst 0, 1) := by decide +kernel
theorem dX8_stand_15 : decode cX8_stand 15 = .ok (.ldc2_w 218, 3) := by decide +kernel
theorem dX8_stand_18 : decode cX8_stand 18 = .ok (.invokestatic 60, 3) := by decide +kernel
theorem dX8_stand_21 : decode cX8_stand 21 = .ok (.ifCond .eq 11, 3) := by decide +kernel
theorem dX8_stand_24 : decode cX8_stand 24 = .ok (.aload_n 0, 1) := by decide +kernel
theorem dX8_stand_25 : decode cX8_stand 25 = .ok (.iload_n 1, 1) := by decide +kernel
theorem dX8_stand_26 : decode cX8_stand 26 = .ok (.invokevirtual 220, 3) := by decide +kernel
theorem dX8_stand_29 : decode cX8_stand 29 = .ok (.goto 5, 3) := by decide +kernel
theorem dX8_stand_32 : decode cX8_stand 32 = .ok (.ldc 70, 2) := by decide +kernel
theorem dX8_stand_34 : decode cX8_stand 34 = .ok (.ireturn, 1) := by decide +kernel
theorem dX8_putAside_0 : decode cX8_putAside 0 = .ok (.iconst 0, 1) := by decide +kernel
theorem dX8_putAside_1 : decode cX8_putAside 1 = .ok (.istore_n 1, 1) := by decide +kernel
theorem dX8_putAside_2 : decode cX8_putAside 2 = .ok (.iload_n 1, 1) := by decide +kernel
theorem dX8_putAside_3 : decode cX8_putAside 3 = .ok (.bipush 55, 2) := by decide +kernel
theorem dX8_putAside_5 : decode cX8_putAside 5 = .ok (.if_icmp .ge 21, 3) := by decide +kernel
theorem dX8_putAside_8 : decode cX8_putAside 8 = .ok (.aload_n 0, 1) := by decide +kernel
theorem dX8_putAside_9 : decode cX8_putAside 9 = .ok (.getfield 34, 3) := by decide +kernel
theorem dX8_putAside_12 : decode cX8_putAside 12 = .ok (.iload_n 1, 1) := by decide +kernel
theorem dX8_putAside_13 : decode cX8_putAside 13 = .ok (.aload_n 0, 1) := by decide +kernel
theorem dX8_putAside_14 : decode cX8_putAside 14 = .ok (.getfield 19, 3) := by decide +kernel
theorem dX8_putAside_17 : decode cX8_putAside 17 = .ok (.iload_n 1, 1) := by decide +kernel
theorem dX8_putAside_18 : decode cX8_putAside 18 = .ok (.iaload, 1) := by decide +kernel
theorem dX8_putAside_19 : decode cX8_putAside 19 = .ok (.iastore, 1) := by decide +kernel
theorem dX8_putAside_20 : decode cX8_putAside 20 = .ok (.iinc 1 1, 3) := by decide +kernel
theorem dX8_putAside_23 : decode cX8_putAside 23 = .ok (.goto (-21), 3) := by decide +kernel
theorem dX8_putAside_26 : decode cX8_putAside 26 = .ok (.return_, 1) := by decide +kernel
theorem dX8_takeBack_0 : decode cX8_takeBack 0 = .ok (.iconst 0, 1) := by decide +kernel
theorem dX8_takeBack_1 : decode cX8_takeBack 1 = .ok (.istore_n 1, 1) := by decide +kernel
theorem dX8_takeBack_2 : decode cX8_takeBack 2 = .ok (.iload_n 1, 1) := by decide +kernel
theorem dX8_takeBack_3 : decode cX8_takeBack 3 = .ok (.bipush 55, 2) := by decide +kernel
theorem dX8_takeBack_5 : decode cX8_takeBack 5 = .ok (.if_icmp .ge 21, 3) := by decide +kernel
theorem dX8_takeBack_8 : decode cX8_takeBack 8 = .ok (.aload_n 0, 1) := by decide +kernel
theorem dX8_takeBack_9 : decode cX8_takeBack 9 = .ok (.getfield 19, 3) := by decide +kernel
theorem dX8_takeBack_12 : decode cX8_takeBack 12 = .ok (.iload_n 1, 1) := by decide +kernel
theorem dX8_takeBack_13 : decode cX8_takeBack 13 = .ok (.aload_n 0, 1) := by decide +kernel
theorem dX8_takeBack_14 : decode cX8_takeBack 14 = .ok (.getfield 34, 3) := by decide +kernel
theorem dX8_takeBack_17 : decode cX8_takeBack 17 = .ok (.iload_n 1, 1) := by decide +kernel
theorem dX8_takeBack_18 : decode cX8_takeBack 18 = .ok (.iaload, 1) := by decide +kernel
theorem dX8_takeBack_19 : decode cX8_takeBack 19 = .ok (.iastore, 1) := by decide +kernel
theorem dX8_takeBack_20 : decode cX8_takeBack 20 = .ok (.iinc 1 1, 3) := by decide +kernel
theorem dX8_takeBack_23 : decode cX8_takeBack 23 = .ok (.goto (-21), 3) := by decide +kernel
theorem dX8_takeBack_26 : decode cX8_takeBack 26 = .ok (.return_, 1) := by decide +kernel
theorem dX8_goOn_0 : decode cX8_goOn 0 = .ok (.iconst 0, 1) := by decide +kernel
theorem dX8_goOn_1 : decode cX8_goOn 1 = .ok (.istore_n 2, 1) := by decide +kernel
theorem dX8_goOn_2 : decode cX8_goOn 2 = .ok (.iload_n 2, 1) := by decide +kernel
theorem dX8_goOn_3 : decode cX8_goOn 3 = .ok (.iload_n 1, 1) := by decide +kernel
theorem dX8_goOn_4 : decode cX8_goOn 4 = .ok (.if_icmp .ge 13, 3) := by decide +kernel
theorem dX8_goOn_7 : decode cX8_goOn 7 = .ok (.aload_n 0, 1) := by decide +kernel
theorem dX8_goOn_8 : decode cX8_goOn 8 = .ok (.invokevirtual 198, 3) := by decide +kernel
theorem dX8_goOn_11 : decode cX8_goOn 11 = .ok (.iinc 2 1, 3) := by decide +kernel
theorem dX8_goOn_14 : decode cX8_goOn 14 = .ok (.goto (-12), 3) := by decide +kernel
theorem dX8_goOn_17 : decode cX8_goOn 17 = .ok (.return_, 1) := by decide +kernel
theorem dX8_isWhat_0 : decode cX8_isWhat 0 = .ok (.iload_n 0, 1) := by decide +kernel
theorem dX8_isWhat_1 : decode cX8_isWhat 1 = .ok (.i2l, 1) := by decide +kernel
theorem dX8_isWhat_2 : decode cX8_isWhat 2 = .ok (.lconst 0, 1) := by decide +kernel
theorem dX8_isWhat_3 : decode cX8_isWhat 3 = .ok (.lconst 1, 1) := by decide +kernel
theorem dX8_isWhat_4 : decode cX8_isWhat 4 = .ok (.invokestatic 60, 3) := by decide +kernel
theorem dX8_isWhat_7 : decode cX8_isWhat 7 = .ok (.ireturn, 1) := by decide +kernel
theorem dX8_next_0 : decode cX8_next 0 = .ok (.aload_n 0, 1) := by decide +kernel
theorem dX8_next_1 : decode cX8_next 1 = .ok (.getfield 141, 3) := by decide +kernel
theorem dX8_next_4 : decode cX8_next 4 = .ok (.ifCond .ne 6, 3) := by decide +kernel
theorem dX8_next_7 : decode cX8_next 7 = .ok (.ldc 192, 2) := by decide +kernel
theorem dX8_next_9 : decode cX8_next 9 = .ok (.ireturn, 1) := by decide +kernel
theorem dX8_next_10 : decode cX8_next 10 = .ok (.iload_n 1, 1) := by decide +kernel
theorem dX8_next_11 : decode cX8_next 11 = .ok (.i2l, 1) := by decide +kernel
theorem dX8_next_12 : decode cX8_next 12 = .ok (.lconst 0, 1) := by decide +kernel
theorem dX8_next_13 : decode cX8_next 13 = .ok (.ldc2_w 68, 3) := by decide +kernel
theorem dX8_next_16 : decode cX8_next 16 = .ok (.invokestatic 60, 3) := by decide +kernel
theorem dX8_next_19 : decode cX8_next 19 = .ok (.ifCond .ne 6, 3) := by decide +kernel
theorem dX8_next_22 : decode cX8_next 22 = .ok (.ldc 70, 2) := by decide +kernel
theorem dX8_next_24 : decode cX8_next 24 = .ok (.ireturn, 1) := by decide +kernel
theorem dX8_next_25 : decode cX8_next 25 = .ok (.aload_n 0, 1) := by decide +kernel
theorem dX8_next_26 : decode cX8_next 26 = .ok (.invokevirtual 184, 3) := by decide +kernel
theorem dX8_next_29 : decode cX8_next 29 = .ok (.istore_n 2, 1) := by decide +kernel
theorem dX8_next_30 : decode cX8_next 30 = .ok (.iload_n 2, 1) := by decide +kernel
theorem dX8_next_31 : decode cX8_next 31 = .ok (.ifCond .lt 7, 3) := by decide +kernel
theorem dX8_next_34 : decode cX8_next 34 = .ok (.iload_n 1, 1) := by decide +kernel
theorem dX8_next_35 : decode cX8_next 35 = .ok (.ifCond .ne 13, 3) := by decide +kernel
theorem dX8_next_38 : decode cX8_next 38 = .ok (.iload_n 1, 1) := by decide +kernel
theorem dX8_next_39 : decode cX8_next 39 = .ok (.ifCond .ne 7, 3) := by decide +kernel
theorem dX8_next_42 : decode cX8_next 42 = .ok (.iload_n 2, 1) := by decide +kernel
theorem dX8_next_43 : decode cX8_next 43 = .ok (.goto 4, 3) := by decide +kernel
theorem dX8_next_46 : decode cX8_next 46 = .ok (.iconst 0, 1) := by decide +kernel
theorem dX8_next_47 : decode cX8_next 47 = .ok (.ireturn, 1) := by decide +kernel
theorem dX8_next_48 : decode cX8_next 48 = .ok (.aload_n 0, 1) := by decide +kernel
theorem dX8_next_49 : decode cX8_next 49 = .ok (.iload_n 2, 1) := by decide +kernel
theorem dX8_next_50 : decode cX8_next 50 = .ok (.invokevirtual 171, 3) := by decide +kernel
theorem dX8_next_53 : decode cX8_next 53 = .ok (.istore_n 3, 1) := by decide +kernel
theorem dX8_next_54 : decode cX8_next 54 = .ok (.iload_n 1, 1) := by decide +kernel
theorem dX8_next_55 : decode cX8_next 55 = .ok (.iconst 1, 1) := by decide +kernel
theorem dX8_next_56 : decode cX8_next 56 = .ok (.if_icmp .ne 7, 3) := by decide +kernel
theorem dX8_next_59 : decode cX8_next 59 = .ok (.iload_n 3, 1) := by decide +kernel
theorem dX8_next_60 : decode cX8_next 60 = .ok (.goto 9, 3) := by decide +kernel
theorem dX8_next_63 : decode cX8_next 63 = .ok (.aload_n 0, 1) := by decide +kernel
theorem dX8_next_64 : decode cX8_next 64 = .ok (.iload_n 2, 1) := by decide +kernel
theorem dX8_next_65 : decode cX8_next 65 = .ok (.iload_n 3, 1) := by decide +kernel
theorem dX8_next_66 : decode cX8_next 66 = .ok (.invokevirtual 174, 3) := by decide +kernel
theorem dX8_next_69 : decode cX8_next 69 = .ok (.ireturn, 1) := by decide +kernel
theorem dX8_ahead_0 : decode cX8_ahead 0 = .ok (.aload_n 0, 1) := by decide +kernel
theorem dX8_ahead_1 : decode cX8_ahead 1 = .ok (.getfield 141, 3) := by decide +kernel
theorem dX8_ahead_4 : decode cX8_ahead 4 = .ok (.ifCond .ne 6, 3) := by decide +kernel
theorem dX8_ahead_7 : decode cX8_ahead 7 = .ok (.ldc 192, 2) := by decide +kernel
theorem dX8_ahead_9 : decode cX8_ahead 9 = .ok (.ireturn, 1) := by decide +kernel
theorem dX8_ahead_10 : decode cX8_ahead 10 = .ok (.iload_n 1, 1) := by decide +kernel
theorem dX8_ahead_11 : decode cX8_ahead 11 = .ok (.i2l, 1) := by decide +kernel
theorem dX8_ahead_12 : decode cX8_ahead 12 = .ok (.lconst 0, 1) := by decide +kernel
theorem dX8_ahead_13 : decode cX8_ahead 13 = .ok (.ldc2_w 223, 3) := by decide +kernel
theorem dX8_ahead_16 : decode cX8_ahead 16 = .ok (.invokestatic 60, 3) := by decide +kernel
theorem dX8_ahead_19 : decode cX8_ahead 19 = .ok (.ifCond .eq 15, 3) := by decide +kernel
theorem dX8_ahead_22 : decode cX8_ahead 22 = .ok (.iload_n 2, 1) := by decide +kernel
theorem dX8_ahead_23 : decode cX8_ahead 23 = .ok (.i2l, 1) := by decide +kernel
theorem dX8_ahead_24 : decode cX8_ahead 24 = .ok (.lconst 0, 1) := by decide +kernel
theorem dX8_ahead_25 : decode cX8_ahead 25 = .ok (.ldc2_w 218, 3) := by decide +kernel
theorem dX8_ahead_28 : decode cX8_ahead 28 = .ok (.invokestatic 60, 3) := by decide +kernel
theorem dX8_ahead_31 : decode cX8_ahead 31 = .ok (.ifCond .ne 6, 3) := by decide +kernel
theorem dX8_ahead_34 : decode cX8_ahead 34 = .ok (.ldc 70, 2) := by decide +kernel
theorem dX8_ahead_36 : decode cX8_ahead 36 = .ok (.ireturn, 1) := by decide +kernel
theorem dX8_ahead_37 : decode cX8_ahead 37 = .ok (.aload_n 0, 1) := by decide +kernel
theorem dX8_ahead_38 : decode cX8_ahead 38 = .ok (.invokevirtual 225, 3) := by decide +kernel
theorem dX8_ahead_41 : decode cX8_ahead 41 = .ok (.aload_n 0, 1) := by decide +kernel
theorem dX8_ahead_42 : decode cX8_ahead 42 = .ok (.iload_n 1, 1) := by decide +kernel
theorem dX8_ahead_43 : decode cX8_ahead 43 = .ok (.invokevirtual 228, 3) := by decide +kernel
theorem dX8_ahead_46 : decode cX8_ahead 46 = .ok (.aload_n 0, 1) := by decide +kernel
theorem dX8_ahead_47 : decode cX8_ahead 47 = .ok (.iload_n 2, 1) := by decide +kernel
theorem dX8_ahead_48 : decode cX8_ahead 48 = .ok (.invokevirtual 220, 3) := by decide +kernel
theorem dX8_ahead_51 : decode cX8_ahead 51 = .ok (.istore_n 3, 1) := by decide +kernel
theorem dX8_ahead_52 : decode cX8_ahead 52 = .ok (.aload_n 0, 1) := by decide +kernel
theorem dX8_ahead_53 : decode cX8_ahead 53 = .ok (.invokevirtual 231, 3) := by decide +kernel
theorem dX8_ahead_56 : decode cX8_ahead 56 = .ok (.iload_n 3, 1) := by decide +kernel
theorem dX8_ahead_57 : decode cX8_ahead 57 = .ok (.ireturn, 1) := by decide +kernel
theorem dX8_when_0 : decode cX8_when 0 = .ok (.aload_n 0, 1) := by decide +kernel
theorem dX8_when_1 : decode cX8_when 1 = .ok (.iload_n 1, 1) := by decide +kernel
theorem dX8_when_2 : decode cX8_when 2 = .ok (.invokevirtual 207, 3) := by decide +kernel
theorem dX8_when_5 : decode cX8_when 5 = .ok (.ifCond .eq 15, 3) := by decide +kernel
theorem dX8_when_8 : decode cX8_when 8 = .ok (.iload_n 2, 1) := by decide +kernel
theorem dX8_when_9 : decode cX8_when 9 = .ok (.i2l, 1) := by decide +kernel
theorem dX8_when_10 : decode cX8_when 10 = .ok (.lconst 1, 1) := by decide +kernel
theorem dX8_when_11 : decode cX8_when 11 = .ok (.ldc2_w 68, 3) := by decide +kernel
theorem dX8_when_14 : decode cX8_when 14 = .ok (.invokestatic 60, 3) := by decide +kernel
theorem dX8_when_17 : decode cX8_when 17 = .ok (.ifCond .ne 6, 3) := by decide +kernel
theorem dX8_when_20 : decode cX8_when 20 = .ok (.ldc 70, 2) := by decide +kernel
theorem dX8_when_22 : decode cX8_when 22 = .ok (.ireturn, 1) := by decide +kernel
theorem dX8_when_23 : decode cX8_when 23 = .ok (.aload_n 0, 1) := by decide +kernel
theorem dX8_when_24 : decode cX8_when 24 = .ok (.invokevirtual 225, 3) := by decide +kernel
theorem dX8_when_27 : decode cX8_when 27 = .ok (.iconst 0, 1) := by decide +kernel
theorem dX8_when_28 : decode cX8_when 28 = .ok (.istore_n 3, 1) := by decide +kernel
theorem dX8_when_29 : decode cX8_when 29 = .ok (.aload_n 0, 1) := by decide +kernel
theorem dX8_when_30 : decode cX8_when 30 = .ok (.getfield 19, 3) := by decide +kernel
theorem dX8_when_33 : decode cX8_when 33 = .ok (.bipush 49, 2) := by decide +kernel
theorem dX8_when_35 : decode cX8_when 35 = .ok (.iload_n 1, 1) := by decide +kernel
theorem dX8_when_36 : decode cX8_when 36 = .ok (.iadd, 1) := by decide +kernel
theorem dX8_when_37 : decode cX8_when 37 = .ok (.iaload, 1) := by decide +kernel
theorem dX8_when_38 : decode cX8_when 38 = .ok (.iload_n 2, 1) := by decide +kernel
theorem dX8_when_39 : decode cX8_when 39 = .ok (.if_icmp .eq 19, 3) := by decide +kernel
theorem dX8_when_42 : decode cX8_when 42 = .ok (.iload_n 3, 1) := by decide +kernel
theorem dX8_when_43 : decode cX8_when 43 = .ok (.bipush 60, 2) := by decide +kernel
theorem dX8_when_45 : decode cX8_when 45 = .ok (.if_icmp .ge 13, 3) := by decide +kernel
theorem dX8_when_48 : decode cX8_when 48 = .ok (.aload_n 0, 1) := by decide +kernel
theorem dX8_when_49 : decode cX8_when 49 = .ok (.invokevirtual 198, 3) := by decide +kernel
theorem dX8_when_52 : decode cX8_when 52 = .ok (.iinc 3 1, 3) := by decide +kernel
theorem dX8_when_55 : decode cX8_when 55 = .ok (.goto (-26), 3) := by decide +kernel
theorem dX8_when_58 : decode cX8_when 58 = .ok (.aload_n 0, 1) := by decide +kernel
theorem dX8_when_59 : decode cX8_when 59 = .ok (.getfield 19, 3) := by decide +kernel
theorem dX8_when_62 : decode cX8_when 62 = .ok (.bipush 49, 2) := by decide +kernel
theorem dX8_when_64 : decode cX8_when 64 = .ok (.iload_n 1, 1) := by decide +kernel
theorem dX8_when_65 : decode cX8_when 65 = .ok (.iadd, 1) := by decide +kernel
theorem dX8_when_66 : decode cX8_when 66 = .ok (.iaload, 1) := by decide +kernel
theorem dX8_when_67 : decode cX8_when 67 = .ok (.iload_n 2, 1) := by decide +kernel
theorem dX8_when_68 : decode cX8_when 68 = .ok (.if_icmp .ne 7, 3) := by decide +kernel
theorem dX8_when_71 : decode cX8_when 71 = .ok (.iconst 1, 1) := by decide +kernel
theorem dX8_when_72 : decode cX8_when 72 = .ok (.goto 4, 3) := by decide +kernel
theorem dX8_when_75 : decode cX8_when 75 = .ok (.iconst 0, 1) := by decide +kernel
theorem dX8_when_76 : decode cX8_when 76 = .ok (.istore 4, 2) := by decide +kernel
theorem dX8_when_78 : decode cX8_when 78 = .ok (.aload_n 0, 1) := by decide +kernel
theorem dX8_when_79 : decode cX8_when 79 = .ok (.invokevirtual 231, 3) := by decide +kernel
theorem dX8_when_82 : decode cX8_when 82 = .ok (.iload 4, 2) := by decide +kernel
theorem dX8_when_84 : decode cX8_when 84 = .ok (.ifCond .eq 7, 3) := by decide +kernel
theorem dX8_when_87 : decode cX8_when 87 = .ok (.iload_n 3, 1) := by decide +kernel
theorem dX8_when_88 : decode cX8_when 88 = .ok (.goto 5, 3) := by decide +kernel
theorem dX8_when_91 : decode cX8_when 91 = .ok (.ldc 154, 2) := by decide +kernel
theorem dX8_when_93 : decode cX8_when 93 = .ok (.ireturn, 1) := by decide +kernel
theorem dX8_comes_0 : decode cX8_comes 0 = .ok (.aload_n 0, 1) := by decide +kernel
theorem dX8_comes_1 : decode cX8_comes 1 = .ok (.iload_n 1, 1) := by decide +kernel
theorem dX8_comes_2 : decode cX8_comes 2 = .ok (.invokevirtual 201, 3) := by decide +kernel
theorem dX8_comes_5 : decode cX8_comes 5 = .ok (.ifCond .ne 6, 3) := by decide +kernel
theorem dX8_comes_8 : decode cX8_comes 8 = .ok (.ldc 70, 2) := by decide +kernel
theorem dX8_comes_10 : decode cX8_comes 10 = .ok (.ireturn, 1) := by decide +kernel
theorem dX8_comes_11 : decode cX8_comes 11 = .ok (.aload_n 0, 1) := by decide +kernel
theorem dX8_comes_12 : decode cX8_comes 12 = .ok (.invokevirtual 225, 3) := by decide +kernel
theorem dX8_comes_15 : decode cX8_comes 15 = .ok (.ldc 154, 2) := by decide +kernel
theorem dX8_comes_17 : decode cX8_comes 17 = .ok (.istore_n 2, 1) := by decide +kernel
theorem dX8_comes_18 : decode cX8_comes 18 = .ok (.iconst 1, 1) := by decide +kernel
theorem dX8_comes_19 : decode cX8_comes 19 = .ok (.istore_n 3, 1) := by decide +kernel
theorem dX8_comes_20 : decode cX8_comes 20 = .ok (.iload_n 3, 1) := by decide +kernel
theorem dX8_comes_21 : decode cX8_comes 21 = .ok (.bipush 60, 2) := by decide +kernel
theorem dX8_comes_23 : decode cX8_comes 23 = .ok (.if_icmp .gt 31, 3) := by decide +kernel
theorem dX8_comes_26 : decode cX8_comes 26 = .ok (.iload_n 2, 1) := by decide +kernel
theorem dX8_comes_27 : decode cX8_comes 27 = .ok (.ifCond .ge 27, 3) := by decide +kernel
theorem dX8_comes_30 : decode cX8_comes 30 = .ok (.aload_n 0, 1) := by decide +kernel
theorem dX8_comes_31 : decode cX8_comes 31 = .ok (.invokevirtual 184, 3) := by decide +kernel
theorem dX8_comes_34 : decode cX8_comes 34 = .ok (.iload_n 1, 1) := by decide +kernel
theorem dX8_comes_35 : decode cX8_comes 35 = .ok (.if_icmp .ne 7, 3) := by decide +kernel
theorem dX8_comes_38 : decode cX8_comes 38 = .ok (.iload_n 3, 1) := by decide +kernel
theorem dX8_comes_39 : decode cX8_comes 39 = .ok (.goto 4, 3) := by decide +kernel
theorem dX8_comes_42 : decode cX8_comes 42 = .ok (.iload_n 2, 1) := by decide +kernel
theorem dX8_comes_43 : decode cX8_comes 43 = .ok (.istore_n 2, 1) := by decide +kernel
theorem dX8_comes_44 : decode cX8_comes 44 = .ok (.aload_n 0, 1) := by decide +kernel
theorem dX8_comes_45 : decode cX8_comes 45 = .ok (.invokevirtual 198, 3) := by decide +kernel
theorem dX8_comes_48 : decode cX8_comes 48 = .ok (.iinc 3 1, 3) := by decide +kernel
theorem dX8_comes_51 : decode cX8_comes 51 = .ok (.goto (-31), 3) := by decide +kernel
theorem dX8_comes_54 : decode cX8_comes 54 = .ok (.aload_n 0, 1) := by decide +kernel
theorem dX8_comes_55 : decode cX8_comes 55 = .ok (.invokevirtual 231, 3) := by decide +kernel
theorem dX8_comes_58 : decode cX8_comes 58 = .ok (.iload_n 2, 1) := by decide +kernel
theorem dX8_comes_59 : decode cX8_comes 59 = .ok (.ireturn, 1) := by decide +kernel
theorem dX8_isNext_0 : decode cX8_isNext 0 = .ok (.iload_n 1, 1) := by decide +kernel
theorem dX8_isNext_1 : decode cX8_isNext 1 = .ok (.iconst 2, 1) := by decide +kernel
theorem dX8_isNext_2 : decode cX8_isNext 2 = .ok (.isub, 1) := by decide +kernel
theorem dX8_isNext_3 : decode cX8_isNext 3 = .ok (.istore_n 2, 1) := by decide +kernel
theorem dX8_isNext_4 : decode cX8_isNext 4 = .ok (.iload_n 2, 1) := by decide +kernel
theorem dX8_isNext_5 : decode cX8_isNext 5 = .ok (.ifCond .lt 26, 3) := by decide +kernel
theorem dX8_isNext_8 : decode cX8_isNext 8 = .ok (.aload_n 0, 1) := by decide +kernel
theorem dX8_isNext_9 : decode cX8_isNext 9 = .ok (.getfield 37, 3) := by decide +kernel
theorem dX8_isNext_12 : decode cX8_isNext 12 = .ok (.iload_n 2, 1) := by decide +kernel
theorem dX8_isNext_13 : decode cX8_isNext 13 = .ok (.iaload, 1) := by decide +kernel
theorem dX8_isNext_14 : decode cX8_isNext 14 = .ok (.aload_n 0, 1) := by decide +kernel
theorem dX8_isNext_15 : decode cX8_isNext 15 = .ok (.getfield 37, 3) := by decide +kernel
theorem dX8_isNext_18 : decode cX8_isNext 18 = .ok (.iload_n 2, 1) := by decide +kernel
theorem dX8_isNext_19 : decode cX8_isNext 19 = .ok (.iconst 1, 1) := by decide +kernel
theorem dX8_isNext_20 : decode cX8_isNext 20 = .ok (.iadd, 1) := by decide +kernel
theorem dX8_isNext_21 : decode cX8_isNext 21 = .ok (.iaload, 1) := by decide +kernel
theorem dX8_isNext_22 : decode cX8_isNext 22 = .ok (.if_icmp .le 9, 3) := by decide +kernel
theorem dX8_isNext_25 : decode cX8_isNext 25 = .ok (.iinc 2 (-1), 3) := by decide +kernel
theorem dX8_isNext_28 : decode cX8_isNext 28 = .ok (.goto (-24), 3) := by decide +kernel
theorem dX8_isNext_31 : decode cX8_isNext 31 = .ok (.iload_n 2, 1) := by decide +kernel
theorem dX8_isNext_32 : decode cX8_isNext 32 = .ok (.ifCond .ge 5, 3) := by decide +kernel
theorem dX8_isNext_35 : decode cX8_isNext 35 = .ok (.iconst 0, 1) := by decide +kernel
theorem dX8_isNext_36 : decode cX8_isNext 36 = .ok (.ireturn, 1) := by decide +kernel
theorem dX8_isNext_37 : decode cX8_isNext 37 = .ok (.iload_n 1, 1) := by decide +kernel
theorem dX8_isNext_38 : decode cX8_isNext 38 = .ok (.iconst 1, 1) := by decide +kernel
theorem dX8_isNext_39 : decode cX8_isNext 39 = .ok (.isub, 1) := by decide +kernel
theorem dX8_isNext_40 : decode cX8_isNext 40 = .ok (.istore_n 3, 1) := by decide +kernel
theorem dX8_isNext_41 : decode cX8_isNext 41 = .ok (.aload_n 0, 1) := by decide +kernel
theorem dX8_isNext_42 : decode cX8_isNext 42 = .ok (.getfield 37, 3) := by decide +kernel
theorem dX8_isNext_45 : decode cX8_isNext 45 = .ok (.iload_n 3, 1) := by decide +kernel
theorem dX8_isNext_46 : decode cX8_isNext 46 = .ok (.iaload, 1) := by decide +kernel
theorem dX8_isNext_47 : decode cX8_isNext 47 = .ok (.aload_n 0, 1) := by decide +kernel
theorem dX8_isNext_48 : decode cX8_isNext 48 = .ok (.getfield 37, 3) := by decide +kernel
theorem dX8_isNext_51 : decode cX8_isNext 51 = .ok (.iload_n 2, 1) := by decide +kernel
theorem dX8_isNext_52 : decode cX8_isNext 52 = .ok (.iaload, 1) := by decide +kernel
theorem dX8_isNext_53 : decode cX8_isNext 53 = .ok (.if_icmp .ge 9, 3) := by decide +kernel
theorem dX8_isNext_56 : decode cX8_isNext 56 = .ok (.iinc 3 (-1), 3) := by decide +kernel
theorem dX8_isNext_59 : decode cX8_isNext 59 = .ok (.goto (-18), 3) := by decide +kernel
theorem dX8_isNext_62 : decode cX8_isNext 62 = .ok (.aload_n 0, 1) := by decide +kernel
theorem dX8_isNext_63 : decode cX8_isNext 63 = .ok (.iload_n 2, 1) := by decide +kernel
theorem dX8_isNext_64 : decode cX8_isNext 64 = .ok (.iload_n 3, 1) := by decide +kernel
theorem dX8_isNext_65 : decode cX8_isNext 65 = .ok (.invokevirtual 234, 3) := by decide +kernel
theorem dX8_isNext_68 : decode cX8_isNext 68 = .ok (.iload_n 2, 1) := by decide +kernel
theorem dX8_isNext_69 : decode cX8_isNext 69 = .ok (.iconst 1, 1) := by decide +kernel
theorem dX8_isNext_70 : decode cX8_isNext 70 = .ok (.iadd, 1) := by decide +kernel
theorem dX8_isNext_71 : decode cX8_isNext 71 = .ok (.istore 4, 2) := by decide +kernel
theorem dX8_isNext_73 : decode cX8_isNext 73 = .ok (.iload_n 1, 1) := by decide +kernel
theorem dX8_isNext_74 : decode cX8_isNext 74 = .ok (.iconst 1, 1) := by decide +kernel
theorem dX8_isNext_75 : decode cX8_isNext 75 = .ok (.isub, 1) := by decide +kernel
theorem dX8_isNext_76 : decode cX8_isNext 76 = .ok (.istore 5, 2) := by decide +kernel
theorem dX8_isNext_78 : decode cX8_isNext 78 = .ok (.iload 4, 2) := by decide +kernel
theorem dX8_isNext_80 : decode cX8_isNext 80 = .ok (.iload 5, 2) := by decide +kernel
theorem dX8_isNext_82 : decode cX8_isNext 82 = .ok (.if_icmp .ge 20, 3) := by decide +kernel
theorem dX8_isNext_85 : decode cX8_isNext 85 = .ok (.aload_n 0, 1) := by decide +kernel
theorem dX8_isNext_86 : decode cX8_isNext 86 = .ok (.iload 4, 2) := by decide +kernel
theorem dX8_isNext_88 : decode cX8_isNext 88 = .ok (.iload 5, 2) := by decide +kernel
theorem dX8_isNext_90 : decode cX8_isNext 90 = .ok (.invokevirtual 234, 3) := by decide +kernel
theorem dX8_isNext_93 : decode cX8_isNext 93 = .ok (.iinc 4 1, 3) := by decide +kernel
theorem dX8_isNext_96 : decode cX8_isNext 96 = .ok (.iinc 5 (-1), 3) := by decide +kernel
theorem dX8_isNext_99 : decode cX8_isNext 99 = .ok (.goto (-21), 3) := by decide +kernel
theorem dX8_isNext_102 : decode cX8_isNext 102 = .ok (.iconst 1, 1) := by decide +kernel
theorem dX8_isNext_103 : decode cX8_isNext 103 = .ok (.ireturn, 1) := by decide +kernel
theorem dX8_change_0 : decode cX8_change 0 = .ok (.aload_n 0, 1) := by decide +kernel
theorem dX8_change_1 : decode cX8_change 1 = .ok (.getfield 37, 3) := by decide +kernel
theorem dX8_change_4 : decode cX8_change 4 = .ok (.iload_n 1, 1) := by decide +kernel
theorem dX8_change_5 : decode cX8_change 5 = .ok (.iaload, 1) := by decide +kernel
theorem dX8_change_6 : decode cX8_change 6 = .ok (.istore_n 3, 1) := by decide +kernel
theorem dX8_change_7 : decode cX8_change 7 = .ok (.aload_n 0, 1) := by decide +kernel
theorem dX8_change_8 : decode cX8_change 8 = .ok (.getfield 37, 3) := by decide +kernel
theorem dX8_change_11 : decode cX8_change 11 = .ok (.iload_n 1, 1) := by decide +kernel
theorem dX8_change_12 : decode cX8_change 12 = .ok (.aload_n 0, 1) := by decide +kernel
theorem dX8_change_13 : decode cX8_change 13 = .ok (.getfield 37, 3) := by decide +kernel
theorem dX8_change_16 : decode cX8_change 16 = .ok (.iload_n 2, 1) := by decide +kernel
theorem dX8_change_17 : decode cX8_change 17 = .ok (.iaload, 1) := by decide +kernel
theorem dX8_change_18 : decode cX8_change 18 = .ok (.iastore, 1) := by decide +kernel
theorem dX8_change_19 : decode cX8_change 19 = .ok (.aload_n 0, 1) := by decide +kernel
theorem dX8_change_20 : decode cX8_change 20 = .ok (.getfield 37, 3) := by decide +kernel
theorem dX8_change_23 : decode cX8_change 23 = .ok (.iload_n 2, 1) := by decide +kernel
theorem dX8_change_24 : decode cX8_change 24 = .ok (.iload_n 3, 1) := by decide +kernel
theorem dX8_change_25 : decode cX8_change 25 = .ok (.iastore, 1) := by decide +kernel
theorem dX8_change_26 : decode cX8_change 26 = .ok (.return_, 1) := by decide +kernel
theorem dX8_order_0 : decode cX8_order 0 = .ok (.aload_n 0, 1) := by decide +kernel
theorem dX8_order_1 : decode cX8_order 1 = .ok (.getfield 141, 3) := by decide +kernel
theorem dX8_order_4 : decode cX8_order 4 = .ok (.ifCond .ne 6, 3) := by decide +kernel
theorem dX8_order_7 : decode cX8_order 7 = .ok (.ldc 192, 2) := by decide +kernel
theorem dX8_order_9 : decode cX8_order 9 = .ok (.ireturn, 1) := by decide +kernel
theorem dX8_order_10 : decode cX8_order 10 = .ok (.iload_n 1, 1) := by decide +kernel
theorem dX8_order_11 : decode cX8_order 11 = .ok (.bipush (-2), 2) := by decide +kernel
theorem dX8_order_13 : decode cX8_order 13 = .ok (.if_icmp .ge 6, 3) := by decide +kernel
theorem dX8_order_16 : decode cX8_order 16 = .ok (.ldc 70, 2) := by decide +kernel
theorem dX8_order_18 : decode cX8_order 18 = .ok (.ireturn, 1) := by decide +kernel
theorem dX8_order_19 : decode cX8_order 19 = .ok (.aload_n 0, 1) := by decide +kernel
theorem dX8_order_20 : decode cX8_order 20 = .ok (.invokevirtual 225, 3) := by decide +kernel
theorem dX8_order_23 : decode cX8_order 23 = .ok (.iconst 0, 1) := by decide +kernel
theorem dX8_order_24 : decode cX8_order 24 = .ok (.istore_n 2, 1) := by decide +kernel
theorem dX8_order_25 : decode cX8_order 25 = .ok (.iconst 0, 1) := by decide +kernel
theorem dX8_order_26 : decode cX8_order 26 = .ok (.istore_n 3, 1) := by decide +kernel
theorem dX8_order_27 : decode cX8_order 27 = .ok (.iload_n 3, 1) := by decide +kernel
theorem dX8_order_28 : decode cX8_order 28 = .ok (.aload_n 0, 1) := by decide +kernel
theorem dX8_order_29 : decode cX8_order 29 = .ok (.getfield 19, 3) := by decide +kernel
theorem dX8_order_32 : decode cX8_order 32 = .ok (.iconst 2, 1) := by decide +kernel
theorem dX8_order_33 : decode cX8_order 33 = .ok (.iaload, 1) := by decide +kernel
theorem dX8_order_34 : decode cX8_order 34 = .ok (.if_icmp .ge 27, 3) := by decide +kernel
theorem dX8_order_37 : decode cX8_order 37 = .ok (.aload_n 0, 1) := by decide +kernel
theorem dX8_order_38 : decode cX8_order 38 = .ok (.iload_n 3, 1) := by decide +kernel
theorem dX8_order_39 : decode cX8_order 39 = .ok (.invokevirtual 155, 3) := by decide +kernel
theorem dX8_order_42 : decode cX8_order 42 = .ok (.ifCond .lt 13, 3) := by decide +kernel
theorem dX8_order_45 : decode cX8_order 45 = .ok (.aload_n 0, 1) := by decide +kernel
theorem dX8_order_46 : decode cX8_order 46 = .ok (.getfield 37, 3) := by decide +kernel
theorem dX8_order_49 : decode cX8_order 49 = .ok (.iload_n 2, 1) := by decide +kernel
theorem dX8_order_50 : decode cX8_order 50 = .ok (.iload_n 3, 1) := by decide +kernel
theorem dX8_order_51 : decode cX8_order 51 = .ok (.iastore, 1) := by decide +kernel
theorem dX8_order_52 : decode cX8_order 52 = .ok (.iinc 2 1, 3) := by decide +kernel
theorem dX8_order_55 : decode cX8_order 55 = .ok (.iinc 3 1, 3) := by decide +kernel
theorem dX8_order_58 : decode cX8_order 58 = .ok (.goto (-31), 3) := by decide +kernel
theorem dX8_order_61 : decode cX8_order 61 = .ok (.iconst (-1), 1) := by decide +kernel
theorem dX8_order_62 : decode cX8_order 62 = .ok (.istore_n 3, 1) := by decide +kernel
theorem dX8_order_63 : decode cX8_order 63 = .ok (.iconst 0, 1) := by decide +kernel
theorem dX8_order_64 : decode cX8_order 64 = .ok (.istore 4, 2) := by decide +kernel
theorem dX8_order_66 : decode cX8_order 66 = .ok (.iconst 1, 1) := by decide +kernel
theorem dX8_order_67 : decode cX8_order 67 = .ok (.istore 5, 2) := by decide +kernel
theorem dX8_order_69 : decode cX8_order 69 = .ok (.iload 5, 2) := by decide +kernel
theorem dX8_order_71 : decode cX8_order 71 = .ok (.ifCond .eq 97, 3) := by decide +kernel
theorem dX8_order_74 : decode cX8_order 74 = .ok (.iconst 0, 1) := by decide +kernel
theorem dX8_order_75 : decode cX8_order 75 = .ok (.istore 6, 2) := by decide +kernel
theorem dX8_order_77 : decode cX8_order 77 = .ok (.iload 6, 2) := by decide +kernel
theorem dX8_order_79 : decode cX8_order 79 = .ok (.iload_n 2, 1) := by decide +kernel
theorem dX8_order_80 : decode cX8_order 80 = .ok (.if_icmp .ge 21, 3) := by decide +kernel
theorem dX8_order_83 : decode cX8_order 83 = .ok (.aload_n 0, 1) := by decide +kernel
theorem dX8_order_84 : decode cX8_order 84 = .ok (.aload_n 0, 1) := by decide +kernel
theorem dX8_order_85 : decode cX8_order 85 = .ok (.getfield 37, 3) := by decide +kernel
theorem dX8_order_88 : decode cX8_order 88 = .ok (.iload 6, 2) := by decide +kernel
theorem dX8_order_90 : decode cX8_order 90 = .ok (.iaload, 1) := by decide +kernel
theorem dX8_order_91 : decode cX8_order 91 = .ok (.iconst 0, 1) := by decide +kernel
theorem dX8_order_92 : decode cX8_order 92 = .ok (.invokevirtual 188, 3) := by decide +kernel
theorem dX8_order_95 : decode cX8_order 95 = .ok (.iinc 6 1, 3) := by decide +kernel
theorem dX8_order_98 : decode cX8_order 98 = .ok (.goto (-21), 3) := by decide +kernel
theorem dX8_order_101 : decode cX8_order 101 = .ok (.aload_n 0, 1) := by decide +kernel
theorem dX8_order_102 : decode cX8_order 102 = .ok (.getfield 19, 3) := by decide +kernel
theorem dX8_order_105 : decode cX8_order 105 = .ok (.iconst 5, 1) := by decide +kernel
theorem dX8_order_106 : decode cX8_order 106 = .ok (.iaload, 1) := by decide +kernel
theorem dX8_order_107 : decode cX8_order 107 = .ok (.iload_n 3, 1) := by decide +kernel
theorem dX8_order_108 : decode cX8_order 108 = .ok (.if_icmp .le 46, 3) := by decide +kernel
theorem dX8_order_111 : decode cX8_order 111 = .ok (.aload_n 0, 1) := by decide +kernel
theorem dX8_order_112 : decode cX8_order 112 = .ok (.getfield 19, 3) := by decide +kernel
theorem dX8_order_115 : decode cX8_order 115 = .ok (.iconst 5, 1) := by decide +kernel
theorem dX8_order_116 : decode cX8_order 116 = .ok (.iaload, 1) := by decide +kernel
theorem dX8_order_117 : decode cX8_order 117 = .ok (.istore_n 3, 1) := by decide +kernel
theorem dX8_order_118 : decode cX8_order 118 = .ok (.aload_n 0, 1) := by decide +kernel
theorem dX8_order_119 : decode cX8_order 119 = .ok (.iconst 1, 1) := by decide +kernel
theorem dX8_order_120 : decode cX8_order 120 = .ok (.invokevirtual 165, 3) := by decide +kernel
theorem dX8_order_123 : decode cX8_order 123 = .ok (.istore 4, 2) := by decide +kernel
theorem dX8_order_125 : decode cX8_order 125 = .ok (.iconst 0, 1) := by decide +kernel
theorem dX8_order_126 : decode cX8_order 126 = .ok (.istore 6, 2) := by decide +kernel
theorem dX8_order_128 : decode cX8_order 128 = .ok (.iload 6, 2) := by decide +kernel
theorem dX8_order_130 : decode cX8_order 130 = .ok (.iload_n 2, 1) := by decide +kernel
theorem dX8_order_131 : decode cX8_order 131 = .ok (.if_icmp .ge 23, 3) := by decide +kernel
theorem dX8_order_134 : decode cX8_order 134 = .ok (.aload_n 0, 1) := by decide +kernel
theorem dX8_order_135 : decode cX8_order 135 = .ok (.getfield 40, 3) := by decide +kernel
theorem dX8_order_138 : decode cX8_order 138 = .ok (.iload 6, 2) := by decide +kernel
theorem dX8_order_140 : decode cX8_order 140 = .ok (.aload_n 0, 1) := by decide +kernel
theorem dX8_order_141 : decode cX8_order 141 = .ok (.getfield 37, 3) := by decide +kernel
theorem dX8_order_144 : decode cX8_order 144 = .ok (.iload 6, 2) := by decide +kernel
theorem dX8_order_146 : decode cX8_order 146 = .ok (.iaload, 1) := by decide +kernel
theorem dX8_order_147 : decode cX8_order 147 = .ok (.iastore, 1) := by decide +kernel
theorem dX8_order_148 : decode cX8_order 148 = .ok (.iinc 6 1, 3) := by decide +kernel
theorem dX8_order_151 : decode cX8_order 151 = .ok (.goto (-23), 3) := by decide +kernel
theorem dX8_order_154 : decode cX8_order 154 = .ok (.aload_n 0, 1) := by decide +kernel
theorem dX8_order_155 : decode cX8_order 155 = .ok (.invokevirtual 231, 3) := by decide +kernel
theorem dX8_order_158 : decode cX8_order 158 = .ok (.aload_n 0, 1) := by decide +kernel
theorem dX8_order_159 : decode cX8_order 159 = .ok (.iload_n 2, 1) := by decide +kernel
theorem dX8_order_160 : decode cX8_order 160 = .ok (.invokevirtual 238, 3) := by decide +kernel
theorem dX8_order_163 : decode cX8_order 163 = .ok (.istore 5, 2) := by decide +kernel
theorem dX8_order_165 : decode cX8_order 165 = .ok (.goto (-96), 3) := by decide +kernel
theorem dX8_order_168 : decode cX8_order 168 = .ok (.iload_n 1, 1) := by decide +kernel
theorem dX8_order_169 : decode cX8_order 169 = .ok (.iconst (-1), 1) := by decide +kernel
theorem dX8_order_170 : decode cX8_order 170 = .ok (.if_icmp .ne 7, 3) := by decide +kernel
theorem dX8_order_173 : decode cX8_order 173 = .ok (.iload_n 3, 1) := by decide +kernel
theorem dX8_order_174 : decode cX8_order 174 = .ok (.goto 30, 3) := by decide +kernel
theorem dX8_order_177 : decode cX8_order 177 = .ok (.iload_n 1, 1) := by decide +kernel
theorem dX8_order_178 : decode cX8_order 178 = .ok (.bipush (-2), 2) := by decide +kernel
theorem dX8_order_180 : decode cX8_order 180 = .ok (.if_icmp .ne 8, 3) := by decide +kernel
theorem dX8_order_183 : decode cX8_order 183 = .ok (.iload 4, 2) := by decide +kernel
theorem dX8_order_185 : decode cX8_order 185 = .ok (.goto 19, 3) := by decide +kernel
theorem dX8_order_188 : decode cX8_order 188 = .ok (.iload_n 1, 1) := by decide +kernel
theorem dX8_order_189 : decode cX8_order 189 = .ok (.iload_n 2, 1) := by decide +kernel
theorem dX8_order_190 : decode cX8_order 190 = .ok (.if_icmp .ge 12, 3) := by decide +kernel
