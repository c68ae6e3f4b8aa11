theorem dX8_order_193 : decode cX8_order 193 = .ok (.aload_n 0, 1) := by decide +kernel
theorem dX8_order_194 : decode cX8_order 194 = .ok (.getfield 40, 3) := by decide +kernel
theorem dX8_order_197 : decode cX8_order 197 = .ok (.iload_n 1, 1) := by decide +kernel
theorem dX8_order_198 : decode cX8_order 198 = .ok (.iaload, 1) := by decide +kernel
theorem dX8_order_199 : decode cX8_order 199 = .ok (.goto 5, 3) := by decide +kernel
theorem dX8_order_202 : decode cX8_order 202 = .ok (.ldc 154, 2) := by decide +kernel
theorem dX8_order_204 : decode cX8_order 204 = .ok (.ireturn, 1) := by decide +kernel
theorem dX8_sumOf_0 : decode cX8_sumOf 0 = .ok (.iconst 0, 1) := by decide +kernel
theorem dX8_sumOf_1 : decode cX8_sumOf 1 = .ok (.istore_n 3, 1) := by decide +kernel
theorem dX8_sumOf_2 : decode cX8_sumOf 2 = .ok (.iconst 0, 1) := by decide +kernel
theorem dX8_sumOf_3 : decode cX8_sumOf 3 = .ok (.istore 4, 2) := by decide +kernel
theorem dX8_sumOf_5 : decode cX8_sumOf 5 = .ok (.iload 4, 2) := by decide +kernel
theorem dX8_sumOf_7 : decode cX8_sumOf 7 = .ok (.aload_n 0, 1) := by decide +kernel
theorem dX8_sumOf_8 : decode cX8_sumOf 8 = .ok (.getfield 19, 3) := by decide +kernel
theorem dX8_sumOf_11 : decode cX8_sumOf 11 = .ok (.iconst 2, 1) := by decide +kernel
theorem dX8_sumOf_12 : decode cX8_sumOf 12 = .ok (.iaload, 1) := by decide +kernel
theorem dX8_sumOf_13 : decode cX8_sumOf 13 = .ok (.if_icmp .ge 34, 3) := by decide +kernel
theorem dX8_sumOf_16 : decode cX8_sumOf 16 = .ok (.iload_n 3, 1) := by decide +kernel
theorem dX8_sumOf_17 : decode cX8_sumOf 17 = .ok (.iload_n 2, 1) := by decide +kernel
theorem dX8_sumOf_18 : decode cX8_sumOf 18 = .ok (.iload 4, 2) := by decide +kernel
theorem dX8_sumOf_20 : decode cX8_sumOf 20 = .ok (.invokestatic 177, 3) := by decide +kernel
theorem dX8_sumOf_23 : decode cX8_sumOf 23 = .ok (.ifCond .eq 15, 3) := by decide +kernel
theorem dX8_sumOf_26 : decode cX8_sumOf 26 = .ok (.aload_n 0, 1) := by decide +kernel
theorem dX8_sumOf_27 : decode cX8_sumOf 27 = .ok (.getfield 19, 3) := by decide +kernel
theorem dX8_sumOf_30 : decode cX8_sumOf 30 = .ok (.iload_n 1, 1) := by decide +kernel
theorem dX8_sumOf_31 : decode cX8_sumOf 31 = .ok (.iload 4, 2) := by decide +kernel
theorem dX8_sumOf_33 : decode cX8_sumOf 33 = .ok (.iadd, 1) := by decide +kernel
theorem dX8_sumOf_34 : decode cX8_sumOf 34 = .ok (.iaload, 1) := by decide +kernel
theorem dX8_sumOf_35 : decode cX8_sumOf 35 = .ok (.goto 4, 3) := by decide +kernel
theorem dX8_sumOf_38 : decode cX8_sumOf 38 = .ok (.iconst 0, 1) := by decide +kernel
theorem dX8_sumOf_39 : decode cX8_sumOf 39 = .ok (.iadd, 1) := by decide +kernel
theorem dX8_sumOf_40 : decode cX8_sumOf 40 = .ok (.istore_n 3, 1) := by decide +kernel
theorem dX8_sumOf_41 : decode cX8_sumOf 41 = .ok (.iinc 4 1, 3) := by decide +kernel
theorem dX8_sumOf_44 : decode cX8_sumOf 44 = .ok (.goto (-39), 3) := by decide +kernel
theorem dX8_sumOf_47 : decode cX8_sumOf 47 = .ok (.iload_n 3, 1) := by decide +kernel
theorem dX8_sumOf_48 : decode cX8_sumOf 48 = .ok (.ireturn, 1) := by decide +kernel
theorem dX8_pack_0 : decode cX8_pack 0 = .ok (.aload_n 0, 1) := by decide +kernel
theorem dX8_pack_1 : decode cX8_pack 1 = .ok (.getfield 141, 3) := by decide +kernel
theorem dX8_pack_4 : decode cX8_pack 4 = .ok (.ifCond .ne 6, 3) := by decide +kernel
theorem dX8_pack_7 : decode cX8_pack 7 = .ok (.ldc 192, 2) := by decide +kernel
theorem dX8_pack_9 : decode cX8_pack 9 = .ok (.ireturn, 1) := by decide +kernel
theorem dX8_pack_10 : decode cX8_pack 10 = .ok (.iload_n 1, 1) := by decide +kernel
theorem dX8_pack_11 : decode cX8_pack 11 = .ok (.invokestatic 241, 3) := by decide +kernel
theorem dX8_pack_14 : decode cX8_pack 14 = .ok (.ifCond .ne 6, 3) := by decide +kernel
theorem dX8_pack_17 : decode cX8_pack 17 = .ok (.ldc 70, 2) := by decide +kernel
theorem dX8_pack_19 : decode cX8_pack 19 = .ok (.ireturn, 1) := by decide +kernel
theorem dX8_pack_20 : decode cX8_pack 20 = .ok (.iconst 0, 1) := by decide +kernel
theorem dX8_pack_21 : decode cX8_pack 21 = .ok (.istore_n 2, 1) := by decide +kernel
theorem dX8_pack_22 : decode cX8_pack 22 = .ok (.iconst 1, 1) := by decide +kernel
theorem dX8_pack_23 : decode cX8_pack 23 = .ok (.istore_n 3, 1) := by decide +kernel
theorem dX8_pack_24 : decode cX8_pack 24 = .ok (.iload_n 3, 1) := by decide +kernel
theorem dX8_pack_25 : decode cX8_pack 25 = .ok (.iconst 1, 1) := by decide +kernel
theorem dX8_pack_26 : decode cX8_pack 26 = .ok (.aload_n 0, 1) := by decide +kernel
theorem dX8_pack_27 : decode cX8_pack 27 = .ok (.getfield 19, 3) := by decide +kernel
theorem dX8_pack_30 : decode cX8_pack 30 = .ok (.iconst 2, 1) := by decide +kernel
theorem dX8_pack_31 : decode cX8_pack 31 = .ok (.iaload, 1) := by decide +kernel
theorem dX8_pack_32 : decode cX8_pack 32 = .ok (.ishl, 1) := by decide +kernel
theorem dX8_pack_33 : decode cX8_pack 33 = .ok (.if_icmp .ge 65, 3) := by decide +kernel
theorem dX8_pack_36 : decode cX8_pack 36 = .ok (.aload_n 0, 1) := by decide +kernel
theorem dX8_pack_37 : decode cX8_pack 37 = .ok (.bipush 25, 2) := by decide +kernel
theorem dX8_pack_39 : decode cX8_pack 39 = .ok (.iload_n 3, 1) := by decide +kernel
theorem dX8_pack_40 : decode cX8_pack 40 = .ok (.invokevirtual 244, 3) := by decide +kernel
theorem dX8_pack_43 : decode cX8_pack 43 = .ok (.aload_n 0, 1) := by decide +kernel
theorem dX8_pack_44 : decode cX8_pack 44 = .ok (.bipush 25, 2) := by decide +kernel
theorem dX8_pack_46 : decode cX8_pack 46 = .ok (.iload_n 2, 1) := by decide +kernel
theorem dX8_pack_47 : decode cX8_pack 47 = .ok (.invokevirtual 244, 3) := by decide +kernel
theorem dX8_pack_50 : decode cX8_pack 50 = .ok (.isub, 1) := by decide +kernel
theorem dX8_pack_51 : decode cX8_pack 51 = .ok (.istore 4, 2) := by decide +kernel
theorem dX8_pack_53 : decode cX8_pack 53 = .ok (.aload_n 0, 1) := by decide +kernel
theorem dX8_pack_54 : decode cX8_pack 54 = .ok (.bipush 19, 2) := by decide +kernel
theorem dX8_pack_56 : decode cX8_pack 56 = .ok (.iload_n 3, 1) := by decide +kernel
theorem dX8_pack_57 : decode cX8_pack 57 = .ok (.invokevirtual 244, 3) := by decide +kernel
theorem dX8_pack_60 : decode cX8_pack 60 = .ok (.aload_n 0, 1) := by decide +kernel
theorem dX8_pack_61 : decode cX8_pack 61 = .ok (.getfield 19, 3) := by decide +kernel
theorem dX8_pack_64 : decode cX8_pack 64 = .ok (.iconst 0, 1) := by decide +kernel
theorem dX8_pack_65 : decode cX8_pack 65 = .ok (.iaload, 1) := by decide +kernel
theorem dX8_pack_66 : decode cX8_pack 66 = .ok (.if_icmp .gt 26, 3) := by decide +kernel
theorem dX8_pack_69 : decode cX8_pack 69 = .ok (.iload 4, 2) := by decide +kernel
theorem dX8_pack_71 : decode cX8_pack 71 = .ok (.ifCond .gt 19, 3) := by decide +kernel
theorem dX8_pack_74 : decode cX8_pack 74 = .ok (.iload 4, 2) := by decide +kernel
theorem dX8_pack_76 : decode cX8_pack 76 = .ok (.ifCond .ne 16, 3) := by decide +kernel
theorem dX8_pack_79 : decode cX8_pack 79 = .ok (.iload_n 3, 1) := by decide +kernel
theorem dX8_pack_80 : decode cX8_pack 80 = .ok (.invokestatic 151, 3) := by decide +kernel
theorem dX8_pack_83 : decode cX8_pack 83 = .ok (.iload_n 2, 1) := by decide +kernel
theorem dX8_pack_84 : decode cX8_pack 84 = .ok (.invokestatic 151, 3) := by decide +kernel
theorem dX8_pack_87 : decode cX8_pack 87 = .ok (.if_icmp .ge 5, 3) := by decide +kernel
theorem dX8_pack_90 : decode cX8_pack 90 = .ok (.iload_n 3, 1) := by decide +kernel
theorem dX8_pack_91 : decode cX8_pack 91 = .ok (.istore_n 2, 1) := by decide +kernel
theorem dX8_pack_92 : decode cX8_pack 92 = .ok (.iinc 3 1, 3) := by decide +kernel
theorem dX8_pack_95 : decode cX8_pack 95 = .ok (.goto (-71), 3) := by decide +kernel
theorem dX8_pack_98 : decode cX8_pack 98 = .ok (.iload_n 1, 1) := by decide +kernel
theorem dX8_pack_99 : decode cX8_pack 99 = .ok (.ifCond .ne 7, 3) := by decide +kernel
theorem dX8_pack_102 : decode cX8_pack 102 = .ok (.iload_n 2, 1) := by decide +kernel
theorem dX8_pack_103 : decode cX8_pack 103 = .ok (.goto 10, 3) := by decide +kernel
theorem dX8_pack_106 : decode cX8_pack 106 = .ok (.aload_n 0, 1) := by decide +kernel
theorem dX8_pack_107 : decode cX8_pack 107 = .ok (.bipush 25, 2) := by decide +kernel
theorem dX8_pack_109 : decode cX8_pack 109 = .ok (.iload_n 2, 1) := by decide +kernel
theorem dX8_pack_110 : decode cX8_pack 110 = .ok (.invokevirtual 244, 3) := by decide +kernel
theorem dX8_pack_113 : decode cX8_pack 113 = .ok (.ireturn, 1) := by decide +kernel
theorem dX8_stockOf_0 : decode cX8_stockOf 0 = .ok (.iconst 0, 1) := by decide +kernel
theorem dX8_stockOf_1 : decode cX8_stockOf 1 = .ok (.istore_n 2, 1) := by decide +kernel
theorem dX8_stockOf_2 : decode cX8_stockOf 2 = .ok (.iconst 0, 1) := by decide +kernel
theorem dX8_stockOf_3 : decode cX8_stockOf 3 = .ok (.istore_n 3, 1) := by decide +kernel
theorem dX8_stockOf_4 : decode cX8_stockOf 4 = .ok (.iconst 0, 1) := by decide +kernel
theorem dX8_stockOf_5 : decode cX8_stockOf 5 = .ok (.istore 4, 2) := by decide +kernel
theorem dX8_stockOf_7 : decode cX8_stockOf 7 = .ok (.iload 4, 2) := by decide +kernel
theorem dX8_stockOf_9 : decode cX8_stockOf 9 = .ok (.aload_n 0, 1) := by decide +kernel
theorem dX8_stockOf_10 : decode cX8_stockOf 10 = .ok (.getfield 19, 3) := by decide +kernel
theorem dX8_stockOf_13 : decode cX8_stockOf 13 = .ok (.bipush 6, 2) := by decide +kernel
theorem dX8_stockOf_15 : decode cX8_stockOf 15 = .ok (.iaload, 1) := by decide +kernel
theorem dX8_stockOf_16 : decode cX8_stockOf 16 = .ok (.if_icmp .ge 98, 3) := by decide +kernel
theorem dX8_stockOf_19 : decode cX8_stockOf 19 = .ok (.aload_n 0, 1) := by decide +kernel
theorem dX8_stockOf_20 : decode cX8_stockOf 20 = .ok (.getfield 19, 3) := by decide +kernel
theorem dX8_stockOf_23 : decode cX8_stockOf 23 = .ok (.bipush 31, 2) := by decide +kernel
theorem dX8_stockOf_25 : decode cX8_stockOf 25 = .ok (.iload 4, 2) := by decide +kernel
theorem dX8_stockOf_27 : decode cX8_stockOf 27 = .ok (.iadd, 1) := by decide +kernel
theorem dX8_stockOf_28 : decode cX8_stockOf 28 = .ok (.iaload, 1) := by decide +kernel
theorem dX8_stockOf_29 : decode cX8_stockOf 29 = .ok (.istore 5, 2) := by decide +kernel
theorem dX8_stockOf_31 : decode cX8_stockOf 31 = .ok (.aload_n 0, 1) := by decide +kernel
theorem dX8_stockOf_32 : decode cX8_stockOf 32 = .ok (.getfield 19, 3) := by decide +kernel
theorem dX8_stockOf_35 : decode cX8_stockOf 35 = .ok (.bipush 13, 2) := by decide +kernel
theorem dX8_stockOf_37 : decode cX8_stockOf 37 = .ok (.iload 5, 2) := by decide +kernel
theorem dX8_stockOf_39 : decode cX8_stockOf 39 = .ok (.iadd, 1) := by decide +kernel
theorem dX8_stockOf_40 : decode cX8_stockOf 40 = .ok (.iaload, 1) := by decide +kernel
theorem dX8_stockOf_41 : decode cX8_stockOf 41 = .ok (.iload_n 1, 1) := by decide +kernel
theorem dX8_stockOf_42 : decode cX8_stockOf 42 = .ok (.if_icmp .ne 21, 3) := by decide +kernel
theorem dX8_stockOf_45 : decode cX8_stockOf 45 = .ok (.aload_n 0, 1) := by decide +kernel
theorem dX8_stockOf_46 : decode cX8_stockOf 46 = .ok (.getfield 19, 3) := by decide +kernel
theorem dX8_stockOf_49 : decode cX8_stockOf 49 = .ok (.bipush 7, 2) := by decide +kernel
theorem dX8_stockOf_51 : decode cX8_stockOf 51 = .ok (.iload 5, 2) := by decide +kernel
theorem dX8_stockOf_53 : decode cX8_stockOf 53 = .ok (.iadd, 1) := by decide +kernel
theorem dX8_stockOf_54 : decode cX8_stockOf 54 = .ok (.iaload, 1) := by decide +kernel
theorem dX8_stockOf_55 : decode cX8_stockOf 55 = .ok (.iconst 5, 1) := by decide +kernel
theorem dX8_stockOf_56 : decode cX8_stockOf 56 = .ok (.if_icmp .eq 7, 3) := by decide +kernel
theorem dX8_stockOf_59 : decode cX8_stockOf 59 = .ok (.iconst 1, 1) := by decide +kernel
theorem dX8_stockOf_60 : decode cX8_stockOf 60 = .ok (.goto 4, 3) := by decide +kernel
theorem dX8_stockOf_63 : decode cX8_stockOf 63 = .ok (.iconst 0, 1) := by decide +kernel
theorem dX8_stockOf_64 : decode cX8_stockOf 64 = .ok (.istore 6, 2) := by decide +kernel
theorem dX8_stockOf_66 : decode cX8_stockOf 66 = .ok (.iload_n 2, 1) := by decide +kernel
theorem dX8_stockOf_67 : decode cX8_stockOf 67 = .ok (.iload 6, 2) := by decide +kernel
theorem dX8_stockOf_69 : decode cX8_stockOf 69 = .ok (.ifCond .eq 7, 3) := by decide +kernel
theorem dX8_stockOf_72 : decode cX8_stockOf 72 = .ok (.iconst 1, 1) := by decide +kernel
theorem dX8_stockOf_73 : decode cX8_stockOf 73 = .ok (.goto 4, 3) := by decide +kernel
theorem dX8_stockOf_76 : decode cX8_stockOf 76 = .ok (.iconst 0, 1) := by decide +kernel
theorem dX8_stockOf_77 : decode cX8_stockOf 77 = .ok (.iadd, 1) := by decide +kernel
theorem dX8_stockOf_78 : decode cX8_stockOf 78 = .ok (.istore_n 2, 1) := by decide +kernel
theorem dX8_stockOf_79 : decode cX8_stockOf 79 = .ok (.iload_n 3, 1) := by decide +kernel
theorem dX8_stockOf_80 : decode cX8_stockOf 80 = .ok (.ifCond .ne 22, 3) := by decide +kernel
theorem dX8_stockOf_83 : decode cX8_stockOf 83 = .ok (.iload 6, 2) := by decide +kernel
theorem dX8_stockOf_85 : decode cX8_stockOf 85 = .ok (.ifCond .eq 21, 3) := by decide +kernel
theorem dX8_stockOf_88 : decode cX8_stockOf 88 = .ok (.aload_n 0, 1) := by decide +kernel
theorem dX8_stockOf_89 : decode cX8_stockOf 89 = .ok (.getfield 19, 3) := by decide +kernel
theorem dX8_stockOf_92 : decode cX8_stockOf 92 = .ok (.bipush 7, 2) := by decide +kernel
theorem dX8_stockOf_94 : decode cX8_stockOf 94 = .ok (.iload 5, 2) := by decide +kernel
theorem dX8_stockOf_96 : decode cX8_stockOf 96 = .ok (.iadd, 1) := by decide +kernel
theorem dX8_stockOf_97 : decode cX8_stockOf 97 = .ok (.iaload, 1) := by decide +kernel
theorem dX8_stockOf_98 : decode cX8_stockOf 98 = .ok (.iconst 3, 1) := by decide +kernel
theorem dX8_stockOf_99 : decode cX8_stockOf 99 = .ok (.if_icmp .ne 7, 3) := by decide +kernel
theorem dX8_stockOf_102 : decode cX8_stockOf 102 = .ok (.iconst 1, 1) := by decide +kernel
theorem dX8_stockOf_103 : decode cX8_stockOf 103 = .ok (.goto 4, 3) := by decide +kernel
theorem dX8_stockOf_106 : decode cX8_stockOf 106 = .ok (.iconst 0, 1) := by decide +kernel
theorem dX8_stockOf_107 : decode cX8_stockOf 107 = .ok (.istore_n 3, 1) := by decide +kernel
theorem dX8_stockOf_108 : decode cX8_stockOf 108 = .ok (.iinc 4 1, 3) := by decide +kernel
theorem dX8_stockOf_111 : decode cX8_stockOf 111 = .ok (.goto (-104), 3) := by decide +kernel
theorem dX8_stockOf_114 : decode cX8_stockOf 114 = .ok (.iload_n 3, 1) := by decide +kernel
theorem dX8_stockOf_115 : decode cX8_stockOf 115 = .ok (.ifCond .eq 7, 3) := by decide +kernel
theorem dX8_stockOf_118 : decode cX8_stockOf 118 = .ok (.iconst (-1), 1) := by decide +kernel
theorem dX8_stockOf_119 : decode cX8_stockOf 119 = .ok (.goto 4, 3) := by decide +kernel
theorem dX8_stockOf_122 : decode cX8_stockOf 122 = .ok (.iload_n 2, 1) := by decide +kernel
theorem dX8_stockOf_123 : decode cX8_stockOf 123 = .ok (.ireturn, 1) := by decide +kernel
theorem dX8_match_0 : decode cX8_match 0 = .ok (.aload_n 0, 1) := by decide +kernel
theorem dX8_match_1 : decode cX8_match 1 = .ok (.getfield 141, 3) := by decide +kernel
theorem dX8_match_4 : decode cX8_match 4 = .ok (.ifCond .ne 6, 3) := by decide +kernel
theorem dX8_match_7 : decode cX8_match 7 = .ok (.ldc 192, 2) := by decide +kernel
theorem dX8_match_9 : decode cX8_match 9 = .ok (.ireturn, 1) := by decide +kernel
theorem dX8_match_10 : decode cX8_match 10 = .ok (.iconst 0, 1) := by decide +kernel
theorem dX8_match_11 : decode cX8_match 11 = .ok (.istore_n 1, 1) := by decide +kernel
theorem dX8_match_12 : decode cX8_match 12 = .ok (.iconst 0, 1) := by decide +kernel
theorem dX8_match_13 : decode cX8_match 13 = .ok (.istore_n 2, 1) := by decide +kernel
theorem dX8_match_14 : decode cX8_match 14 = .ok (.iload_n 2, 1) := by decide +kernel
theorem dX8_match_15 : decode cX8_match 15 = .ok (.bipush 10, 2) := by decide +kernel
theorem dX8_match_17 : decode cX8_match 17 = .ok (.if_icmp .ge 45, 3) := by decide +kernel
theorem dX8_match_20 : decode cX8_match 20 = .ok (.aload_n 0, 1) := by decide +kernel
theorem dX8_match_21 : decode cX8_match 21 = .ok (.iload_n 2, 1) := by decide +kernel
theorem dX8_match_22 : decode cX8_match 22 = .ok (.invokevirtual 148, 3) := by decide +kernel
theorem dX8_match_25 : decode cX8_match 25 = .ok (.invokestatic 151, 3) := by decide +kernel
theorem dX8_match_28 : decode cX8_match 28 = .ok (.istore_n 3, 1) := by decide +kernel
theorem dX8_match_29 : decode cX8_match 29 = .ok (.aload_n 0, 1) := by decide +kernel
theorem dX8_match_30 : decode cX8_match 30 = .ok (.iload_n 2, 1) := by decide +kernel
theorem dX8_match_31 : decode cX8_match 31 = .ok (.invokevirtual 247, 3) := by decide +kernel
theorem dX8_match_34 : decode cX8_match 34 = .ok (.istore 4, 2) := by decide +kernel
theorem dX8_match_36 : decode cX8_match 36 = .ok (.iload_n 1, 1) := by decide +kernel
theorem dX8_match_37 : decode cX8_match 37 = .ok (.iload 4, 2) := by decide +kernel
theorem dX8_match_39 : decode cX8_match 39 = .ok (.ifCond .lt 9, 3) := by decide +kernel
theorem dX8_match_42 : decode cX8_match 42 = .ok (.iload 4, 2) := by decide +kernel
theorem dX8_match_44 : decode cX8_match 44 = .ok (.iload_n 3, 1) := by decide +kernel
theorem dX8_match_45 : decode cX8_match 45 = .ok (.if_icmp .le 7, 3) := by decide +kernel
theorem dX8_match_48 : decode cX8_match 48 = .ok (.iload_n 3, 1) := by decide +kernel
theorem dX8_match_49 : decode cX8_match 49 = .ok (.goto 5, 3) := by decide +kernel
theorem dX8_match_52 : decode cX8_match 52 = .ok (.iload 4, 2) := by decide +kernel
theorem dX8_match_54 : decode cX8_match 54 = .ok (.iadd, 1) := by decide +kernel
theorem dX8_match_55 : decode cX8_match 55 = .ok (.istore_n 1, 1) := by decide +kernel
theorem dX8_match_56 : decode cX8_match 56 = .ok (.iinc 2 1, 3) := by decide +kernel
theorem dX8_match_59 : decode cX8_match 59 = .ok (.goto (-45), 3) := by decide +kernel
theorem dX8_match_62 : decode cX8_match 62 = .ok (.iload_n 1, 1) := by decide +kernel
theorem dX8_match_63 : decode cX8_match 63 = .ok (.ireturn, 1) := by decide +kernel
theorem dX8_clear_0 : decode cX8_clear 0 = .ok (.aload_n 0, 1) := by decide +kernel
theorem dX8_clear_1 : decode cX8_clear 1 = .ok (.iload_n 1, 1) := by decide +kernel
theorem dX8_clear_2 : decode cX8_clear 2 = .ok (.invokevirtual 207, 3) := by decide +kernel
theorem dX8_clear_5 : decode cX8_clear 5 = .ok (.ifCond .eq 22, 3) := by decide +kernel
theorem dX8_clear_8 : decode cX8_clear 8 = .ok (.iload_n 2, 1) := by decide +kernel
theorem dX8_clear_9 : decode cX8_clear 9 = .ok (.i2l, 1) := by decide +kernel
theorem dX8_clear_10 : decode cX8_clear 10 = .ok (.lconst 1, 1) := by decide +kernel
theorem dX8_clear_11 : decode cX8_clear 11 = .ok (.ldc2_w 250, 3) := by decide +kernel
theorem dX8_clear_14 : decode cX8_clear 14 = .ok (.invokestatic 60, 3) := by decide +kernel
theorem dX8_clear_17 : decode cX8_clear 17 = .ok (.ifCond .eq 10, 3) := by decide +kernel
theorem dX8_clear_20 : decode cX8_clear 20 = .ok (.iload_n 3, 1) := by decide +kernel
theorem dX8_clear_21 : decode cX8_clear 21 = .ok (.invokestatic 241, 3) := by decide +kernel
theorem dX8_clear_24 : decode cX8_clear 24 = .ok (.ifCond .ne 6, 3) := by decide +kernel
theorem dX8_clear_27 : decode cX8_clear 27 = .ok (.ldc 70, 2) := by decide +kernel
theorem dX8_clear_29 : decode cX8_clear 29 = .ok (.ireturn, 1) := by decide +kernel
theorem dX8_clear_30 : decode cX8_clear 30 = .ok (.aload_n 0, 1) := by decide +kernel
theorem dX8_clear_31 : decode cX8_clear 31 = .ok (.invokevirtual 225, 3) := by decide +kernel
theorem dX8_clear_34 : decode cX8_clear 34 = .ok (.ldc 154, 2) := by decide +kernel
theorem dX8_clear_36 : decode cX8_clear 36 = .ok (.istore 4, 2) := by decide +kernel
theorem dX8_clear_38 : decode cX8_clear 38 = .ok (.iconst 0, 1) := by decide +kernel
theorem dX8_clear_39 : decode cX8_clear 39 = .ok (.istore 5, 2) := by decide +kernel
theorem dX8_clear_41 : decode cX8_clear 41 = .ok (.iload 5, 2) := by decide +kernel
theorem dX8_clear_43 : decode cX8_clear 43 = .ok (.iconst 1, 1) := by decide +kernel
theorem dX8_clear_44 : decode cX8_clear 44 = .ok (.aload_n 0, 1) := by decide +kernel
theorem dX8_clear_45 : decode cX8_clear 45 = .ok (.getfield 19, 3) := by decide +kernel
theorem dX8_clear_48 : decode cX8_clear 48 = .ok (.iconst 2, 1) := by decide +kernel
theorem dX8_clear_49 : decode cX8_clear 49 = .ok (.iaload, 1) := by decide +kernel
theorem dX8_clear_50 : decode cX8_clear 50 = .ok (.ishl, 1) := by decide +kernel
theorem dX8_clear_51 : decode cX8_clear 51 = .ok (.if_icmp .ge 157, 3) := by decide +kernel
theorem dX8_clear_54 : decode cX8_clear 54 = .ok (.iload 4, 2) := by decide +kernel
theorem dX8_clear_56 : decode cX8_clear 56 = .ok (.ifCond .lt 16, 3) := by decide +kernel
theorem dX8_clear_59 : decode cX8_clear 59 = .ok (.iload 5, 2) := by decide +kernel
theorem dX8_clear_61 : decode cX8_clear 61 = .ok (.invokestatic 151, 3) := by decide +kernel
theorem dX8_clear_64 : decode cX8_clear 64 = .ok (.iload 4, 2) := by decide +kernel
theorem dX8_clear_66 : decode cX8_clear 66 = .ok (.invokestatic 151, 3) := by decide +kernel
theorem dX8_clear_69 : decode cX8_clear 69 = .ok (.if_icmp .ge 7, 3) := by decide +kernel
theorem dX8_clear_72 : decode cX8_clear 72 = .ok (.iconst 1, 1) := by decide +kernel
theorem dX8_clear_73 : decode cX8_clear 73 = .ok (.goto 4, 3) := by decide +kernel
theorem dX8_clear_76 : decode cX8_clear 76 = .ok (.iconst 0, 1) := by decide +kernel
theorem dX8_clear_77 : decode cX8_clear 77 = .ok (.istore 6, 2) := by decide +kernel
theorem dX8_clear_79 : decode cX8_clear 79 = .ok (.iconst 0, 1) := by decide +kernel
theorem dX8_clear_80 : decode cX8_clear 80 = .ok (.istore 7, 2) := by decide +kernel
theorem dX8_clear_82 : decode cX8_clear 82 = .ok (.iload 7, 2) := by decide +kernel
theorem dX8_clear_84 : decode cX8_clear 84 = .ok (.aload_n 0, 1) := by decide +kernel
theorem dX8_clear_85 : decode cX8_clear 85 = .ok (.getfield 19, 3) := by decide +kernel
theorem dX8_clear_88 : decode cX8_clear 88 = .ok (.iconst 2, 1) := by decide +kernel
theorem dX8_clear_89 : decode cX8_clear 89 = .ok (.iaload, 1) := by decide +kernel
theorem dX8_clear_90 : decode cX8_clear 90 = .ok (.if_icmp .ge 40, 3) := by decide +kernel
theorem dX8_clear_93 : decode cX8_clear 93 = .ok (.iload 6, 2) := by decide +kernel
theorem dX8_clear_95 : decode cX8_clear 95 = .ok (.ifCond .eq 26, 3) := by decide +kernel
theorem dX8_clear_98 : decode cX8_clear 98 = .ok (.iload 5, 2) := by decide +kernel
theorem dX8_clear_100 : decode cX8_clear 100 = .ok (.iload 7, 2) := by decide +kernel
theorem dX8_clear_102 : decode cX8_clear 102 = .ok (.invokestatic 177, 3) := by decide +kernel
theorem dX8_clear_105 : decode cX8_clear 105 = .ok (.ifCond .eq 12, 3) := by decide +kernel
theorem dX8_clear_108 : decode cX8_clear 108 = .ok (.aload_n 0, 1) := by decide +kernel
theorem dX8_clear_109 : decode cX8_clear 109 = .ok (.iload 7, 2) := by decide +kernel
theorem dX8_clear_111 : decode cX8_clear 111 = .ok (.invokevirtual 155, 3) := by decide +kernel
theorem dX8_clear_114 : decode cX8_clear 114 = .ok (.ifCond .lt 7, 3) := by decide +kernel
theorem dX8_clear_117 : decode cX8_clear 117 = .ok (.iconst 1, 1) := by decide +kernel
theorem dX8_clear_118 : decode cX8_clear 118 = .ok (.goto 4, 3) := by decide +kernel
theorem dX8_clear_121 : decode cX8_clear 121 = .ok (.iconst 0, 1) := by decide +kernel
theorem dX8_clear_122 : decode cX8_clear 122 = .ok (.istore 6, 2) := by decide +kernel
theorem dX8_clear_124 : decode cX8_clear 124 = .ok (.iinc 7 1, 3) := by decide +kernel
theorem dX8_clear_127 : decode cX8_clear 127 = .ok (.goto (-45), 3) := by decide +kernel
theorem dX8_clear_130 : decode cX8_clear 130 = .ok (.iload 6, 2) := by decide +kernel
theorem dX8_clear_132 : decode cX8_clear 132 = .ok (.ifCond .eq 70, 3) := by decide +kernel
theorem dX8_clear_135 : decode cX8_clear 135 = .ok (.iconst 0, 1) := by decide +kernel
theorem dX8_clear_136 : decode cX8_clear 136 = .ok (.istore 7, 2) := by decide +kernel
theorem dX8_clear_138 : decode cX8_clear 138 = .ok (.iload 7, 2) := by decide +kernel
theorem dX8_clear_140 : decode cX8_clear 140 = .ok (.aload_n 0, 1) := by decide +kernel
theorem dX8_clear_141 : decode cX8_clear 141 = .ok (.getfield 19, 3) := by decide +kernel
theorem dX8_clear_144 : decode cX8_clear 144 = .ok (.iconst 2, 1) := by decide +kernel
theorem dX8_clear_145 : decode cX8_clear 145 = .ok (.iaload, 1) := by decide +kernel
theorem dX8_clear_146 : decode cX8_clear 146 = .ok (.if_icmp .ge 25, 3) := by decide +kernel
theorem dX8_clear_149 : decode cX8_clear 149 = .ok (.iload 5, 2) := by decide +kernel
theorem dX8_clear_151 : decode cX8_clear 151 = .ok (.iload 7, 2) := by decide +kernel
theorem dX8_clear_153 : decode cX8_clear 153 = .ok (.invokestatic 177, 3) := by decide +kernel
theorem dX8_clear_156 : decode cX8_clear 156 = .ok (.ifCond .eq 9, 3) := by decide +kernel
theorem dX8_clear_159 : decode cX8_clear 159 = .ok (.aload_n 0, 1) := by decide +kernel
theorem dX8_clear_160 : decode cX8_clear 160 = .ok (.iload 7, 2) := by decide +kernel
theorem dX8_clear_162 : decode cX8_clear 162 = .ok (.invokevirtual 158, 3) := by decide +kernel
theorem dX8_clear_165 : decode cX8_clear 165 = .ok (.iinc 7 1, 3) := by decide +kernel
theorem dX8_clear_168 : decode cX8_clear 168 = .ok (.goto (-30), 3) := by decide +kernel
theorem dX8_clear_171 : decode cX8_clear 171 = .ok (.aload_n 0, 1) := by decide +kernel
theorem dX8_clear_172 : decode cX8_clear 172 = .ok (.iload_n 2, 1) := by decide +kernel
theorem dX8_clear_173 : decode cX8_clear 173 = .ok (.invokevirtual 228, 3) := by decide +kernel
theorem dX8_clear_176 : decode cX8_clear 176 = .ok (.aload_n 0, 1) := by decide +kernel
theorem dX8_clear_177 : decode cX8_clear 177 = .ok (.getfield 19, 3) := by decide +kernel
theorem dX8_clear_180 : decode cX8_clear 180 = .ok (.bipush 49, 2) := by decide +kernel
theorem dX8_clear_182 : decode cX8_clear 182 = .ok (.iload_n 1, 1) := by decide +kernel
theorem dX8_clear_183 : decode cX8_clear 183 = .ok (.iadd, 1) := by decide +kernel
theorem dX8_clear_184 : decode cX8_clear 184 = .ok (.iaload, 1) := by decide +kernel
theorem dX8_clear_185 : decode cX8_clear 185 = .ok (.iconst 1, 1) := by decide +kernel
theorem dX8_clear_186 : decode cX8_clear 186 = .ok (.if_icmp .ne 8, 3) := by decide +kernel
theorem dX8_clear_189 : decode cX8_clear 189 = .ok (.iload 5, 2) := by decide +kernel
theorem dX8_clear_191 : decode cX8_clear 191 = .ok (.goto 5, 3) := by decide +kernel
theorem dX8_clear_194 : decode cX8_clear 194 = .ok (.iload 4, 2) := by decide +kernel
theorem dX8_clear_196 : decode cX8_clear 196 = .ok (.istore 4, 2) := by decide +kernel
theorem dX8_clear_198 : decode cX8_clear 198 = .ok (.aload_n 0, 1) := by decide +kernel
theorem dX8_clear_199 : decode cX8_clear 199 = .ok (.invokevirtual 231, 3) := by decide +kernel
theorem dX8_clear_202 : decode cX8_clear 202 = .ok (.iinc 5 1, 3) := by decide +kernel
theorem dX8_clear_205 : decode cX8_clear 205 = .ok (.goto (-164), 3) := by decide +kernel
theorem dX8_clear_208 : decode cX8_clear 208 = .ok (.iload 4, 2) := by decide +kernel
theorem dX8_clear_210 : decode cX8_clear 210 = .ok (.ifCond .lt 8, 3) := by decide +kernel
theorem dX8_clear_213 : decode cX8_clear 213 = .ok (.iload_n 3, 1) := by decide +kernel
theorem dX8_clear_214 : decode cX8_clear 214 = .ok (.iconst 1, 1) := by decide +kernel
theorem dX8_clear_215 : decode cX8_clear 215 = .ok (.if_icmp .ne 8, 3) := by decide +kernel
theorem dX8_clear_218 : decode cX8_clear 218 = .ok (.iload 4, 2) := by decide +kernel
theorem dX8_clear_220 : decode cX8_clear 220 = .ok (.goto 8, 3) := by decide +kernel
theorem dX8_clear_223 : decode cX8_clear 223 = .ok (.iload 4, 2) := by decide +kernel
theorem dX8_clear_225 : decode cX8_clear 225 = .ok (.invokestatic 151, 3) := by decide +kernel
theorem dX8_clear_228 : decode cX8_clear 228 = .ok (.ireturn, 1) := by decide +kernel
theorem dX8_bring_0 : decode cX8_bring 0 = .ok (.aload_n 0, 1) := by decide +kernel
theorem dX8_bring_1 : decode cX8_bring 1 = .ok (.getfield 141, 3) := by decide +kernel
theorem dX8_bring_4 : decode cX8_bring 4 = .ok (.ifCond .ne 6, 3) := by decide +kernel
theorem dX8_bring_7 : decode cX8_bring 7 = .ok (.ldc 192, 2) := by decide +kernel
theorem dX8_bring_9 : decode cX8_bring 9 = .ok (.ireturn, 1) := by decide +kernel
theorem dX8_bring_10 : decode cX8_bring 10 = .ok (.iload_n 1, 1) := by decide +kernel
theorem dX8_bring_11 : decode cX8_bring 11 = .ok (.i2l, 1) := by decide +kernel
theorem dX8_bring_12 : decode cX8_bring 12 = .ok (.lconst 1, 1) := by decide +kernel
theorem dX8_bring_13 : decode cX8_bring 13 = .ok (.ldc2_w 250, 3) := by decide +kernel
theorem dX8_bring_16 : decode cX8_bring 16 = .ok (.invokestatic 60, 3) := by decide +kernel
theorem dX8_bring_19 : decode cX8_bring 19 = .ok (.ifCond .eq 10, 3) := by decide +kernel
theorem dX8_bring_22 : decode cX8_bring 22 = .ok (.iload_n 2, 1) := by decide +kernel
theorem dX8_bring_23 : decode cX8_bring 23 = .ok (.invokestatic 241, 3) := by decide +kernel
theorem dX8_bring_26 : decode cX8_bring 26 = .ok (.ifCond .ne 6, 3) := by decide +kernel
theorem dX8_bring_29 : decode cX8_bring 29 = .ok (.ldc 70, 2) := by decide +kernel
theorem dX8_bring_31 : decode cX8_bring 31 = .ok (.ireturn, 1) := by decide +kernel
theorem dX8_bring_32 : decode cX8_bring 32 = .ok (.aload_n 0, 1) := by decide +kernel
theorem dX8_bring_33 : decode cX8_bring 33 = .ok (.invokevirtual 225, 3) := by decide +kernel
theorem dX8_bring_36 : decode cX8_bring 36 = .ok (.iconst 0, 1) := by decide +kernel
theorem dX8_bring_37 : decode cX8_bring 37 = .ok (.istore_n 3, 1) := by decide +kernel
theorem dX8_bring_38 : decode cX8_bring 38 = .ok (.iconst (-1), 1) := by decide +kernel
theorem dX8_bring_39 : decode cX8_bring 39 = .ok (.istore 4, 2) := by decide +kernel
theorem dX8_bring_41 : decode cX8_bring 41 = .ok (.iconst 0, 1) := by decide +kernel
theorem dX8_bring_42 : decode cX8_bring 42 = .ok (.istore 5, 2) := by decide +kernel
theorem dX8_bring_44 : decode cX8_bring 44 = .ok (.iload 5, 2) := by decide +kernel
theorem dX8_bring_46 : decode cX8_bring 46 = .ok (.aload_n 0, 1) := by decide +kernel
theorem dX8_bring_47 : decode cX8_bring 47 = .ok (.getfield 19, 3) := by decide +kernel
theorem dX8_bring_50 : decode cX8_bring 50 = .ok (.iconst 2, 1) := by decide +kernel
theorem dX8_bring_51 : decode cX8_bring 51 = .ok (.iaload, 1) := by decide +kernel
theorem dX8_bring_52 : decode cX8_bring 52 = .ok (.if_icmp .ge 66, 3) := by decide +kernel
theorem dX8_bring_55 : decode cX8_bring 55 = .ok (.aload_n 0, 1) := by decide +kernel
theorem dX8_bring_56 : decode cX8_bring 56 = .ok (.iload 5, 2) := by decide +kernel
theorem dX8_bring_58 : decode cX8_bring 58 = .ok (.invokevirtual 204, 3) := by decide +kernel
theorem dX8_bring_61 : decode cX8_bring 61 = .ok (.aload_n 0, 1) := by decide +kernel
theorem dX8_bring_62 : decode cX8_bring 62 = .ok (.iload_n 1, 1) := by decide +kernel
theorem dX8_bring_63 : decode cX8_bring 63 = .ok (.invokevirtual 228, 3) := by decide +kernel
theorem dX8_bring_66 : decode cX8_bring 66 = .ok (.aload_n 0, 1) := by decide +kernel
theorem dX8_bring_67 : decode cX8_bring 67 = .ok (.getfield 19, 3) := by decide +kernel
theorem dX8_bring_70 : decode cX8_bring 70 = .ok (.iconst 5, 1) := by decide +kernel
theorem dX8_bring_71 : decode cX8_bring 71 = .ok (.iaload, 1) := by decide +kernel
theorem dX8_bring_72 : decode cX8_bring 72 = .ok (.iload 4, 2) := by decide +kernel
theorem dX8_bring_74 : decode cX8_bring 74 = .ok (.if_icmp .le 8, 3) := by decide +kernel
theorem dX8_bring_77 : decode cX8_bring 77 = .ok (.iload 5, 2) := by decide +kernel
theorem dX8_bring_79 : decode cX8_bring 79 = .ok (.goto 4, 3) := by decide +kernel
theorem dX8_bring_82 : decode cX8_bring 82 = .ok (.iload_n 3, 1) := by decide +kernel
theorem dX8_bring_83 : decode cX8_bring 83 = .ok (.istore_n 3, 1) := by decide +kernel
theorem dX8_bring_84 : decode cX8_bring 84 = .ok (.aload_n 0, 1) := by decide +kernel
theorem dX8_bring_85 : decode cX8_bring 85 = .ok (.getfield 19, 3) := by decide +kernel
theorem dX8_bring_88 : decode cX8_bring 88 = .ok (.iconst 5, 1) := by decide +kernel
theorem dX8_bring_89 : decode cX8_bring 89 = .ok (.iaload, 1) := by decide +kernel
theorem dX8_bring_90 : decode cX8_bring 90 = .ok (.iload 4, 2) := by decide +kernel
theorem dX8_bring_92 : decode cX8_bring 92 = .ok (.if_icmp .le 12, 3) := by decide +kernel
theorem dX8_bring_95 : decode cX8_bring 95 = .ok (.aload_n 0, 1) := by decide +kernel
theorem dX8_bring_96 : decode cX8_bring 96 = .ok (.getfield 19, 3) := by decide +kernel
theorem dX8_bring_99 : decode cX8_bring 99 = .ok (.iconst 5, 1) := by decide +kernel
theorem dX8_bring_100 : decode cX8_bring 100 = .ok (.iaload, 1) := by decide +kernel
theorem dX8_bring_101 : decode cX8_bring 101 = .ok (.goto 5, 3) := by decide +kernel
theorem dX8_bring_104 : decode cX8_bring 104 = .ok (.iload 4, 2) := by decide +kernel
theorem dX8_bring_106 : decode cX8_bring 106 = .ok (.istore 4, 2) := by decide +kernel
theorem dX8_bring_108 : decode cX8_bring 108 = .ok (.aload_n 0, 1) := by decide +kernel
theorem dX8_bring_109 : decode cX8_bring 109 = .ok (.invokevirtual 231, 3) := by decide +kernel
theorem dX8_bring_112 : decode cX8_bring 112 = .ok (.iinc 5 1, 3) := by decide +kernel
theorem dX8_bring_115 : decode cX8_bring 115 = .ok (.goto (-71), 3) := by decide +kernel
theorem dX8_bring_118 : decode cX8_bring 118 = .ok (.iload_n 2, 1) := by decide +kernel
theorem dX8_bring_119 : decode cX8_bring 119 = .ok (.ifCond .ne 7, 3) := by decide +kernel
theorem dX8_bring_122 : decode cX8_bring 122 = .ok (.iload_n 3, 1) := by decide +kernel
theorem dX8_bring_123 : decode cX8_bring 123 = .ok (.goto 5, 3) := by decide +kernel
theorem dX8_bring_126 : decode cX8_bring 126 = .ok (.iload 4, 2) := by decide +kernel
theorem dX8_bring_128 : decode cX8_bring 128 = .ok (.ireturn, 1) := by decide +kernel
theorem dX8_lack_0 : decode cX8_lack 0 = .ok (.aload_n 0, 1) := by decide +kernel
theorem dX8_lack_1 : decode cX8_lack 1 = .ok (.getfield 141, 3) := by decide +kernel
theorem dX8_lack_4 : decode cX8_lack 4 = .ok (.ifCond .ne 6, 3) := by decide +kernel
theorem dX8_lack_7 : decode cX8_lack 7 = .ok (.ldc 192, 2) := by decide +kernel
theorem dX8_lack_9 : decode cX8_lack 9 = .ok (.ireturn, 1) := by decide +kernel
theorem dX8_lack_10 : decode cX8_lack 10 = .ok (.iconst 0, 1) := by decide +kernel
theorem dX8_lack_11 : decode cX8_lack 11 = .ok (.istore_n 1, 1) := by decide +kernel
theorem dX8_lack_12 : decode cX8_lack 12 = .ok (.iconst 0, 1) := by decide +kernel
theorem dX8_lack_13 : decode cX8_lack 13 = .ok (.istore_n 2, 1) := by decide +kernel
theorem dX8_lack_14 : decode cX8_lack 14 = .ok (.iload_n 2, 1) := by decide +kernel
theorem dX8_lack_15 : decode cX8_lack 15 = .ok (.bipush 10, 2) := by decide +kernel
theorem dX8_lack_17 : decode cX8_lack 17 = .ok (.if_icmp .ge 35, 3) := by decide +kernel
theorem dX8_lack_20 : decode cX8_lack 20 = .ok (.iload_n 1, 1) := by decide +kernel
theorem dX8_lack_21 : decode cX8_lack 21 = .ok (.aload_n 0, 1) := by decide +kernel
theorem dX8_lack_22 : decode cX8_lack 22 = .ok (.iload_n 2, 1) := by decide +kernel
theorem dX8_lack_23 : decode cX8_lack 23 = .ok (.invokevirtual 148, 3) := by decide +kernel
theorem dX8_lack_26 : decode cX8_lack 26 = .ok (.ifCond .eq 17, 3) := by decide +kernel
theorem dX8_lack_29 : decode cX8_lack 29 = .ok (.aload_n 0, 1) := by decide +kernel
theorem dX8_lack_30 : decode cX8_lack 30 = .ok (.iload_n 2, 1) := by decide +kernel
theorem dX8_lack_31 : decode cX8_lack 31 = .ok (.invokevirtual 247, 3) := by decide +kernel
theorem dX8_lack_34 : decode cX8_lack 34 = .ok (.ifCond .ne 9, 3) := by decide +kernel
theorem dX8_lack_37 : decode cX8_lack 37 = .ok (.iconst 1, 1) := by decide +kernel
theorem dX8_lack_38 : decode cX8_lack 38 = .ok (.iload_n 2, 1) := by decide +kernel
theorem dX8_lack_39 : decode cX8_lack 39 = .ok (.ishl, 1) := by decide +kernel
theorem dX8_lack_40 : decode cX8_lack 40 = .ok (.goto 4, 3) := by decide +kernel
theorem dX8_lack_43 : decode cX8_lack 43 = .ok (.iconst 0, 1) := by decide +kernel
theorem dX8_lack_44 : decode cX8_lack 44 = .ok (.ior, 1) := by decide +kernel
theorem dX8_lack_45 : decode cX8_lack 45 = .ok (.istore_n 1, 1) := by decide +kernel
theorem dX8_lack_46 : decode cX8_lack 46 = .ok (.iinc 2 1, 3) := by decide +kernel
theorem dX8_lack_49 : decode cX8_lack 49 = .ok (.goto (-35), 3) := by decide +kernel
theorem dX8_lack_52 : decode cX8_lack 52 = .ok (.iload_n 1, 1) := by decide +kernel
theorem dX8_lack_53 : decode cX8_lack 53 = .ok (.ireturn, 1) := by decide +kernel
theorem dX8_lacks_0 : decode cX8_lacks 0 = .ok (.aload_n 0, 1) := by decide +kernel
theorem dX8_lacks_1 : decode cX8_lacks 1 = .ok (.getfield 13, 3) := by decide +kernel
theorem dX8_lacks_4 : decode cX8_lacks 4 = .ok (.iload_n 1, 1) := by decide +kernel
theorem dX8_lacks_5 : decode cX8_lacks 5 = .ok (.iaload, 1) := by decide +kernel
theorem dX8_lacks_6 : decode cX8_lacks 6 = .ok (.ifCond .ge 9, 3) := by decide +kernel
theorem dX8_lacks_9 : decode cX8_lacks 9 = .ok (.aload_n 0, 1) := by decide +kernel
theorem dX8_lacks_10 : decode cX8_lacks 10 = .ok (.iconst 1, 1) := by decide +kernel
theorem dX8_lacks_11 : decode cX8_lacks 11 = .ok (.invokevirtual 71, 3) := by decide +kernel
theorem dX8_lacks_14 : decode cX8_lacks 14 = .ok (.ireturn, 1) := by decide +kernel
theorem dX8_lacks_15 : decode cX8_lacks 15 = .ok (.iload_n 2, 1) := by decide +kernel
theorem dX8_lacks_16 : decode cX8_lacks 16 = .ok (.i2l, 1) := by decide +kernel
theorem dX8_lacks_17 : decode cX8_lacks 17 = .ok (.lconst 0, 1) := by decide +kernel
theorem dX8_lacks_18 : decode cX8_lacks 18 = .ok (.aload_n 0, 1) := by decide +kernel
theorem dX8_lacks_19 : decode cX8_lacks 19 = .ok (.getfield 13, 3) := by decide +kernel
theorem dX8_lacks_22 : decode cX8_lacks 22 = .ok (.iload_n 1, 1) := by decide +kernel
theorem dX8_lacks_23 : decode cX8_lacks 23 = .ok (.iaload, 1) := by decide +kernel
theorem dX8_lacks_24 : decode cX8_lacks 24 = .ok (.iload_n 3, 1) := by decide +kernel
theorem dX8_lacks_25 : decode cX8_lacks 25 = .ok (.isub, 1) := by decide +kernel
theorem dX8_lacks_26 : decode cX8_lacks 26 = .ok (.i2l, 1) := by decide +kernel
theorem dX8_lacks_27 : decode cX8_lacks 27 = .ok (.invokestatic 60, 3) := by decide +kernel
theorem dX8_lacks_30 : decode cX8_lacks 30 = .ok (.ifCond .eq 7, 3) := by decide +kernel
theorem dX8_lacks_33 : decode cX8_lacks 33 = .ok (.iconst 0, 1) := by decide +kernel
theorem dX8_lacks_34 : decode cX8_lacks 34 = .ok (.goto 8, 3) := by decide +kernel
theorem dX8_lacks_37 : decode cX8_lacks 37 = .ok (.aload_n 0, 1) := by decide +kernel
theorem dX8_lacks_38 : decode cX8_lacks 38 = .ok (.iconst 2, 1) := by decide +kernel
theorem dX8_lacks_39 : decode cX8_lacks 39 = .ok (.invokevirtual 71, 3) := by decide +kernel
theorem dX8_lacks_42 : decode cX8_lacks 42 = .ok (.ireturn, 1) := by decide +kernel
theorem dX8_isLine_0 : decode cX8_isLine 0 = .ok (.iload_n 1, 1) := by decide +kernel
theorem dX8_isLine_1 : decode cX8_isLine 1 = .ok (.invokestatic 64, 3) := by decide +kernel
theorem dX8_isLine_4 : decode cX8_isLine 4 = .ok (.ifCond .eq 19, 3) := by decide +kernel
theorem dX8_isLine_7 : decode cX8_isLine 7 = .ok (.iload_n 2, 1) := by decide +kernel
theorem dX8_isLine_8 : decode cX8_isLine 8 = .ok (.i2l, 1) := by decide +kernel
theorem dX8_isLine_9 : decode cX8_isLine 9 = .ok (.lconst 1, 1) := by decide +kernel
theorem dX8_isLine_10 : decode cX8_isLine 10 = .ok (.ldc2_w 252, 3) := by decide +kernel
theorem dX8_isLine_13 : decode cX8_isLine 13 = .ok (.invokestatic 60, 3) := by decide +kernel
theorem dX8_isLine_16 : decode cX8_isLine 16 = .ok (.ifCond .eq 7, 3) := by decide +kernel
theorem dX8_isLine_19 : decode cX8_isLine 19 = .ok (.iconst 1, 1) := by decide +kernel
theorem dX8_isLine_20 : decode cX8_isLine 20 = .ok (.goto 4, 3) := by decide +kernel
theorem dX8_isLine_23 : decode cX8_isLine 23 = .ok (.iconst 0, 1) := by decide +kernel
theorem dX8_isLine_24 : decode cX8_isLine 24 = .ok (.ireturn, 1) := by decide +kernel
theorem dX8_isSo_0 : decode cX8_isSo 0 = .ok (.iconst 1, 1) := by decide +kernel
theorem dX8_isSo_1 : decode cX8_isSo 1 = .ok (.istore_n 3, 1) := by decide +kernel
theorem dX8_isSo_2 : decode cX8_isSo 2 = .ok (.iconst 0, 1) := by decide +kernel
theorem dX8_isSo_3 : decode cX8_isSo 3 = .ok (.istore 4, 2) := by decide +kernel
theorem dX8_isSo_5 : decode cX8_isSo 5 = .ok (.iload 4, 2) := by decide +kernel
theorem dX8_isSo_7 : decode cX8_isSo 7 = .ok (.iload_n 2, 1) := by decide +kernel
theorem dX8_isSo_8 : decode cX8_isSo 8 = .ok (.if_icmp .ge 41, 3) := by decide +kernel
theorem dX8_isSo_11 : decode cX8_isSo 11 = .ok (.aload_n 0, 1) := by decide +kernel
theorem dX8_isSo_12 : decode cX8_isSo 12 = .ok (.invokevirtual 198, 3) := by decide +kernel
theorem dX8_isSo_15 : decode cX8_isSo 15 = .ok (.iload_n 3, 1) := by decide +kernel
theorem dX8_isSo_16 : decode cX8_isSo 16 = .ok (.ifCond .eq 25, 3) := by decide +kernel
theorem dX8_isSo_19 : decode cX8_isSo 19 = .ok (.aload_n 0, 1) := by decide +kernel
theorem dX8_isSo_20 : decode cX8_isSo 20 = .ok (.getfield 16, 3) := by decide +kernel
theorem dX8_isSo_23 : decode cX8_isSo 23 = .ok (.iload_n 1, 1) := by decide +kernel
theorem dX8_isSo_24 : decode cX8_isSo 24 = .ok (.iload 4, 2) := by decide +kernel
theorem dX8_isSo_26 : decode cX8_isSo 26 = .ok (.iadd, 1) := by decide +kernel
theorem dX8_isSo_27 : decode cX8_isSo 27 = .ok (.iaload, 1) := by decide +kernel
theorem dX8_isSo_28 : decode cX8_isSo 28 = .ok (.aload_n 0, 1) := by decide +kernel
theorem dX8_isSo_29 : decode cX8_isSo 29 = .ok (.getfield 19, 3) := by decide +kernel
theorem dX8_isSo_32 : decode cX8_isSo 32 = .ok (.iconst 5, 1) := by decide +kernel
theorem dX8_isSo_33 : decode cX8_isSo 33 = .ok (.iaload, 1) := by decide +kernel
theorem dX8_isSo_34 : decode cX8_isSo 34 = .ok (.if_icmp .ne 7, 3) := by decide +kernel
theorem dX8_isSo_37 : decode cX8_isSo 37 = .ok (.iconst 1, 1) := by decide +kernel
theorem dX8_isSo_38 : decode cX8_isSo 38 = .ok (.goto 4, 3) := by decide +kernel
theorem dX8_isSo_41 : decode cX8_isSo 41 = .ok (.iconst 0, 1) := by decide +kernel
theorem dX8_isSo_42 : decode cX8_isSo 42 = .ok (.istore_n 3, 1) := by decide +kernel
theorem dX8_isSo_43 : decode cX8_isSo 43 = .ok (.iinc 4 1, 3) := by decide +kernel
theorem dX8_isSo_46 : decode cX8_isSo 46 = .ok (.goto (-41), 3) := by decide +kernel
theorem dX8_isSo_49 : decode cX8_isSo 49 = .ok (.aload_n 0, 1) := by decide +kernel
theorem dX8_isSo_50 : decode cX8_isSo 50 = .ok (.invokevirtual 231, 3) := by decide +kernel
theorem dX8_isSo_53 : decode cX8_isSo 53 = .ok (.iload_n 3, 1) := by decide +kernel
theorem dX8_isSo_54 : decode cX8_isSo 54 = .ok (.ireturn, 1) := by decide +kernel
theorem dX8_who_0 : decode cX8_who 0 = .ok (.aload_n 0, 1) := by decide +kernel
theorem dX8_who_1 : decode cX8_who 1 = .ok (.iload_n 1, 1) := by decide +kernel
theorem dX8_who_2 : decode cX8_who 2 = .ok (.invokevirtual 201, 3) := by decide +kernel
theorem dX8_who_5 : decode cX8_who 5 = .ok (.ifCond .eq 25, 3) := by decide +kernel
theorem dX8_who_8 : decode cX8_who 8 = .ok (.iload_n 2, 1) := by decide +kernel
theorem dX8_who_9 : decode cX8_who 9 = .ok (.i2l, 1) := by decide +kernel
theorem dX8_who_10 : decode cX8_who 10 = .ok (.lconst 0, 1) := by decide +kernel
theorem dX8_who_11 : decode cX8_who 11 = .ok (.ldc2_w 68, 3) := by decide +kernel
theorem dX8_who_14 : decode cX8_who 14 = .ok (.invokestatic 60, 3) := by decide +kernel
theorem dX8_who_17 : decode cX8_who 17 = .ok (.ifCond .eq 13, 3) := by decide +kernel
theorem dX8_who_20 : decode cX8_who 20 = .ok (.aload_n 0, 1) := by decide +kernel
theorem dX8_who_21 : decode cX8_who 21 = .ok (.iload_n 3, 1) := by decide +kernel
theorem dX8_who_22 : decode cX8_who 22 = .ok (.iload 5, 2) := by decide +kernel
theorem dX8_who_24 : decode cX8_who 24 = .ok (.invokevirtual 254, 3) := by decide +kernel
theorem dX8_who_27 : decode cX8_who 27 = .ok (.ifCond .ne 8, 3) := by decide +kernel
theorem dX8_who_30 : decode cX8_who 30 = .ok (.ldc 70, 2) := by decide +kernel
theorem dX8_who_32 : decode cX8_who 32 = .ok (.goto 12, 3) := by decide +kernel
theorem dX8_who_35 : decode cX8_who 35 = .ok (.aload_n 0, 1) := by decide +kernel
theorem dX8_who_36 : decode cX8_who 36 = .ok (.iload_n 3, 1) := by decide +kernel
theorem dX8_who_37 : decode cX8_who 37 = .ok (.iload 4, 2) := by decide +kernel
theorem dX8_who_39 : decode cX8_who 39 = .ok (.iload 5, 2) := by decide +kernel
theorem dX8_who_41 : decode cX8_who 41 = .ok (.invokevirtual 257, 3) := by decide +kernel
theorem dX8_who_44 : decode cX8_who 44 = .ok (.istore 6, 2) := by decide +kernel
theorem dX8_who_46 : decode cX8_who 46 = .ok (.iload 6, 2) := by decide +kernel
theorem dX8_who_48 : decode cX8_who 48 = .ok (.ifCond .ge 6, 3) := by decide +kernel
theorem dX8_who_51 : decode cX8_who 51 = .ok (.iload 6, 2) := by decide +kernel
theorem dX8_who_53 : decode cX8_who 53 = .ok (.ireturn, 1) := by decide +kernel
theorem dX8_who_54 : decode cX8_who 54 = .ok (.aload_n 0, 1) := by decide +kernel
theorem dX8_who_55 : decode cX8_who 55 = .ok (.invokevirtual 225, 3) := by decide +kernel
theorem dX8_who_58 : decode cX8_who 58 = .ok (.iload_n 2, 1) := by decide +kernel
theorem dX8_who_59 : decode cX8_who 59 = .ok (.ifCond .ne 10, 3) := by decide +kernel
theorem dX8_who_62 : decode cX8_who 62 = .ok (.bipush 7, 2) := by decide +kernel
theorem dX8_who_64 : decode cX8_who 64 = .ok (.iload_n 1, 1) := by decide +kernel
theorem dX8_who_65 : decode cX8_who 65 = .ok (.iadd, 1) := by decide +kernel
theorem dX8_who_66 : decode cX8_who 66 = .ok (.goto 19, 3) := by decide +kernel
theorem dX8_who_69 : decode cX8_who 69 = .ok (.iload_n 2, 1) := by decide +kernel
theorem dX8_who_70 : decode cX8_who 70 = .ok (.iconst 1, 1) := by decide +kernel
theorem dX8_who_71 : decode cX8_who 71 = .ok (.if_icmp .ne 10, 3) := by decide +kernel
theorem dX8_who_74 : decode cX8_who 74 = .ok (.bipush 13, 2) := by decide +kernel
theorem dX8_who_76 : decode cX8_who 76 = .ok (.iload_n 1, 1) := by decide +kernel
theorem dX8_who_77 : decode cX8_who 77 = .ok (.iadd, 1) := by decide +kernel
theorem dX8_who_78 : decode cX8_who 78 = .ok (.goto 7, 3) := by decide +kernel
theorem dX8_who_81 : decode cX8_who 81 = .ok (.bipush 25, 2) := by decide +kernel
theorem dX8_who_83 : decode cX8_who 83 = .ok (.iload_n 1, 1) := by decide +kernel
theorem dX8_who_84 : decode cX8_who 84 = .ok (.iadd, 1) := by decide +kernel
theorem dX8_who_85 : decode cX8_who 85 = .ok (.istore 7, 2) := by decide +kernel
theorem dX8_who_87 : decode cX8_who 87 = .ok (.iconst 0, 1) := by decide +kernel
theorem dX8_who_88 : decode cX8_who 88 = .ok (.istore 8, 2) := by decide +kernel
theorem dX8_who_90 : decode cX8_who 90 = .ok (.iload_n 2, 1) := by decide +kernel
theorem dX8_who_91 : decode cX8_who 91 = .ok (.ifCond .ne 7, 3) := by decide +kernel
theorem dX8_who_94 : decode cX8_who 94 = .ok (.iconst 1, 1) := by decide +kernel
theorem dX8_who_95 : decode cX8_who 95 = .ok (.goto 4, 3) := by decide +kernel
theorem dX8_who_98 : decode cX8_who 98 = .ok (.iconst 0, 1) := by decide +kernel
theorem dX8_who_99 : decode cX8_who 99 = .ok (.istore 9, 2) := by decide +kernel
theorem dX8_who_101 : decode cX8_who 101 = .ok (.iload 9, 2) := by decide +kernel
theorem dX8_who_103 : decode cX8_who 103 = .ok (.iload_n 2, 1) := by decide +kernel
theorem dX8_who_104 : decode cX8_who 104 = .ok (.ifCond .ne 7, 3) := by decide +kernel
theorem dX8_who_107 : decode cX8_who 107 = .ok (.iconst 5, 1) := by decide +kernel
theorem dX8_who_108 : decode cX8_who 108 = .ok (.goto 5, 3) := by decide +kernel
theorem dX8_who_111 : decode cX8_who 111 = .ok (.bipush 9, 2) := by decide +kernel
theorem dX8_who_113 : decode cX8_who 113 = .ok (.if_icmp .gt 47, 3) := by decide +kernel
theorem dX8_who_116 : decode cX8_who 116 = .ok (.aload_n 0, 1) := by decide +kernel
theorem dX8_who_117 : decode cX8_who 117 = .ok (.getfield 19, 3) := by decide +kernel
theorem dX8_who_120 : decode cX8_who 120 = .ok (.iload 7, 2) := by decide +kernel
theorem dX8_who_122 : decode cX8_who 122 = .ok (.iload 9, 2) := by decide +kernel
theorem dX8_who_124 : decode cX8_who 124 = .ok (.iastore, 1) := by decide +kernel
theorem dX8_who_125 : decode cX8_who 125 = .ok (.iload 8, 2) := by decide +kernel
theorem dX8_who_127 : decode cX8_who 127 = .ok (.aload_n 0, 1) := by decide +kernel
theorem dX8_who_128 : decode cX8_who 128 = .ok (.bipush 40, 2) := by decide +kernel
theorem dX8_who_130 : decode cX8_who 130 = .ok (.iload_n 3, 1) := by decide +kernel
theorem dX8_who_131 : decode cX8_who 131 = .ok (.imul, 1) := by decide +kernel
theorem dX8_who_132 : decode cX8_who 132 = .ok (.iload 4, 2) := by decide +kernel
theorem dX8_who_134 : decode cX8_who 134 = .ok (.iadd, 1) := by decide +kernel
theorem dX8_who_135 : decode cX8_who 135 = .ok (.iload 5, 2) := by decide +kernel
theorem dX8_who_137 : decode cX8_who 137 = .ok (.invokevirtual 261, 3) := by decide +kernel
theorem dX8_who_140 : decode cX8_who 140 = .ok (.ifCond .eq 10, 3) := by decide +kernel
theorem dX8_who_143 : decode cX8_who 143 = .ok (.iconst 1, 1) := by decide +kernel
theorem dX8_who_144 : decode cX8_who 144 = .ok (.iload 9, 2) := by decide +kernel
theorem dX8_who_146 : decode cX8_who 146 = .ok (.ishl, 1) := by decide +kernel
theorem dX8_who_147 : decode cX8_who 147 = .ok (.goto 4, 3) := by decide +kernel
theorem dX8_who_150 : decode cX8_who 150 = .ok (.iconst 0, 1) := by decide +kernel
theorem dX8_who_151 : decode cX8_who 151 = .ok (.ior, 1) := by decide +kernel
theorem dX8_who_152 : decode cX8_who 152 = .ok (.istore 8, 2) := by decide +kernel
theorem dX8_who_154 : decode cX8_who 154 = .ok (.iinc 9 1, 3) := by decide +kernel
theorem dX8_who_157 : decode cX8_who 157 = .ok (.goto (-56), 3) := by decide +kernel
theorem dX8_who_160 : decode cX8_who 160 = .ok (.aload_n 0, 1) := by decide +kernel
theorem dX8_who_161 : decode cX8_who 161 = .ok (.iload 8, 2) := by decide +kernel
theorem dX8_who_163 : decode cX8_who 163 = .ok (.invokevirtual 75, 3) := by decide +kernel
theorem dX8_who_166 : decode cX8_who 166 = .ok (.ireturn, 1) := by decide +kernel
theorem dX8_wanted_0 : decode cX8_wanted 0 = .ok (.aload_n 0, 1) := by decide +kernel
theorem dX8_wanted_1 : decode cX8_wanted 1 = .ok (.iload_n 1, 1) := by decide +kernel
theorem dX8_wanted_2 : decode cX8_wanted 2 = .ok (.invokevirtual 207, 3) := by decide +kernel
theorem dX8_wanted_5 : decode cX8_wanted 5 = .ok (.ifCond .eq 20, 3) := by decide +kernel
theorem dX8_wanted_8 : decode cX8_wanted 8 = .ok (.iload_n 2, 1) := by decide +kernel
theorem dX8_wanted_9 : decode cX8_wanted 9 = .ok (.invokestatic 241, 3) := by decide +kernel
theorem dX8_wanted_12 : decode cX8_wanted 12 = .ok (.ifCond .eq 13, 3) := by decide +kernel
theorem dX8_wanted_15 : decode cX8_wanted 15 = .ok (.aload_n 0, 1) := by decide +kernel
theorem dX8_wanted_16 : decode cX8_wanted 16 = .ok (.iload_n 3, 1) := by decide +kernel
theorem dX8_wanted_17 : decode cX8_wanted 17 = .ok (.iload 5, 2) := by decide +kernel
theorem dX8_wanted_19 : decode cX8_wanted 19 = .ok (.invokevirtual 254, 3) := by decide +kernel
theorem dX8_wanted_22 : decode cX8_wanted 22 = .ok (.ifCond .ne 6, 3) := by decide +kernel
theorem dX8_wanted_25 : decode cX8_wanted 25 = .ok (.ldc 70, 2) := by decide +kernel
theorem dX8_wanted_27 : decode cX8_wanted 27 = .ok (.ireturn, 1) := by decide +kernel
theorem dX8_wanted_28 : decode cX8_wanted 28 = .ok (.aload_n 0, 1) := by decide +kernel
theorem dX8_wanted_29 : decode cX8_wanted 29 = .ok (.getfield 19, 3) := by decide +kernel
theorem dX8_wanted_32 : decode cX8_wanted 32 = .ok (.bipush 49, 2) := by decide +kernel
theorem dX8_wanted_34 : decode cX8_wanted 34 = .ok (.iload_n 1, 1) := by decide +kernel
theorem dX8_wanted_35 : decode cX8_wanted 35 = .ok (.iadd, 1) := by decide +kernel
theorem dX8_wanted_36 : decode cX8_wanted 36 = .ok (.iaload, 1) := by decide +kernel
theorem dX8_wanted_37 : decode cX8_wanted 37 = .ok (.ifCond .eq 6, 3) := by decide +kernel
theorem dX8_wanted_40 : decode cX8_wanted 40 = .ok (.ldc 192, 2) := by decide +kernel
theorem dX8_wanted_42 : decode cX8_wanted 42 = .ok (.ireturn, 1) := by decide +kernel
theorem dX8_wanted_43 : decode cX8_wanted 43 = .ok (.aload_n 0, 1) := by decide +kernel
theorem dX8_wanted_44 : decode cX8_wanted 44 = .ok (.iload_n 3, 1) := by decide +kernel
theorem dX8_wanted_45 : decode cX8_wanted 45 = .ok (.iload 4, 2) := by decide +kernel
theorem dX8_wanted_47 : decode cX8_wanted 47 = .ok (.iload 5, 2) := by decide +kernel
theorem dX8_wanted_49 : decode cX8_wanted 49 = .ok (.invokevirtual 257, 3) := by decide +kernel
theorem dX8_wanted_52 : decode cX8_wanted 52 = .ok (.istore 6, 2) := by decide +kernel
theorem dX8_wanted_54 : decode cX8_wanted 54 = .ok (.iload 6, 2) := by decide +kernel
theorem dX8_wanted_56 : decode cX8_wanted 56 = .ok (.ifCond .ge 6, 3) := by decide +kernel
theorem dX8_wanted_59 : decode cX8_wanted 59 = .ok (.iload 6, 2) := by decide +kernel
theorem dX8_wanted_61 : decode cX8_wanted 61 = .ok (.ireturn, 1) := by decide +kernel
theorem dX8_wanted_62 : decode cX8_wanted 62 = .ok (.aload_n 0, 1) := by decide +kernel
theorem dX8_wanted_63 : decode cX8_wanted 63 = .ok (.invokevirtual 225, 3) := by decide +kernel
theorem dX8_wanted_66 : decode cX8_wanted 66 = .ok (.iconst 0, 1) := by decide +kernel
theorem dX8_wanted_67 : decode cX8_wanted 67 = .ok (.istore 7, 2) := by decide +kernel
theorem dX8_wanted_69 : decode cX8_wanted 69 = .ok (.iload_n 2, 1) := by decide +kernel
theorem dX8_wanted_70 : decode cX8_wanted 70 = .ok (.istore 8, 2) := by decide +kernel
theorem dX8_wanted_72 : decode cX8_wanted 72 = .ok (.iload 8, 2) := by decide +kernel
theorem dX8_wanted_74 : decode cX8_wanted 74 = .ok (.iload_n 2, 1) := by decide +kernel
theorem dX8_wanted_75 : decode cX8_wanted 75 = .ok (.ifCond .ne 8, 3) := by decide +kernel
theorem dX8_wanted_78 : decode cX8_wanted 78 = .ok (.bipush 9, 2) := by decide +kernel
theorem dX8_wanted_80 : decode cX8_wanted 80 = .ok (.goto 5, 3) := by decide +kernel
theorem dX8_wanted_83 : decode cX8_wanted 83 = .ok (.bipush 20, 2) := by decide +kernel
theorem dX8_wanted_85 : decode cX8_wanted 85 = .ok (.if_icmp .gt 60, 3) := by decide +kernel
theorem dX8_wanted_88 : decode cX8_wanted 88 = .ok (.aload_n 0, 1) := by decide +kernel
theorem dX8_wanted_89 : decode cX8_wanted 89 = .ok (.getfield 19, 3) := by decide +kernel
theorem dX8_wanted_92 : decode cX8_wanted 92 = .ok (.iload_n 2, 1) := by decide +kernel
theorem dX8_wanted_93 : decode cX8_wanted 93 = .ok (.ifCond .ne 10, 3) := by decide +kernel
theorem dX8_wanted_96 : decode cX8_wanted 96 = .ok (.bipush 37, 2) := by decide +kernel
theorem dX8_wanted_98 : decode cX8_wanted 98 = .ok (.iload_n 1, 1) := by decide +kernel
theorem dX8_wanted_99 : decode cX8_wanted 99 = .ok (.iadd, 1) := by decide +kernel
theorem dX8_wanted_100 : decode cX8_wanted 100 = .ok (.goto 7, 3) := by decide +kernel
theorem dX8_wanted_103 : decode cX8_wanted 103 = .ok (.bipush 43, 2) := by decide +kernel
theorem dX8_wanted_105 : decode cX8_wanted 105 = .ok (.iload_n 1, 1) := by decide +kernel
theorem dX8_wanted_106 : decode cX8_wanted 106 = .ok (.iadd, 1) := by decide +kernel
theorem dX8_wanted_107 : decode cX8_wanted 107 = .ok (.iload 8, 2) := by decide +kernel
theorem dX8_wanted_109 : decode cX8_wanted 109 = .ok (.iastore, 1) := by decide +kernel
theorem dX8_wanted_110 : decode cX8_wanted 110 = .ok (.iload 7, 2) := by decide +kernel
theorem dX8_wanted_112 : decode cX8_wanted 112 = .ok (.aload_n 0, 1) := by decide +kernel
theorem dX8_wanted_113 : decode cX8_wanted 113 = .ok (.bipush 40, 2) := by decide +kernel
theorem dX8_wanted_115 : decode cX8_wanted 115 = .ok (.iload_n 3, 1) := by decide +kernel
theorem dX8_wanted_116 : decode cX8_wanted 116 = .ok (.imul, 1) := by decide +kernel
theorem dX8_wanted_117 : decode cX8_wanted 117 = .ok (.iload 4, 2) := by decide +kernel
theorem dX8_wanted_119 : decode cX8_wanted 119 = .ok (.iadd, 1) := by decide +kernel
theorem dX8_wanted_120 : decode cX8_wanted 120 = .ok (.iload 5, 2) := by decide +kernel
theorem dX8_wanted_122 : decode cX8_wanted 122 = .ok (.invokevirtual 261, 3) := by decide +kernel
theorem dX8_wanted_125 : decode cX8_wanted 125 = .ok (.ifCond .eq 10, 3) := by decide +kernel
theorem dX8_wanted_128 : decode cX8_wanted 128 = .ok (.iconst 1, 1) := by decide +kernel
theorem dX8_wanted_129 : decode cX8_wanted 129 = .ok (.iload 8, 2) := by decide +kernel
theorem dX8_wanted_131 : decode cX8_wanted 131 = .ok (.ishl, 1) := by decide +kernel
theorem dX8_wanted_132 : decode cX8_wanted 132 = .ok (.goto 4, 3) := by decide +kernel
theorem dX8_wanted_135 : decode cX8_wanted 135 = .ok (.iconst 0, 1) := by decide +kernel
theorem dX8_wanted_136 : decode cX8_wanted 136 = .ok (.ior, 1) := by decide +kernel
theorem dX8_wanted_137 : decode cX8_wanted 137 = .ok (.istore 7, 2) := by decide +kernel
theorem dX8_wanted_139 : decode cX8_wanted 139 = .ok (.iinc 8 1, 3) := by decide +kernel
theorem dX8_wanted_142 : decode cX8_wanted 142 = .ok (.goto (-70), 3) := by decide +kernel
theorem dX8_wanted_145 : decode cX8_wanted 145 = .ok (.aload_n 0, 1) := by decide +kernel
theorem dX8_wanted_146 : decode cX8_wanted 146 = .ok (.iload 7, 2) := by decide +kernel
theorem dX8_wanted_148 : decode cX8_wanted 148 = .ok (.invokevirtual 75, 3) := by decide +kernel
theorem dX8_wanted_151 : decode cX8_wanted 151 = .ok (.ireturn, 1) := by decide +kernel
theorem dX8_wasOff_0 : decode cX8_wasOff 0 = .ok (.aload_n 0, 1) := by decide +kernel
theorem dX8_wasOff_1 : decode cX8_wasOff 1 = .ok (.getfield 141, 3) := by decide +kernel
theorem dX8_wasOff_4 : decode cX8_wasOff 4 = .ok (.ifCond .ne 6, 3) := by decide +kernel
theorem dX8_wasOff_7 : decode cX8_wasOff 7 = .ok (.ldc 192, 2) := by decide +kernel
theorem dX8_wasOff_9 : decode cX8_wasOff 9 = .ok (.ireturn, 1) := by decide +kernel
theorem dX8_wasOff_10 : decode cX8_wasOff 10 = .ok (.aload_n 0, 1) := by decide +kernel
theorem dX8_wasOff_11 : decode cX8_wasOff 11 = .ok (.iload_n 1, 1) := by decide +kernel
theorem dX8_wasOff_12 : decode cX8_wasOff 12 = .ok (.iload_n 3, 1) := by decide +kernel
theorem dX8_wasOff_13 : decode cX8_wasOff 13 = .ok (.invokevirtual 254, 3) := by decide +kernel
theorem dX8_wasOff_16 : decode cX8_wasOff 16 = .ok (.ifCond .eq 13, 3) := by decide +kernel
theorem dX8_wasOff_19 : decode cX8_wasOff 19 = .ok (.aload_n 0, 1) := by decide +kernel
theorem dX8_wasOff_20 : decode cX8_wasOff 20 = .ok (.iload_n 1, 1) := by decide +kernel
theorem dX8_wasOff_21 : decode cX8_wasOff 21 = .ok (.iload_n 2, 1) := by decide +kernel
theorem dX8_wasOff_22 : decode cX8_wasOff 22 = .ok (.iload_n 3, 1) := by decide +kernel
theorem dX8_wasOff_23 : decode cX8_wasOff 23 = .ok (.invokevirtual 257, 3) := by decide +kernel
theorem dX8_wasOff_26 : decode cX8_wasOff 26 = .ok (.goto 5, 3) := by decide +kernel
theorem dX8_wasOff_29 : decode cX8_wasOff 29 = .ok (.ldc 70, 2) := by decide +kernel
theorem dX8_wasOff_31 : decode cX8_wasOff 31 = .ok (.istore 4, 2) := by decide +kernel
theorem dX8_wasOff_33 : decode cX8_wasOff 33 = .ok (.iload 4, 2) := by decide +kernel
theorem dX8_wasOff_35 : decode cX8_wasOff 35 = .ok (.ifCond .ge 6, 3) := by decide +kernel
theorem dX8_wasOff_38 : decode cX8_wasOff 38 = .ok (.iload 4, 2) := by decide +kernel
theorem dX8_wasOff_40 : decode cX8_wasOff 40 = .ok (.ireturn, 1) := by decide +kernel
theorem dX8_wasOff_41 : decode cX8_wasOff 41 = .ok (.aload_n 0, 1) := by decide +kernel
theorem dX8_wasOff_42 : decode cX8_wasOff 42 = .ok (.invokevirtual 225, 3) := by decide +kernel
theorem dX8_wasOff_45 : decode cX8_wasOff 45 = .ok (.aload_n 0, 1) := by decide +kernel
theorem dX8_wasOff_46 : decode cX8_wasOff 46 = .ok (.bipush 40, 2) := by decide +kernel
theorem dX8_wasOff_48 : decode cX8_wasOff 48 = .ok (.iload_n 1, 1) := by decide +kernel
theorem dX8_wasOff_49 : decode cX8_wasOff 49 = .ok (.imul, 1) := by decide +kernel
theorem dX8_wasOff_50 : decode cX8_wasOff 50 = .ok (.iload_n 2, 1) := by decide +kernel
theorem dX8_wasOff_51 : decode cX8_wasOff 51 = .ok (.iadd, 1) := by decide +kernel
theorem dX8_wasOff_52 : decode cX8_wasOff 52 = .ok (.iload_n 3, 1) := by decide +kernel
theorem dX8_wasOff_53 : decode cX8_wasOff 53 = .ok (.invokevirtual 261, 3) := by decide +kernel
theorem dX8_wasOff_56 : decode cX8_wasOff 56 = .ok (.ifCond .eq 8, 3) := by decide +kernel
theorem dX8_wasOff_59 : decode cX8_wasOff 59 = .ok (.bipush 64, 2) := by decide +kernel
theorem dX8_wasOff_61 : decode cX8_wasOff 61 = .ok (.goto 4, 3) := by decide +kernel
theorem dX8_wasOff_64 : decode cX8_wasOff 64 = .ok (.iconst 0, 1) := by decide +kernel
theorem dX8_wasOff_65 : decode cX8_wasOff 65 = .ok (.istore 5, 2) := by decide +kernel
theorem dX8_wasOff_67 : decode cX8_wasOff 67 = .ok (.iconst 0, 1) := by decide +kernel
theorem dX8_wasOff_68 : decode cX8_wasOff 68 = .ok (.istore 6, 2) := by decide +kernel
theorem dX8_wasOff_70 : decode cX8_wasOff 70 = .ok (.iload 6, 2) := by decide +kernel
theorem dX8_wasOff_72 : decode cX8_wasOff 72 = .ok (.aload_n 0, 1) := by decide +kernel
theorem dX8_wasOff_73 : decode cX8_wasOff 73 = .ok (.getfield 19, 3) := by decide +kernel
theorem dX8_wasOff_76 : decode cX8_wasOff 76 = .ok (.iconst 2, 1) := by decide +kernel
theorem dX8_wasOff_77 : decode cX8_wasOff 77 = .ok (.iaload, 1) := by decide +kernel
theorem dX8_wasOff_78 : decode cX8_wasOff 78 = .ok (.if_icmp .ge 51, 3) := by decide +kernel
theorem dX8_wasOff_81 : decode cX8_wasOff 81 = .ok (.aload_n 0, 1) := by decide +kernel
theorem dX8_wasOff_82 : decode cX8_wasOff 82 = .ok (.iload 6, 2) := by decide +kernel
theorem dX8_wasOff_84 : decode cX8_wasOff 84 = .ok (.invokevirtual 155, 3) := by decide +kernel
theorem dX8_wasOff_87 : decode cX8_wasOff 87 = .ok (.ifCond .lt 36, 3) := by decide +kernel
theorem dX8_wasOff_90 : decode cX8_wasOff 90 = .ok (.aload_n 0, 1) := by decide +kernel
theorem dX8_wasOff_91 : decode cX8_wasOff 91 = .ok (.iload 6, 2) := by decide +kernel
theorem dX8_wasOff_93 : decode cX8_wasOff 93 = .ok (.invokevirtual 158, 3) := by decide +kernel
theorem dX8_wasOff_96 : decode cX8_wasOff 96 = .ok (.iload 5, 2) := by decide +kernel
theorem dX8_wasOff_98 : decode cX8_wasOff 98 = .ok (.aload_n 0, 1) := by decide +kernel
theorem dX8_wasOff_99 : decode cX8_wasOff 99 = .ok (.bipush 40, 2) := by decide +kernel
theorem dX8_wasOff_101 : decode cX8_wasOff 101 = .ok (.iload_n 1, 1) := by decide +kernel
theorem dX8_wasOff_102 : decode cX8_wasOff 102 = .ok (.imul, 1) := by decide +kernel
theorem dX8_wasOff_103 : decode cX8_wasOff 103 = .ok (.iload_n 2, 1) := by decide +kernel
theorem dX8_wasOff_104 : decode cX8_wasOff 104 = .ok (.iadd, 1) := by decide +kernel
theorem dX8_wasOff_105 : decode cX8_wasOff 105 = .ok (.iload_n 3, 1) := by decide +kernel
theorem dX8_wasOff_106 : decode cX8_wasOff 106 = .ok (.invokevirtual 261, 3) := by decide +kernel
theorem dX8_wasOff_109 : decode cX8_wasOff 109 = .ok (.ifCond .eq 10, 3) := by decide +kernel
theorem dX8_wasOff_112 : decode cX8_wasOff 112 = .ok (.iconst 1, 1) := by decide +kernel
theorem dX8_wasOff_113 : decode cX8_wasOff 113 = .ok (.iload 6, 2) := by decide +kernel
theorem dX8_wasOff_115 : decode cX8_wasOff 115 = .ok (.ishl, 1) := by decide +kernel
theorem dX8_wasOff_116 : decode cX8_wasOff 116 = .ok (.goto 4, 3) := by decide +kernel
theorem dX8_wasOff_119 : decode cX8_wasOff 119 = .ok (.iconst 0, 1) := by decide +kernel
theorem dX8_wasOff_120 : decode cX8_wasOff 120 = .ok (.ior, 1) := by decide +kernel
theorem dX8_wasOff_121 : decode cX8_wasOff 121 = .ok (.istore 5, 2) := by decide +kernel
theorem dX8_wasOff_123 : decode cX8_wasOff 123 = .ok (.iinc 6 1, 3) := by decide +kernel
theorem dX8_wasOff_126 : decode cX8_wasOff 126 = .ok (.goto (-56), 3) := by decide +kernel
theorem dX8_wasOff_129 : decode cX8_wasOff 129 = .ok (.aload_n 0, 1) := by decide +kernel
theorem dX8_wasOff_130 : decode cX8_wasOff 130 = .ok (.iload 5, 2) := by decide +kernel
theorem dX8_wasOff_132 : decode cX8_wasOff 132 = .ok (.invokevirtual 75, 3) := by decide +kernel
theorem dX8_wasOff_135 : decode cX8_wasOff 135 = .ok (.ireturn, 1) := by decide +kernel
theorem dX8_wander_0 : decode cX8_wander 0 = .ok (.aload_n 0, 1) := by decide +kernel
theorem dX8_wander_1 : decode cX8_wander 1 = .ok (.getfield 141, 3) := by decide +kernel
theorem dX8_wander_4 : decode cX8_wander 4 = .ok (.ifCond .ne 7, 3) := by decide +kernel
theorem dX8_wander_7 : decode cX8_wander 7 = .ok (.ldc2_w 264, 3) := by decide +kernel
theorem dX8_wander_10 : decode cX8_wander 10 = .ok (.lreturn, 1) := by decide +kernel
theorem dX8_wander_11 : decode cX8_wander 11 = .ok (.iload_n 1, 1) := by decide +kernel
theorem dX8_wander_12 : decode cX8_wander 12 = .ok (.i2l, 1) := by decide +kernel
theorem dX8_wander_13 : decode cX8_wander 13 = .ok (.lconst 0, 1) := by decide +kernel
theorem dX8_wander_14 : decode cX8_wander 14 = .ok (.ldc2_w 266, 3) := by decide +kernel
theorem dX8_wander_17 : decode cX8_wander 17 = .ok (.invokestatic 60, 3) := by decide +kernel
theorem dX8_wander_20 : decode cX8_wander 20 = .ok (.ifCond .eq 35, 3) := by decide +kernel
theorem dX8_wander_23 : decode cX8_wander 23 = .ok (.iload_n 2, 1) := by decide +kernel
theorem dX8_wander_24 : decode cX8_wander 24 = .ok (.i2l, 1) := by decide +kernel
theorem dX8_wander_25 : decode cX8_wander 25 = .ok (.lconst 0, 1) := by decide +kernel
theorem dX8_wander_26 : decode cX8_wander 26 = .ok (.ldc2_w 250, 3) := by decide +kernel
theorem dX8_wander_29 : decode cX8_wander 29 = .ok (.invokestatic 60, 3) := by decide +kernel
theorem dX8_wander_32 : decode cX8_wander 32 = .ok (.ifCond .eq 23, 3) := by decide +kernel
theorem dX8_wander_35 : decode cX8_wander 35 = .ok (.iload_n 3, 1) := by decide +kernel
theorem dX8_wander_36 : decode cX8_wander 36 = .ok (.i2l, 1) := by decide +kernel
theorem dX8_wander_37 : decode cX8_wander 37 = .ok (.lconst 0, 1) := by decide +kernel
theorem dX8_wander_38 : decode cX8_wander 38 = .ok (.ldc2_w 268, 3) := by decide +kernel
theorem dX8_wander_41 : decode cX8_wander 41 = .ok (.invokestatic 60, 3) := by decide +kernel
theorem dX8_wander_44 : decode cX8_wander 44 = .ok (.ifCond .eq 11, 3) := by decide +kernel
theorem dX8_wander_47 : decode cX8_wander 47 = .ok (.iload 4, 2) := by decide +kernel
theorem dX8_wander_49 : decode cX8_wander 49 = .ok (.invokestatic 241, 3) := by decide +kernel
theorem dX8_wander_52 : decode cX8_wander 52 = .ok (.ifCond .ne 7, 3) := by decide +kernel
theorem dX8_wander_55 : decode cX8_wander 55 = .ok (.ldc2_w 270, 3) := by decide +kernel
theorem dX8_wander_58 : decode cX8_wander 58 = .ok (.lreturn, 1) := by decide +kernel
theorem dX8_wander_59 : decode cX8_wander 59 = .ok (.aload_n 0, 1) := by decide +kernel
theorem dX8_wander_60 : decode cX8_wander 60 = .ok (.invokevirtual 225, 3) := by decide +kernel
theorem dX8_wander_63 : decode cX8_wander 63 = .ok (.aload_n 0, 1) := by decide +kernel
theorem dX8_wander_64 : decode cX8_wander 64 = .ok (.iconst 0, 1) := by decide +kernel
theorem dX8_wander_65 : decode cX8_wander 65 = .ok (.invokevirtual 165, 3) := by decide +kernel
theorem dX8_wander_68 : decode cX8_wander 68 = .ok (.istore 5, 2) := by decide +kernel
theorem dX8_wander_70 : decode cX8_wander 70 = .ok (.lconst 0, 1) := by decide +kernel
theorem dX8_wander_71 : decode cX8_wander 71 = .ok (.lstore 6, 2) := by decide +kernel
theorem dX8_wander_73 : decode cX8_wander 73 = .ok (.lconst 1, 1) := by decide +kernel
theorem dX8_wander_74 : decode cX8_wander 74 = .ok (.lstore 8, 2) := by decide +kernel
theorem dX8_wander_76 : decode cX8_wander 76 = .ok (.iconst 0, 1) := by decide +kernel
theorem dX8_wander_77 : decode cX8_wander 77 = .ok (.istore 10, 2) := by decide +kernel
theorem dX8_wander_79 : decode cX8_wander 79 = .ok (.iload 10, 2) := by decide +kernel
theorem dX8_wander_81 : decode cX8_wander 81 = .ok (.aload_n 0, 1) := by decide +kernel
theorem dX8_wander_82 : decode cX8_wander 82 = .ok (.getfield 19, 3) := by decide +kernel
theorem dX8_wander_85 : decode cX8_wander 85 = .ok (.iconst 3, 1) := by decide +kernel
theorem dX8_wander_86 : decode cX8_wander 86 = .ok (.iaload, 1) := by decide +kernel
theorem dX8_wander_87 : decode cX8_wander 87 = .ok (.if_icmp .ge 31, 3) := by decide +kernel
theorem dX8_wander_90 : decode cX8_wander 90 = .ok (.lload 8, 2) := by decide +kernel
theorem dX8_wander_92 : decode cX8_wander 92 = .ok (.iload 5, 2) := by decide +kernel
theorem dX8_wander_94 : decode cX8_wander 94 = .ok (.iload 10, 2) := by decide +kernel
theorem dX8_wander_96 : decode cX8_wander 96 = .ok (.invokestatic 177, 3) := by decide +kernel
theorem dX8_wander_99 : decode cX8_wander 99 = .ok (.ifCond .eq 9, 3) := by decide +kernel
theorem dX8_wander_102 : decode cX8_wander 102 = .ok (.ldc2_w 268, 3) := by decide +kernel
theorem dX8_wander_105 : decode cX8_wander 105 = .ok (.goto 4, 3) := by decide +kernel
theorem dX8_wander_108 : decode cX8_wander 108 = .ok (.lconst 1, 1) := by decide +kernel
theorem dX8_wander_109 : decode cX8_wander 109 = .ok (.lmul, 1) := by decide +kernel
theorem dX8_wander_110 : decode cX8_wander 110 = .ok (.lstore 8, 2) := by decide +kernel
theorem dX8_wander_112 : decode cX8_wander 112 = .ok (.iinc 10 1, 3) := by decide +kernel
theorem dX8_wander_115 : decode cX8_wander 115 = .ok (.goto (-36), 3) := by decide +kernel
theorem dX8_wander_118 : decode cX8_wander 118 = .ok (.iconst 0, 1) := by decide +kernel
theorem dX8_wander_119 : decode cX8_wander 119 = .ok (.istore 10, 2) := by decide +kernel
theorem dX8_wander_121 : decode cX8_wander 121 = .ok (.iload 10, 2) := by decide +kernel
theorem dX8_wander_123 : decode cX8_wander 123 = .ok (.iload 5, 2) := by decide +kernel
theorem dX8_wander_125 : decode cX8_wander 125 = .ok (.if_icmp .gt 145, 3) := by decide +kernel
theorem dX8_wander_128 : decode cX8_wander 128 = .ok (.iload 10, 2) := by decide +kernel
theorem dX8_wander_130 : decode cX8_wander 130 = .ok (.iload 5, 2) := by decide +kernel
theorem dX8_wander_132 : decode cX8_wander 132 = .ok (.iconst (-1), 1) := by decide +kernel
theorem dX8_wander_133 : decode cX8_wander 133 = .ok (.ixor, 1) := by decide +kernel
theorem dX8_wander_134 : decode cX8_wander 134 = .ok (.iand, 1) := by decide +kernel
theorem dX8_wander_135 : decode cX8_wander 135 = .ok (.ifCond .ne 129, 3) := by decide +kernel
theorem dX8_wander_138 : decode cX8_wander 138 = .ok (.lconst 1, 1) := by decide +kernel
theorem dX8_wander_139 : decode cX8_wander 139 = .ok (.lstore 11, 2) := by decide +kernel
theorem dX8_wander_141 : decode cX8_wander 141 = .ok (.iconst 0, 1) := by decide +kernel
theorem dX8_wander_142 : decode cX8_wander 142 = .ok (.istore 13, 2) := by decide +kernel
theorem dX8_wander_144 : decode cX8_wander 144 = .ok (.iload 13, 2) := by decide +kernel
theorem dX8_wander_146 : decode cX8_wander 146 = .ok (.aload_n 0, 1) := by decide +kernel
theorem dX8_wander_147 : decode cX8_wander 147 = .ok (.getfield 19, 3) := by decide +kernel
theorem dX8_wander_150 : decode cX8_wander 150 = .ok (.iconst 3, 1) := by decide +kernel
theorem dX8_wander_151 : decode cX8_wander 151 = .ok (.iaload, 1) := by decide +kernel
theorem dX8_wander_152 : decode cX8_wander 152 = .ok (.if_icmp .ge 82, 3) := by decide +kernel
theorem dX8_wander_155 : decode cX8_wander 155 = .ok (.lload 11, 2) := by decide +kernel
theorem dX8_wander_157 : decode cX8_wander 157 = .ok (.iload 5, 2) := by decide +kernel
theorem dX8_wander_159 : decode cX8_wander 159 = .ok (.iload 13, 2) := by decide +kernel
theorem dX8_wander_161 : decode cX8_wander 161 = .ok (.invokestatic 177, 3) := by decide +kernel
theorem dX8_wander_164 : decode cX8_wander 164 = .ok (.ifCond .ne 7, 3) := by decide +kernel
theorem dX8_wander_167 : decode cX8_wander 167 = .ok (.lconst 1, 1) := by decide +kernel
theorem dX8_wander_168 : decode cX8_wander 168 = .ok (.goto 23, 3) := by decide +kernel
theorem dX8_wander_171 : decode cX8_wander 171 = .ok (.iload 10, 2) := by decide +kernel
theorem dX8_wander_173 : decode cX8_wander 173 = .ok (.iload 13, 2) := by decide +kernel
theorem dX8_wander_175 : decode cX8_wander 175 = .ok (.invokestatic 177, 3) := by decide +kernel
theorem dX8_wander_178 : decode cX8_wander 178 = .ok (.ifCond .eq 8, 3) := by decide +kernel
theorem dX8_wander_181 : decode cX8_wander 181 = .ok (.iload_n 3, 1) := by decide +kernel
theorem dX8_wander_182 : decode cX8_wander 182 = .ok (.i2l, 1) := by decide +kernel
theorem dX8_wander_183 : decode cX8_wander 183 = .ok (.goto 8, 3) := by decide +kernel
theorem dX8_wander_186 : decode cX8_wander 186 = .ok (.bipush 10, 2) := by decide +kernel
theorem dX8_wander_188 : decode cX8_wander 188 = .ok (.iload_n 3, 1) := by decide +kernel
theorem dX8_wander_189 : decode cX8_wander 189 = .ok (.isub, 1) := by decide +kernel
theorem dX8_wander_190 : decode cX8_wander 190 = .ok (.i2l, 1) := by decide +kernel
theorem dX8_wander_191 : decode cX8_wander 191 = .ok (.lmul, 1) := by decide +kernel
theorem dX8_wander_192 : decode cX8_wander 192 = .ok (.lstore 11, 2) := by decide +kernel
theorem dX8_wander_194 : decode cX8_wander 194 = .ok (.aload_n 0, 1) := by decide +kernel
theorem dX8_wander_195 : decode cX8_wander 195 = .ok (.getfield 19, 3) := by decide +kernel
theorem dX8_wander_198 : decode cX8_wander 198 = .ok (.bipush 49, 2) := by decide +kernel
theorem dX8_wander_200 : decode cX8_wander 200 = .ok (.iload 13, 2) := by decide +kernel
theorem dX8_wander_202 : decode cX8_wander 202 = .ok (.iadd, 1) := by decide +kernel
theorem dX8_wander_203 : decode cX8_wander 203 = .ok (.iload 10, 2) := by decide +kernel
theorem dX8_wander_205 : decode cX8_wander 205 = .ok (.iload 13, 2) := by decide +kernel
theorem dX8_wander_207 : decode cX8_wander 207 = .ok (.invokestatic 177, 3) := by decide +kernel
theorem dX8_wander_210 : decode cX8_wander 210 = .ok (.ifCond .eq 7, 3) := by decide +kernel
theorem dX8_wander_213 : decode cX8_wander 213 = .ok (.iconst 2, 1) := by decide +kernel
theorem dX8_wander_214 : decode cX8_wander 214 = .ok (.goto 13, 3) := by decide +kernel
theorem dX8_wander_217 : decode cX8_wander 217 = .ok (.aload_n 0, 1) := by decide +kernel
theorem dX8_wander_218 : decode cX8_wander 218 = .ok (.getfield 19, 3) := by decide +kernel
theorem dX8_wander_221 : decode cX8_wander 221 = .ok (.bipush 49, 2) := by decide +kernel
theorem dX8_wander_223 : decode cX8_wander 223 = .ok (.iload 13, 2) := by decide +kernel
theorem dX8_wander_225 : decode cX8_wander 225 = .ok (.iadd, 1) := by decide +kernel
theorem dX8_wander_226 : decode cX8_wander 226 = .ok (.iaload, 1) := by decide +kernel
theorem dX8_wander_227 : decode cX8_wander 227 = .ok (.iastore, 1) := by decide +kernel
theorem dX8_wander_228 : decode cX8_wander 228 = .ok (.iinc 13 1, 3) := by decide +kernel
theorem dX8_wander_231 : decode cX8_wander 231 = .ok (.goto (-87), 3) := by decide +kernel
theorem dX8_wander_234 : decode cX8_wander 234 = .ok (.aload_n 0, 1) := by decide +kernel
theorem dX8_wander_235 : decode cX8_wander 235 = .ok (.iload_n 2, 1) := by decide +kernel
theorem dX8_wander_236 : decode cX8_wander 236 = .ok (.invokevirtual 228, 3) := by decide +kernel
theorem dX8_wander_239 : decode cX8_wander 239 = .ok (.lload 6, 2) := by decide +kernel
theorem dX8_wander_241 : decode cX8_wander 241 = .ok (.aload_n 0, 1) := by decide +kernel
theorem dX8_wander_242 : decode cX8_wander 242 = .ok (.getfield 19, 3) := by decide +kernel
theorem dX8_wander_245 : decode cX8_wander 245 = .ok (.iconst 5, 1) := by decide +kernel
theorem dX8_wander_246 : decode cX8_wander 246 = .ok (.iaload, 1) := by decide +kernel
theorem dX8_wander_247 : decode cX8_wander 247 = .ok (.iload_n 1, 1) := by decide +kernel
theorem dX8_wander_248 : decode cX8_wander 248 = .ok (.if_icmp .lt 8, 3) := by decide +kernel
theorem dX8_wander_251 : decode cX8_wander 251 = .ok (.lload 11, 2) := by decide +kernel
theorem dX8_wander_253 : decode cX8_wander 253 = .ok (.goto 4, 3) := by decide +kernel
theorem dX8_wander_256 : decode cX8_wander 256 = .ok (.lconst 0, 1) := by decide +kernel
theorem dX8_wander_257 : decode cX8_wander 257 = .ok (.ladd, 1) := by decide +kernel
theorem dX8_wander_258 : decode cX8_wander 258 = .ok (.lstore 6, 2) := by decide +kernel
theorem dX8_wander_260 : decode cX8_wander 260 = .ok (.aload_n 0, 1) := by decide +kernel
theorem dX8_wander_261 : decode cX8_wander 261 = .ok (.invokevirtual 231, 3) := by decide +kernel
theorem dX8_wander_264 : decode cX8_wander 264 = .ok (.iinc 10 1, 3) := by decide +kernel
theorem dX8_wander_267 : decode cX8_wander 267 = .ok (.goto (-146), 3) := by decide +kernel
theorem dX8_wander_270 : decode cX8_wander 270 = .ok (.lload 6, 2) := by decide +kernel
theorem dX8_wander_272 : decode cX8_wander 272 = .ok (.lstore 10, 2) := by decide +kernel
theorem dX8_wander_274 : decode cX8_wander 274 = .ok (.lload 8, 2) := by decide +kernel
theorem dX8_wander_276 : decode cX8_wander 276 = .ok (.lstore 12, 2) := by decide +kernel
theorem dX8_wander_278 : decode cX8_wander 278 = .ok (.lload 12, 2) := by decide +kernel
theorem dX8_wander_280 : decode cX8_wander 280 = .ok (.lconst 0, 1) := by decide +kernel
theorem dX8_wander_281 : decode cX8_wander 281 = .ok (.lcmp, 1) := by decide +kernel
theorem dX8_wander_282 : decode cX8_wander 282 = .ok (.ifCond .eq 21, 3) := by decide +kernel
theorem dX8_wander_285 : decode cX8_wander 285 = .ok (.lload 10, 2) := by decide +kernel
theorem dX8_wander_287 : decode cX8_wander 287 = .ok (.lload 12, 2) := by decide +kernel
theorem dX8_wander_289 : decode cX8_wander 289 = .ok (.lrem, 1) := by decide +kernel
theorem dX8_wander_290 : decode cX8_wander 290 = .ok (.lstore 14, 2) := by decide +kernel
theorem dX8_wander_292 : decode cX8_wander 292 = .ok (.lload 12, 2) := by decide +kernel
theorem dX8_wander_294 : decode cX8_wander 294 = .ok (.lstore 10, 2) := by decide +kernel
theorem dX8_wander_296 : decode cX8_wander 296 = .ok (.lload 14, 2) := by decide +kernel
theorem dX8_wander_298 : decode cX8_wander 298 = .ok (.lstore 12, 2) := by decide +kernel
theorem dX8_wander_300 : decode cX8_wander 300 = .ok (.goto (-22), 3) := by decide +kernel
theorem dX8_wander_303 : decode cX8_wander 303 = .ok (.iload 4, 2) := by decide +kernel
theorem dX8_wander_305 : decode cX8_wander 305 = .ok (.ifCond .ne 11, 3) := by decide +kernel
theorem dX8_wander_308 : decode cX8_wander 308 = .ok (.lload 6, 2) := by decide +kernel
theorem dX8_wander_310 : decode cX8_wander 310 = .ok (.lload 10, 2) := by decide +kernel
theorem dX8_wander_312 : decode cX8_wander 312 = .ok (.ldiv, 1) := by decide +kernel
theorem dX8_wander_313 : decode cX8_wander 313 = .ok (.goto 8, 3) := by decide +kernel
theorem dX8_wander_316 : decode cX8_wander 316 = .ok (.lload 8, 2) := by decide +kernel
theorem dX8_wander_318 : decode cX8_wander 318 = .ok (.lload 10, 2) := by decide +kernel
theorem dX8_wander_320 : decode cX8_wander 320 = .ok (.ldiv, 1) := by decide +kernel
theorem dX8_wander_321 : decode cX8_wander 321 = .ok (.lreturn, 1) := by decide +kernel
theorem dX8_drawn_0 : decode cX8_drawn 0 = .ok (.aload_n 0, 1) := by decide +kernel
theorem dX8_drawn_1 : decode cX8_drawn 1 = .ok (.getfield 141, 3) := by decide +kernel
theorem dX8_drawn_4 : decode cX8_drawn 4 = .ok (.ifCond .ne 6, 3) := by decide +kernel
theorem dX8_drawn_7 : decode cX8_drawn 7 = .ok (.ldc 192, 2) := by decide +kernel
theorem dX8_drawn_9 : decode cX8_drawn 9 = .ok (.ireturn, 1) := by decide +kernel
theorem dX8_drawn_10 : decode cX8_drawn 10 = .ok (.iload_n 1, 1) := by decide +kernel
theorem dX8_drawn_11 : decode cX8_drawn 11 = .ok (.i2l, 1) := by decide +kernel
theorem dX8_drawn_12 : decode cX8_drawn 12 = .ok (.lconst 0, 1) := by decide +kernel
theorem dX8_drawn_13 : decode cX8_drawn 13 = .ok (.ldc2_w 223, 3) := by decide +kernel
theorem dX8_drawn_16 : decode cX8_drawn 16 = .ok (.invokestatic 60, 3) := by decide +kernel
theorem dX8_drawn_19 : decode cX8_drawn 19 = .ok (.ifCond .eq 22, 3) := by decide +kernel
theorem dX8_drawn_22 : decode cX8_drawn 22 = .ok (.iload_n 2, 1) := by decide +kernel
theorem dX8_drawn_23 : decode cX8_drawn 23 = .ok (.i2l, 1) := by decide +kernel
theorem dX8_drawn_24 : decode cX8_drawn 24 = .ok (.lconst 1, 1) := by decide +kernel
theorem dX8_drawn_25 : decode cX8_drawn 25 = .ok (.ldc2_w 272, 3) := by decide +kernel
theorem dX8_drawn_28 : decode cX8_drawn 28 = .ok (.invokestatic 60, 3) := by decide +kernel
theorem dX8_drawn_31 : decode cX8_drawn 31 = .ok (.ifCond .eq 10, 3) := by decide +kernel
theorem dX8_drawn_34 : decode cX8_drawn 34 = .ok (.iload_n 3, 1) := by decide +kernel
theorem dX8_drawn_35 : decode cX8_drawn 35 = .ok (.invokestatic 241, 3) := by decide +kernel
theorem dX8_drawn_38 : decode cX8_drawn 38 = .ok (.ifCond .ne 6, 3) := by decide +kernel
theorem dX8_drawn_41 : decode cX8_drawn 41 = .ok (.ldc 70, 2) := by decide +kernel
theorem dX8_drawn_43 : decode cX8_drawn 43 = .ok (.ireturn, 1) := by decide +kernel
theorem dX8_drawn_44 : decode cX8_drawn 44 = .ok (.aload_n 0, 1) := by decide +kernel
theorem dX8_drawn_45 : decode cX8_drawn 45 = .ok (.invokevirtual 225, 3) := by decide +kernel
theorem dX8_drawn_48 : decode cX8_drawn 48 = .ok (.iload_n 2, 1) := by decide +kernel
theorem dX8_drawn_49 : decode cX8_drawn 49 = .ok (.i2l, 1) := by decide +kernel
theorem dX8_drawn_50 : decode cX8_drawn 50 = .ok (.lstore 4, 2) := by decide +kernel
theorem dX8_drawn_52 : decode cX8_drawn 52 = .ok (.iconst 0, 1) := by decide +kernel
theorem dX8_drawn_53 : decode cX8_drawn 53 = .ok (.istore 6, 2) := by decide +kernel
theorem dX8_drawn_55 : decode cX8_drawn 55 = .ok (.iconst 0, 1) := by decide +kernel
theorem dX8_drawn_56 : decode cX8_drawn 56 = .ok (.istore 7, 2) := by decide +kernel
theorem dX8_drawn_58 : decode cX8_drawn 58 = .ok (.iload 7, 2) := by decide +kernel
theorem dX8_drawn_60 : decode cX8_drawn 60 = .ok (.iload_n 1, 1) := by decide +kernel
theorem dX8_drawn_61 : decode cX8_drawn 61 = .ok (.if_icmp .ge 143, 3) := by decide +kernel
theorem dX8_drawn_64 : decode cX8_drawn 64 = .ok (.lload 4, 2) := by decide +kernel
theorem dX8_drawn_66 : decode cX8_drawn 66 = .ok (.ldc2_w 274, 3) := by decide +kernel
theorem dX8_drawn_69 : decode cX8_drawn 69 = .ok (.lmul, 1) := by decide +kernel
theorem dX8_drawn_70 : decode cX8_drawn 70 = .ok (.ldc2_w 276, 3) := by decide +kernel
theorem dX8_drawn_73 : decode cX8_drawn 73 = .ok (.lrem, 1) := by decide +kernel
theorem dX8_drawn_74 : decode cX8_drawn 74 = .ok (.lstore 4, 2) := by decide +kernel
theorem dX8_drawn_76 : decode cX8_drawn 76 = .ok (.aload_n 0, 1) := by decide +kernel
theorem dX8_drawn_77 : decode cX8_drawn 77 = .ok (.getfield 19, 3) := by decide +kernel
theorem dX8_drawn_80 : decode cX8_drawn 80 = .ok (.iconst 3, 1) := by decide +kernel
theorem dX8_drawn_81 : decode cX8_drawn 81 = .ok (.iaload, 1) := by decide +kernel
theorem dX8_drawn_82 : decode cX8_drawn 82 = .ok (.ifCond .ne 8, 3) := by decide +kernel
theorem dX8_drawn_85 : decode cX8_drawn 85 = .ok (.ldc 154, 2) := by decide +kernel
theorem dX8_drawn_87 : decode cX8_drawn 87 = .ok (.goto 14, 3) := by decide +kernel
theorem dX8_drawn_90 : decode cX8_drawn 90 = .ok (.lload 4, 2) := by decide +kernel
theorem dX8_drawn_92 : decode cX8_drawn 92 = .ok (.aload_n 0, 1) := by decide +kernel
theorem dX8_drawn_93 : decode cX8_drawn 93 = .ok (.getfield 19, 3) := by decide +kernel
theorem dX8_drawn_96 : decode cX8_drawn 96 = .ok (.iconst 3, 1) := by decide +kernel
theorem dX8_drawn_97 : decode cX8_drawn 97 = .ok (.iaload, 1) := by decide +kernel
theorem dX8_drawn_98 : decode cX8_drawn 98 = .ok (.i2l, 1) := by decide +kernel
theorem dX8_drawn_99 : decode cX8_drawn 99 = .ok (.lrem, 1) := by decide +kernel
theorem dX8_drawn_100 : decode cX8_drawn 100 = .ok (.l2i, 1) := by decide +kernel
theorem dX8_drawn_101 : decode cX8_drawn 101 = .ok (.istore 8, 2) := by decide +kernel
theorem dX8_drawn_103 : decode cX8_drawn 103 = .ok (.iload 8, 2) := by decide +kernel
theorem dX8_drawn_105 : decode cX8_drawn 105 = .ok (.ifCond .lt 38, 3) := by decide +kernel
theorem dX8_drawn_108 : decode cX8_drawn 108 = .ok (.aload_n 0, 1) := by decide +kernel
theorem dX8_drawn_109 : decode cX8_drawn 109 = .ok (.getfield 19, 3) := by decide +kernel
theorem dX8_drawn_112 : decode cX8_drawn 112 = .ok (.bipush 49, 2) := by decide +kernel
theorem dX8_drawn_114 : decode cX8_drawn 114 = .ok (.iload 8, 2) := by decide +kernel
theorem dX8_drawn_116 : decode cX8_drawn 116 = .ok (.iadd, 1) := by decide +kernel
theorem dX8_drawn_117 : decode cX8_drawn 117 = .ok (.iaload, 1) := by decide +kernel
theorem dX8_drawn_118 : decode cX8_drawn 118 = .ok (.ifCond .eq 25, 3) := by decide +kernel
theorem dX8_drawn_121 : decode cX8_drawn 121 = .ok (.aload_n 0, 1) := by decide +kernel
theorem dX8_drawn_122 : decode cX8_drawn 122 = .ok (.iload 8, 2) := by decide +kernel
theorem dX8_drawn_124 : decode cX8_drawn 124 = .ok (.lload 4, 2) := by decide +kernel
theorem dX8_drawn_126 : decode cX8_drawn 126 = .ok (.ldc2_w 268, 3) := by decide +kernel
theorem dX8_drawn_129 : decode cX8_drawn 129 = .ok (.lrem, 1) := by decide +kernel
theorem dX8_drawn_130 : decode cX8_drawn 130 = .ok (.l2i, 1) := by decide +kernel
theorem dX8_drawn_131 : decode cX8_drawn 131 = .ok (.lload 4, 2) := by decide +kernel
theorem dX8_drawn_133 : decode cX8_drawn 133 = .ok (.ldc2_w 278, 3) := by decide +kernel
theorem dX8_drawn_136 : decode cX8_drawn 136 = .ok (.lrem, 1) := by decide +kernel
theorem dX8_drawn_137 : decode cX8_drawn 137 = .ok (.l2i, 1) := by decide +kernel
theorem dX8_drawn_138 : decode cX8_drawn 138 = .ok (.iconst 1, 1) := by decide +kernel
theorem dX8_drawn_139 : decode cX8_drawn 139 = .ok (.iadd, 1) := by decide +kernel
theorem dX8_drawn_140 : decode cX8_drawn 140 = .ok (.invokevirtual 214, 3) := by decide +kernel
theorem dX8_drawn_143 : decode cX8_drawn 143 = .ok (.aload_n 0, 1) := by decide +kernel
theorem dX8_drawn_144 : decode cX8_drawn 144 = .ok (.getfield 19, 3) := by decide +kernel
theorem dX8_drawn_147 : decode cX8_drawn 147 = .ok (.bipush 6, 2) := by decide +kernel
theorem dX8_drawn_149 : decode cX8_drawn 149 = .ok (.iaload, 1) := by decide +kernel
theorem dX8_drawn_150 : decode cX8_drawn 150 = .ok (.ifCond .ne 18, 3) := by decide +kernel
theorem dX8_drawn_153 : decode cX8_drawn 153 = .ok (.aload_n 0, 1) := by decide +kernel
theorem dX8_drawn_154 : decode cX8_drawn 154 = .ok (.lload 4, 2) := by decide +kernel
theorem dX8_drawn_156 : decode cX8_drawn 156 = .ok (.aload_n 0, 1) := by decide +kernel
theorem dX8_drawn_157 : decode cX8_drawn 157 = .ok (.getfield 19, 3) := by decide +kernel
theorem dX8_drawn_160 : decode cX8_drawn 160 = .ok (.iconst 2, 1) := by decide +kernel
theorem dX8_drawn_161 : decode cX8_drawn 161 = .ok (.iaload, 1) := by decide +kernel
theorem dX8_drawn_162 : decode cX8_drawn 162 = .ok (.i2l, 1) := by decide +kernel
theorem dX8_drawn_163 : decode cX8_drawn 163 = .ok (.lrem, 1) := by decide +kernel
theorem dX8_drawn_164 : decode cX8_drawn 164 = .ok (.l2i, 1) := by decide +kernel
theorem dX8_drawn_165 : decode cX8_drawn 165 = .ok (.invokevirtual 181, 3) := by decide +kernel
theorem dX8_drawn_168 : decode cX8_drawn 168 = .ok (.aload_n 0, 1) := by decide +kernel
theorem dX8_drawn_169 : decode cX8_drawn 169 = .ok (.iconst 1, 1) := by decide +kernel
theorem dX8_drawn_170 : decode cX8_drawn 170 = .ok (.invokevirtual 165, 3) := by decide +kernel
theorem dX8_drawn_173 : decode cX8_drawn 173 = .ok (.invokestatic 151, 3) := by decide +kernel
theorem dX8_drawn_176 : decode cX8_drawn 176 = .ok (.istore 9, 2) := by decide +kernel
theorem dX8_drawn_178 : decode cX8_drawn 178 = .ok (.aload_n 0, 1) := by decide +kernel
theorem dX8_drawn_179 : decode cX8_drawn 179 = .ok (.invokevirtual 198, 3) := by decide +kernel
theorem dX8_drawn_182 : decode cX8_drawn 182 = .ok (.iload 6, 2) := by decide +kernel
theorem dX8_drawn_184 : decode cX8_drawn 184 = .ok (.aload_n 0, 1) := by decide +kernel
theorem dX8_drawn_185 : decode cX8_drawn 185 = .ok (.iconst 1, 1) := by decide +kernel
theorem dX8_drawn_186 : decode cX8_drawn 186 = .ok (.invokevirtual 165, 3) := by decide +kernel
theorem dX8_drawn_189 : decode cX8_drawn 189 = .ok (.invokestatic 151, 3) := by decide +kernel
theorem dX8_drawn_192 : decode cX8_drawn 192 = .ok (.iload 9, 2) := by decide +kernel
theorem dX8_drawn_194 : decode cX8_drawn 194 = .ok (.isub, 1) := by decide +kernel
theorem dX8_drawn_195 : decode cX8_drawn 195 = .ok (.iadd, 1) := by decide +kernel
theorem dX8_drawn_196 : decode cX8_drawn 196 = .ok (.istore 6, 2) := by decide +kernel
theorem dX8_drawn_198 : decode cX8_drawn 198 = .ok (.iinc 7 1, 3) := by decide +kernel
theorem dX8_drawn_201 : decode cX8_drawn 201 = .ok (.goto (-143), 3) := by decide +kernel
theorem dX8_drawn_204 : decode cX8_drawn 204 = .ok (.iload_n 3, 1) := by decide +kernel
theorem dX8_drawn_205 : decode cX8_drawn 205 = .ok (.ifCond .ne 12, 3) := by decide +kernel
theorem dX8_drawn_208 : decode cX8_drawn 208 = .ok (.aload_n 0, 1) := by decide +kernel
theorem dX8_drawn_209 : decode cX8_drawn 209 = .ok (.getfield 19, 3) := by decide +kernel
theorem dX8_drawn_212 : decode cX8_drawn 212 = .ok (.iconst 5, 1) := by decide +kernel
theorem dX8_drawn_213 : decode cX8_drawn 213 = .ok (.iaload, 1) := by decide +kernel
theorem dX8_drawn_214 : decode cX8_drawn 214 = .ok (.goto 5, 3) := by decide +kernel
theorem dX8_drawn_217 : decode cX8_drawn 217 = .ok (.iload 6, 2) := by decide +kernel
theorem dX8_drawn_219 : decode cX8_drawn 219 = .ok (.istore 7, 2) := by decide +kernel
theorem dX8_drawn_221 : decode cX8_drawn 221 = .ok (.aload_n 0, 1) := by decide +kernel
theorem dX8_drawn_222 : decode cX8_drawn 222 = .ok (.invokevirtual 231, 3) := by decide +kernel
theorem dX8_drawn_225 : decode cX8_drawn 225 = .ok (.iload 7, 2) := by decide +kernel
theorem dX8_drawn_227 : decode cX8_drawn 227 = .ok (.ireturn, 1) := by decide +kernel
theorem dX8_image_0 : decode cX8_image 0 = .ok (.iload_n 1, 1) := by decide +kernel
theorem dX8_image_1 : decode cX8_image 1 = .ok (.i2l, 1) := by decide +kernel
theorem dX8_image_2 : decode cX8_image 2 = .ok (.lconst 0, 1) := by decide +kernel
theorem dX8_image_3 : decode cX8_image 3 = .ok (.lconst 1, 1) := by decide +kernel
theorem dX8_image_4 : decode cX8_image 4 = .ok (.invokestatic 60, 3) := by decide +kernel
theorem dX8_image_7 : decode cX8_image 7 = .ok (.ifCond .ne 6, 3) := by decide +kernel
theorem dX8_image_10 : decode cX8_image 10 = .ok (.ldc 70, 2) := by decide +kernel
theorem dX8_image_12 : decode cX8_image 12 = .ok (.ireturn, 1) := by decide +kernel
theorem dX8_image_13 : decode cX8_image 13 = .ok (.aload_n 0, 1) := by decide +kernel
theorem dX8_image_14 : decode cX8_image 14 = .ok (.getfield 141, 3) := by decide +kernel
theorem dX8_image_17 : decode cX8_image 17 = .ok (.ifCond .ne 6, 3) := by decide +kernel
theorem dX8_image_20 : decode cX8_image 20 = .ok (.ldc 192, 2) := by decide +kernel
theorem dX8_image_22 : decode cX8_image 22 = .ok (.ireturn, 1) := by decide +kernel
theorem dX8_image_23 : decode cX8_image 23 = .ok (.iconst 0, 1) := by decide +kernel
theorem dX8_image_24 : decode cX8_image 24 = .ok (.istore_n 2, 1) := by decide +kernel
theorem dX8_image_25 : decode cX8_image 25 = .ok (.iload_n 2, 1) := by decide +kernel
theorem dX8_image_26 : decode cX8_image 26 = .ok (.bipush 55, 2) := by decide +kernel
theorem dX8_image_28 : decode cX8_image 28 = .ok (.if_icmp .ge 26, 3) := by decide +kernel
theorem dX8_image_31 : decode cX8_image 31 = .ok (.aload_n 0, 1) := by decide +kernel
theorem dX8_image_32 : decode cX8_image 32 = .ok (.getfield 47, 3) := by decide +kernel
theorem dX8_image_35 : decode cX8_image 35 = .ok (.bipush 55, 2) := by decide +kernel
theorem dX8_image_37 : decode cX8_image 37 = .ok (.iload_n 1, 1) := by decide +kernel
theorem dX8_image_38 : decode cX8_image 38 = .ok (.imul, 1) := by decide +kernel
theorem dX8_image_39 : decode cX8_image 39 = .ok (.iload_n 2, 1) := by decide +kernel
theorem dX8_image_40 : decode cX8_image 40 = .ok (.iadd, 1) := by decide +kernel
theorem dX8_image_41 : decode cX8_image 41 = .ok (.aload_n 0, 1) := by decide +kernel
theorem dX8_image_42 : decode cX8_image 42 = .ok (.getfield 19, 3) := by decide +kernel
theorem dX8_image_45 : decode cX8_image 45 = .ok (.iload_n 2, 1) := by decide +kernel
theorem dX8_image_46 : decode cX8_image 46 = .ok (.iaload, 1) := by decide +kernel
theorem dX8_image_47 : decode cX8_image 47 = .ok (.iastore, 1) := by decide +kernel
theorem dX8_image_48 : decode cX8_image 48 = .ok (.iinc 2 1, 3) := by decide +kernel
theorem dX8_image_51 : decode cX8_image 51 = .ok (.goto (-26), 3) := by decide +kernel
theorem dX8_image_54 : decode cX8_image 54 = .ok (.aload_n 0, 1) := by decide +kernel
theorem dX8_image_55 : decode cX8_image 55 = .ok (.getfield 43, 3) := by decide +kernel
theorem dX8_image_58 : decode cX8_image 58 = .ok (.iload_n 1, 1) := by decide +kernel
theorem dX8_image_59 : decode cX8_image 59 = .ok (.iconst 1, 1) := by decide +kernel
theorem dX8_image_60 : decode cX8_image 60 = .ok (.bastore, 1) := by decide +kernel
theorem dX8_image_61 : decode cX8_image 61 = .ok (.iconst 1, 1) := by decide +kernel
theorem dX8_image_62 : decode cX8_image 62 = .ok (.ireturn, 1) := by decide +kernel
theorem dX8_restore_0 : decode cX8_restore 0 = .ok (.iload_n 1, 1) := by decide +kernel
theorem dX8_restore_1 : decode cX8_restore 1 = .ok (.i2l, 1) := by decide +kernel
theorem dX8_restore_2 : decode cX8_restore 2 = .ok (.lconst 0, 1) := by decide +kernel
theorem dX8_restore_3 : decode cX8_restore 3 = .ok (.lconst 1, 1) := by decide +kernel
theorem dX8_restore_4 : decode cX8_restore 4 = .ok (.invokestatic 60, 3) := by decide +kernel
theorem dX8_restore_7 : decode cX8_restore 7 = .ok (.ifCond .ne 6, 3) := by decide +kernel
theorem dX8_restore_10 : decode cX8_restore 10 = .ok (.ldc 70, 2) := by decide +kernel
theorem dX8_restore_12 : decode cX8_restore 12 = .ok (.ireturn, 1) := by decide +kernel
theorem dX8_restore_13 : decode cX8_restore 13 = .ok (.aload_n 0, 1) := by decide +kernel
theorem dX8_restore_14 : decode cX8_restore 14 = .ok (.getfield 43, 3) := by decide +kernel
theorem dX8_restore_17 : decode cX8_restore 17 = .ok (.iload_n 1, 1) := by decide +kernel
theorem dX8_restore_18 : decode cX8_restore 18 = .ok (.baload, 1) := by decide +kernel
theorem dX8_restore_19 : decode cX8_restore 19 = .ok (.ifCond .ne 6, 3) := by decide +kernel
theorem dX8_restore_22 : decode cX8_restore 22 = .ok (.ldc 192, 2) := by decide +kernel
theorem dX8_restore_24 : decode cX8_restore 24 = .ok (.ireturn, 1) := by decide +kernel
theorem dX8_restore_25 : decode cX8_restore 25 = .ok (.iconst 0, 1) := by decide +kernel
theorem dX8_restore_26 : decode cX8_restore 26 = .ok (.istore_n 2, 1) := by decide +kernel
theorem dX8_restore_27 : decode cX8_restore 27 = .ok (.iload_n 2, 1) := by decide +kernel
theorem dX8_restore_28 : decode cX8_restore 28 = .ok (.bipush 55, 2) := by decide +kernel
theorem dX8_restore_30 : decode cX8_restore 30 = .ok (.if_icmp .ge 26, 3) := by decide +kernel
theorem dX8_restore_33 : decode cX8_restore 33 = .ok (.aload_n 0, 1) := by decide +kernel
theorem dX8_restore_34 : decode cX8_restore 34 = .ok (.getfield 19, 3) := by decide +kernel
theorem dX8_restore_37 : decode cX8_restore 37 = .ok (.iload_n 2, 1) := by decide +kernel
theorem dX8_restore_38 : decode cX8_restore 38 = .ok (.aload_n 0, 1) := by decide +kernel
theorem dX8_restore_39 : decode cX8_restore 39 = .ok (.getfield 47, 3) := by decide +kernel
theorem dX8_restore_42 : decode cX8_restore 42 = .ok (.bipush 55, 2) := by decide +kernel
theorem dX8_restore_44 : decode cX8_restore 44 = .ok (.iload_n 1, 1) := by decide +kernel
theorem dX8_restore_45 : decode cX8_restore 45 = .ok (.imul, 1) := by decide +kernel
theorem dX8_restore_46 : decode cX8_restore 46 = .ok (.iload_n 2, 1) := by decide +kernel
theorem dX8_restore_47 : decode cX8_restore 47 = .ok (.iadd, 1) := by decide +kernel
theorem dX8_restore_48 : decode cX8_restore 48 = .ok (.iaload, 1) := by decide +kernel
theorem dX8_restore_49 : decode cX8_restore 49 = .ok (.iastore, 1) := by decide +kernel
theorem dX8_restore_50 : decode cX8_restore 50 = .ok (.iinc 2 1, 3) := by decide +kernel
theorem dX8_restore_53 : decode cX8_restore 53 = .ok (.goto (-26), 3) := by decide +kernel
theorem dX8_restore_56 : decode cX8_restore 56 = .ok (.aload_n 0, 1) := by decide +kernel
theorem dX8_restore_57 : decode cX8_restore 57 = .ok (.iconst 0, 1) := by decide +kernel
theorem dX8_restore_58 : decode cX8_restore 58 = .ok (.putfield 145, 3) := by decide +kernel
theorem dX8_restore_61 : decode cX8_restore 61 = .ok (.iconst 1, 1) := by decide +kernel
theorem dX8_restore_62 : decode cX8_restore 62 = .ok (.ireturn, 1) := by decide +kernel
theorem dX8_kind_0 : decode cX8_kind 0 = .ok (.aload_n 0, 1) := by decide +kernel
theorem dX8_kind_1 : decode cX8_kind 1 = .ok (.iload_n 1, 1) := by decide +kernel
theorem dX8_kind_2 : decode cX8_kind 2 = .ok (.invokevirtual 201, 3) := by decide +kernel
theorem dX8_kind_5 : decode cX8_kind 5 = .ok (.ifCond .eq 15, 3) := by decide +kernel
theorem dX8_kind_8 : decode cX8_kind 8 = .ok (.aload_n 0, 1) := by decide +kernel
theorem dX8_kind_9 : decode cX8_kind 9 = .ok (.getfield 19, 3) := by decide +kernel
theorem dX8_kind_12 : decode cX8_kind 12 = .ok (.bipush 7, 2) := by decide +kernel
theorem dX8_kind_14 : decode cX8_kind 14 = .ok (.iload_n 1, 1) := by decide +kernel
theorem dX8_kind_15 : decode cX8_kind 15 = .ok (.iadd, 1) := by decide +kernel
theorem dX8_kind_16 : decode cX8_kind 16 = .ok (.iaload, 1) := by decide +kernel
theorem dX8_kind_17 : decode cX8_kind 17 = .ok (.goto 5, 3) := by decide +kernel
theorem dX8_kind_20 : decode cX8_kind 20 = .ok (.ldc 70, 2) := by decide +kernel
theorem dX8_kind_22 : decode cX8_kind 22 = .ok (.ireturn, 1) := by decide +kernel
theorem dX8_isKind_0 : decode cX8_isKind 0 = .ok (.iload_n 1, 1) := by decide +kernel
theorem dX8_isKind_1 : decode cX8_isKind 1 = .ok (.ifCond .eq 28, 3) := by decide +kernel
theorem dX8_isKind_4 : decode cX8_isKind 4 = .ok (.iload_n 0, 1) := by decide +kernel
theorem dX8_isKind_5 : decode cX8_isKind 5 = .ok (.iload_n 1, 1) := by decide +kernel
theorem dX8_isKind_6 : decode cX8_isKind 6 = .ok (.if_icmp .eq 23, 3) := by decide +kernel
theorem dX8_isKind_9 : decode cX8_isKind 9 = .ok (.iload_n 1, 1) := by decide +kernel
theorem dX8_isKind_10 : decode cX8_isKind 10 = .ok (.iconst 1, 1) := by decide +kernel
theorem dX8_isKind_11 : decode cX8_isKind 11 = .ok (.if_icmp .ne 8, 3) := by decide +kernel
theorem dX8_isKind_14 : decode cX8_isKind 14 = .ok (.iload_n 0, 1) := by decide +kernel
theorem dX8_isKind_15 : decode cX8_isKind 15 = .ok (.iconst 4, 1) := by decide +kernel
theorem dX8_isKind_16 : decode cX8_isKind 16 = .ok (.if_icmp .lt 13, 3) := by decide +kernel
theorem dX8_isKind_19 : decode cX8_isKind 19 = .ok (.iload_n 1, 1) := by decide +kernel
theorem dX8_isKind_20 : decode cX8_isKind 20 = .ok (.iconst 4, 1) := by decide +kernel
theorem dX8_isKind_21 : decode cX8_isKind 21 = .ok (.if_icmp .ne 12, 3) := by decide +kernel
theorem dX8_isKind_24 : decode cX8_isKind 24 = .ok (.iload_n 0, 1) := by decide +kernel
theorem dX8_isKind_25 : decode cX8_isKind 25 = .ok (.iconst 5, 1) := by decide +kernel
theorem dX8_isKind_26 : decode cX8_isKind 26 = .ok (.if_icmp .ne 7, 3) := by decide +kernel
theorem dX8_isKind_29 : decode cX8_isKind 29 = .ok (.iconst 1, 1) := by decide +kernel
theorem dX8_isKind_30 : decode cX8_isKind 30 = .ok (.goto 4, 3) := by decide +kernel
theorem dX8_isKind_33 : decode cX8_isKind 33 = .ok (.iconst 0, 1) := by decide +kernel
theorem dX8_isKind_34 : decode cX8_isKind 34 = .ok (.ireturn, 1) := by decide +kernel
theorem dX8_as_0 : decode cX8_as 0 = .ok (.aload_n 0, 1) := by decide +kernel
theorem dX8_as_1 : decode cX8_as 1 = .ok (.iload_n 1, 1) := by decide +kernel
theorem dX8_as_2 : decode cX8_as 2 = .ok (.invokevirtual 201, 3) := by decide +kernel
theorem dX8_as_5 : decode cX8_as 5 = .ok (.ifCond .eq 15, 3) := by decide +kernel
theorem dX8_as_8 : decode cX8_as 8 = .ok (.iload_n 2, 1) := by decide +kernel
theorem dX8_as_9 : decode cX8_as 9 = .ok (.i2l, 1) := by decide +kernel
theorem dX8_as_10 : decode cX8_as 10 = .ok (.lconst 0, 1) := by decide +kernel
theorem dX8_as_11 : decode cX8_as 11 = .ok (.ldc2_w 278, 3) := by decide +kernel
theorem dX8_as_14 : decode cX8_as 14 = .ok (.invokestatic 60, 3) := by decide +kernel
theorem dX8_as_17 : decode cX8_as 17 = .ok (.ifCond .ne 6, 3) := by decide +kernel
theorem dX8_as_20 : decode cX8_as 20 = .ok (.ldc 70, 2) := by decide +kernel
theorem dX8_as_22 : decode cX8_as 22 = .ok (.ireturn, 1) := by decide +kernel
theorem dX8_as_23 : decode cX8_as 23 = .ok (.aload_n 0, 1) := by decide +kernel
theorem dX8_as_24 : decode cX8_as 24 = .ok (.getfield 19, 3) := by decide +kernel
theorem dX8_as_27 : decode cX8_as 27 = .ok (.bipush 7, 2) := by decide +kernel
theorem dX8_as_29 : decode cX8_as 29 = .ok (.iload_n 1, 1) := by decide +kernel
theorem dX8_as_30 : decode cX8_as 30 = .ok (.iadd, 1) := by decide +kernel
theorem dX8_as_31 : decode cX8_as 31 = .ok (.iaload, 1) := by decide +kernel
theorem dX8_as_32 : decode cX8_as 32 = .ok (.iload_n 2, 1) := by decide +kernel
theorem dX8_as_33 : decode cX8_as 33 = .ok (.invokestatic 280, 3) := by decide +kernel
theorem dX8_as_36 : decode cX8_as 36 = .ok (.ifCond .eq 11, 3) := by decide +kernel
theorem dX8_as_39 : decode cX8_as 39 = .ok (.aload_n 0, 1) := by decide +kernel
theorem dX8_as_40 : decode cX8_as 40 = .ok (.iload_n 1, 1) := by decide +kernel
theorem dX8_as_41 : decode cX8_as 41 = .ok (.invokevirtual 75, 3) := by decide +kernel
theorem dX8_as_44 : decode cX8_as 44 = .ok (.goto 8, 3) := by decide +kernel
theorem dX8_as_47 : decode cX8_as 47 = .ok (.aload_n 0, 1) := by decide +kernel
theorem dX8_as_48 : decode cX8_as 48 = .ok (.iconst 3, 1) := by decide +kernel
theorem dX8_as_49 : decode cX8_as 49 = .ok (.invokevirtual 71, 3) := by decide +kernel
theorem dX8_as_52 : decode cX8_as 52 = .ok (.ireturn, 1) := by decide +kernel
theorem dX8_begin_0 : decode cX8_begin 0 = .ok (.aload_n 0, 1) := by decide +kernel
theorem dX8_begin_1 : decode cX8_begin 1 = .ok (.getfield 283, 3) := by decide +kernel
theorem dX8_begin_4 : decode cX8_begin 4 = .ok (.bipush 16, 2) := by decide +kernel
theorem dX8_begin_6 : decode cX8_begin 6 = .ok (.if_icmp .ge 23, 3) := by decide +kernel
theorem dX8_begin_9 : decode cX8_begin 9 = .ok (.aload_n 0, 1) := by decide +kernel
theorem dX8_begin_10 : decode cX8_begin 10 = .ok (.getfield 50, 3) := by decide +kernel
theorem dX8_begin_13 : decode cX8_begin 13 = .ok (.aload_n 0, 1) := by decide +kernel
theorem dX8_begin_14 : decode cX8_begin 14 = .ok (.getfield 283, 3) := by decide +kernel
theorem dX8_begin_17 : decode cX8_begin 17 = .ok (.iload_n 1, 1) := by decide +kernel
theorem dX8_begin_18 : decode cX8_begin 18 = .ok (.iastore, 1) := by decide +kernel
theorem dX8_begin_19 : decode cX8_begin 19 = .ok (.aload_n 0, 1) := by decide +kernel
theorem dX8_begin_20 : decode cX8_begin 20 = .ok (.dup, 1) := by decide +kernel
theorem dX8_begin_21 : decode cX8_begin 21 = .ok (.getfield 283, 3) := by decide +kernel
theorem dX8_begin_24 : decode cX8_begin 24 = .ok (.iconst 1, 1) := by decide +kernel
theorem dX8_begin_25 : decode cX8_begin 25 = .ok (.iadd, 1) := by decide +kernel
theorem dX8_begin_26 : decode cX8_begin 26 = .ok (.putfield 283, 3) := by decide +kernel
theorem dX8_begin_29 : decode cX8_begin 29 = .ok (.return_, 1) := by decide +kernel
theorem dX8_lent_0 : decode cX8_lent 0 = .ok (.aload_n 0, 1) := by decide +kernel
theorem dX8_lent_1 : decode cX8_lent 1 = .ok (.iload_n 2, 1) := by decide +kernel
theorem dX8_lent_2 : decode cX8_lent 2 = .ok (.invokevirtual 286, 3) := by decide +kernel
theorem dX8_lent_5 : decode cX8_lent 5 = .ok (.iload_n 2, 1) := by decide +kernel
theorem dX8_lent_6 : decode cX8_lent 6 = .ok (.bipush 10, 2) := by decide +kernel
theorem dX8_lent_8 : decode cX8_lent 8 = .ok (.if_icmp .ne 15, 3) := by decide +kernel
theorem dX8_lent_11 : decode cX8_lent 11 = .ok (.aload_n 0, 1) := by decide +kernel
theorem dX8_lent_12 : decode cX8_lent 12 = .ok (.getfield 19, 3) := by decide +kernel
theorem dX8_lent_15 : decode cX8_lent 15 = .ok (.bipush 19, 2) := by decide +kernel
theorem dX8_lent_17 : decode cX8_lent 17 = .ok (.iload_n 1, 1) := by decide +kernel
theorem dX8_lent_18 : decode cX8_lent 18 = .ok (.iadd, 1) := by decide +kernel
theorem dX8_lent_19 : decode cX8_lent 19 = .ok (.iaload, 1) := by decide +kernel
theorem dX8_lent_20 : decode cX8_lent 20 = .ok (.goto 4, 3) := by decide +kernel
theorem dX8_lent_23 : decode cX8_lent 23 = .ok (.iload_n 1, 1) := by decide +kernel
theorem dX8_lent_24 : decode cX8_lent 24 = .ok (.ireturn, 1) := by decide +kernel
theorem dX8_plainMark_0 : decode cX8_plainMark 0 = .ok (.aload_n 0, 1) := by decide +kernel
theorem dX8_plainMark_1 : decode cX8_plainMark 1 = .ok (.bipush 21, 2) := by decide +kernel
theorem dX8_plainMark_3 : decode cX8_plainMark 3 = .ok (.invokevirtual 286, 3) := by decide +kernel
theorem dX8_plainMark_6 : decode cX8_plainMark 6 = .ok (.aload_n 0, 1) := by decide +kernel
theorem dX8_plainMark_7 : decode cX8_plainMark 7 = .ok (.iload_n 1, 1) := by decide +kernel
theorem dX8_plainMark_8 : decode cX8_plainMark 8 = .ok (.bipush 20, 2) := by decide +kernel
theorem dX8_plainMark_10 : decode cX8_plainMark 10 = .ok (.invokevirtual 289, 3) := by decide +kernel
theorem dX8_plainMark_13 : decode cX8_plainMark 13 = .ok (.aload_n 0, 1) := by decide +kernel
theorem dX8_plainMark_14 : decode cX8_plainMark 14 = .ok (.iload_n 1, 1) := by decide +kernel
theorem dX8_plainMark_15 : decode cX8_plainMark 15 = .ok (.invokevirtual 162, 3) := by decide +kernel
theorem dX8_plainMark_18 : decode cX8_plainMark 18 = .ok (.iadd, 1) := by decide +kernel
theorem dX8_plainMark_19 : decode cX8_plainMark 19 = .ok (.ireturn, 1) := by decide +kernel
theorem dX8_liveSize_0 : decode cX8_liveSize 0 = .ok (.aload_n 0, 1) := by decide +kernel
theorem dX8_liveSize_1 : decode cX8_liveSize 1 = .ok (.bipush 13, 2) := by decide +kernel
theorem dX8_liveSize_3 : decode cX8_liveSize 3 = .ok (.invokevirtual 286, 3) := by decide +kernel
theorem dX8_liveSize_6 : decode cX8_liveSize 6 = .ok (.aload_n 0, 1) := by decide +kernel
theorem dX8_liveSize_7 : decode cX8_liveSize 7 = .ok (.iload_n 1, 1) := by decide +kernel
theorem dX8_liveSize_8 : decode cX8_liveSize 8 = .ok (.bipush 10, 2) := by decide +kernel
theorem dX8_liveSize_10 : decode cX8_liveSize 10 = .ok (.invokevirtual 289, 3) := by decide +kernel
theorem dX8_liveSize_13 : decode cX8_liveSize 13 = .ok (.bipush 100, 2) := by decide +kernel
theorem dX8_liveSize_15 : decode cX8_liveSize 15 = .ok (.isub, 1) := by decide +kernel
theorem dX8_liveSize_16 : decode cX8_liveSize 16 = .ok (.ireturn, 1) := by decide +kernel
theorem dX8_sizeOfLive_0 : decode cX8_sizeOfLive 0 = .ok (.aload_n 0, 1) := by decide +kernel
theorem dX8_sizeOfLive_1 : decode cX8_sizeOfLive 1 = .ok (.getfield 19, 3) := by decide +kernel
theorem dX8_sizeOfLive_4 : decode cX8_sizeOfLive 4 = .ok (.bipush 7, 2) := by decide +kernel
theorem dX8_sizeOfLive_6 : decode cX8_sizeOfLive 6 = .ok (.iload_n 1, 1) := by decide +kernel
theorem dX8_sizeOfLive_7 : decode cX8_sizeOfLive 7 = .ok (.iadd, 1) := by decide +kernel
theorem dX8_sizeOfLive_8 : decode cX8_sizeOfLive 8 = .ok (.iaload, 1) := by decide +kernel
theorem dX8_sizeOfLive_9 : decode cX8_sizeOfLive 9 = .ok (.iconst 5, 1) := by decide +kernel
theorem dX8_sizeOfLive_10 : decode cX8_sizeOfLive 10 = .ok (.if_icmp .ne 17, 3) := by decide +kernel
theorem dX8_sizeOfLive_13 : decode cX8_sizeOfLive 13 = .ok (.aload_n 0, 1) := by decide +kernel
theorem dX8_sizeOfLive_14 : decode cX8_sizeOfLive 14 = .ok (.bipush 14, 2) := by decide +kernel
theorem dX8_sizeOfLive_16 : decode cX8_sizeOfLive 16 = .ok (.invokevirtual 286, 3) := by decide +kernel
theorem dX8_sizeOfLive_19 : decode cX8_sizeOfLive 19 = .ok (.iconst 2, 1) := by decide +kernel
theorem dX8_sizeOfLive_20 : decode cX8_sizeOfLive 20 = .ok (.aload_n 0, 1) := by decide +kernel
theorem dX8_sizeOfLive_21 : decode cX8_sizeOfLive 21 = .ok (.iload_n 1, 1) := by decide +kernel
theorem dX8_sizeOfLive_22 : decode cX8_sizeOfLive 22 = .ok (.invokevirtual 292, 3) := by decide +kernel
theorem dX8_sizeOfLive_25 : decode cX8_sizeOfLive 25 = .ok (.imul, 1) := by decide +kernel
theorem dX8_sizeOfLive_26 : decode cX8_sizeOfLive 26 = .ok (.ireturn, 1) := by decide +kernel
theorem dX8_sizeOfLive_27 : decode cX8_sizeOfLive 27 = .ok (.aload_n 0, 1) := by decide +kernel
theorem dX8_sizeOfLive_28 : decode cX8_sizeOfLive 28 = .ok (.iload_n 1, 1) := by decide +kernel
theorem dX8_sizeOfLive_29 : decode cX8_sizeOfLive 29 = .ok (.invokevirtual 292, 3) := by decide +kernel
theorem dX8_sizeOfLive_32 : decode cX8_sizeOfLive 32 = .ok (.ireturn, 1) := by decide +kernel
theorem dX8_markOf_0 : decode cX8_markOf 0 = .ok (.aload_n 0, 1) := by decide +kernel
theorem dX8_markOf_1 : decode cX8_markOf 1 = .ok (.getfield 19, 3) := by decide +kernel
theorem dX8_markOf_4 : decode cX8_markOf 4 = .ok (.bipush 7, 2) := by decide +kernel
theorem dX8_markOf_6 : decode cX8_markOf 6 = .ok (.iload_n 1, 1) := by decide +kernel
theorem dX8_markOf_7 : decode cX8_markOf 7 = .ok (.iadd, 1) := by decide +kernel
theorem dX8_markOf_8 : decode cX8_markOf 8 = .ok (.iaload, 1) := by decide +kernel
theorem dX8_markOf_9 : decode cX8_markOf 9 = .ok (.istore_n 2, 1) := by decide +kernel
theorem dX8_markOf_10 : decode cX8_markOf 10 = .ok (.iload_n 2, 1) := by decide +kernel
theorem dX8_markOf_11 : decode cX8_markOf 11 = .ok (.iconst 2, 1) := by decide +kernel
theorem dX8_markOf_12 : decode cX8_markOf 12 = .ok (.if_icmp .ne 17, 3) := by decide +kernel
theorem dX8_markOf_15 : decode cX8_markOf 15 = .ok (.aload_n 0, 1) := by decide +kernel
theorem dX8_markOf_16 : decode cX8_markOf 16 = .ok (.bipush 24, 2) := by decide +kernel
theorem dX8_markOf_18 : decode cX8_markOf 18 = .ok (.invokevirtual 286, 3) := by decide +kernel
theorem dX8_markOf_21 : decode cX8_markOf 21 = .ok (.iconst 2, 1) := by decide +kernel
theorem dX8_markOf_22 : decode cX8_markOf 22 = .ok (.aload_n 0, 1) := by decide +kernel
theorem dX8_markOf_23 : decode cX8_markOf 23 = .ok (.iload_n 1, 1) := by decide +kernel
theorem dX8_markOf_24 : decode cX8_markOf 24 = .ok (.invokevirtual 295, 3) := by decide +kernel
theorem dX8_markOf_27 : decode cX8_markOf 27 = .ok (.imul, 1) := by decide +kernel
theorem dX8_markOf_28 : decode cX8_markOf 28 = .ok (.ireturn, 1) := by decide +kernel
theorem dX8_markOf_29 : decode cX8_markOf 29 = .ok (.iload_n 2, 1) := by decide +kernel
theorem dX8_markOf_30 : decode cX8_markOf 30 = .ok (.iconst 3, 1) := by decide +kernel
theorem dX8_markOf_31 : decode cX8_markOf 31 = .ok (.if_icmp .ne 19, 3) := by decide +kernel
theorem dX8_markOf_34 : decode cX8_markOf 34 = .ok (.aload_n 0, 1) := by decide +kernel
theorem dX8_markOf_35 : decode cX8_markOf 35 = .ok (.bipush 22, 2) := by decide +kernel
theorem dX8_markOf_37 : decode cX8_markOf 37 = .ok (.invokevirtual 286, 3) := by decide +kernel
theorem dX8_markOf_40 : decode cX8_markOf 40 = .ok (.aload_n 0, 1) := by decide +kernel
theorem dX8_markOf_41 : decode cX8_markOf 41 = .ok (.iload_n 1, 1) := by decide +kernel
theorem dX8_markOf_42 : decode cX8_markOf 42 = .ok (.invokevirtual 295, 3) := by decide +kernel
theorem dX8_markOf_45 : decode cX8_markOf 45 = .ok (.sipush 1000, 3) := by decide +kernel
theorem dX8_markOf_48 : decode cX8_markOf 48 = .ok (.isub, 1) := by decide +kernel
theorem dX8_markOf_49 : decode cX8_markOf 49 = .ok (.ireturn, 1) := by decide +kernel
theorem dX8_markOf_50 : decode cX8_markOf 50 = .ok (.iload_n 2, 1) := by decide +kernel
theorem dX8_markOf_51 : decode cX8_markOf 51 = .ok (.iconst 1, 1) := by decide +kernel
theorem dX8_markOf_52 : decode cX8_markOf 52 = .ok (.if_icmp .ne 9, 3) := by decide +kernel
theorem dX8_markOf_55 : decode cX8_markOf 55 = .ok (.aload_n 0, 1) := by decide +kernel
theorem dX8_markOf_56 : decode cX8_markOf 56 = .ok (.iload_n 1, 1) := by decide +kernel
theorem dX8_markOf_57 : decode cX8_markOf 57 = .ok (.invokevirtual 295, 3) := by decide +kernel
theorem dX8_markOf_60 : decode cX8_markOf 60 = .ok (.ireturn, 1) := by decide +kernel
theorem dX8_markOf_61 : decode cX8_markOf 61 = .ok (.aload_n 0, 1) := by decide +kernel
theorem dX8_markOf_62 : decode cX8_markOf 62 = .ok (.bipush 23, 2) := by decide +kernel
theorem dX8_markOf_64 : decode cX8_markOf 64 = .ok (.invokevirtual 286, 3) := by decide +kernel
theorem dX8_markOf_67 : decode cX8_markOf 67 = .ok (.aload_n 0, 1) := by decide +kernel
theorem dX8_markOf_68 : decode cX8_markOf 68 = .ok (.iload_n 1, 1) := by decide +kernel
theorem dX8_markOf_69 : decode cX8_markOf 69 = .ok (.bipush 20, 2) := by decide +kernel
theorem dX8_markOf_71 : decode cX8_markOf 71 = .ok (.invokevirtual 289, 3) := by decide +kernel
theorem dX8_markOf_74 : decode cX8_markOf 74 = .ok (.istore_n 3, 1) := by decide +kernel
theorem dX8_markOf_75 : decode cX8_markOf 75 = .ok (.iload_n 3, 1) := by decide +kernel
theorem dX8_markOf_76 : decode cX8_markOf 76 = .ok (.aload_n 0, 1) := by decide +kernel
theorem dX8_markOf_77 : decode cX8_markOf 77 = .ok (.iload_n 1, 1) := by decide +kernel
theorem dX8_markOf_78 : decode cX8_markOf 78 = .ok (.invokevirtual 298, 3) := by decide +kernel
theorem dX8_markOf_81 : decode cX8_markOf 81 = .ok (.isub, 1) := by decide +kernel
theorem dX8_markOf_82 : decode cX8_markOf 82 = .ok (.ireturn, 1) := by decide +kernel
theorem dX8_plainSize_0 : decode cX8_plainSize 0 = .ok (.aload_n 0, 1) := by decide +kernel
theorem dX8_plainSize_1 : decode cX8_plainSize 1 = .ok (.bipush 11, 2) := by decide +kernel
theorem dX8_plainSize_3 : decode cX8_plainSize 3 = .ok (.invokevirtual 286, 3) := by decide +kernel
theorem dX8_plainSize_6 : decode cX8_plainSize 6 = .ok (.aload_n 0, 1) := by decide +kernel
theorem dX8_plainSize_7 : decode cX8_plainSize 7 = .ok (.iload_n 1, 1) := by decide +kernel
theorem dX8_plainSize_8 : decode cX8_plainSize 8 = .ok (.bipush 10, 2) := by decide +kernel
theorem dX8_plainSize_10 : decode cX8_plainSize 10 = .ok (.invokevirtual 289, 3) := by decide +kernel
theorem dX8_plainSize_13 : decode cX8_plainSize 13 = .ok (.istore_n 2, 1) := by decide +kernel
theorem dX8_plainSize_14 : decode cX8_plainSize 14 = .ok (.iload_n 2, 1) := by decide +kernel
theorem dX8_plainSize_15 : decode cX8_plainSize 15 = .ok (.aload_n 0, 1) := by decide +kernel
theorem dX8_plainSize_16 : decode cX8_plainSize 16 = .ok (.iload_n 1, 1) := by decide +kernel
theorem dX8_plainSize_17 : decode cX8_plainSize 17 = .ok (.invokevirtual 301, 3) := by decide +kernel
theorem dX8_plainSize_20 : decode cX8_plainSize 20 = .ok (.iadd, 1) := by decide +kernel
theorem dX8_plainSize_21 : decode cX8_plainSize 21 = .ok (.ireturn, 1) := by decide +kernel
theorem dX8_sizeOf_0 : decode cX8_sizeOf 0 = .ok (.aload_n 0, 1) := by decide +kernel
theorem dX8_sizeOf_1 : decode cX8_sizeOf 1 = .ok (.getfield 19, 3) := by decide +kernel
theorem dX8_sizeOf_4 : decode cX8_sizeOf 4 = .ok (.bipush 7, 2) := by decide +kernel
theorem dX8_sizeOf_6 : decode cX8_sizeOf 6 = .ok (.iload_n 1, 1) := by decide +kernel
theorem dX8_sizeOf_7 : decode cX8_sizeOf 7 = .ok (.iadd, 1) := by decide +kernel
theorem dX8_sizeOf_8 : decode cX8_sizeOf 8 = .ok (.iaload, 1) := by decide +kernel
theorem dX8_sizeOf_9 : decode cX8_sizeOf 9 = .ok (.istore_n 2, 1) := by decide +kernel
theorem dX8_sizeOf_10 : decode cX8_sizeOf 10 = .ok (.iload_n 2, 1) := by decide +kernel
theorem dX8_sizeOf_11 : decode cX8_sizeOf 11 = .ok (.iconst 2, 1) := by decide +kernel
theorem dX8_sizeOf_12 : decode cX8_sizeOf 12 = .ok (.if_icmp .ne 16, 3) := by decide +kernel
theorem dX8_sizeOf_15 : decode cX8_sizeOf 15 = .ok (.aload_n 0, 1) := by decide +kernel
theorem dX8_sizeOf_16 : decode cX8_sizeOf 16 = .ok (.bipush 12, 2) := by decide +kernel
theorem dX8_sizeOf_18 : decode cX8_sizeOf 18 = .ok (.invokevirtual 286, 3) := by decide +kernel
theorem dX8_sizeOf_21 : decode cX8_sizeOf 21 = .ok (.aload_n 0, 1) := by decide +kernel
theorem dX8_sizeOf_22 : decode cX8_sizeOf 22 = .ok (.iload_n 1, 1) := by decide +kernel
theorem dX8_sizeOf_23 : decode cX8_sizeOf 23 = .ok (.invokevirtual 304, 3) := by decide +kernel
theorem dX8_sizeOf_26 : decode cX8_sizeOf 26 = .ok (.ineg, 1) := by decide +kernel
theorem dX8_sizeOf_27 : decode cX8_sizeOf 27 = .ok (.ireturn, 1) := by decide +kernel
theorem dX8_sizeOf_28 : decode cX8_sizeOf 28 = .ok (.iload_n 2, 1) := by decide +kernel
theorem dX8_sizeOf_29 : decode cX8_sizeOf 29 = .ok (.iconst 4, 1) := by decide +kernel
theorem dX8_sizeOf_30 : decode cX8_sizeOf 30 = .ok (.if_icmp .lt 11, 3) := by decide +kernel
theorem dX8_sizeOf_33 : decode cX8_sizeOf 33 = .ok (.aload_n 0, 1) := by decide +kernel
theorem dX8_sizeOf_34 : decode cX8_sizeOf 34 = .ok (.iload_n 1, 1) := by decide +kernel
theorem dX8_sizeOf_35 : decode cX8_sizeOf 35 = .ok (.invokevirtual 298, 3) := by decide +kernel
theorem dX8_sizeOf_38 : decode cX8_sizeOf 38 = .ok (.goto 8, 3) := by decide +kernel
theorem dX8_sizeOf_41 : decode cX8_sizeOf 41 = .ok (.aload_n 0, 1) := by decide +kernel
theorem dX8_sizeOf_42 : decode cX8_sizeOf 42 = .ok (.iload_n 1, 1) := by decide +kernel
theorem dX8_sizeOf_43 : decode cX8_sizeOf 43 = .ok (.invokevirtual 304, 3) := by decide +kernel
theorem dX8_sizeOf_46 : decode cX8_sizeOf 46 = .ok (.ireturn, 1) := by decide +kernel
theorem dX8_ask_0 : decode cX8_ask 0 = .ok (.aload_n 0, 1) := by decide +kernel
theorem dX8_ask_1 : decode cX8_ask 1 = .ok (.iload_n 1, 1) := by decide +kernel
theorem dX8_ask_2 : decode cX8_ask 2 = .ok (.invokevirtual 201, 3) := by decide +kernel
theorem dX8_ask_5 : decode cX8_ask 5 = .ok (.ifCond .eq 13, 3) := by decide +kernel
theorem dX8_ask_8 : decode cX8_ask 8 = .ok (.iload_n 2, 1) := by decide +kernel
theorem dX8_ask_9 : decode cX8_ask 9 = .ok (.i2l, 1) := by decide +kernel
theorem dX8_ask_10 : decode cX8_ask 10 = .ok (.lconst 0, 1) := by decide +kernel
theorem dX8_ask_11 : decode cX8_ask 11 = .ok (.lconst 1, 1) := by decide +kernel
theorem dX8_ask_12 : decode cX8_ask 12 = .ok (.invokestatic 60, 3) := by decide +kernel
theorem dX8_ask_15 : decode cX8_ask 15 = .ok (.ifCond .ne 6, 3) := by decide +kernel
theorem dX8_ask_18 : decode cX8_ask 18 = .ok (.ldc 70, 2) := by decide +kernel
theorem dX8_ask_20 : decode cX8_ask 20 = .ok (.ireturn, 1) := by decide +kernel
theorem dX8_ask_21 : decode cX8_ask 21 = .ok (.aload_n 0, 1) := by decide +kernel
theorem dX8_ask_22 : decode cX8_ask 22 = .ok (.iconst 0, 1) := by decide +kernel
theorem dX8_ask_23 : decode cX8_ask 23 = .ok (.putfield 283, 3) := by decide +kernel
theorem dX8_ask_26 : decode cX8_ask 26 = .ok (.iload_n 2, 1) := by decide +kernel
theorem dX8_ask_27 : decode cX8_ask 27 = .ok (.ifCond .ne 11, 3) := by decide +kernel
theorem dX8_ask_30 : decode cX8_ask 30 = .ok (.aload_n 0, 1) := by decide +kernel
theorem dX8_ask_31 : decode cX8_ask 31 = .ok (.iload_n 1, 1) := by decide +kernel
theorem dX8_ask_32 : decode cX8_ask 32 = .ok (.invokevirtual 307, 3) := by decide +kernel
theorem dX8_ask_35 : decode cX8_ask 35 = .ok (.goto 8, 3) := by decide +kernel
theorem dX8_ask_38 : decode cX8_ask 38 = .ok (.aload_n 0, 1) := by decide +kernel
theorem dX8_ask_39 : decode cX8_ask 39 = .ok (.iload_n 1, 1) := by decide +kernel
theorem dX8_ask_40 : decode cX8_ask 40 = .ok (.invokevirtual 301, 3) := by decide +kernel
theorem dX8_ask_43 : decode cX8_ask 43 = .ok (.ireturn, 1) := by decide +kernel
theorem dX8_trace_0 : decode cX8_trace 0 = .ok (.iload_n 1, 1) := by decide +kernel
theorem dX8_trace_1 : decode cX8_trace 1 = .ok (.i2l, 1) := by decide +kernel
theorem dX8_trace_2 : decode cX8_trace 2 = .ok (.lconst 0, 1) := by decide +kernel
theorem dX8_trace_3 : decode cX8_trace 3 = .ok (.aload_n 0, 1) := by decide +kernel
theorem dX8_trace_4 : decode cX8_trace 4 = .ok (.getfield 283, 3) := by decide +kernel
theorem dX8_trace_7 : decode cX8_trace 7 = .ok (.iconst 1, 1) := by decide +kernel
theorem dX8_trace_8 : decode cX8_trace 8 = .ok (.isub, 1) := by decide +kernel
theorem dX8_trace_9 : decode cX8_trace 9 = .ok (.i2l, 1) := by decide +kernel
theorem dX8_trace_10 : decode cX8_trace 10 = .ok (.invokestatic 60, 3) := by decide +kernel
theorem dX8_trace_13 : decode cX8_trace 13 = .ok (.ifCond .eq 12, 3) := by decide +kernel
theorem dX8_trace_16 : decode cX8_trace 16 = .ok (.aload_n 0, 1) := by decide +kernel
theorem dX8_trace_17 : decode cX8_trace 17 = .ok (.getfield 50, 3) := by decide +kernel
theorem dX8_trace_20 : decode cX8_trace 20 = .ok (.iload_n 1, 1) := by decide +kernel
theorem dX8_trace_21 : decode cX8_trace 21 = .ok (.iaload, 1) := by decide +kernel
theorem dX8_trace_22 : decode cX8_trace 22 = .ok (.goto 5, 3) := by decide +kernel
theorem dX8_trace_25 : decode cX8_trace 25 = .ok (.ldc 154, 2) := by decide +kernel
theorem dX8_trace_27 : decode cX8_trace 27 = .ok (.ireturn, 1) := by decide +kernel
theorem dX8_count_0 : decode cX8_count 0 = .ok (.iconst 0, 1) := by decide +kernel
theorem dX8_count_1 : decode cX8_count 1 = .ok (.istore_n 2, 1) := by decide +kernel
theorem dX8_count_2 : decode cX8_count 2 = .ok (.iconst 0, 1) := by decide +kernel
theorem dX8_count_3 : decode cX8_count 3 = .ok (.istore_n 3, 1) := by decide +kernel
theorem dX8_count_4 : decode cX8_count 4 = .ok (.iload_n 3, 1) := by decide +kernel
theorem dX8_count_5 : decode cX8_count 5 = .ok (.bipush 8, 2) := by decide +kernel
theorem dX8_count_7 : decode cX8_count 7 = .ok (.if_icmp .ge 26, 3) := by decide +kernel
theorem dX8_count_10 : decode cX8_count 10 = .ok (.iload_n 2, 1) := by decide +kernel
theorem dX8_count_11 : decode cX8_count 11 = .ok (.aload_n 0, 1) := by decide +kernel
theorem dX8_count_12 : decode cX8_count 12 = .ok (.getfield 13, 3) := by decide +kernel
theorem dX8_count_15 : decode cX8_count 15 = .ok (.iload_n 3, 1) := by decide +kernel
theorem dX8_count_16 : decode cX8_count 16 = .ok (.iaload, 1) := by decide +kernel
theorem dX8_count_17 : decode cX8_count 17 = .ok (.ifCond .lt 7, 3) := by decide +kernel
theorem dX8_count_20 : decode cX8_count 20 = .ok (.iconst 1, 1) := by decide +kernel
theorem dX8_count_21 : decode cX8_count 21 = .ok (.goto 4, 3) := by decide +kernel
theorem dX8_count_24 : decode cX8_count 24 = .ok (.iconst 0, 1) := by decide +kernel
theorem dX8_count_25 : decode cX8_count 25 = .ok (.iadd, 1) := by decide +kernel
theorem dX8_count_26 : decode cX8_count 26 = .ok (.istore_n 2, 1) := by decide +kernel
theorem dX8_count_27 : decode cX8_count 27 = .ok (.iinc 3 1, 3) := by decide +kernel
theorem dX8_count_30 : decode cX8_count 30 = .ok (.goto (-26), 3) := by decide +kernel
theorem dX8_count_33 : decode cX8_count 33 = .ok (.iload_n 1, 1) := by decide +kernel
theorem dX8_count_34 : decode cX8_count 34 = .ok (.tableswitch 94 0 7 #[46, 48, 55, 62, 69, 77, 84, 89], 46) := by decide +kernel
theorem dX8_count_80 : decode cX8_count 80 = .ok (.iload_n 2, 1) := by decide +kernel
theorem dX8_count_81 : decode cX8_count 81 = .ok (.ireturn, 1) := by decide +kernel
theorem dX8_count_82 : decode cX8_count 82 = .ok (.aload_n 0, 1) := by decide +kernel
theorem dX8_count_83 : decode cX8_count 83 = .ok (.getfield 19, 3) := by decide +kernel
theorem dX8_count_86 : decode cX8_count 86 = .ok (.iconst 2, 1) := by decide +kernel
theorem dX8_count_87 : decode cX8_count 87 = .ok (.iaload, 1) := by decide +kernel
theorem dX8_count_88 : decode cX8_count 88 = .ok (.ireturn, 1) := by decide +kernel
theorem dX8_count_89 : decode cX8_count 89 = .ok (.aload_n 0, 1) := by decide +kernel
theorem dX8_count_90 : decode cX8_count 90 = .ok (.getfield 19, 3) := by decide +kernel
theorem dX8_count_93 : decode cX8_count 93 = .ok (.iconst 3, 1) := by decide +kernel
theorem dX8_count_94 : decode cX8_count 94 = .ok (.iaload, 1) := by decide +kernel
theorem dX8_count_95 : decode cX8_count 95 = .ok (.ireturn, 1) := by decide +kernel
theorem dX8_count_96 : decode cX8_count 96 = .ok (.aload_n 0, 1) := by decide +kernel
theorem dX8_count_97 : decode cX8_count 97 = .ok (.getfield 19, 3) := by decide +kernel
theorem dX8_count_100 : decode cX8_count 100 = .ok (.iconst 4, 1) := by decide +kernel
theorem dX8_count_101 : decode cX8_count 101 = .ok (.iaload, 1) := by decide +kernel
theorem dX8_count_102 : decode cX8_count 102 = .ok (.ireturn, 1) := by decide +kernel
theorem dX8_count_103 : decode cX8_count 103 = .ok (.aload_n 0, 1) := by decide +kernel
theorem dX8_count_104 : decode cX8_count 104 = .ok (.getfield 19, 3) := by decide +kernel
theorem dX8_count_107 : decode cX8_count 107 = .ok (.bipush 6, 2) := by decide +kernel
theorem dX8_count_109 : decode cX8_count 109 = .ok (.iaload, 1) := by decide +kernel
theorem dX8_count_110 : decode cX8_count 110 = .ok (.ireturn, 1) := by decide +kernel
theorem dX8_count_111 : decode cX8_count 111 = .ok (.aload_n 0, 1) := by decide +kernel
theorem dX8_count_112 : decode cX8_count 112 = .ok (.getfield 19, 3) := by decide +kernel
theorem dX8_count_115 : decode cX8_count 115 = .ok (.iconst 5, 1) := by decide +kernel
theorem dX8_count_116 : decode cX8_count 116 = .ok (.iaload, 1) := by decide +kernel
theorem dX8_count_117 : decode cX8_count 117 = .ok (.ireturn, 1) := by decide +kernel
theorem dX8_count_118 : decode cX8_count 118 = .ok (.aload_n 0, 1) := by decide +kernel
theorem dX8_count_119 : decode cX8_count 119 = .ok (.getfield 145, 3) := by decide +kernel
theorem dX8_count_122 : decode cX8_count 122 = .ok (.ireturn, 1) := by decide +kernel
theorem dX8_count_123 : decode cX8_count 123 = .ok (.aload_n 0, 1) := by decide +kernel
theorem dX8_count_124 : decode cX8_count 124 = .ok (.getfield 84, 3) := by decide +kernel
theorem dX8_count_127 : decode cX8_count 127 = .ok (.ireturn, 1) := by decide +kernel
theorem dX8_count_128 : decode cX8_count 128 = .ok (.ldc 70, 2) := by decide +kernel
theorem dX8_count_130 : decode cX8_count 130 = .ok (.ireturn, 1) := by decide +kernel
theorem dX8_status_0 : decode cX8_status 0 = .ok (.aload_n 0, 1) := by decide +kernel
theorem dX8_status_1 : decode cX8_status 1 = .ok (.getfield 53, 3) := by decide +kernel
theorem dX8_status_4 : decode cX8_status 4 = .ok (.ireturn, 1) := by decide +kernel
theorem dJ11_isValidCodePoint_9a6ad_0 : decode cJ11_isValidCodePoint_9a6ad 0 = .ok (.iload_n 0, 1) := by decide +kernel
theorem dJ11_isValidCodePoint_9a6ad_1 : decode cJ11_isValidCodePoint_9a6ad 1 = .ok (.bipush 16, 2) := by decide +kernel
theorem dJ11_isValidCodePoint_9a6ad_3 : decode cJ11_isValidCodePoint_9a6ad 3 = .ok (.iushr, 1) := by decide +kernel
theorem dJ11_isValidCodePoint_9a6ad_4 : decode cJ11_isValidCodePoint_9a6ad 4 = .ok (.istore_n 1, 1) := by decide +kernel
theorem dJ11_isValidCodePoint_9a6ad_5 : decode cJ11_isValidCodePoint_9a6ad 5 = .ok (.iload_n 1, 1) := by decide +kernel
theorem dJ11_isValidCodePoint_9a6ad_6 : decode cJ11_isValidCodePoint_9a6ad 6 = .ok (.bipush 17, 2) := by decide +kernel
theorem dJ11_isValidCodePoint_9a6ad_8 : decode cJ11_isValidCodePoint_9a6ad 8 = .ok (.if_icmp .ge 7, 3) := by decide +kernel
theorem dJ11_isValidCodePoint_9a6ad_11 : decode cJ11_isValidCodePoint_9a6ad 11 = .ok (.iconst 1, 1) := by decide +kernel
theorem dJ11_isValidCodePoint_9a6ad_12 : decode cJ11_isValidCodePoint_9a6ad 12 = .ok (.goto 4, 3) := by decide +kernel
theorem dJ11_isValidCodePoint_9a6ad_15 : decode cJ11_isValidCodePoint_9a6ad 15 = .ok (.iconst 0, 1) := by decide +kernel
theorem dJ11_isValidCodePoint_9a6ad_16 : decode cJ11_isValidCodePoint_9a6ad 16 = .ok (.ireturn, 1) := by decide +kernel
theorem dJ11_highSurrogate_5068e_0 : decode cJ11_highSurrogate_5068e 0 = .ok (.iload_n 0, 1) := by decide +kernel
theorem dJ11_highSurrogate_5068e_1 : decode cJ11_highSurrogate_5068e 1 = .ok (.bipush 10, 2) := by decide +kernel
theorem dJ11_highSurrogate_5068e_3 : decode cJ11_highSurrogate_5068e 3 = .ok (.iushr, 1) := by decide +kernel
theorem dJ11_highSurrogate_5068e_4 : decode cJ11_highSurrogate_5068e 4 = .ok (.ldc 110, 2) := by decide +kernel
theorem dJ11_highSurrogate_5068e_6 : decode cJ11_highSurrogate_5068e 6 = .ok (.iadd, 1) := by decide +kernel
theorem dJ11_highSurrogate_5068e_7 : decode cJ11_highSurrogate_5068e 7 = .ok (.i2c, 1) := by decide +kernel
theorem dJ11_highSurrogate_5068e_8 : decode cJ11_highSurrogate_5068e 8 = .ok (.ireturn, 1) := by decide +kernel
theorem dJ11_lowSurrogate_5068e_0 : decode cJ11_lowSurrogate_5068e 0 = .ok (.iload_n 0, 1) := by decide +kernel
theorem dJ11_lowSurrogate_5068e_1 : decode cJ11_lowSurrogate_5068e 1 = .ok (.sipush 1023, 3) := by decide +kernel
theorem dJ11_lowSurrogate_5068e_4 : decode cJ11_lowSurrogate_5068e 4 = .ok (.iand, 1) := by decide +kernel
theorem dJ11_lowSurrogate_5068e_5 : decode cJ11_lowSurrogate_5068e 5 = .ok (.ldc 76, 2) := by decide +kernel
theorem dJ11_lowSurrogate_5068e_7 : decode cJ11_lowSurrogate_5068e 7 = .ok (.iadd, 1) := by decide +kernel
theorem dJ11_lowSurrogate_5068e_8 : decode cJ11_lowSurrogate_5068e 8 = .ok (.i2c, 1) := by decide +kernel
theorem dJ11_lowSurrogate_5068e_9 : decode cJ11_lowSurrogate_5068e 9 = .ok (.ireturn, 1) := by decide +kernel
theorem dJ6_bitCount_0f7a4_0 : decode cJ6_bitCount_0f7a4 0 = .ok (.iload_n 0, 1) := by decide +kernel
theorem dJ6_bitCount_0f7a4_1 : decode cJ6_bitCount_0f7a4 1 = .ok (.iload_n 0, 1) := by decide +kernel
theorem dJ6_bitCount_0f7a4_2 : decode cJ6_bitCount_0f7a4 2 = .ok (.iconst 1, 1) := by decide +kernel
theorem dJ6_bitCount_0f7a4_3 : decode cJ6_bitCount_0f7a4 3 = .ok (.iushr, 1) := by decide +kernel
theorem dJ6_bitCount_0f7a4_4 : decode cJ6_bitCount_0f7a4 4 = .ok (.ldc_w 265, 3) := by decide +kernel
theorem dJ6_bitCount_0f7a4_7 : decode cJ6_bitCount_0f7a4 7 = .ok (.iand, 1) := by decide +kernel
theorem dJ6_bitCount_0f7a4_8 : decode cJ6_bitCount_0f7a4 8 = .ok (.isub, 1) := by decide +kernel
theorem dJ6_bitCount_0f7a4_9 : decode cJ6_bitCount_0f7a4 9 = .ok (.istore_n 0, 1) := by decide +kernel
theorem dJ6_bitCount_0f7a4_10 : decode cJ6_bitCount_0f7a4 10 = .ok (.iload_n 0, 1) := by decide +kernel
theorem dJ6_bitCount_0f7a4_11 : decode cJ6_bitCount_0f7a4 11 = .ok (.ldc_w 266, 3) := by decide +kernel
theorem dJ6_bitCount_0f7a4_14 : decode cJ6_bitCount_0f7a4 14 = .ok (.iand, 1) := by decide +kernel
theorem dJ6_bitCount_0f7a4_15 : decode cJ6_bitCount_0f7a4 15 = .ok (.iload_n 0, 1) := by decide +kernel
theorem dJ6_bitCount_0f7a4_16 : decode cJ6_bitCount_0f7a4 16 = .ok (.iconst 2, 1) := by decide +kernel
theorem dJ6_bitCount_0f7a4_17 : decode cJ6_bitCount_0f7a4 17 = .ok (.iushr, 1) := by decide +kernel
theorem dJ6_bitCount_0f7a4_18 : decode cJ6_bitCount_0f7a4 18 = .ok (.ldc_w 266, 3) := by decide +kernel
theorem dJ6_bitCount_0f7a4_21 : decode cJ6_bitCount_0f7a4 21 = .ok (.iand, 1) := by decide +kernel
theorem dJ6_bitCount_0f7a4_22 : decode cJ6_bitCount_0f7a4 22 = .ok (.iadd, 1) := by decide +kernel
theorem dJ6_bitCount_0f7a4_23 : decode cJ6_bitCount_0f7a4 23 = .ok (.istore_n 0, 1) := by decide +kernel
theorem dJ6_bitCount_0f7a4_24 : decode cJ6_bitCount_0f7a4 24 = .ok (.iload_n 0, 1) := by decide +kernel
theorem dJ6_bitCount_0f7a4_25 : decode cJ6_bitCount_0f7a4 25 = .ok (.iload_n 0, 1) := by decide +kernel
theorem dJ6_bitCount_0f7a4_26 : decode cJ6_bitCount_0f7a4 26 = .ok (.iconst 4, 1) := by decide +kernel
theorem dJ6_bitCount_0f7a4_27 : decode cJ6_bitCount_0f7a4 27 = .ok (.iushr, 1) := by decide +kernel
theorem dJ6_bitCount_0f7a4_28 : decode cJ6_bitCount_0f7a4 28 = .ok (.iadd, 1) := by decide +kernel
theorem dJ6_bitCount_0f7a4_29 : decode cJ6_bitCount_0f7a4 29 = .ok (.ldc_w 267, 3) := by decide +kernel
theorem dJ6_bitCount_0f7a4_32 : decode cJ6_bitCount_0f7a4 32 = .ok (.iand, 1) := by decide +kernel
theorem dJ6_bitCount_0f7a4_33 : decode cJ6_bitCount_0f7a4 33 = .ok (.istore_n 0, 1) := by decide +kernel
theorem dJ6_bitCount_0f7a4_34 : decode cJ6_bitCount_0f7a4 34 = .ok (.iload_n 0, 1) := by decide +kernel
theorem dJ6_bitCount_0f7a4_35 : decode cJ6_bitCount_0f7a4 35 = .ok (.iload_n 0, 1) := by decide +kernel
theorem dJ6_bitCount_0f7a4_36 : decode cJ6_bitCount_0f7a4 36 = .ok (.bipush 8, 2) := by decide +kernel
theorem dJ6_bitCount_0f7a4_38 : decode cJ6_bitCount_0f7a4 38 = .ok (.iushr, 1) := by decide +kernel
theorem dJ6_bitCount_0f7a4_39 : decode cJ6_bitCount_0f7a4 39 = .ok (.iadd, 1) := by decide +kernel
theorem dJ6_bitCount_0f7a4_40 : decode cJ6_bitCount_0f7a4 40 = .ok (.istore_n 0, 1) := by decide +kernel
theorem dJ6_bitCount_0f7a4_41 : decode cJ6_bitCount_0f7a4 41 = .ok (.iload_n 0, 1) := by decide +kernel
theorem dJ6_bitCount_0f7a4_42 : decode cJ6_bitCount_0f7a4 42 = .ok (.iload_n 0, 1) := by decide +kernel
theorem dJ6_bitCount_0f7a4_43 : decode cJ6_bitCount_0f7a4 43 = .ok (.bipush 16, 2) := by decide +kernel
theorem dJ6_bitCount_0f7a4_45 : decode cJ6_bitCount_0f7a4 45 = .ok (.iushr, 1) := by decide +kernel
