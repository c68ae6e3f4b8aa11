theorem dX7_sit_12 : decode cX7_sit 12 = .ok (.ifCond .lt 9, 3) := by decide +kernel
theorem dX7_sit_15 : decode cX7_sit 15 = .ok (.iload_n 2, 1) := by decide +kernel
theorem dX7_sit_16 : decode cX7_sit 16 = .ok (.bipush 9, 2) := by decide +kernel
theorem dX7_sit_18 : decode cX7_sit 18 = .ok (.if_icmp .le 6, 3) := by decide +kernel
theorem dX7_sit_21 : decode cX7_sit 21 = .ok (.ldc 78, 2) := by decide +kernel
theorem dX7_sit_23 : decode cX7_sit 23 = .ok (.ireturn, 1) := by decide +kernel
theorem dX7_sit_24 : decode cX7_sit 24 = .ok (.iload_n 3, 1) := by decide +kernel
theorem dX7_sit_25 : decode cX7_sit 25 = .ok (.iconst 1, 1) := by decide +kernel
theorem dX7_sit_26 : decode cX7_sit 26 = .ok (.if_icmp .lt 9, 3) := by decide +kernel
theorem dX7_sit_29 : decode cX7_sit 29 = .ok (.iload_n 3, 1) := by decide +kernel
theorem dX7_sit_30 : decode cX7_sit 30 = .ok (.bipush 20, 2) := by decide +kernel
theorem dX7_sit_32 : decode cX7_sit 32 = .ok (.if_icmp .le 6, 3) := by decide +kernel
theorem dX7_sit_35 : decode cX7_sit 35 = .ok (.ldc 78, 2) := by decide +kernel
theorem dX7_sit_37 : decode cX7_sit 37 = .ok (.ireturn, 1) := by decide +kernel
theorem dX7_sit_38 : decode cX7_sit 38 = .ok (.aload_n 0, 1) := by decide +kernel
theorem dX7_sit_39 : decode cX7_sit 39 = .ok (.getfield 26, 3) := by decide +kernel
theorem dX7_sit_42 : decode cX7_sit 42 = .ok (.getfield 188, 3) := by decide +kernel
theorem dX7_sit_45 : decode cX7_sit 45 = .ok (.iload_n 1, 1) := by decide +kernel
theorem dX7_sit_46 : decode cX7_sit 46 = .ok (.iaload, 1) := by decide +kernel
theorem dX7_sit_47 : decode cX7_sit 47 = .ok (.ifCond .ne 6, 3) := by decide +kernel
theorem dX7_sit_50 : decode cX7_sit 50 = .ok (.ldc 147, 2) := by decide +kernel
theorem dX7_sit_52 : decode cX7_sit 52 = .ok (.ireturn, 1) := by decide +kernel
theorem dX7_sit_53 : decode cX7_sit 53 = .ok (.aload_n 0, 1) := by decide +kernel
theorem dX7_sit_54 : decode cX7_sit 54 = .ok (.getfield 36, 3) := by decide +kernel
theorem dX7_sit_57 : decode cX7_sit 57 = .ok (.aload_n 0, 1) := by decide +kernel
theorem dX7_sit_58 : decode cX7_sit 58 = .ok (.getfield 26, 3) := by decide +kernel
theorem dX7_sit_61 : decode cX7_sit 61 = .ok (.invokevirtual 157, 3) := by decide +kernel
theorem dX7_sit_64 : decode cX7_sit 64 = .ok (.aload_n 0, 1) := by decide +kernel
theorem dX7_sit_65 : decode cX7_sit 65 = .ok (.getfield 26, 3) := by decide +kernel
theorem dX7_sit_68 : decode cX7_sit 68 = .ok (.iload_n 1, 1) := by decide +kernel
theorem dX7_sit_69 : decode cX7_sit 69 = .ok (.iload_n 2, 1) := by decide +kernel
theorem dX7_sit_70 : decode cX7_sit 70 = .ok (.iload_n 3, 1) := by decide +kernel
theorem dX7_sit_71 : decode cX7_sit 71 = .ok (.invokevirtual 192, 3) := by decide +kernel
theorem dX7_sit_74 : decode cX7_sit 74 = .ok (.aload_n 0, 1) := by decide +kernel
theorem dX7_sit_75 : decode cX7_sit 75 = .ok (.getfield 26, 3) := by decide +kernel
theorem dX7_sit_78 : decode cX7_sit 78 = .ok (.iconst 0, 1) := by decide +kernel
theorem dX7_sit_79 : decode cX7_sit 79 = .ok (.invokevirtual 195, 3) := by decide +kernel
theorem dX7_sit_82 : decode cX7_sit 82 = .ok (.ireturn, 1) := by decide +kernel
theorem dX7_thing_0 : decode cX7_thing 0 = .ok (.aload_n 0, 1) := by decide +kernel
theorem dX7_thing_1 : decode cX7_thing 1 = .ok (.getfield 26, 3) := by decide +kernel
theorem dX7_thing_4 : decode cX7_thing 4 = .ok (.iload_n 1, 1) := by decide +kernel
theorem dX7_thing_5 : decode cX7_thing 5 = .ok (.invokevirtual 166, 3) := by decide +kernel
theorem dX7_thing_8 : decode cX7_thing 8 = .ok (.ifCond .ne 6, 3) := by decide +kernel
theorem dX7_thing_11 : decode cX7_thing 11 = .ok (.ldc 78, 2) := by decide +kernel
theorem dX7_thing_13 : decode cX7_thing 13 = .ok (.ireturn, 1) := by decide +kernel
theorem dX7_thing_14 : decode cX7_thing 14 = .ok (.iload_n 2, 1) := by decide +kernel
theorem dX7_thing_15 : decode cX7_thing 15 = .ok (.tableswitch 92 0 4 #[33, 43, 53, 63, 75], 33) := by decide +kernel
theorem dX7_thing_48 : decode cX7_thing 48 = .ok (.aload_n 0, 1) := by decide +kernel
theorem dX7_thing_49 : decode cX7_thing 49 = .ok (.getfield 26, 3) := by decide +kernel
theorem dX7_thing_52 : decode cX7_thing 52 = .ok (.getfield 198, 3) := by decide +kernel
theorem dX7_thing_55 : decode cX7_thing 55 = .ok (.iload_n 1, 1) := by decide +kernel
theorem dX7_thing_56 : decode cX7_thing 56 = .ok (.iaload, 1) := by decide +kernel
theorem dX7_thing_57 : decode cX7_thing 57 = .ok (.ireturn, 1) := by decide +kernel
theorem dX7_thing_58 : decode cX7_thing 58 = .ok (.aload_n 0, 1) := by decide +kernel
theorem dX7_thing_59 : decode cX7_thing 59 = .ok (.getfield 26, 3) := by decide +kernel
theorem dX7_thing_62 : decode cX7_thing 62 = .ok (.getfield 201, 3) := by decide +kernel
theorem dX7_thing_65 : decode cX7_thing 65 = .ok (.iload_n 1, 1) := by decide +kernel
theorem dX7_thing_66 : decode cX7_thing 66 = .ok (.iaload, 1) := by decide +kernel
theorem dX7_thing_67 : decode cX7_thing 67 = .ok (.ireturn, 1) := by decide +kernel
theorem dX7_thing_68 : decode cX7_thing 68 = .ok (.aload_n 0, 1) := by decide +kernel
theorem dX7_thing_69 : decode cX7_thing 69 = .ok (.getfield 26, 3) := by decide +kernel
theorem dX7_thing_72 : decode cX7_thing 72 = .ok (.getfield 204, 3) := by decide +kernel
theorem dX7_thing_75 : decode cX7_thing 75 = .ok (.iload_n 1, 1) := by decide +kernel
theorem dX7_thing_76 : decode cX7_thing 76 = .ok (.iaload, 1) := by decide +kernel
theorem dX7_thing_77 : decode cX7_thing 77 = .ok (.ireturn, 1) := by decide +kernel
theorem dX7_thing_78 : decode cX7_thing 78 = .ok (.aload_n 0, 1) := by decide +kernel
theorem dX7_thing_79 : decode cX7_thing 79 = .ok (.getfield 26, 3) := by decide +kernel
theorem dX7_thing_82 : decode cX7_thing 82 = .ok (.iload_n 1, 1) := by decide +kernel
theorem dX7_thing_83 : decode cX7_thing 83 = .ok (.invokevirtual 169, 3) := by decide +kernel
theorem dX7_thing_86 : decode cX7_thing 86 = .ok (.invokestatic 207, 3) := by decide +kernel
theorem dX7_thing_89 : decode cX7_thing 89 = .ok (.ireturn, 1) := by decide +kernel
theorem dX7_thing_90 : decode cX7_thing 90 = .ok (.aload_n 0, 1) := by decide +kernel
theorem dX7_thing_91 : decode cX7_thing 91 = .ok (.getfield 26, 3) := by decide +kernel
theorem dX7_thing_94 : decode cX7_thing 94 = .ok (.aload_n 0, 1) := by decide +kernel
theorem dX7_thing_95 : decode cX7_thing 95 = .ok (.getfield 26, 3) := by decide +kernel
theorem dX7_thing_98 : decode cX7_thing 98 = .ok (.getfield 198, 3) := by decide +kernel
theorem dX7_thing_101 : decode cX7_thing 101 = .ok (.iload_n 1, 1) := by decide +kernel
theorem dX7_thing_102 : decode cX7_thing 102 = .ok (.iaload, 1) := by decide +kernel
theorem dX7_thing_103 : decode cX7_thing 103 = .ok (.invokevirtual 210, 3) := by decide +kernel
theorem dX7_thing_106 : decode cX7_thing 106 = .ok (.ireturn, 1) := by decide +kernel
theorem dX7_thing_107 : decode cX7_thing 107 = .ok (.ldc 78, 2) := by decide +kernel
theorem dX7_thing_109 : decode cX7_thing 109 = .ok (.ireturn, 1) := by decide +kernel
theorem dX7_seat_0 : decode cX7_seat 0 = .ok (.aload_n 0, 1) := by decide +kernel
theorem dX7_seat_1 : decode cX7_seat 1 = .ok (.getfield 26, 3) := by decide +kernel
theorem dX7_seat_4 : decode cX7_seat 4 = .ok (.iload_n 1, 1) := by decide +kernel
theorem dX7_seat_5 : decode cX7_seat 5 = .ok (.invokevirtual 185, 3) := by decide +kernel
theorem dX7_seat_8 : decode cX7_seat 8 = .ok (.ifCond .ne 6, 3) := by decide +kernel
theorem dX7_seat_11 : decode cX7_seat 11 = .ok (.ldc 78, 2) := by decide +kernel
theorem dX7_seat_13 : decode cX7_seat 13 = .ok (.ireturn, 1) := by decide +kernel
theorem dX7_seat_14 : decode cX7_seat 14 = .ok (.iload_n 2, 1) := by decide +kernel
theorem dX7_seat_15 : decode cX7_seat 15 = .ok (.tableswitch 55 0 2 #[25, 35, 45], 25) := by decide +kernel
theorem dX7_seat_40 : decode cX7_seat 40 = .ok (.aload_n 0, 1) := by decide +kernel
theorem dX7_seat_41 : decode cX7_seat 41 = .ok (.getfield 26, 3) := by decide +kernel
theorem dX7_seat_44 : decode cX7_seat 44 = .ok (.getfield 213, 3) := by decide +kernel
theorem dX7_seat_47 : decode cX7_seat 47 = .ok (.iload_n 1, 1) := by decide +kernel
theorem dX7_seat_48 : decode cX7_seat 48 = .ok (.iaload, 1) := by decide +kernel
theorem dX7_seat_49 : decode cX7_seat 49 = .ok (.ireturn, 1) := by decide +kernel
theorem dX7_seat_50 : decode cX7_seat 50 = .ok (.aload_n 0, 1) := by decide +kernel
theorem dX7_seat_51 : decode cX7_seat 51 = .ok (.getfield 26, 3) := by decide +kernel
theorem dX7_seat_54 : decode cX7_seat 54 = .ok (.getfield 216, 3) := by decide +kernel
theorem dX7_seat_57 : decode cX7_seat 57 = .ok (.iload_n 1, 1) := by decide +kernel
theorem dX7_seat_58 : decode cX7_seat 58 = .ok (.iaload, 1) := by decide +kernel
theorem dX7_seat_59 : decode cX7_seat 59 = .ok (.ireturn, 1) := by decide +kernel
theorem dX7_seat_60 : decode cX7_seat 60 = .ok (.aload_n 0, 1) := by decide +kernel
theorem dX7_seat_61 : decode cX7_seat 61 = .ok (.getfield 26, 3) := by decide +kernel
theorem dX7_seat_64 : decode cX7_seat 64 = .ok (.getfield 188, 3) := by decide +kernel
theorem dX7_seat_67 : decode cX7_seat 67 = .ok (.iload_n 1, 1) := by decide +kernel
theorem dX7_seat_68 : decode cX7_seat 68 = .ok (.iaload, 1) := by decide +kernel
theorem dX7_seat_69 : decode cX7_seat 69 = .ok (.ireturn, 1) := by decide +kernel
theorem dX7_seat_70 : decode cX7_seat 70 = .ok (.ldc 78, 2) := by decide +kernel
theorem dX7_seat_72 : decode cX7_seat 72 = .ok (.ireturn, 1) := by decide +kernel
theorem dX7_list_0 : decode cX7_list 0 = .ok (.aload_n 0, 1) := by decide +kernel
theorem dX7_list_1 : decode cX7_list 1 = .ok (.invokevirtual 151, 3) := by decide +kernel
theorem dX7_list_4 : decode cX7_list 4 = .ok (.ifCond .eq 6, 3) := by decide +kernel
theorem dX7_list_7 : decode cX7_list 7 = .ok (.ldc 147, 2) := by decide +kernel
theorem dX7_list_9 : decode cX7_list 9 = .ok (.ireturn, 1) := by decide +kernel
theorem dX7_list_10 : decode cX7_list 10 = .ok (.iload_n 1, 1) := by decide +kernel
theorem dX7_list_11 : decode cX7_list 11 = .ok (.ifCond .ge 6, 3) := by decide +kernel
theorem dX7_list_14 : decode cX7_list 14 = .ok (.ldc 78, 2) := by decide +kernel
theorem dX7_list_16 : decode cX7_list 16 = .ok (.ireturn, 1) := by decide +kernel
theorem dX7_list_17 : decode cX7_list 17 = .ok (.iload_n 1, 1) := by decide +kernel
theorem dX7_list_18 : decode cX7_list 18 = .ok (.aload_n 0, 1) := by decide +kernel
theorem dX7_list_19 : decode cX7_list 19 = .ok (.getfield 26, 3) := by decide +kernel
theorem dX7_list_22 : decode cX7_list 22 = .ok (.getfield 182, 3) := by decide +kernel
theorem dX7_list_25 : decode cX7_list 25 = .ok (.if_icmp .ge 15, 3) := by decide +kernel
theorem dX7_list_28 : decode cX7_list 28 = .ok (.aload_n 0, 1) := by decide +kernel
theorem dX7_list_29 : decode cX7_list 29 = .ok (.getfield 26, 3) := by decide +kernel
theorem dX7_list_32 : decode cX7_list 32 = .ok (.getfield 219, 3) := by decide +kernel
theorem dX7_list_35 : decode cX7_list 35 = .ok (.iload_n 1, 1) := by decide +kernel
theorem dX7_list_36 : decode cX7_list 36 = .ok (.iaload, 1) := by decide +kernel
theorem dX7_list_37 : decode cX7_list 37 = .ok (.goto 5, 3) := by decide +kernel
theorem dX7_list_40 : decode cX7_list 40 = .ok (.ldc 222, 2) := by decide +kernel
theorem dX7_list_42 : decode cX7_list 42 = .ok (.ireturn, 1) := by decide +kernel
theorem dX7_stand_0 : decode cX7_stand 0 = .ok (.aload_n 0, 1) := by decide +kernel
theorem dX7_stand_1 : decode cX7_stand 1 = .ok (.invokevirtual 151, 3) := by decide +kernel
theorem dX7_stand_4 : decode cX7_stand 4 = .ok (.ifCond .eq 6, 3) := by decide +kernel
theorem dX7_stand_7 : decode cX7_stand 7 = .ok (.ldc 147, 2) := by decide +kernel
theorem dX7_stand_9 : decode cX7_stand 9 = .ok (.ireturn, 1) := by decide +kernel
theorem dX7_stand_10 : decode cX7_stand 10 = .ok (.iload_n 1, 1) := by decide +kernel
theorem dX7_stand_11 : decode cX7_stand 11 = .ok (.ifCond .lt 8, 3) := by decide +kernel
theorem dX7_stand_14 : decode cX7_stand 14 = .ok (.iload_n 1, 1) := by decide +kernel
theorem dX7_stand_15 : decode cX7_stand 15 = .ok (.iconst 3, 1) := by decide +kernel
theorem dX7_stand_16 : decode cX7_stand 16 = .ok (.if_icmp .le 8, 3) := by decide +kernel
theorem dX7_stand_19 : decode cX7_stand 19 = .ok (.ldc 78, 2) := by decide +kernel
theorem dX7_stand_21 : decode cX7_stand 21 = .ok (.goto 11, 3) := by decide +kernel
theorem dX7_stand_24 : decode cX7_stand 24 = .ok (.aload_n 0, 1) := by decide +kernel
theorem dX7_stand_25 : decode cX7_stand 25 = .ok (.getfield 26, 3) := by decide +kernel
theorem dX7_stand_28 : decode cX7_stand 28 = .ok (.iload_n 1, 1) := by decide +kernel
theorem dX7_stand_29 : decode cX7_stand 29 = .ok (.invokevirtual 223, 3) := by decide +kernel
theorem dX7_stand_32 : decode cX7_stand 32 = .ok (.ireturn, 1) := by decide +kernel
theorem dX7_next_0 : decode cX7_next 0 = .ok (.aload_n 0, 1) := by decide +kernel
theorem dX7_next_1 : decode cX7_next 1 = .ok (.invokevirtual 151, 3) := by decide +kernel
theorem dX7_next_4 : decode cX7_next 4 = .ok (.ifCond .eq 6, 3) := by decide +kernel
theorem dX7_next_7 : decode cX7_next 7 = .ok (.ldc 147, 2) := by decide +kernel
theorem dX7_next_9 : decode cX7_next 9 = .ok (.ireturn, 1) := by decide +kernel
theorem dX7_next_10 : decode cX7_next 10 = .ok (.iload_n 1, 1) := by decide +kernel
theorem dX7_next_11 : decode cX7_next 11 = .ok (.ifCond .lt 8, 3) := by decide +kernel
theorem dX7_next_14 : decode cX7_next 14 = .ok (.iload_n 1, 1) := by decide +kernel
theorem dX7_next_15 : decode cX7_next 15 = .ok (.iconst 2, 1) := by decide +kernel
theorem dX7_next_16 : decode cX7_next 16 = .ok (.if_icmp .le 8, 3) := by decide +kernel
theorem dX7_next_19 : decode cX7_next 19 = .ok (.ldc 78, 2) := by decide +kernel
theorem dX7_next_21 : decode cX7_next 21 = .ok (.goto 15, 3) := by decide +kernel
theorem dX7_next_24 : decode cX7_next 24 = .ok (.aload_n 0, 1) := by decide +kernel
theorem dX7_next_25 : decode cX7_next 25 = .ok (.getfield 49, 3) := by decide +kernel
theorem dX7_next_28 : decode cX7_next 28 = .ok (.aload_n 0, 1) := by decide +kernel
theorem dX7_next_29 : decode cX7_next 29 = .ok (.getfield 26, 3) := by decide +kernel
theorem dX7_next_32 : decode cX7_next 32 = .ok (.iload_n 1, 1) := by decide +kernel
theorem dX7_next_33 : decode cX7_next 33 = .ok (.invokevirtual 226, 3) := by decide +kernel
theorem dX7_next_36 : decode cX7_next 36 = .ok (.ireturn, 1) := by decide +kernel
theorem dX7_ahead_0 : decode cX7_ahead 0 = .ok (.aload_n 0, 1) := by decide +kernel
theorem dX7_ahead_1 : decode cX7_ahead 1 = .ok (.invokevirtual 151, 3) := by decide +kernel
theorem dX7_ahead_4 : decode cX7_ahead 4 = .ok (.ifCond .eq 6, 3) := by decide +kernel
theorem dX7_ahead_7 : decode cX7_ahead 7 = .ok (.ldc 147, 2) := by decide +kernel
theorem dX7_ahead_9 : decode cX7_ahead 9 = .ok (.ireturn, 1) := by decide +kernel
theorem dX7_ahead_10 : decode cX7_ahead 10 = .ok (.iload_n 1, 1) := by decide +kernel
theorem dX7_ahead_11 : decode cX7_ahead 11 = .ok (.ifCond .lt 18, 3) := by decide +kernel
theorem dX7_ahead_14 : decode cX7_ahead 14 = .ok (.iload_n 1, 1) := by decide +kernel
theorem dX7_ahead_15 : decode cX7_ahead 15 = .ok (.bipush 60, 2) := by decide +kernel
theorem dX7_ahead_17 : decode cX7_ahead 17 = .ok (.if_icmp .gt 12, 3) := by decide +kernel
theorem dX7_ahead_20 : decode cX7_ahead 20 = .ok (.iload_n 2, 1) := by decide +kernel
theorem dX7_ahead_21 : decode cX7_ahead 21 = .ok (.ifCond .lt 8, 3) := by decide +kernel
theorem dX7_ahead_24 : decode cX7_ahead 24 = .ok (.iload_n 2, 1) := by decide +kernel
theorem dX7_ahead_25 : decode cX7_ahead 25 = .ok (.iconst 3, 1) := by decide +kernel
theorem dX7_ahead_26 : decode cX7_ahead 26 = .ok (.if_icmp .le 6, 3) := by decide +kernel
theorem dX7_ahead_29 : decode cX7_ahead 29 = .ok (.ldc 78, 2) := by decide +kernel
theorem dX7_ahead_31 : decode cX7_ahead 31 = .ok (.ireturn, 1) := by decide +kernel
theorem dX7_ahead_32 : decode cX7_ahead 32 = .ok (.aload_n 0, 1) := by decide +kernel
theorem dX7_ahead_33 : decode cX7_ahead 33 = .ok (.getfield 49, 3) := by decide +kernel
theorem dX7_ahead_36 : decode cX7_ahead 36 = .ok (.aload_n 0, 1) := by decide +kernel
theorem dX7_ahead_37 : decode cX7_ahead 37 = .ok (.getfield 26, 3) := by decide +kernel
theorem dX7_ahead_40 : decode cX7_ahead 40 = .ok (.iload_n 1, 1) := by decide +kernel
theorem dX7_ahead_41 : decode cX7_ahead 41 = .ok (.iload_n 2, 1) := by decide +kernel
theorem dX7_ahead_42 : decode cX7_ahead 42 = .ok (.invokevirtual 230, 3) := by decide +kernel
theorem dX7_ahead_45 : decode cX7_ahead 45 = .ok (.ireturn, 1) := by decide +kernel
theorem dX7_when_0 : decode cX7_when 0 = .ok (.aload_n 0, 1) := by decide +kernel
theorem dX7_when_1 : decode cX7_when 1 = .ok (.getfield 26, 3) := by decide +kernel
theorem dX7_when_4 : decode cX7_when 4 = .ok (.iload_n 1, 1) := by decide +kernel
theorem dX7_when_5 : decode cX7_when 5 = .ok (.invokevirtual 185, 3) := by decide +kernel
theorem dX7_when_8 : decode cX7_when 8 = .ok (.ifCond .eq 13, 3) := by decide +kernel
theorem dX7_when_11 : decode cX7_when 11 = .ok (.iload_n 2, 1) := by decide +kernel
theorem dX7_when_12 : decode cX7_when 12 = .ok (.iconst 1, 1) := by decide +kernel
theorem dX7_when_13 : decode cX7_when 13 = .ok (.if_icmp .lt 8, 3) := by decide +kernel
theorem dX7_when_16 : decode cX7_when 16 = .ok (.iload_n 2, 1) := by decide +kernel
theorem dX7_when_17 : decode cX7_when 17 = .ok (.iconst 2, 1) := by decide +kernel
theorem dX7_when_18 : decode cX7_when 18 = .ok (.if_icmp .le 6, 3) := by decide +kernel
theorem dX7_when_21 : decode cX7_when 21 = .ok (.ldc 78, 2) := by decide +kernel
theorem dX7_when_23 : decode cX7_when 23 = .ok (.ireturn, 1) := by decide +kernel
theorem dX7_when_24 : decode cX7_when 24 = .ok (.aload_n 0, 1) := by decide +kernel
theorem dX7_when_25 : decode cX7_when 25 = .ok (.getfield 49, 3) := by decide +kernel
theorem dX7_when_28 : decode cX7_when 28 = .ok (.aload_n 0, 1) := by decide +kernel
theorem dX7_when_29 : decode cX7_when 29 = .ok (.getfield 26, 3) := by decide +kernel
theorem dX7_when_32 : decode cX7_when 32 = .ok (.iload_n 1, 1) := by decide +kernel
theorem dX7_when_33 : decode cX7_when 33 = .ok (.iload_n 2, 1) := by decide +kernel
theorem dX7_when_34 : decode cX7_when 34 = .ok (.invokevirtual 234, 3) := by decide +kernel
theorem dX7_when_37 : decode cX7_when 37 = .ok (.invokestatic 207, 3) := by decide +kernel
theorem dX7_when_40 : decode cX7_when 40 = .ok (.ireturn, 1) := by decide +kernel
theorem dX7_comes_0 : decode cX7_comes 0 = .ok (.aload_n 0, 1) := by decide +kernel
theorem dX7_comes_1 : decode cX7_comes 1 = .ok (.getfield 26, 3) := by decide +kernel
theorem dX7_comes_4 : decode cX7_comes 4 = .ok (.iload_n 1, 1) := by decide +kernel
theorem dX7_comes_5 : decode cX7_comes 5 = .ok (.invokevirtual 166, 3) := by decide +kernel
theorem dX7_comes_8 : decode cX7_comes 8 = .ok (.ifCond .ne 6, 3) := by decide +kernel
theorem dX7_comes_11 : decode cX7_comes 11 = .ok (.ldc 78, 2) := by decide +kernel
theorem dX7_comes_13 : decode cX7_comes 13 = .ok (.ireturn, 1) := by decide +kernel
theorem dX7_comes_14 : decode cX7_comes 14 = .ok (.aload_n 0, 1) := by decide +kernel
theorem dX7_comes_15 : decode cX7_comes 15 = .ok (.getfield 49, 3) := by decide +kernel
theorem dX7_comes_18 : decode cX7_comes 18 = .ok (.aload_n 0, 1) := by decide +kernel
theorem dX7_comes_19 : decode cX7_comes 19 = .ok (.getfield 26, 3) := by decide +kernel
theorem dX7_comes_22 : decode cX7_comes 22 = .ok (.iload_n 1, 1) := by decide +kernel
theorem dX7_comes_23 : decode cX7_comes 23 = .ok (.invokevirtual 237, 3) := by decide +kernel
theorem dX7_comes_26 : decode cX7_comes 26 = .ok (.invokestatic 207, 3) := by decide +kernel
theorem dX7_comes_29 : decode cX7_comes 29 = .ok (.ireturn, 1) := by decide +kernel
theorem dX7_order_0 : decode cX7_order 0 = .ok (.aload_n 0, 1) := by decide +kernel
theorem dX7_order_1 : decode cX7_order 1 = .ok (.invokevirtual 151, 3) := by decide +kernel
theorem dX7_order_4 : decode cX7_order 4 = .ok (.ifCond .eq 6, 3) := by decide +kernel
theorem dX7_order_7 : decode cX7_order 7 = .ok (.ldc 147, 2) := by decide +kernel
theorem dX7_order_9 : decode cX7_order 9 = .ok (.ireturn, 1) := by decide +kernel
theorem dX7_order_10 : decode cX7_order 10 = .ok (.iload_n 1, 1) := by decide +kernel
theorem dX7_order_11 : decode cX7_order 11 = .ok (.bipush (-2), 2) := by decide +kernel
theorem dX7_order_13 : decode cX7_order 13 = .ok (.if_icmp .ge 6, 3) := by decide +kernel
theorem dX7_order_16 : decode cX7_order 16 = .ok (.ldc 78, 2) := by decide +kernel
theorem dX7_order_18 : decode cX7_order 18 = .ok (.ireturn, 1) := by decide +kernel
theorem dX7_order_19 : decode cX7_order 19 = .ok (.aload_n 0, 1) := by decide +kernel
theorem dX7_order_20 : decode cX7_order 20 = .ok (.getfield 56, 3) := by decide +kernel
theorem dX7_order_23 : decode cX7_order 23 = .ok (.aload_n 0, 1) := by decide +kernel
theorem dX7_order_24 : decode cX7_order 24 = .ok (.getfield 26, 3) := by decide +kernel
theorem dX7_order_27 : decode cX7_order 27 = .ok (.invokevirtual 240, 3) := by decide +kernel
theorem dX7_order_30 : decode cX7_order 30 = .ok (.iload_n 1, 1) := by decide +kernel
theorem dX7_order_31 : decode cX7_order 31 = .ok (.iconst (-1), 1) := by decide +kernel
theorem dX7_order_32 : decode cX7_order 32 = .ok (.if_icmp .ne 11, 3) := by decide +kernel
theorem dX7_order_35 : decode cX7_order 35 = .ok (.aload_n 0, 1) := by decide +kernel
theorem dX7_order_36 : decode cX7_order 36 = .ok (.getfield 56, 3) := by decide +kernel
theorem dX7_order_39 : decode cX7_order 39 = .ok (.invokevirtual 243, 3) := by decide +kernel
theorem dX7_order_42 : decode cX7_order 42 = .ok (.ireturn, 1) := by decide +kernel
theorem dX7_order_43 : decode cX7_order 43 = .ok (.iload_n 1, 1) := by decide +kernel
theorem dX7_order_44 : decode cX7_order 44 = .ok (.bipush (-2), 2) := by decide +kernel
theorem dX7_order_46 : decode cX7_order 46 = .ok (.if_icmp .ne 13, 3) := by decide +kernel
theorem dX7_order_49 : decode cX7_order 49 = .ok (.aload_n 0, 1) := by decide +kernel
theorem dX7_order_50 : decode cX7_order 50 = .ok (.getfield 56, 3) := by decide +kernel
theorem dX7_order_53 : decode cX7_order 53 = .ok (.invokevirtual 246, 3) := by decide +kernel
theorem dX7_order_56 : decode cX7_order 56 = .ok (.goto 14, 3) := by decide +kernel
theorem dX7_order_59 : decode cX7_order 59 = .ok (.aload_n 0, 1) := by decide +kernel
theorem dX7_order_60 : decode cX7_order 60 = .ok (.getfield 56, 3) := by decide +kernel
theorem dX7_order_63 : decode cX7_order 63 = .ok (.iload_n 1, 1) := by decide +kernel
theorem dX7_order_64 : decode cX7_order 64 = .ok (.invokevirtual 249, 3) := by decide +kernel
theorem dX7_order_67 : decode cX7_order 67 = .ok (.invokestatic 207, 3) := by decide +kernel
theorem dX7_order_70 : decode cX7_order 70 = .ok (.ireturn, 1) := by decide +kernel
theorem dX7_pack_0 : decode cX7_pack 0 = .ok (.aload_n 0, 1) := by decide +kernel
theorem dX7_pack_1 : decode cX7_pack 1 = .ok (.invokevirtual 151, 3) := by decide +kernel
theorem dX7_pack_4 : decode cX7_pack 4 = .ok (.ifCond .eq 6, 3) := by decide +kernel
theorem dX7_pack_7 : decode cX7_pack 7 = .ok (.ldc 147, 2) := by decide +kernel
theorem dX7_pack_9 : decode cX7_pack 9 = .ok (.ireturn, 1) := by decide +kernel
theorem dX7_pack_10 : decode cX7_pack 10 = .ok (.iload_n 1, 1) := by decide +kernel
theorem dX7_pack_11 : decode cX7_pack 11 = .ok (.ifCond .lt 8, 3) := by decide +kernel
theorem dX7_pack_14 : decode cX7_pack 14 = .ok (.iload_n 1, 1) := by decide +kernel
theorem dX7_pack_15 : decode cX7_pack 15 = .ok (.iconst 1, 1) := by decide +kernel
theorem dX7_pack_16 : decode cX7_pack 16 = .ok (.if_icmp .le 6, 3) := by decide +kernel
theorem dX7_pack_19 : decode cX7_pack 19 = .ok (.ldc 78, 2) := by decide +kernel
theorem dX7_pack_21 : decode cX7_pack 21 = .ok (.ireturn, 1) := by decide +kernel
theorem dX7_pack_22 : decode cX7_pack 22 = .ok (.aload_n 0, 1) := by decide +kernel
theorem dX7_pack_23 : decode cX7_pack 23 = .ok (.getfield 56, 3) := by decide +kernel
theorem dX7_pack_26 : decode cX7_pack 26 = .ok (.aload_n 0, 1) := by decide +kernel
theorem dX7_pack_27 : decode cX7_pack 27 = .ok (.getfield 26, 3) := by decide +kernel
theorem dX7_pack_30 : decode cX7_pack 30 = .ok (.invokevirtual 252, 3) := by decide +kernel
theorem dX7_pack_33 : decode cX7_pack 33 = .ok (.istore_n 2, 1) := by decide +kernel
theorem dX7_pack_34 : decode cX7_pack 34 = .ok (.iload_n 1, 1) := by decide +kernel
theorem dX7_pack_35 : decode cX7_pack 35 = .ok (.ifCond .ne 7, 3) := by decide +kernel
theorem dX7_pack_38 : decode cX7_pack 38 = .ok (.iload_n 2, 1) := by decide +kernel
theorem dX7_pack_39 : decode cX7_pack 39 = .ok (.goto 18, 3) := by decide +kernel
theorem dX7_pack_42 : decode cX7_pack 42 = .ok (.aload_n 0, 1) := by decide +kernel
theorem dX7_pack_43 : decode cX7_pack 43 = .ok (.getfield 26, 3) := by decide +kernel
theorem dX7_pack_46 : decode cX7_pack 46 = .ok (.iload_n 2, 1) := by decide +kernel
theorem dX7_pack_47 : decode cX7_pack 47 = .ok (.aload_n 0, 1) := by decide +kernel
theorem dX7_pack_48 : decode cX7_pack 48 = .ok (.getfield 26, 3) := by decide +kernel
theorem dX7_pack_51 : decode cX7_pack 51 = .ok (.getfield 204, 3) := by decide +kernel
theorem dX7_pack_54 : decode cX7_pack 54 = .ok (.invokevirtual 256, 3) := by decide +kernel
theorem dX7_pack_57 : decode cX7_pack 57 = .ok (.ireturn, 1) := by decide +kernel
theorem dX7_match_0 : decode cX7_match 0 = .ok (.aload_n 0, 1) := by decide +kernel
theorem dX7_match_1 : decode cX7_match 1 = .ok (.invokevirtual 151, 3) := by decide +kernel
theorem dX7_match_4 : decode cX7_match 4 = .ok (.ifCond .eq 8, 3) := by decide +kernel
theorem dX7_match_7 : decode cX7_match 7 = .ok (.ldc 147, 2) := by decide +kernel
theorem dX7_match_9 : decode cX7_match 9 = .ok (.goto 10, 3) := by decide +kernel
theorem dX7_match_12 : decode cX7_match 12 = .ok (.aload_n 0, 1) := by decide +kernel
theorem dX7_match_13 : decode cX7_match 13 = .ok (.getfield 26, 3) := by decide +kernel
theorem dX7_match_16 : decode cX7_match 16 = .ok (.invokevirtual 260, 3) := by decide +kernel
theorem dX7_match_19 : decode cX7_match 19 = .ok (.ireturn, 1) := by decide +kernel
theorem dX7_clear_0 : decode cX7_clear 0 = .ok (.aload_n 0, 1) := by decide +kernel
theorem dX7_clear_1 : decode cX7_clear 1 = .ok (.getfield 26, 3) := by decide +kernel
theorem dX7_clear_4 : decode cX7_clear 4 = .ok (.iload_n 1, 1) := by decide +kernel
theorem dX7_clear_5 : decode cX7_clear 5 = .ok (.invokevirtual 185, 3) := by decide +kernel
theorem dX7_clear_8 : decode cX7_clear 8 = .ok (.ifCond .eq 23, 3) := by decide +kernel
theorem dX7_clear_11 : decode cX7_clear 11 = .ok (.iload_n 2, 1) := by decide +kernel
theorem dX7_clear_12 : decode cX7_clear 12 = .ok (.iconst 1, 1) := by decide +kernel
theorem dX7_clear_13 : decode cX7_clear 13 = .ok (.if_icmp .lt 18, 3) := by decide +kernel
theorem dX7_clear_16 : decode cX7_clear 16 = .ok (.iload_n 2, 1) := by decide +kernel
theorem dX7_clear_17 : decode cX7_clear 17 = .ok (.bipush 30, 2) := by decide +kernel
theorem dX7_clear_19 : decode cX7_clear 19 = .ok (.if_icmp .gt 12, 3) := by decide +kernel
theorem dX7_clear_22 : decode cX7_clear 22 = .ok (.iload_n 3, 1) := by decide +kernel
theorem dX7_clear_23 : decode cX7_clear 23 = .ok (.ifCond .lt 8, 3) := by decide +kernel
theorem dX7_clear_26 : decode cX7_clear 26 = .ok (.iload_n 3, 1) := by decide +kernel
theorem dX7_clear_27 : decode cX7_clear 27 = .ok (.iconst 1, 1) := by decide +kernel
theorem dX7_clear_28 : decode cX7_clear 28 = .ok (.if_icmp .le 6, 3) := by decide +kernel
theorem dX7_clear_31 : decode cX7_clear 31 = .ok (.ldc 78, 2) := by decide +kernel
theorem dX7_clear_33 : decode cX7_clear 33 = .ok (.ireturn, 1) := by decide +kernel
theorem dX7_clear_34 : decode cX7_clear 34 = .ok (.aload_n 0, 1) := by decide +kernel
theorem dX7_clear_35 : decode cX7_clear 35 = .ok (.getfield 56, 3) := by decide +kernel
theorem dX7_clear_38 : decode cX7_clear 38 = .ok (.aload_n 0, 1) := by decide +kernel
theorem dX7_clear_39 : decode cX7_clear 39 = .ok (.getfield 26, 3) := by decide +kernel
theorem dX7_clear_42 : decode cX7_clear 42 = .ok (.iload_n 1, 1) := by decide +kernel
theorem dX7_clear_43 : decode cX7_clear 43 = .ok (.iload_n 2, 1) := by decide +kernel
theorem dX7_clear_44 : decode cX7_clear 44 = .ok (.invokevirtual 263, 3) := by decide +kernel
theorem dX7_clear_47 : decode cX7_clear 47 = .ok (.istore 4, 2) := by decide +kernel
theorem dX7_clear_49 : decode cX7_clear 49 = .ok (.iload 4, 2) := by decide +kernel
theorem dX7_clear_51 : decode cX7_clear 51 = .ok (.ifCond .ge 6, 3) := by decide +kernel
theorem dX7_clear_54 : decode cX7_clear 54 = .ok (.ldc 222, 2) := by decide +kernel
theorem dX7_clear_56 : decode cX7_clear 56 = .ok (.ireturn, 1) := by decide +kernel
theorem dX7_clear_57 : decode cX7_clear 57 = .ok (.iload_n 3, 1) := by decide +kernel
theorem dX7_clear_58 : decode cX7_clear 58 = .ok (.ifCond .ne 11, 3) := by decide +kernel
theorem dX7_clear_61 : decode cX7_clear 61 = .ok (.iload 4, 2) := by decide +kernel
theorem dX7_clear_63 : decode cX7_clear 63 = .ok (.invokestatic 266, 3) := by decide +kernel
theorem dX7_clear_66 : decode cX7_clear 66 = .ok (.goto 5, 3) := by decide +kernel
theorem dX7_clear_69 : decode cX7_clear 69 = .ok (.iload 4, 2) := by decide +kernel
theorem dX7_clear_71 : decode cX7_clear 71 = .ok (.ireturn, 1) := by decide +kernel
theorem dX7_bring_0 : decode cX7_bring 0 = .ok (.aload_n 0, 1) := by decide +kernel
theorem dX7_bring_1 : decode cX7_bring 1 = .ok (.invokevirtual 151, 3) := by decide +kernel
theorem dX7_bring_4 : decode cX7_bring 4 = .ok (.ifCond .eq 6, 3) := by decide +kernel
theorem dX7_bring_7 : decode cX7_bring 7 = .ok (.ldc 147, 2) := by decide +kernel
theorem dX7_bring_9 : decode cX7_bring 9 = .ok (.ireturn, 1) := by decide +kernel
theorem dX7_bring_10 : decode cX7_bring 10 = .ok (.iload_n 1, 1) := by decide +kernel
theorem dX7_bring_11 : decode cX7_bring 11 = .ok (.iconst 1, 1) := by decide +kernel
theorem dX7_bring_12 : decode cX7_bring 12 = .ok (.if_icmp .lt 18, 3) := by decide +kernel
theorem dX7_bring_15 : decode cX7_bring 15 = .ok (.iload_n 1, 1) := by decide +kernel
theorem dX7_bring_16 : decode cX7_bring 16 = .ok (.bipush 30, 2) := by decide +kernel
theorem dX7_bring_18 : decode cX7_bring 18 = .ok (.if_icmp .gt 12, 3) := by decide +kernel
theorem dX7_bring_21 : decode cX7_bring 21 = .ok (.iload_n 2, 1) := by decide +kernel
theorem dX7_bring_22 : decode cX7_bring 22 = .ok (.ifCond .lt 8, 3) := by decide +kernel
theorem dX7_bring_25 : decode cX7_bring 25 = .ok (.iload_n 2, 1) := by decide +kernel
theorem dX7_bring_26 : decode cX7_bring 26 = .ok (.iconst 1, 1) := by decide +kernel
theorem dX7_bring_27 : decode cX7_bring 27 = .ok (.if_icmp .le 6, 3) := by decide +kernel
theorem dX7_bring_30 : decode cX7_bring 30 = .ok (.ldc 78, 2) := by decide +kernel
theorem dX7_bring_32 : decode cX7_bring 32 = .ok (.ireturn, 1) := by decide +kernel
theorem dX7_bring_33 : decode cX7_bring 33 = .ok (.aload_n 0, 1) := by decide +kernel
theorem dX7_bring_34 : decode cX7_bring 34 = .ok (.getfield 56, 3) := by decide +kernel
theorem dX7_bring_37 : decode cX7_bring 37 = .ok (.aload_n 0, 1) := by decide +kernel
theorem dX7_bring_38 : decode cX7_bring 38 = .ok (.getfield 26, 3) := by decide +kernel
theorem dX7_bring_41 : decode cX7_bring 41 = .ok (.iload_n 1, 1) := by decide +kernel
theorem dX7_bring_42 : decode cX7_bring 42 = .ok (.invokevirtual 271, 3) := by decide +kernel
theorem dX7_bring_45 : decode cX7_bring 45 = .ok (.istore_n 3, 1) := by decide +kernel
theorem dX7_bring_46 : decode cX7_bring 46 = .ok (.iload_n 2, 1) := by decide +kernel
theorem dX7_bring_47 : decode cX7_bring 47 = .ok (.ifCond .ne 7, 3) := by decide +kernel
theorem dX7_bring_50 : decode cX7_bring 50 = .ok (.iload_n 3, 1) := by decide +kernel
theorem dX7_bring_51 : decode cX7_bring 51 = .ok (.goto 16, 3) := by decide +kernel
theorem dX7_bring_54 : decode cX7_bring 54 = .ok (.aload_n 0, 1) := by decide +kernel
theorem dX7_bring_55 : decode cX7_bring 55 = .ok (.getfield 56, 3) := by decide +kernel
theorem dX7_bring_58 : decode cX7_bring 58 = .ok (.aload_n 0, 1) := by decide +kernel
theorem dX7_bring_59 : decode cX7_bring 59 = .ok (.getfield 26, 3) := by decide +kernel
theorem dX7_bring_62 : decode cX7_bring 62 = .ok (.iload_n 3, 1) := by decide +kernel
theorem dX7_bring_63 : decode cX7_bring 63 = .ok (.iload_n 1, 1) := by decide +kernel
theorem dX7_bring_64 : decode cX7_bring 64 = .ok (.invokevirtual 274, 3) := by decide +kernel
theorem dX7_bring_67 : decode cX7_bring 67 = .ok (.ireturn, 1) := by decide +kernel
theorem dX7_lack_0 : decode cX7_lack 0 = .ok (.aload_n 0, 1) := by decide +kernel
theorem dX7_lack_1 : decode cX7_lack 1 = .ok (.invokevirtual 151, 3) := by decide +kernel
theorem dX7_lack_4 : decode cX7_lack 4 = .ok (.ifCond .eq 8, 3) := by decide +kernel
theorem dX7_lack_7 : decode cX7_lack 7 = .ok (.ldc 147, 2) := by decide +kernel
theorem dX7_lack_9 : decode cX7_lack 9 = .ok (.goto 10, 3) := by decide +kernel
theorem dX7_lack_12 : decode cX7_lack 12 = .ok (.aload_n 0, 1) := by decide +kernel
theorem dX7_lack_13 : decode cX7_lack 13 = .ok (.getfield 26, 3) := by decide +kernel
theorem dX7_lack_16 : decode cX7_lack 16 = .ok (.invokevirtual 277, 3) := by decide +kernel
theorem dX7_lack_19 : decode cX7_lack 19 = .ok (.ireturn, 1) := by decide +kernel
theorem dX7_who_0 : decode cX7_who 0 = .ok (.aload_n 0, 1) := by decide +kernel
theorem dX7_who_1 : decode cX7_who 1 = .ok (.getfield 26, 3) := by decide +kernel
theorem dX7_who_4 : decode cX7_who 4 = .ok (.iload_n 1, 1) := by decide +kernel
theorem dX7_who_5 : decode cX7_who 5 = .ok (.invokevirtual 166, 3) := by decide +kernel
theorem dX7_who_8 : decode cX7_who 8 = .ok (.ifCond .eq 21, 3) := by decide +kernel
theorem dX7_who_11 : decode cX7_who 11 = .ok (.iload_n 2, 1) := by decide +kernel
theorem dX7_who_12 : decode cX7_who 12 = .ok (.ifCond .lt 17, 3) := by decide +kernel
theorem dX7_who_15 : decode cX7_who 15 = .ok (.iload_n 2, 1) := by decide +kernel
theorem dX7_who_16 : decode cX7_who 16 = .ok (.iconst 2, 1) := by decide +kernel
theorem dX7_who_17 : decode cX7_who 17 = .ok (.if_icmp .gt 12, 3) := by decide +kernel
theorem dX7_who_20 : decode cX7_who 20 = .ok (.iload_n 3, 1) := by decide +kernel
theorem dX7_who_21 : decode cX7_who 21 = .ok (.iload 5, 2) := by decide +kernel
theorem dX7_who_23 : decode cX7_who 23 = .ok (.invokestatic 280, 3) := by decide +kernel
theorem dX7_who_26 : decode cX7_who 26 = .ok (.ifCond .ne 6, 3) := by decide +kernel
theorem dX7_who_29 : decode cX7_who 29 = .ok (.ldc 78, 2) := by decide +kernel
theorem dX7_who_31 : decode cX7_who 31 = .ok (.ireturn, 1) := by decide +kernel
theorem dX7_who_32 : decode cX7_who 32 = .ok (.aload_n 0, 1) := by decide +kernel
theorem dX7_who_33 : decode cX7_who 33 = .ok (.getfield 10, 3) := by decide +kernel
theorem dX7_who_36 : decode cX7_who 36 = .ok (.iload_n 3, 1) := by decide +kernel
theorem dX7_who_37 : decode cX7_who 37 = .ok (.iload 4, 2) := by decide +kernel
theorem dX7_who_39 : decode cX7_who 39 = .ok (.iload 5, 2) := by decide +kernel
theorem dX7_who_41 : decode cX7_who 41 = .ok (.invokevirtual 90, 3) := by decide +kernel
theorem dX7_who_44 : decode cX7_who 44 = .ok (.istore 6, 2) := by decide +kernel
theorem dX7_who_46 : decode cX7_who 46 = .ok (.iload 6, 2) := by decide +kernel
theorem dX7_who_48 : decode cX7_who 48 = .ok (.ifCond .eq 10, 3) := by decide +kernel
theorem dX7_who_51 : decode cX7_who 51 = .ok (.aload_n 0, 1) := by decide +kernel
theorem dX7_who_52 : decode cX7_who 52 = .ok (.iload 6, 2) := by decide +kernel
theorem dX7_who_54 : decode cX7_who 54 = .ok (.invokevirtual 79, 3) := by decide +kernel
theorem dX7_who_57 : decode cX7_who 57 = .ok (.ireturn, 1) := by decide +kernel
theorem dX7_who_58 : decode cX7_who 58 = .ok (.aload_n 0, 1) := by decide +kernel
theorem dX7_who_59 : decode cX7_who 59 = .ok (.getfield 49, 3) := by decide +kernel
theorem dX7_who_62 : decode cX7_who 62 = .ok (.aload_n 0, 1) := by decide +kernel
theorem dX7_who_63 : decode cX7_who 63 = .ok (.getfield 10, 3) := by decide +kernel
theorem dX7_who_66 : decode cX7_who 66 = .ok (.iload_n 3, 1) := by decide +kernel
theorem dX7_who_67 : decode cX7_who 67 = .ok (.iload 4, 2) := by decide +kernel
theorem dX7_who_69 : decode cX7_who 69 = .ok (.iload 5, 2) := by decide +kernel
theorem dX7_who_71 : decode cX7_who 71 = .ok (.invokevirtual 284, 3) := by decide +kernel
theorem dX7_who_74 : decode cX7_who 74 = .ok (.aload_n 0, 1) := by decide +kernel
theorem dX7_who_75 : decode cX7_who 75 = .ok (.aload_n 0, 1) := by decide +kernel
theorem dX7_who_76 : decode cX7_who 76 = .ok (.getfield 49, 3) := by decide +kernel
theorem dX7_who_79 : decode cX7_who 79 = .ok (.aload_n 0, 1) := by decide +kernel
theorem dX7_who_80 : decode cX7_who 80 = .ok (.getfield 26, 3) := by decide +kernel
theorem dX7_who_83 : decode cX7_who 83 = .ok (.iload_n 1, 1) := by decide +kernel
theorem dX7_who_84 : decode cX7_who 84 = .ok (.iload_n 2, 1) := by decide +kernel
theorem dX7_who_85 : decode cX7_who 85 = .ok (.invokevirtual 288, 3) := by decide +kernel
theorem dX7_who_88 : decode cX7_who 88 = .ok (.invokevirtual 87, 3) := by decide +kernel
theorem dX7_who_91 : decode cX7_who 91 = .ok (.ireturn, 1) := by decide +kernel
theorem dX7_wanted_0 : decode cX7_wanted 0 = .ok (.aload_n 0, 1) := by decide +kernel
theorem dX7_wanted_1 : decode cX7_wanted 1 = .ok (.getfield 26, 3) := by decide +kernel
theorem dX7_wanted_4 : decode cX7_wanted 4 = .ok (.iload_n 1, 1) := by decide +kernel
theorem dX7_wanted_5 : decode cX7_wanted 5 = .ok (.invokevirtual 185, 3) := by decide +kernel
theorem dX7_wanted_8 : decode cX7_wanted 8 = .ok (.ifCond .eq 21, 3) := by decide +kernel
theorem dX7_wanted_11 : decode cX7_wanted 11 = .ok (.iload_n 2, 1) := by decide +kernel
theorem dX7_wanted_12 : decode cX7_wanted 12 = .ok (.ifCond .lt 17, 3) := by decide +kernel
theorem dX7_wanted_15 : decode cX7_wanted 15 = .ok (.iload_n 2, 1) := by decide +kernel
theorem dX7_wanted_16 : decode cX7_wanted 16 = .ok (.iconst 1, 1) := by decide +kernel
theorem dX7_wanted_17 : decode cX7_wanted 17 = .ok (.if_icmp .gt 12, 3) := by decide +kernel
theorem dX7_wanted_20 : decode cX7_wanted 20 = .ok (.iload_n 3, 1) := by decide +kernel
theorem dX7_wanted_21 : decode cX7_wanted 21 = .ok (.iload 5, 2) := by decide +kernel
theorem dX7_wanted_23 : decode cX7_wanted 23 = .ok (.invokestatic 280, 3) := by decide +kernel
theorem dX7_wanted_26 : decode cX7_wanted 26 = .ok (.ifCond .ne 6, 3) := by decide +kernel
theorem dX7_wanted_29 : decode cX7_wanted 29 = .ok (.ldc 78, 2) := by decide +kernel
theorem dX7_wanted_31 : decode cX7_wanted 31 = .ok (.ireturn, 1) := by decide +kernel
theorem dX7_wanted_32 : decode cX7_wanted 32 = .ok (.aload_n 0, 1) := by decide +kernel
theorem dX7_wanted_33 : decode cX7_wanted 33 = .ok (.getfield 26, 3) := by decide +kernel
theorem dX7_wanted_36 : decode cX7_wanted 36 = .ok (.getfield 188, 3) := by decide +kernel
theorem dX7_wanted_39 : decode cX7_wanted 39 = .ok (.iload_n 1, 1) := by decide +kernel
theorem dX7_wanted_40 : decode cX7_wanted 40 = .ok (.iaload, 1) := by decide +kernel
theorem dX7_wanted_41 : decode cX7_wanted 41 = .ok (.ifCond .eq 6, 3) := by decide +kernel
theorem dX7_wanted_44 : decode cX7_wanted 44 = .ok (.ldc 147, 2) := by decide +kernel
theorem dX7_wanted_46 : decode cX7_wanted 46 = .ok (.ireturn, 1) := by decide +kernel
theorem dX7_wanted_47 : decode cX7_wanted 47 = .ok (.aload_n 0, 1) := by decide +kernel
theorem dX7_wanted_48 : decode cX7_wanted 48 = .ok (.getfield 10, 3) := by decide +kernel
theorem dX7_wanted_51 : decode cX7_wanted 51 = .ok (.iload_n 3, 1) := by decide +kernel
theorem dX7_wanted_52 : decode cX7_wanted 52 = .ok (.iload 4, 2) := by decide +kernel
theorem dX7_wanted_54 : decode cX7_wanted 54 = .ok (.iload 5, 2) := by decide +kernel
theorem dX7_wanted_56 : decode cX7_wanted 56 = .ok (.invokevirtual 90, 3) := by decide +kernel
theorem dX7_wanted_59 : decode cX7_wanted 59 = .ok (.istore 6, 2) := by decide +kernel
theorem dX7_wanted_61 : decode cX7_wanted 61 = .ok (.iload 6, 2) := by decide +kernel
theorem dX7_wanted_63 : decode cX7_wanted 63 = .ok (.ifCond .eq 10, 3) := by decide +kernel
theorem dX7_wanted_66 : decode cX7_wanted 66 = .ok (.aload_n 0, 1) := by decide +kernel
theorem dX7_wanted_67 : decode cX7_wanted 67 = .ok (.iload 6, 2) := by decide +kernel
theorem dX7_wanted_69 : decode cX7_wanted 69 = .ok (.invokevirtual 79, 3) := by decide +kernel
theorem dX7_wanted_72 : decode cX7_wanted 72 = .ok (.ireturn, 1) := by decide +kernel
theorem dX7_wanted_73 : decode cX7_wanted 73 = .ok (.aload_n 0, 1) := by decide +kernel
theorem dX7_wanted_74 : decode cX7_wanted 74 = .ok (.getfield 49, 3) := by decide +kernel
theorem dX7_wanted_77 : decode cX7_wanted 77 = .ok (.aload_n 0, 1) := by decide +kernel
theorem dX7_wanted_78 : decode cX7_wanted 78 = .ok (.getfield 10, 3) := by decide +kernel
theorem dX7_wanted_81 : decode cX7_wanted 81 = .ok (.iload_n 3, 1) := by decide +kernel
theorem dX7_wanted_82 : decode cX7_wanted 82 = .ok (.iload 4, 2) := by decide +kernel
theorem dX7_wanted_84 : decode cX7_wanted 84 = .ok (.iload 5, 2) := by decide +kernel
theorem dX7_wanted_86 : decode cX7_wanted 86 = .ok (.invokevirtual 284, 3) := by decide +kernel
theorem dX7_wanted_89 : decode cX7_wanted 89 = .ok (.aload_n 0, 1) := by decide +kernel
theorem dX7_wanted_90 : decode cX7_wanted 90 = .ok (.iload_n 2, 1) := by decide +kernel
theorem dX7_wanted_91 : decode cX7_wanted 91 = .ok (.ifCond .ne 18, 3) := by decide +kernel
theorem dX7_wanted_94 : decode cX7_wanted 94 = .ok (.aload_n 0, 1) := by decide +kernel
theorem dX7_wanted_95 : decode cX7_wanted 95 = .ok (.getfield 49, 3) := by decide +kernel
theorem dX7_wanted_98 : decode cX7_wanted 98 = .ok (.aload_n 0, 1) := by decide +kernel
theorem dX7_wanted_99 : decode cX7_wanted 99 = .ok (.getfield 26, 3) := by decide +kernel
theorem dX7_wanted_102 : decode cX7_wanted 102 = .ok (.iload_n 1, 1) := by decide +kernel
theorem dX7_wanted_103 : decode cX7_wanted 103 = .ok (.invokevirtual 291, 3) := by decide +kernel
theorem dX7_wanted_106 : decode cX7_wanted 106 = .ok (.goto 15, 3) := by decide +kernel
theorem dX7_wanted_109 : decode cX7_wanted 109 = .ok (.aload_n 0, 1) := by decide +kernel
theorem dX7_wanted_110 : decode cX7_wanted 110 = .ok (.getfield 49, 3) := by decide +kernel
theorem dX7_wanted_113 : decode cX7_wanted 113 = .ok (.aload_n 0, 1) := by decide +kernel
theorem dX7_wanted_114 : decode cX7_wanted 114 = .ok (.getfield 26, 3) := by decide +kernel
theorem dX7_wanted_117 : decode cX7_wanted 117 = .ok (.iload_n 1, 1) := by decide +kernel
theorem dX7_wanted_118 : decode cX7_wanted 118 = .ok (.invokevirtual 294, 3) := by decide +kernel
theorem dX7_wanted_121 : decode cX7_wanted 121 = .ok (.invokevirtual 87, 3) := by decide +kernel
theorem dX7_wanted_124 : decode cX7_wanted 124 = .ok (.ireturn, 1) := by decide +kernel
theorem dX7_wasOff_0 : decode cX7_wasOff 0 = .ok (.aload_n 0, 1) := by decide +kernel
theorem dX7_wasOff_1 : decode cX7_wasOff 1 = .ok (.invokevirtual 151, 3) := by decide +kernel
theorem dX7_wasOff_4 : decode cX7_wasOff 4 = .ok (.ifCond .eq 6, 3) := by decide +kernel
theorem dX7_wasOff_7 : decode cX7_wasOff 7 = .ok (.ldc 147, 2) := by decide +kernel
theorem dX7_wasOff_9 : decode cX7_wasOff 9 = .ok (.ireturn, 1) := by decide +kernel
theorem dX7_wasOff_10 : decode cX7_wasOff 10 = .ok (.iload_n 1, 1) := by decide +kernel
theorem dX7_wasOff_11 : decode cX7_wasOff 11 = .ok (.iload_n 3, 1) := by decide +kernel
theorem dX7_wasOff_12 : decode cX7_wasOff 12 = .ok (.invokestatic 280, 3) := by decide +kernel
theorem dX7_wasOff_15 : decode cX7_wasOff 15 = .ok (.ifCond .ne 6, 3) := by decide +kernel
theorem dX7_wasOff_18 : decode cX7_wasOff 18 = .ok (.ldc 78, 2) := by decide +kernel
theorem dX7_wasOff_20 : decode cX7_wasOff 20 = .ok (.ireturn, 1) := by decide +kernel
theorem dX7_wasOff_21 : decode cX7_wasOff 21 = .ok (.aload_n 0, 1) := by decide +kernel
theorem dX7_wasOff_22 : decode cX7_wasOff 22 = .ok (.getfield 10, 3) := by decide +kernel
theorem dX7_wasOff_25 : decode cX7_wasOff 25 = .ok (.iload_n 1, 1) := by decide +kernel
theorem dX7_wasOff_26 : decode cX7_wasOff 26 = .ok (.iload_n 2, 1) := by decide +kernel
theorem dX7_wasOff_27 : decode cX7_wasOff 27 = .ok (.iload_n 3, 1) := by decide +kernel
theorem dX7_wasOff_28 : decode cX7_wasOff 28 = .ok (.invokevirtual 90, 3) := by decide +kernel
theorem dX7_wasOff_31 : decode cX7_wasOff 31 = .ok (.istore 4, 2) := by decide +kernel
theorem dX7_wasOff_33 : decode cX7_wasOff 33 = .ok (.iload 4, 2) := by decide +kernel
theorem dX7_wasOff_35 : decode cX7_wasOff 35 = .ok (.ifCond .eq 10, 3) := by decide +kernel
theorem dX7_wasOff_38 : decode cX7_wasOff 38 = .ok (.aload_n 0, 1) := by decide +kernel
theorem dX7_wasOff_39 : decode cX7_wasOff 39 = .ok (.iload 4, 2) := by decide +kernel
theorem dX7_wasOff_41 : decode cX7_wasOff 41 = .ok (.invokevirtual 79, 3) := by decide +kernel
theorem dX7_wasOff_44 : decode cX7_wasOff 44 = .ok (.ireturn, 1) := by decide +kernel
theorem dX7_wasOff_45 : decode cX7_wasOff 45 = .ok (.aload_n 0, 1) := by decide +kernel
theorem dX7_wasOff_46 : decode cX7_wasOff 46 = .ok (.getfield 49, 3) := by decide +kernel
theorem dX7_wasOff_49 : decode cX7_wasOff 49 = .ok (.aload_n 0, 1) := by decide +kernel
theorem dX7_wasOff_50 : decode cX7_wasOff 50 = .ok (.getfield 10, 3) := by decide +kernel
theorem dX7_wasOff_53 : decode cX7_wasOff 53 = .ok (.iload_n 1, 1) := by decide +kernel
theorem dX7_wasOff_54 : decode cX7_wasOff 54 = .ok (.iload_n 2, 1) := by decide +kernel
theorem dX7_wasOff_55 : decode cX7_wasOff 55 = .ok (.iload_n 3, 1) := by decide +kernel
theorem dX7_wasOff_56 : decode cX7_wasOff 56 = .ok (.invokevirtual 284, 3) := by decide +kernel
theorem dX7_wasOff_59 : decode cX7_wasOff 59 = .ok (.aload_n 0, 1) := by decide +kernel
theorem dX7_wasOff_60 : decode cX7_wasOff 60 = .ok (.aload_n 0, 1) := by decide +kernel
theorem dX7_wasOff_61 : decode cX7_wasOff 61 = .ok (.getfield 49, 3) := by decide +kernel
theorem dX7_wasOff_64 : decode cX7_wasOff 64 = .ok (.aload_n 0, 1) := by decide +kernel
theorem dX7_wasOff_65 : decode cX7_wasOff 65 = .ok (.getfield 26, 3) := by decide +kernel
theorem dX7_wasOff_68 : decode cX7_wasOff 68 = .ok (.invokevirtual 297, 3) := by decide +kernel
theorem dX7_wasOff_71 : decode cX7_wasOff 71 = .ok (.invokevirtual 87, 3) := by decide +kernel
theorem dX7_wasOff_74 : decode cX7_wasOff 74 = .ok (.ireturn, 1) := by decide +kernel
theorem dX7_wander_0 : decode cX7_wander 0 = .ok (.aload_n 0, 1) := by decide +kernel
theorem dX7_wander_1 : decode cX7_wander 1 = .ok (.invokevirtual 151, 3) := by decide +kernel
theorem dX7_wander_4 : decode cX7_wander 4 = .ok (.ifCond .eq 7, 3) := by decide +kernel
theorem dX7_wander_7 : decode cX7_wander 7 = .ok (.ldc2_w 300, 3) := by decide +kernel
theorem dX7_wander_10 : decode cX7_wander 10 = .ok (.lreturn, 1) := by decide +kernel
theorem dX7_wander_11 : decode cX7_wander 11 = .ok (.iload_n 1, 1) := by decide +kernel
theorem dX7_wander_12 : decode cX7_wander 12 = .ok (.ifCond .lt 20, 3) := by decide +kernel
theorem dX7_wander_15 : decode cX7_wander 15 = .ok (.iload_n 1, 1) := by decide +kernel
theorem dX7_wander_16 : decode cX7_wander 16 = .ok (.sipush 999, 3) := by decide +kernel
theorem dX7_wander_19 : decode cX7_wander 19 = .ok (.if_icmp .gt 13, 3) := by decide +kernel
theorem dX7_wander_22 : decode cX7_wander 22 = .ok (.iload_n 2, 1) := by decide +kernel
theorem dX7_wander_23 : decode cX7_wander 23 = .ok (.ifCond .lt 9, 3) := by decide +kernel
theorem dX7_wander_26 : decode cX7_wander 26 = .ok (.iload_n 2, 1) := by decide +kernel
theorem dX7_wander_27 : decode cX7_wander 27 = .ok (.bipush 30, 2) := by decide +kernel
theorem dX7_wander_29 : decode cX7_wander 29 = .ok (.if_icmp .le 7, 3) := by decide +kernel
theorem dX7_wander_32 : decode cX7_wander 32 = .ok (.ldc2_w 302, 3) := by decide +kernel
theorem dX7_wander_35 : decode cX7_wander 35 = .ok (.lreturn, 1) := by decide +kernel
theorem dX7_wander_36 : decode cX7_wander 36 = .ok (.iload_n 3, 1) := by decide +kernel
theorem dX7_wander_37 : decode cX7_wander 37 = .ok (.ifCond .lt 20, 3) := by decide +kernel
theorem dX7_wander_40 : decode cX7_wander 40 = .ok (.iload_n 3, 1) := by decide +kernel
theorem dX7_wander_41 : decode cX7_wander 41 = .ok (.bipush 10, 2) := by decide +kernel
theorem dX7_wander_43 : decode cX7_wander 43 = .ok (.if_icmp .gt 14, 3) := by decide +kernel
theorem dX7_wander_46 : decode cX7_wander 46 = .ok (.iload 4, 2) := by decide +kernel
theorem dX7_wander_48 : decode cX7_wander 48 = .ok (.ifCond .lt 9, 3) := by decide +kernel
theorem dX7_wander_51 : decode cX7_wander 51 = .ok (.iload 4, 2) := by decide +kernel
theorem dX7_wander_53 : decode cX7_wander 53 = .ok (.iconst 1, 1) := by decide +kernel
theorem dX7_wander_54 : decode cX7_wander 54 = .ok (.if_icmp .le 7, 3) := by decide +kernel
theorem dX7_wander_57 : decode cX7_wander 57 = .ok (.ldc2_w 302, 3) := by decide +kernel
theorem dX7_wander_60 : decode cX7_wander 60 = .ok (.lreturn, 1) := by decide +kernel
theorem dX7_wander_61 : decode cX7_wander 61 = .ok (.aload_n 0, 1) := by decide +kernel
theorem dX7_wander_62 : decode cX7_wander 62 = .ok (.getfield 49, 3) := by decide +kernel
theorem dX7_wander_65 : decode cX7_wander 65 = .ok (.aload_n 0, 1) := by decide +kernel
theorem dX7_wander_66 : decode cX7_wander 66 = .ok (.getfield 26, 3) := by decide +kernel
theorem dX7_wander_69 : decode cX7_wander 69 = .ok (.iload_n 1, 1) := by decide +kernel
theorem dX7_wander_70 : decode cX7_wander 70 = .ok (.iload_n 2, 1) := by decide +kernel
theorem dX7_wander_71 : decode cX7_wander 71 = .ok (.iload_n 3, 1) := by decide +kernel
theorem dX7_wander_72 : decode cX7_wander 72 = .ok (.invokevirtual 304, 3) := by decide +kernel
theorem dX7_wander_75 : decode cX7_wander 75 = .ok (.lstore 5, 2) := by decide +kernel
theorem dX7_wander_77 : decode cX7_wander 77 = .ok (.bipush 10, 2) := by decide +kernel
theorem dX7_wander_79 : decode cX7_wander 79 = .ok (.aload_n 0, 1) := by decide +kernel
theorem dX7_wander_80 : decode cX7_wander 80 = .ok (.getfield 26, 3) := by decide +kernel
theorem dX7_wander_83 : decode cX7_wander 83 = .ok (.iconst 0, 1) := by decide +kernel
theorem dX7_wander_84 : decode cX7_wander 84 = .ok (.invokevirtual 195, 3) := by decide +kernel
theorem dX7_wander_87 : decode cX7_wander 87 = .ok (.invokestatic 266, 3) := by decide +kernel
theorem dX7_wander_90 : decode cX7_wander 90 = .ok (.invokestatic 308, 3) := by decide +kernel
theorem dX7_wander_93 : decode cX7_wander 93 = .ok (.lstore 7, 2) := by decide +kernel
theorem dX7_wander_95 : decode cX7_wander 95 = .ok (.lload 5, 2) := by decide +kernel
theorem dX7_wander_97 : decode cX7_wander 97 = .ok (.lload 7, 2) := by decide +kernel
theorem dX7_wander_99 : decode cX7_wander 99 = .ok (.invokestatic 312, 3) := by decide +kernel
theorem dX7_wander_102 : decode cX7_wander 102 = .ok (.lstore 9, 2) := by decide +kernel
theorem dX7_wander_104 : decode cX7_wander 104 = .ok (.iload 4, 2) := by decide +kernel
theorem dX7_wander_106 : decode cX7_wander 106 = .ok (.ifCond .ne 8, 3) := by decide +kernel
theorem dX7_wander_109 : decode cX7_wander 109 = .ok (.lload 5, 2) := by decide +kernel
theorem dX7_wander_111 : decode cX7_wander 111 = .ok (.goto 5, 3) := by decide +kernel
theorem dX7_wander_114 : decode cX7_wander 114 = .ok (.lload 7, 2) := by decide +kernel
theorem dX7_wander_116 : decode cX7_wander 116 = .ok (.lstore 11, 2) := by decide +kernel
theorem dX7_wander_118 : decode cX7_wander 118 = .ok (.lload 9, 2) := by decide +kernel
theorem dX7_wander_120 : decode cX7_wander 120 = .ok (.lconst 0, 1) := by decide +kernel
theorem dX7_wander_121 : decode cX7_wander 121 = .ok (.lcmp, 1) := by decide +kernel
theorem dX7_wander_122 : decode cX7_wander 122 = .ok (.ifCond .le 11, 3) := by decide +kernel
theorem dX7_wander_125 : decode cX7_wander 125 = .ok (.lload 11, 2) := by decide +kernel
theorem dX7_wander_127 : decode cX7_wander 127 = .ok (.lload 9, 2) := by decide +kernel
theorem dX7_wander_129 : decode cX7_wander 129 = .ok (.ldiv, 1) := by decide +kernel
theorem dX7_wander_130 : decode cX7_wander 130 = .ok (.goto 5, 3) := by decide +kernel
theorem dX7_wander_133 : decode cX7_wander 133 = .ok (.lload 11, 2) := by decide +kernel
theorem dX7_wander_135 : decode cX7_wander 135 = .ok (.lreturn, 1) := by decide +kernel
theorem dX7_drawn_0 : decode cX7_drawn 0 = .ok (.aload_n 0, 1) := by decide +kernel
theorem dX7_drawn_1 : decode cX7_drawn 1 = .ok (.invokevirtual 151, 3) := by decide +kernel
theorem dX7_drawn_4 : decode cX7_drawn 4 = .ok (.ifCond .eq 6, 3) := by decide +kernel
theorem dX7_drawn_7 : decode cX7_drawn 7 = .ok (.ldc 147, 2) := by decide +kernel
theorem dX7_drawn_9 : decode cX7_drawn 9 = .ok (.ireturn, 1) := by decide +kernel
theorem dX7_drawn_10 : decode cX7_drawn 10 = .ok (.iload_n 1, 1) := by decide +kernel
theorem dX7_drawn_11 : decode cX7_drawn 11 = .ok (.ifCond .lt 30, 3) := by decide +kernel
theorem dX7_drawn_14 : decode cX7_drawn 14 = .ok (.iload_n 1, 1) := by decide +kernel
theorem dX7_drawn_15 : decode cX7_drawn 15 = .ok (.bipush 60, 2) := by decide +kernel
theorem dX7_drawn_17 : decode cX7_drawn 17 = .ok (.if_icmp .gt 24, 3) := by decide +kernel
theorem dX7_drawn_20 : decode cX7_drawn 20 = .ok (.iload_n 2, 1) := by decide +kernel
theorem dX7_drawn_21 : decode cX7_drawn 21 = .ok (.iconst 1, 1) := by decide +kernel
theorem dX7_drawn_22 : decode cX7_drawn 22 = .ok (.if_icmp .lt 19, 3) := by decide +kernel
theorem dX7_drawn_25 : decode cX7_drawn 25 = .ok (.iload_n 2, 1) := by decide +kernel
theorem dX7_drawn_26 : decode cX7_drawn 26 = .ok (.ldc_w 316, 3) := by decide +kernel
theorem dX7_drawn_29 : decode cX7_drawn 29 = .ok (.if_icmp .gt 12, 3) := by decide +kernel
theorem dX7_drawn_32 : decode cX7_drawn 32 = .ok (.iload_n 3, 1) := by decide +kernel
theorem dX7_drawn_33 : decode cX7_drawn 33 = .ok (.ifCond .lt 8, 3) := by decide +kernel
theorem dX7_drawn_36 : decode cX7_drawn 36 = .ok (.iload_n 3, 1) := by decide +kernel
theorem dX7_drawn_37 : decode cX7_drawn 37 = .ok (.iconst 1, 1) := by decide +kernel
theorem dX7_drawn_38 : decode cX7_drawn 38 = .ok (.if_icmp .le 6, 3) := by decide +kernel
theorem dX7_drawn_41 : decode cX7_drawn 41 = .ok (.ldc 78, 2) := by decide +kernel
theorem dX7_drawn_43 : decode cX7_drawn 43 = .ok (.ireturn, 1) := by decide +kernel
theorem dX7_drawn_44 : decode cX7_drawn 44 = .ok (.aload_n 0, 1) := by decide +kernel
theorem dX7_drawn_45 : decode cX7_drawn 45 = .ok (.getfield 49, 3) := by decide +kernel
theorem dX7_drawn_48 : decode cX7_drawn 48 = .ok (.aload_n 0, 1) := by decide +kernel
theorem dX7_drawn_49 : decode cX7_drawn 49 = .ok (.getfield 26, 3) := by decide +kernel
theorem dX7_drawn_52 : decode cX7_drawn 52 = .ok (.iload_n 1, 1) := by decide +kernel
theorem dX7_drawn_53 : decode cX7_drawn 53 = .ok (.iload_n 2, 1) := by decide +kernel
theorem dX7_drawn_54 : decode cX7_drawn 54 = .ok (.iload_n 3, 1) := by decide +kernel
theorem dX7_drawn_55 : decode cX7_drawn 55 = .ok (.invokevirtual 317, 3) := by decide +kernel
theorem dX7_drawn_58 : decode cX7_drawn 58 = .ok (.ireturn, 1) := by decide +kernel
theorem dX7_image_0 : decode cX7_image 0 = .ok (.iload_n 1, 1) := by decide +kernel
theorem dX7_image_1 : decode cX7_image 1 = .ok (.ifCond .lt 8, 3) := by decide +kernel
theorem dX7_image_4 : decode cX7_image 4 = .ok (.iload_n 1, 1) := by decide +kernel
theorem dX7_image_5 : decode cX7_image 5 = .ok (.iconst 1, 1) := by decide +kernel
theorem dX7_image_6 : decode cX7_image 6 = .ok (.if_icmp .le 6, 3) := by decide +kernel
theorem dX7_image_9 : decode cX7_image 9 = .ok (.ldc 78, 2) := by decide +kernel
theorem dX7_image_11 : decode cX7_image 11 = .ok (.ireturn, 1) := by decide +kernel
theorem dX7_image_12 : decode cX7_image 12 = .ok (.aload_n 0, 1) := by decide +kernel
theorem dX7_image_13 : decode cX7_image 13 = .ok (.invokevirtual 151, 3) := by decide +kernel
theorem dX7_image_16 : decode cX7_image 16 = .ok (.ifCond .eq 6, 3) := by decide +kernel
theorem dX7_image_19 : decode cX7_image 19 = .ok (.ldc 147, 2) := by decide +kernel
theorem dX7_image_21 : decode cX7_image 21 = .ok (.ireturn, 1) := by decide +kernel
theorem dX7_image_22 : decode cX7_image 22 = .ok (.aload_n 0, 1) := by decide +kernel
theorem dX7_image_23 : decode cX7_image 23 = .ok (.iload_n 1, 1) := by decide +kernel
theorem dX7_image_24 : decode cX7_image 24 = .ok (.invokevirtual 321, 3) := by decide +kernel
theorem dX7_image_27 : decode cX7_image 27 = .ok (.aload_n 0, 1) := by decide +kernel
theorem dX7_image_28 : decode cX7_image 28 = .ok (.getfield 26, 3) := by decide +kernel
theorem dX7_image_31 : decode cX7_image 31 = .ok (.invokevirtual 131, 3) := by decide +kernel
theorem dX7_image_34 : decode cX7_image 34 = .ok (.iconst 1, 1) := by decide +kernel
theorem dX7_image_35 : decode cX7_image 35 = .ok (.ireturn, 1) := by decide +kernel
theorem dX7_restore_0 : decode cX7_restore 0 = .ok (.iload_n 1, 1) := by decide +kernel
theorem dX7_restore_1 : decode cX7_restore 1 = .ok (.ifCond .lt 8, 3) := by decide +kernel
theorem dX7_restore_4 : decode cX7_restore 4 = .ok (.iload_n 1, 1) := by decide +kernel
theorem dX7_restore_5 : decode cX7_restore 5 = .ok (.iconst 1, 1) := by decide +kernel
theorem dX7_restore_6 : decode cX7_restore 6 = .ok (.if_icmp .le 6, 3) := by decide +kernel
theorem dX7_restore_9 : decode cX7_restore 9 = .ok (.ldc 78, 2) := by decide +kernel
theorem dX7_restore_11 : decode cX7_restore 11 = .ok (.ireturn, 1) := by decide +kernel
theorem dX7_restore_12 : decode cX7_restore 12 = .ok (.aload_n 0, 1) := by decide +kernel
theorem dX7_restore_13 : decode cX7_restore 13 = .ok (.iload_n 1, 1) := by decide +kernel
theorem dX7_restore_14 : decode cX7_restore 14 = .ok (.invokevirtual 321, 3) := by decide +kernel
theorem dX7_restore_17 : decode cX7_restore 17 = .ok (.astore_n 2, 1) := by decide +kernel
theorem dX7_restore_18 : decode cX7_restore 18 = .ok (.aload_n 2, 1) := by decide +kernel
theorem dX7_restore_19 : decode cX7_restore 19 = .ok (.getfield 138, 3) := by decide +kernel
theorem dX7_restore_22 : decode cX7_restore 22 = .ok (.ifCond .ne 6, 3) := by decide +kernel
theorem dX7_restore_25 : decode cX7_restore 25 = .ok (.ldc 147, 2) := by decide +kernel
theorem dX7_restore_27 : decode cX7_restore 27 = .ok (.ireturn, 1) := by decide +kernel
theorem dX7_restore_28 : decode cX7_restore 28 = .ok (.aload_n 0, 1) := by decide +kernel
theorem dX7_restore_29 : decode cX7_restore 29 = .ok (.getfield 26, 3) := by decide +kernel
theorem dX7_restore_32 : decode cX7_restore 32 = .ok (.aload_n 2, 1) := by decide +kernel
theorem dX7_restore_33 : decode cX7_restore 33 = .ok (.invokevirtual 131, 3) := by decide +kernel
theorem dX7_restore_36 : decode cX7_restore 36 = .ok (.aload_n 0, 1) := by decide +kernel
theorem dX7_restore_37 : decode cX7_restore 37 = .ok (.getfield 36, 3) := by decide +kernel
theorem dX7_restore_40 : decode cX7_restore 40 = .ok (.invokevirtual 135, 3) := by decide +kernel
theorem dX7_restore_43 : decode cX7_restore 43 = .ok (.iconst 1, 1) := by decide +kernel
theorem dX7_restore_44 : decode cX7_restore 44 = .ok (.ireturn, 1) := by decide +kernel
theorem dX7_kind_0 : decode cX7_kind 0 = .ok (.aload_n 0, 1) := by decide +kernel
theorem dX7_kind_1 : decode cX7_kind 1 = .ok (.getfield 26, 3) := by decide +kernel
theorem dX7_kind_4 : decode cX7_kind 4 = .ok (.iload_n 1, 1) := by decide +kernel
theorem dX7_kind_5 : decode cX7_kind 5 = .ok (.invokevirtual 166, 3) := by decide +kernel
theorem dX7_kind_8 : decode cX7_kind 8 = .ok (.ifCond .eq 15, 3) := by decide +kernel
theorem dX7_kind_11 : decode cX7_kind 11 = .ok (.aload_n 0, 1) := by decide +kernel
theorem dX7_kind_12 : decode cX7_kind 12 = .ok (.getfield 26, 3) := by decide +kernel
theorem dX7_kind_15 : decode cX7_kind 15 = .ok (.getfield 325, 3) := by decide +kernel
theorem dX7_kind_18 : decode cX7_kind 18 = .ok (.iload_n 1, 1) := by decide +kernel
theorem dX7_kind_19 : decode cX7_kind 19 = .ok (.iaload, 1) := by decide +kernel
theorem dX7_kind_20 : decode cX7_kind 20 = .ok (.goto 5, 3) := by decide +kernel
theorem dX7_kind_23 : decode cX7_kind 23 = .ok (.ldc 78, 2) := by decide +kernel
theorem dX7_kind_25 : decode cX7_kind 25 = .ok (.ireturn, 1) := by decide +kernel
theorem dX7_as_0 : decode cX7_as 0 = .ok (.aload_n 0, 1) := by decide +kernel
theorem dX7_as_1 : decode cX7_as 1 = .ok (.getfield 26, 3) := by decide +kernel
theorem dX7_as_4 : decode cX7_as 4 = .ok (.iload_n 1, 1) := by decide +kernel
theorem dX7_as_5 : decode cX7_as 5 = .ok (.invokevirtual 166, 3) := by decide +kernel
theorem dX7_as_8 : decode cX7_as 8 = .ok (.ifCond .eq 10, 3) := by decide +kernel
theorem dX7_as_11 : decode cX7_as 11 = .ok (.iload_n 2, 1) := by decide +kernel
theorem dX7_as_12 : decode cX7_as 12 = .ok (.invokestatic 328, 3) := by decide +kernel
theorem dX7_as_15 : decode cX7_as 15 = .ok (.ifCond .ne 6, 3) := by decide +kernel
theorem dX7_as_18 : decode cX7_as 18 = .ok (.ldc 78, 2) := by decide +kernel
theorem dX7_as_20 : decode cX7_as 20 = .ok (.ireturn, 1) := by decide +kernel
theorem dX7_as_21 : decode cX7_as 21 = .ok (.aload_n 0, 1) := by decide +kernel
theorem dX7_as_22 : decode cX7_as 22 = .ok (.getfield 26, 3) := by decide +kernel
theorem dX7_as_25 : decode cX7_as 25 = .ok (.getfield 325, 3) := by decide +kernel
theorem dX7_as_28 : decode cX7_as 28 = .ok (.iload_n 1, 1) := by decide +kernel
theorem dX7_as_29 : decode cX7_as 29 = .ok (.iaload, 1) := by decide +kernel
theorem dX7_as_30 : decode cX7_as 30 = .ok (.iload_n 2, 1) := by decide +kernel
theorem dX7_as_31 : decode cX7_as 31 = .ok (.invokestatic 331, 3) := by decide +kernel
theorem dX7_as_34 : decode cX7_as 34 = .ok (.ifCond .ne 9, 3) := by decide +kernel
theorem dX7_as_37 : decode cX7_as 37 = .ok (.aload_n 0, 1) := by decide +kernel
theorem dX7_as_38 : decode cX7_as 38 = .ok (.iconst 3, 1) := by decide +kernel
theorem dX7_as_39 : decode cX7_as 39 = .ok (.invokevirtual 79, 3) := by decide +kernel
theorem dX7_as_42 : decode cX7_as 42 = .ok (.ireturn, 1) := by decide +kernel
theorem dX7_as_43 : decode cX7_as 43 = .ok (.aload_n 0, 1) := by decide +kernel
theorem dX7_as_44 : decode cX7_as 44 = .ok (.iload_n 1, 1) := by decide +kernel
theorem dX7_as_45 : decode cX7_as 45 = .ok (.invokevirtual 87, 3) := by decide +kernel
theorem dX7_as_48 : decode cX7_as 48 = .ok (.ireturn, 1) := by decide +kernel
theorem dX7_ask_0 : decode cX7_ask 0 = .ok (.aload_n 0, 1) := by decide +kernel
theorem dX7_ask_1 : decode cX7_ask 1 = .ok (.getfield 26, 3) := by decide +kernel
theorem dX7_ask_4 : decode cX7_ask 4 = .ok (.iload_n 1, 1) := by decide +kernel
theorem dX7_ask_5 : decode cX7_ask 5 = .ok (.invokevirtual 166, 3) := by decide +kernel
theorem dX7_ask_8 : decode cX7_ask 8 = .ok (.ifCond .eq 12, 3) := by decide +kernel
theorem dX7_ask_11 : decode cX7_ask 11 = .ok (.iload_n 2, 1) := by decide +kernel
theorem dX7_ask_12 : decode cX7_ask 12 = .ok (.ifCond .lt 8, 3) := by decide +kernel
theorem dX7_ask_15 : decode cX7_ask 15 = .ok (.iload_n 2, 1) := by decide +kernel
theorem dX7_ask_16 : decode cX7_ask 16 = .ok (.iconst 1, 1) := by decide +kernel
theorem dX7_ask_17 : decode cX7_ask 17 = .ok (.if_icmp .le 6, 3) := by decide +kernel
theorem dX7_ask_20 : decode cX7_ask 20 = .ok (.ldc 78, 2) := by decide +kernel
theorem dX7_ask_22 : decode cX7_ask 22 = .ok (.ireturn, 1) := by decide +kernel
theorem dX7_ask_23 : decode cX7_ask 23 = .ok (.aload_n 0, 1) := by decide +kernel
theorem dX7_ask_24 : decode cX7_ask 24 = .ok (.getfield 63, 3) := by decide +kernel
theorem dX7_ask_27 : decode cX7_ask 27 = .ok (.aload_n 0, 1) := by decide +kernel
theorem dX7_ask_28 : decode cX7_ask 28 = .ok (.getfield 26, 3) := by decide +kernel
theorem dX7_ask_31 : decode cX7_ask 31 = .ok (.iload_n 1, 1) := by decide +kernel
theorem dX7_ask_32 : decode cX7_ask 32 = .ok (.iload_n 2, 1) := by decide +kernel
theorem dX7_ask_33 : decode cX7_ask 33 = .ok (.invokevirtual 334, 3) := by decide +kernel
theorem dX7_ask_36 : decode cX7_ask 36 = .ok (.ireturn, 1) := by decide +kernel
theorem dX7_trace_0 : decode cX7_trace 0 = .ok (.aload_n 0, 1) := by decide +kernel
theorem dX7_trace_1 : decode cX7_trace 1 = .ok (.getfield 63, 3) := by decide +kernel
theorem dX7_trace_4 : decode cX7_trace 4 = .ok (.iload_n 1, 1) := by decide +kernel
theorem dX7_trace_5 : decode cX7_trace 5 = .ok (.invokevirtual 337, 3) := by decide +kernel
theorem dX7_trace_8 : decode cX7_trace 8 = .ok (.invokestatic 207, 3) := by decide +kernel
theorem dX7_trace_11 : decode cX7_trace 11 = .ok (.ireturn, 1) := by decide +kernel
theorem dX7_count_0 : decode cX7_count 0 = .ok (.iload_n 1, 1) := by decide +kernel
theorem dX7_count_1 : decode cX7_count 1 = .ok (.tableswitch 111 0 7 #[47, 55, 63, 71, 79, 87, 95, 103], 47) := by decide +kernel
theorem dX7_count_48 : decode cX7_count 48 = .ok (.aload_n 0, 1) := by decide +kernel
theorem dX7_count_49 : decode cX7_count 49 = .ok (.getfield 10, 3) := by decide +kernel
theorem dX7_count_52 : decode cX7_count 52 = .ok (.invokevirtual 340, 3) := by decide +kernel
theorem dX7_count_55 : decode cX7_count 55 = .ok (.ireturn, 1) := by decide +kernel
theorem dX7_count_56 : decode cX7_count 56 = .ok (.aload_n 0, 1) := by decide +kernel
theorem dX7_count_57 : decode cX7_count 57 = .ok (.getfield 26, 3) := by decide +kernel
theorem dX7_count_60 : decode cX7_count 60 = .ok (.getfield 138, 3) := by decide +kernel
theorem dX7_count_63 : decode cX7_count 63 = .ok (.ireturn, 1) := by decide +kernel
theorem dX7_count_64 : decode cX7_count 64 = .ok (.aload_n 0, 1) := by decide +kernel
theorem dX7_count_65 : decode cX7_count 65 = .ok (.getfield 26, 3) := by decide +kernel
theorem dX7_count_68 : decode cX7_count 68 = .ok (.getfield 343, 3) := by decide +kernel
theorem dX7_count_71 : decode cX7_count 71 = .ok (.ireturn, 1) := by decide +kernel
theorem dX7_count_72 : decode cX7_count 72 = .ok (.aload_n 0, 1) := by decide +kernel
theorem dX7_count_73 : decode cX7_count 73 = .ok (.getfield 26, 3) := by decide +kernel
theorem dX7_count_76 : decode cX7_count 76 = .ok (.getfield 154, 3) := by decide +kernel
theorem dX7_count_79 : decode cX7_count 79 = .ok (.ireturn, 1) := by decide +kernel
theorem dX7_count_80 : decode cX7_count 80 = .ok (.aload_n 0, 1) := by decide +kernel
theorem dX7_count_81 : decode cX7_count 81 = .ok (.getfield 26, 3) := by decide +kernel
theorem dX7_count_84 : decode cX7_count 84 = .ok (.getfield 182, 3) := by decide +kernel
theorem dX7_count_87 : decode cX7_count 87 = .ok (.ireturn, 1) := by decide +kernel
theorem dX7_count_88 : decode cX7_count 88 = .ok (.aload_n 0, 1) := by decide +kernel
theorem dX7_count_89 : decode cX7_count 89 = .ok (.getfield 26, 3) := by decide +kernel
theorem dX7_count_92 : decode cX7_count 92 = .ok (.getfield 163, 3) := by decide +kernel
theorem dX7_count_95 : decode cX7_count 95 = .ok (.ireturn, 1) := by decide +kernel
theorem dX7_count_96 : decode cX7_count 96 = .ok (.aload_n 0, 1) := by decide +kernel
theorem dX7_count_97 : decode cX7_count 97 = .ok (.getfield 36, 3) := by decide +kernel
theorem dX7_count_100 : decode cX7_count 100 = .ok (.invokevirtual 144, 3) := by decide +kernel
theorem dX7_count_103 : decode cX7_count 103 = .ok (.ireturn, 1) := by decide +kernel
theorem dX7_count_104 : decode cX7_count 104 = .ok (.aload_n 0, 1) := by decide +kernel
theorem dX7_count_105 : decode cX7_count 105 = .ok (.getfield 19, 3) := by decide +kernel
theorem dX7_count_108 : decode cX7_count 108 = .ok (.invokevirtual 346, 3) := by decide +kernel
theorem dX7_count_111 : decode cX7_count 111 = .ok (.ireturn, 1) := by decide +kernel
theorem dX7_count_112 : decode cX7_count 112 = .ok (.ldc 78, 2) := by decide +kernel
theorem dX7_count_114 : decode cX7_count 114 = .ok (.ireturn, 1) := by decide +kernel
theorem dX7_status_0 : decode cX7_status 0 = .ok (.aload_n 0, 1) := by decide +kernel
theorem dX7_status_1 : decode cX7_status 1 = .ok (.getfield 67, 3) := by decide +kernel
theorem dX7_status_4 : decode cX7_status 4 = .ok (.ireturn, 1) := by decide +kernel
theorem dX7_found_0 : decode cX7_found 0 = .ok (.aload_n 0, 1) := by decide +kernel
theorem dX7_found_1 : decode cX7_found 1 = .ok (.iload_n 1, 1) := by decide +kernel
theorem dX7_found_2 : decode cX7_found 2 = .ok (.putfield 67, 3) := by decide +kernel
theorem dX7_found_5 : decode cX7_found 5 = .ok (.ldc_w 349, 3) := by decide +kernel
theorem dX7_found_8 : decode cX7_found 8 = .ok (.iload_n 1, 1) := by decide +kernel
theorem dX7_found_9 : decode cX7_found 9 = .ok (.isub, 1) := by decide +kernel
theorem dX7_found_10 : decode cX7_found 10 = .ok (.ireturn, 1) := by decide +kernel
theorem dX7_foundNothing_0 : decode cX7_foundNothing 0 = .ok (.aload_n 0, 1) := by decide +kernel
theorem dX7_foundNothing_1 : decode cX7_foundNothing 1 = .ok (.iconst 0, 1) := by decide +kernel
theorem dX7_foundNothing_2 : decode cX7_foundNothing 2 = .ok (.putfield 67, 3) := by decide +kernel
theorem dX7_foundNothing_5 : decode cX7_foundNothing 5 = .ok (.iload_n 1, 1) := by decide +kernel
theorem dX7_foundNothing_6 : decode cX7_foundNothing 6 = .ok (.ireturn, 1) := by decide +kernel
theorem dX7_orNone_0 : decode cX7_orNone 0 = .ok (.iload_n 0, 1) := by decide +kernel
theorem dX7_orNone_1 : decode cX7_orNone 1 = .ok (.ifCond .ge 8, 3) := by decide +kernel
theorem dX7_orNone_4 : decode cX7_orNone 4 = .ok (.ldc 222, 2) := by decide +kernel
theorem dX7_orNone_6 : decode cX7_orNone 6 = .ok (.goto 4, 3) := by decide +kernel
theorem dX7_orNone_9 : decode cX7_orNone 9 = .ok (.iload_n 0, 1) := by decide +kernel
theorem dX7_orNone_10 : decode cX7_orNone 10 = .ok (.ireturn, 1) := by decide +kernel
theorem dX7_noShow_0 : decode cX7_noShow 0 = .ok (.aload_n 0, 1) := by decide +kernel
theorem dX7_noShow_1 : decode cX7_noShow 1 = .ok (.getfield 26, 3) := by decide +kernel
theorem dX7_noShow_4 : decode cX7_noShow 4 = .ok (.getfield 138, 3) := by decide +kernel
theorem dX7_noShow_7 : decode cX7_noShow 7 = .ok (.ifCond .ne 7, 3) := by decide +kernel
theorem dX7_noShow_10 : decode cX7_noShow 10 = .ok (.iconst 1, 1) := by decide +kernel
theorem dX7_noShow_11 : decode cX7_noShow 11 = .ok (.goto 4, 3) := by decide +kernel
theorem dX7_noShow_14 : decode cX7_noShow 14 = .ok (.iconst 0, 1) := by decide +kernel
theorem dX7_noShow_15 : decode cX7_noShow 15 = .ok (.ireturn, 1) := by decide +kernel
theorem dX7_imageOf_0 : decode cX7_imageOf 0 = .ok (.iload_n 1, 1) := by decide +kernel
theorem dX7_imageOf_1 : decode cX7_imageOf 1 = .ok (.ifCond .ne 10, 3) := by decide +kernel
theorem dX7_imageOf_4 : decode cX7_imageOf 4 = .ok (.aload_n 0, 1) := by decide +kernel
theorem dX7_imageOf_5 : decode cX7_imageOf 5 = .ok (.getfield 40, 3) := by decide +kernel
theorem dX7_imageOf_8 : decode cX7_imageOf 8 = .ok (.goto 7, 3) := by decide +kernel
theorem dX7_imageOf_11 : decode cX7_imageOf 11 = .ok (.aload_n 0, 1) := by decide +kernel
theorem dX7_imageOf_12 : decode cX7_imageOf 12 = .ok (.getfield 43, 3) := by decide +kernel
theorem dX7_imageOf_15 : decode cX7_imageOf 15 = .ok (.areturn, 1) := by decide +kernel
theorem dX7_canTell_0 : decode cX7_canTell 0 = .ok (.iload_n 0, 1) := by decide +kernel
theorem dX7_canTell_1 : decode cX7_canTell 1 = .ok (.invokestatic 71, 3) := by decide +kernel
theorem dX7_canTell_4 : decode cX7_canTell 4 = .ok (.ifCond .eq 18, 3) := by decide +kernel
theorem dX7_canTell_7 : decode cX7_canTell 7 = .ok (.iload_n 1, 1) := by decide +kernel
theorem dX7_canTell_8 : decode cX7_canTell 8 = .ok (.iconst 1, 1) := by decide +kernel
theorem dX7_canTell_9 : decode cX7_canTell 9 = .ok (.if_icmp .lt 13, 3) := by decide +kernel
theorem dX7_canTell_12 : decode cX7_canTell 12 = .ok (.iload_n 1, 1) := by decide +kernel
theorem dX7_canTell_13 : decode cX7_canTell 13 = .ok (.bipush 12, 2) := by decide +kernel
theorem dX7_canTell_15 : decode cX7_canTell 15 = .ok (.if_icmp .gt 7, 3) := by decide +kernel
theorem dX7_canTell_18 : decode cX7_canTell 18 = .ok (.iconst 1, 1) := by decide +kernel
theorem dX7_canTell_19 : decode cX7_canTell 19 = .ok (.goto 4, 3) := by decide +kernel
theorem dX7_canTell_22 : decode cX7_canTell 22 = .ok (.iconst 0, 1) := by decide +kernel
theorem dX7_canTell_23 : decode cX7_canTell 23 = .ok (.ireturn, 1) := by decide +kernel
theorem dX8_init_0 : decode cX8_init 0 = .ok (.aload_n 0, 1) := by decide +kernel
theorem dX8_init_1 : decode cX8_init 1 = .ok (.invokespecial 1, 3) := by decide +kernel
theorem dX8_init_4 : decode cX8_init 4 = .ok (.aload_n 0, 1) := by decide +kernel
theorem dX8_init_5 : decode cX8_init 5 = .ok (.bipush 8, 2) := by decide +kernel
theorem dX8_init_7 : decode cX8_init 7 = .ok (.newarray .int, 2) := by decide +kernel
theorem dX8_init_9 : decode cX8_init 9 = .ok (.putfield 7, 3) := by decide +kernel
theorem dX8_init_12 : decode cX8_init 12 = .ok (.aload_n 0, 1) := by decide +kernel
theorem dX8_init_13 : decode cX8_init 13 = .ok (.bipush 8, 2) := by decide +kernel
theorem dX8_init_15 : decode cX8_init 15 = .ok (.newarray .int, 2) := by decide +kernel
theorem dX8_init_17 : decode cX8_init 17 = .ok (.putfield 13, 3) := by decide +kernel
theorem dX8_init_20 : decode cX8_init 20 = .ok (.aload_n 0, 1) := by decide +kernel
theorem dX8_init_21 : decode cX8_init 21 = .ok (.sipush 320, 3) := by decide +kernel
theorem dX8_init_24 : decode cX8_init 24 = .ok (.newarray .int, 2) := by decide +kernel
theorem dX8_init_26 : decode cX8_init 26 = .ok (.putfield 16, 3) := by decide +kernel
theorem dX8_init_29 : decode cX8_init 29 = .ok (.aload_n 0, 1) := by decide +kernel
theorem dX8_init_30 : decode cX8_init 30 = .ok (.bipush 55, 2) := by decide +kernel
theorem dX8_init_32 : decode cX8_init 32 = .ok (.newarray .int, 2) := by decide +kernel
theorem dX8_init_34 : decode cX8_init 34 = .ok (.putfield 19, 3) := by decide +kernel
theorem dX8_init_37 : decode cX8_init 37 = .ok (.aload_n 0, 1) := by decide +kernel
theorem dX8_init_38 : decode cX8_init 38 = .ok (.bipush 40, 2) := by decide +kernel
theorem dX8_init_40 : decode cX8_init 40 = .ok (.newarray .int, 2) := by decide +kernel
theorem dX8_init_42 : decode cX8_init 42 = .ok (.putfield 22, 3) := by decide +kernel
theorem dX8_init_45 : decode cX8_init 45 = .ok (.aload_n 0, 1) := by decide +kernel
theorem dX8_init_46 : decode cX8_init 46 = .ok (.bipush 120, 2) := by decide +kernel
theorem dX8_init_48 : decode cX8_init 48 = .ok (.newarray .int, 2) := by decide +kernel
theorem dX8_init_50 : decode cX8_init 50 = .ok (.putfield 25, 3) := by decide +kernel
theorem dX8_init_53 : decode cX8_init 53 = .ok (.aload_n 0, 1) := by decide +kernel
theorem dX8_init_54 : decode cX8_init 54 = .ok (.bipush 55, 2) := by decide +kernel
theorem dX8_init_56 : decode cX8_init 56 = .ok (.newarray .int, 2) := by decide +kernel
theorem dX8_init_58 : decode cX8_init 58 = .ok (.putfield 28, 3) := by decide +kernel
theorem dX8_init_61 : decode cX8_init 61 = .ok (.aload_n 0, 1) := by decide +kernel
theorem dX8_init_62 : decode cX8_init 62 = .ok (.sipush 1320, 3) := by decide +kernel
theorem dX8_init_65 : decode cX8_init 65 = .ok (.newarray .int, 2) := by decide +kernel
theorem dX8_init_67 : decode cX8_init 67 = .ok (.putfield 31, 3) := by decide +kernel
theorem dX8_init_70 : decode cX8_init 70 = .ok (.aload_n 0, 1) := by decide +kernel
theorem dX8_init_71 : decode cX8_init 71 = .ok (.bipush 55, 2) := by decide +kernel
theorem dX8_init_73 : decode cX8_init 73 = .ok (.newarray .int, 2) := by decide +kernel
theorem dX8_init_75 : decode cX8_init 75 = .ok (.putfield 34, 3) := by decide +kernel
theorem dX8_init_78 : decode cX8_init 78 = .ok (.aload_n 0, 1) := by decide +kernel
theorem dX8_init_79 : decode cX8_init 79 = .ok (.bipush 6, 2) := by decide +kernel
theorem dX8_init_81 : decode cX8_init 81 = .ok (.newarray .int, 2) := by decide +kernel
theorem dX8_init_83 : decode cX8_init 83 = .ok (.putfield 37, 3) := by decide +kernel
theorem dX8_init_86 : decode cX8_init 86 = .ok (.aload_n 0, 1) := by decide +kernel
theorem dX8_init_87 : decode cX8_init 87 = .ok (.bipush 6, 2) := by decide +kernel
theorem dX8_init_89 : decode cX8_init 89 = .ok (.newarray .int, 2) := by decide +kernel
theorem dX8_init_91 : decode cX8_init 91 = .ok (.putfield 40, 3) := by decide +kernel
theorem dX8_init_94 : decode cX8_init 94 = .ok (.aload_n 0, 1) := by decide +kernel
theorem dX8_init_95 : decode cX8_init 95 = .ok (.iconst 2, 1) := by decide +kernel
theorem dX8_init_96 : decode cX8_init 96 = .ok (.newarray .boolean, 2) := by decide +kernel
theorem dX8_init_98 : decode cX8_init 98 = .ok (.putfield 43, 3) := by decide +kernel
theorem dX8_init_101 : decode cX8_init 101 = .ok (.aload_n 0, 1) := by decide +kernel
theorem dX8_init_102 : decode cX8_init 102 = .ok (.bipush 110, 2) := by decide +kernel
theorem dX8_init_104 : decode cX8_init 104 = .ok (.newarray .int, 2) := by decide +kernel
theorem dX8_init_106 : decode cX8_init 106 = .ok (.putfield 47, 3) := by decide +kernel
theorem dX8_init_109 : decode cX8_init 109 = .ok (.aload_n 0, 1) := by decide +kernel
theorem dX8_init_110 : decode cX8_init 110 = .ok (.bipush 16, 2) := by decide +kernel
theorem dX8_init_112 : decode cX8_init 112 = .ok (.newarray .int, 2) := by decide +kernel
theorem dX8_init_114 : decode cX8_init 114 = .ok (.putfield 50, 3) := by decide +kernel
theorem dX8_init_117 : decode cX8_init 117 = .ok (.iconst 0, 1) := by decide +kernel
theorem dX8_init_118 : decode cX8_init 118 = .ok (.istore_n 1, 1) := by decide +kernel
theorem dX8_init_119 : decode cX8_init 119 = .ok (.iload_n 1, 1) := by decide +kernel
theorem dX8_init_120 : decode cX8_init 120 = .ok (.bipush 8, 2) := by decide +kernel
theorem dX8_init_122 : decode cX8_init 122 = .ok (.if_icmp .ge 16, 3) := by decide +kernel
theorem dX8_init_125 : decode cX8_init 125 = .ok (.aload_n 0, 1) := by decide +kernel
theorem dX8_init_126 : decode cX8_init 126 = .ok (.getfield 13, 3) := by decide +kernel
theorem dX8_init_129 : decode cX8_init 129 = .ok (.iload_n 1, 1) := by decide +kernel
theorem dX8_init_130 : decode cX8_init 130 = .ok (.iconst (-1), 1) := by decide +kernel
theorem dX8_init_131 : decode cX8_init 131 = .ok (.iastore, 1) := by decide +kernel
theorem dX8_init_132 : decode cX8_init 132 = .ok (.iinc 1 1, 3) := by decide +kernel
theorem dX8_init_135 : decode cX8_init 135 = .ok (.goto (-16), 3) := by decide +kernel
theorem dX8_init_138 : decode cX8_init 138 = .ok (.return_, 1) := by decide +kernel
theorem dX8_in_0 : decode cX8_in 0 = .ok (.lload_n 0, 1) := by decide +kernel
theorem dX8_in_1 : decode cX8_in 1 = .ok (.lload_n 2, 1) := by decide +kernel
theorem dX8_in_2 : decode cX8_in 2 = .ok (.lcmp, 1) := by decide +kernel
theorem dX8_in_3 : decode cX8_in 3 = .ok (.ifCond .lt 14, 3) := by decide +kernel
theorem dX8_in_6 : decode cX8_in 6 = .ok (.lload_n 0, 1) := by decide +kernel
theorem dX8_in_7 : decode cX8_in 7 = .ok (.lload 4, 2) := by decide +kernel
theorem dX8_in_9 : decode cX8_in 9 = .ok (.lcmp, 1) := by decide +kernel
theorem dX8_in_10 : decode cX8_in 10 = .ok (.ifCond .gt 7, 3) := by decide +kernel
theorem dX8_in_13 : decode cX8_in 13 = .ok (.iconst 1, 1) := by decide +kernel
theorem dX8_in_14 : decode cX8_in 14 = .ok (.goto 4, 3) := by decide +kernel
theorem dX8_in_17 : decode cX8_in 17 = .ok (.iconst 0, 1) := by decide +kernel
theorem dX8_in_18 : decode cX8_in 18 = .ok (.ireturn, 1) := by decide +kernel
theorem dX8_has_0 : decode cX8_has 0 = .ok (.iload_n 0, 1) := by decide +kernel
theorem dX8_has_1 : decode cX8_has 1 = .ok (.iload_n 1, 1) := by decide +kernel
theorem dX8_has_2 : decode cX8_has 2 = .ok (.ishr, 1) := by decide +kernel
theorem dX8_has_3 : decode cX8_has 3 = .ok (.iconst 1, 1) := by decide +kernel
theorem dX8_has_4 : decode cX8_has 4 = .ok (.iand, 1) := by decide +kernel
theorem dX8_has_5 : decode cX8_has 5 = .ok (.iconst 1, 1) := by decide +kernel
theorem dX8_has_6 : decode cX8_has 6 = .ok (.if_icmp .ne 7, 3) := by decide +kernel
theorem dX8_has_9 : decode cX8_has 9 = .ok (.iconst 1, 1) := by decide +kernel
theorem dX8_has_10 : decode cX8_has 10 = .ok (.goto 4, 3) := by decide +kernel
theorem dX8_has_13 : decode cX8_has 13 = .ok (.iconst 0, 1) := by decide +kernel
theorem dX8_has_14 : decode cX8_has 14 = .ok (.ireturn, 1) := by decide +kernel
theorem dX8_ones_0 : decode cX8_ones 0 = .ok (.iconst 0, 1) := by decide +kernel
theorem dX8_ones_1 : decode cX8_ones 1 = .ok (.istore_n 1, 1) := by decide +kernel
theorem dX8_ones_2 : decode cX8_ones 2 = .ok (.iload_n 0, 1) := by decide +kernel
theorem dX8_ones_3 : decode cX8_ones 3 = .ok (.istore_n 2, 1) := by decide +kernel
theorem dX8_ones_4 : decode cX8_ones 4 = .ok (.iload_n 2, 1) := by decide +kernel
theorem dX8_ones_5 : decode cX8_ones 5 = .ok (.ifCond .eq 15, 3) := by decide +kernel
theorem dX8_ones_8 : decode cX8_ones 8 = .ok (.iinc 1 1, 3) := by decide +kernel
theorem dX8_ones_11 : decode cX8_ones 11 = .ok (.iload_n 2, 1) := by decide +kernel
theorem dX8_ones_12 : decode cX8_ones 12 = .ok (.iload_n 2, 1) := by decide +kernel
theorem dX8_ones_13 : decode cX8_ones 13 = .ok (.iconst 1, 1) := by decide +kernel
theorem dX8_ones_14 : decode cX8_ones 14 = .ok (.isub, 1) := by decide +kernel
theorem dX8_ones_15 : decode cX8_ones 15 = .ok (.iand, 1) := by decide +kernel
theorem dX8_ones_16 : decode cX8_ones 16 = .ok (.istore_n 2, 1) := by decide +kernel
theorem dX8_ones_17 : decode cX8_ones 17 = .ok (.goto (-13), 3) := by decide +kernel
theorem dX8_ones_20 : decode cX8_ones 20 = .ok (.iload_n 1, 1) := by decide +kernel
theorem dX8_ones_21 : decode cX8_ones 21 = .ok (.ireturn, 1) := by decide +kernel
theorem dX8_find_0 : decode cX8_find 0 = .ok (.aload_n 0, 1) := by decide +kernel
theorem dX8_find_1 : decode cX8_find 1 = .ok (.iload_n 1, 1) := by decide +kernel
theorem dX8_find_2 : decode cX8_find 2 = .ok (.putfield 53, 3) := by decide +kernel
theorem dX8_find_5 : decode cX8_find 5 = .ok (.ldc 57, 2) := by decide +kernel
theorem dX8_find_7 : decode cX8_find 7 = .ok (.iload_n 1, 1) := by decide +kernel
theorem dX8_find_8 : decode cX8_find 8 = .ok (.isub, 1) := by decide +kernel
theorem dX8_find_9 : decode cX8_find 9 = .ok (.ireturn, 1) := by decide +kernel
theorem dX8_well_0 : decode cX8_well 0 = .ok (.aload_n 0, 1) := by decide +kernel
theorem dX8_well_1 : decode cX8_well 1 = .ok (.iconst 0, 1) := by decide +kernel
theorem dX8_well_2 : decode cX8_well 2 = .ok (.putfield 53, 3) := by decide +kernel
theorem dX8_well_5 : decode cX8_well 5 = .ok (.iload_n 1, 1) := by decide +kernel
theorem dX8_well_6 : decode cX8_well 6 = .ok (.ireturn, 1) := by decide +kernel
theorem dX8_isRow_0 : decode cX8_isRow 0 = .ok (.iload_n 0, 1) := by decide +kernel
theorem dX8_isRow_1 : decode cX8_isRow 1 = .ok (.i2l, 1) := by decide +kernel
theorem dX8_isRow_2 : decode cX8_isRow 2 = .ok (.lconst 0, 1) := by decide +kernel
theorem dX8_isRow_3 : decode cX8_isRow 3 = .ok (.ldc2_w 58, 3) := by decide +kernel
theorem dX8_isRow_6 : decode cX8_isRow 6 = .ok (.invokestatic 60, 3) := by decide +kernel
theorem dX8_isRow_9 : decode cX8_isRow 9 = .ok (.ireturn, 1) := by decide +kernel
theorem dX8_row_0 : decode cX8_row 0 = .ok (.iload_n 1, 1) := by decide +kernel
theorem dX8_row_1 : decode cX8_row 1 = .ok (.invokestatic 64, 3) := by decide +kernel
theorem dX8_row_4 : decode cX8_row 4 = .ok (.ifCond .eq 21, 3) := by decide +kernel
theorem dX8_row_7 : decode cX8_row 7 = .ok (.iload_n 2, 1) := by decide +kernel
theorem dX8_row_8 : decode cX8_row 8 = .ok (.i2l, 1) := by decide +kernel
theorem dX8_row_9 : decode cX8_row 9 = .ok (.lconst 0, 1) := by decide +kernel
theorem dX8_row_10 : decode cX8_row 10 = .ok (.ldc2_w 68, 3) := by decide +kernel
theorem dX8_row_13 : decode cX8_row 13 = .ok (.invokestatic 60, 3) := by decide +kernel
theorem dX8_row_16 : decode cX8_row 16 = .ok (.ifCond .eq 9, 3) := by decide +kernel
theorem dX8_row_19 : decode cX8_row 19 = .ok (.iload_n 3, 1) := by decide +kernel
theorem dX8_row_20 : decode cX8_row 20 = .ok (.bipush 40, 2) := by decide +kernel
theorem dX8_row_22 : decode cX8_row 22 = .ok (.if_icmp .le 6, 3) := by decide +kernel
theorem dX8_row_25 : decode cX8_row 25 = .ok (.ldc 70, 2) := by decide +kernel
theorem dX8_row_27 : decode cX8_row 27 = .ok (.ireturn, 1) := by decide +kernel
theorem dX8_row_28 : decode cX8_row 28 = .ok (.iload_n 3, 1) := by decide +kernel
theorem dX8_row_29 : decode cX8_row 29 = .ok (.ifCond .ge 9, 3) := by decide +kernel
theorem dX8_row_32 : decode cX8_row 32 = .ok (.aload_n 0, 1) := by decide +kernel
theorem dX8_row_33 : decode cX8_row 33 = .ok (.iconst 4, 1) := by decide +kernel
theorem dX8_row_34 : decode cX8_row 34 = .ok (.invokevirtual 71, 3) := by decide +kernel
theorem dX8_row_37 : decode cX8_row 37 = .ok (.ireturn, 1) := by decide +kernel
theorem dX8_row_38 : decode cX8_row 38 = .ok (.aload_n 0, 1) := by decide +kernel
theorem dX8_row_39 : decode cX8_row 39 = .ok (.getfield 7, 3) := by decide +kernel
theorem dX8_row_42 : decode cX8_row 42 = .ok (.iload_n 1, 1) := by decide +kernel
theorem dX8_row_43 : decode cX8_row 43 = .ok (.iload_n 2, 1) := by decide +kernel
theorem dX8_row_44 : decode cX8_row 44 = .ok (.iastore, 1) := by decide +kernel
theorem dX8_row_45 : decode cX8_row 45 = .ok (.aload_n 0, 1) := by decide +kernel
theorem dX8_row_46 : decode cX8_row 46 = .ok (.getfield 13, 3) := by decide +kernel
theorem dX8_row_49 : decode cX8_row 49 = .ok (.iload_n 1, 1) := by decide +kernel
theorem dX8_row_50 : decode cX8_row 50 = .ok (.iload_n 3, 1) := by decide +kernel
theorem dX8_row_51 : decode cX8_row 51 = .ok (.iastore, 1) := by decide +kernel
theorem dX8_row_52 : decode cX8_row 52 = .ok (.iconst 0, 1) := by decide +kernel
theorem dX8_row_53 : decode cX8_row 53 = .ok (.istore 4, 2) := by decide +kernel
theorem dX8_row_55 : decode cX8_row 55 = .ok (.iload 4, 2) := by decide +kernel
theorem dX8_row_57 : decode cX8_row 57 = .ok (.bipush 40, 2) := by decide +kernel
theorem dX8_row_59 : decode cX8_row 59 = .ok (.if_icmp .ge 22, 3) := by decide +kernel
theorem dX8_row_62 : decode cX8_row 62 = .ok (.aload_n 0, 1) := by decide +kernel
theorem dX8_row_63 : decode cX8_row 63 = .ok (.getfield 16, 3) := by decide +kernel
theorem dX8_row_66 : decode cX8_row 66 = .ok (.bipush 40, 2) := by decide +kernel
theorem dX8_row_68 : decode cX8_row 68 = .ok (.iload_n 1, 1) := by decide +kernel
theorem dX8_row_69 : decode cX8_row 69 = .ok (.imul, 1) := by decide +kernel
theorem dX8_row_70 : decode cX8_row 70 = .ok (.iload 4, 2) := by decide +kernel
theorem dX8_row_72 : decode cX8_row 72 = .ok (.iadd, 1) := by decide +kernel
theorem dX8_row_73 : decode cX8_row 73 = .ok (.iconst 0, 1) := by decide +kernel
theorem dX8_row_74 : decode cX8_row 74 = .ok (.iastore, 1) := by decide +kernel
theorem dX8_row_75 : decode cX8_row 75 = .ok (.iinc 4 1, 3) := by decide +kernel
theorem dX8_row_78 : decode cX8_row 78 = .ok (.goto (-23), 3) := by decide +kernel
theorem dX8_row_81 : decode cX8_row 81 = .ok (.aload_n 0, 1) := by decide +kernel
theorem dX8_row_82 : decode cX8_row 82 = .ok (.iload_n 3, 1) := by decide +kernel
theorem dX8_row_83 : decode cX8_row 83 = .ok (.invokevirtual 75, 3) := by decide +kernel
theorem dX8_row_86 : decode cX8_row 86 = .ok (.ireturn, 1) := by decide +kernel
theorem dX8_asLane_0 : decode cX8_asLane 0 = .ok (.iload_n 0, 1) := by decide +kernel
theorem dX8_asLane_1 : decode cX8_asLane 1 = .ok (.ifCond .ne 13, 3) := by decide +kernel
theorem dX8_asLane_4 : decode cX8_asLane 4 = .ok (.iload_n 1, 1) := by decide +kernel
theorem dX8_asLane_5 : decode cX8_asLane 5 = .ok (.bipush 24, 2) := by decide +kernel
theorem dX8_asLane_7 : decode cX8_asLane 7 = .ok (.ishl, 1) := by decide +kernel
theorem dX8_asLane_8 : decode cX8_asLane 8 = .ok (.bipush 24, 2) := by decide +kernel
theorem dX8_asLane_10 : decode cX8_asLane 10 = .ok (.ishr, 1) := by decide +kernel
theorem dX8_asLane_11 : decode cX8_asLane 11 = .ok (.goto 19, 3) := by decide +kernel
theorem dX8_asLane_14 : decode cX8_asLane 14 = .ok (.iload_n 0, 1) := by decide +kernel
theorem dX8_asLane_15 : decode cX8_asLane 15 = .ok (.iconst 1, 1) := by decide +kernel
theorem dX8_asLane_16 : decode cX8_asLane 16 = .ok (.if_icmp .ne 13, 3) := by decide +kernel
theorem dX8_asLane_19 : decode cX8_asLane 19 = .ok (.iload_n 1, 1) := by decide +kernel
theorem dX8_asLane_20 : decode cX8_asLane 20 = .ok (.bipush 16, 2) := by decide +kernel
theorem dX8_asLane_22 : decode cX8_asLane 22 = .ok (.ishl, 1) := by decide +kernel
theorem dX8_asLane_23 : decode cX8_asLane 23 = .ok (.bipush 16, 2) := by decide +kernel
theorem dX8_asLane_25 : decode cX8_asLane 25 = .ok (.ishr, 1) := by decide +kernel
theorem dX8_asLane_26 : decode cX8_asLane 26 = .ok (.goto 4, 3) := by decide +kernel
theorem dX8_asLane_29 : decode cX8_asLane 29 = .ok (.iload_n 1, 1) := by decide +kernel
theorem dX8_asLane_30 : decode cX8_asLane 30 = .ok (.ireturn, 1) := by decide +kernel
theorem dX8_set_0 : decode cX8_set 0 = .ok (.iload_n 1, 1) := by decide +kernel
theorem dX8_set_1 : decode cX8_set 1 = .ok (.invokestatic 64, 3) := by decide +kernel
theorem dX8_set_4 : decode cX8_set 4 = .ok (.ifCond .ne 6, 3) := by decide +kernel
theorem dX8_set_7 : decode cX8_set 7 = .ok (.ldc 70, 2) := by decide +kernel
theorem dX8_set_9 : decode cX8_set 9 = .ok (.ireturn, 1) := by decide +kernel
theorem dX8_set_10 : decode cX8_set 10 = .ok (.aload_n 0, 1) := by decide +kernel
theorem dX8_set_11 : decode cX8_set 11 = .ok (.getfield 13, 3) := by decide +kernel
theorem dX8_set_14 : decode cX8_set 14 = .ok (.iload_n 1, 1) := by decide +kernel
theorem dX8_set_15 : decode cX8_set 15 = .ok (.iaload, 1) := by decide +kernel
theorem dX8_set_16 : decode cX8_set 16 = .ok (.ifCond .ge 9, 3) := by decide +kernel
theorem dX8_set_19 : decode cX8_set 19 = .ok (.aload_n 0, 1) := by decide +kernel
theorem dX8_set_20 : decode cX8_set 20 = .ok (.iconst 1, 1) := by decide +kernel
theorem dX8_set_21 : decode cX8_set 21 = .ok (.invokevirtual 71, 3) := by decide +kernel
theorem dX8_set_24 : decode cX8_set 24 = .ok (.ireturn, 1) := by decide +kernel
theorem dX8_set_25 : decode cX8_set 25 = .ok (.iload_n 2, 1) := by decide +kernel
theorem dX8_set_26 : decode cX8_set 26 = .ok (.i2l, 1) := by decide +kernel
theorem dX8_set_27 : decode cX8_set 27 = .ok (.lconst 0, 1) := by decide +kernel
theorem dX8_set_28 : decode cX8_set 28 = .ok (.aload_n 0, 1) := by decide +kernel
theorem dX8_set_29 : decode cX8_set 29 = .ok (.getfield 13, 3) := by decide +kernel
theorem dX8_set_32 : decode cX8_set 32 = .ok (.iload_n 1, 1) := by decide +kernel
theorem dX8_set_33 : decode cX8_set 33 = .ok (.iaload, 1) := by decide +kernel
theorem dX8_set_34 : decode cX8_set 34 = .ok (.iconst 1, 1) := by decide +kernel
theorem dX8_set_35 : decode cX8_set 35 = .ok (.isub, 1) := by decide +kernel
theorem dX8_set_36 : decode cX8_set 36 = .ok (.i2l, 1) := by decide +kernel
theorem dX8_set_37 : decode cX8_set 37 = .ok (.invokestatic 60, 3) := by decide +kernel
theorem dX8_set_40 : decode cX8_set 40 = .ok (.ifCond .ne 9, 3) := by decide +kernel
theorem dX8_set_43 : decode cX8_set 43 = .ok (.aload_n 0, 1) := by decide +kernel
theorem dX8_set_44 : decode cX8_set 44 = .ok (.iconst 2, 1) := by decide +kernel
theorem dX8_set_45 : decode cX8_set 45 = .ok (.invokevirtual 71, 3) := by decide +kernel
theorem dX8_set_48 : decode cX8_set 48 = .ok (.ireturn, 1) := by decide +kernel
theorem dX8_set_49 : decode cX8_set 49 = .ok (.aload_n 0, 1) := by decide +kernel
theorem dX8_set_50 : decode cX8_set 50 = .ok (.getfield 16, 3) := by decide +kernel
theorem dX8_set_53 : decode cX8_set 53 = .ok (.bipush 40, 2) := by decide +kernel
theorem dX8_set_55 : decode cX8_set 55 = .ok (.iload_n 1, 1) := by decide +kernel
theorem dX8_set_56 : decode cX8_set 56 = .ok (.imul, 1) := by decide +kernel
theorem dX8_set_57 : decode cX8_set 57 = .ok (.iload_n 2, 1) := by decide +kernel
theorem dX8_set_58 : decode cX8_set 58 = .ok (.iadd, 1) := by decide +kernel
theorem dX8_set_59 : decode cX8_set 59 = .ok (.aload_n 0, 1) := by decide +kernel
theorem dX8_set_60 : decode cX8_set 60 = .ok (.getfield 7, 3) := by decide +kernel
theorem dX8_set_63 : decode cX8_set 63 = .ok (.iload_n 1, 1) := by decide +kernel
theorem dX8_set_64 : decode cX8_set 64 = .ok (.iaload, 1) := by decide +kernel
theorem dX8_set_65 : decode cX8_set 65 = .ok (.iload_n 3, 1) := by decide +kernel
theorem dX8_set_66 : decode cX8_set 66 = .ok (.invokestatic 78, 3) := by decide +kernel
theorem dX8_set_69 : decode cX8_set 69 = .ok (.iastore, 1) := by decide +kernel
theorem dX8_set_70 : decode cX8_set 70 = .ok (.aload_n 0, 1) := by decide +kernel
theorem dX8_set_71 : decode cX8_set 71 = .ok (.aload_n 0, 1) := by decide +kernel
theorem dX8_set_72 : decode cX8_set 72 = .ok (.getfield 16, 3) := by decide +kernel
theorem dX8_set_75 : decode cX8_set 75 = .ok (.bipush 40, 2) := by decide +kernel
theorem dX8_set_77 : decode cX8_set 77 = .ok (.iload_n 1, 1) := by decide +kernel
theorem dX8_set_78 : decode cX8_set 78 = .ok (.imul, 1) := by decide +kernel
theorem dX8_set_79 : decode cX8_set 79 = .ok (.iload_n 2, 1) := by decide +kernel
theorem dX8_set_80 : decode cX8_set 80 = .ok (.iadd, 1) := by decide +kernel
theorem dX8_set_81 : decode cX8_set 81 = .ok (.iaload, 1) := by decide +kernel
theorem dX8_set_82 : decode cX8_set 82 = .ok (.invokevirtual 75, 3) := by decide +kernel
theorem dX8_set_85 : decode cX8_set 85 = .ok (.ireturn, 1) := by decide +kernel
theorem dX8_copy_0 : decode cX8_copy 0 = .ok (.iload_n 1, 1) := by decide +kernel
theorem dX8_copy_1 : decode cX8_copy 1 = .ok (.invokestatic 64, 3) := by decide +kernel
theorem dX8_copy_4 : decode cX8_copy 4 = .ok (.ifCond .eq 10, 3) := by decide +kernel
theorem dX8_copy_7 : decode cX8_copy 7 = .ok (.iload_n 3, 1) := by decide +kernel
theorem dX8_copy_8 : decode cX8_copy 8 = .ok (.invokestatic 64, 3) := by decide +kernel
theorem dX8_copy_11 : decode cX8_copy 11 = .ok (.ifCond .ne 6, 3) := by decide +kernel
theorem dX8_copy_14 : decode cX8_copy 14 = .ok (.ldc 70, 2) := by decide +kernel
theorem dX8_copy_16 : decode cX8_copy 16 = .ok (.ireturn, 1) := by decide +kernel
theorem dX8_copy_17 : decode cX8_copy 17 = .ok (.aload_n 0, 1) := by decide +kernel
theorem dX8_copy_18 : decode cX8_copy 18 = .ok (.getfield 13, 3) := by decide +kernel
theorem dX8_copy_21 : decode cX8_copy 21 = .ok (.iload_n 1, 1) := by decide +kernel
theorem dX8_copy_22 : decode cX8_copy 22 = .ok (.iaload, 1) := by decide +kernel
theorem dX8_copy_23 : decode cX8_copy 23 = .ok (.ifCond .lt 12, 3) := by decide +kernel
theorem dX8_copy_26 : decode cX8_copy 26 = .ok (.aload_n 0, 1) := by decide +kernel
theorem dX8_copy_27 : decode cX8_copy 27 = .ok (.getfield 13, 3) := by decide +kernel
theorem dX8_copy_30 : decode cX8_copy 30 = .ok (.iload_n 3, 1) := by decide +kernel
theorem dX8_copy_31 : decode cX8_copy 31 = .ok (.iaload, 1) := by decide +kernel
theorem dX8_copy_32 : decode cX8_copy 32 = .ok (.ifCond .ge 9, 3) := by decide +kernel
theorem dX8_copy_35 : decode cX8_copy 35 = .ok (.aload_n 0, 1) := by decide +kernel
theorem dX8_copy_36 : decode cX8_copy 36 = .ok (.iconst 1, 1) := by decide +kernel
theorem dX8_copy_37 : decode cX8_copy 37 = .ok (.invokevirtual 71, 3) := by decide +kernel
theorem dX8_copy_40 : decode cX8_copy 40 = .ok (.ireturn, 1) := by decide +kernel
theorem dX8_copy_41 : decode cX8_copy 41 = .ok (.aload_n 0, 1) := by decide +kernel
theorem dX8_copy_42 : decode cX8_copy 42 = .ok (.getfield 7, 3) := by decide +kernel
theorem dX8_copy_45 : decode cX8_copy 45 = .ok (.iload_n 1, 1) := by decide +kernel
theorem dX8_copy_46 : decode cX8_copy 46 = .ok (.iaload, 1) := by decide +kernel
theorem dX8_copy_47 : decode cX8_copy 47 = .ok (.aload_n 0, 1) := by decide +kernel
theorem dX8_copy_48 : decode cX8_copy 48 = .ok (.getfield 7, 3) := by decide +kernel
theorem dX8_copy_51 : decode cX8_copy 51 = .ok (.iload_n 3, 1) := by decide +kernel
theorem dX8_copy_52 : decode cX8_copy 52 = .ok (.iaload, 1) := by decide +kernel
theorem dX8_copy_53 : decode cX8_copy 53 = .ok (.if_icmp .eq 9, 3) := by decide +kernel
theorem dX8_copy_56 : decode cX8_copy 56 = .ok (.aload_n 0, 1) := by decide +kernel
theorem dX8_copy_57 : decode cX8_copy 57 = .ok (.iconst 5, 1) := by decide +kernel
theorem dX8_copy_58 : decode cX8_copy 58 = .ok (.invokevirtual 71, 3) := by decide +kernel
theorem dX8_copy_61 : decode cX8_copy 61 = .ok (.ireturn, 1) := by decide +kernel
theorem dX8_copy_62 : decode cX8_copy 62 = .ok (.iload 5, 2) := by decide +kernel
theorem dX8_copy_64 : decode cX8_copy 64 = .ok (.ifCond .lt 44, 3) := by decide +kernel
theorem dX8_copy_67 : decode cX8_copy 67 = .ok (.iload_n 2, 1) := by decide +kernel
theorem dX8_copy_68 : decode cX8_copy 68 = .ok (.i2l, 1) := by decide +kernel
theorem dX8_copy_69 : decode cX8_copy 69 = .ok (.lconst 0, 1) := by decide +kernel
theorem dX8_copy_70 : decode cX8_copy 70 = .ok (.aload_n 0, 1) := by decide +kernel
theorem dX8_copy_71 : decode cX8_copy 71 = .ok (.getfield 13, 3) := by decide +kernel
theorem dX8_copy_74 : decode cX8_copy 74 = .ok (.iload_n 1, 1) := by decide +kernel
theorem dX8_copy_75 : decode cX8_copy 75 = .ok (.iaload, 1) := by decide +kernel
theorem dX8_copy_76 : decode cX8_copy 76 = .ok (.i2l, 1) := by decide +kernel
theorem dX8_copy_77 : decode cX8_copy 77 = .ok (.iload 5, 2) := by decide +kernel
theorem dX8_copy_79 : decode cX8_copy 79 = .ok (.i2l, 1) := by decide +kernel
theorem dX8_copy_80 : decode cX8_copy 80 = .ok (.lsub, 1) := by decide +kernel
theorem dX8_copy_81 : decode cX8_copy 81 = .ok (.invokestatic 60, 3) := by decide +kernel
theorem dX8_copy_84 : decode cX8_copy 84 = .ok (.ifCond .eq 24, 3) := by decide +kernel
theorem dX8_copy_87 : decode cX8_copy 87 = .ok (.iload 4, 2) := by decide +kernel
theorem dX8_copy_89 : decode cX8_copy 89 = .ok (.i2l, 1) := by decide +kernel
theorem dX8_copy_90 : decode cX8_copy 90 = .ok (.lconst 0, 1) := by decide +kernel
theorem dX8_copy_91 : decode cX8_copy 91 = .ok (.aload_n 0, 1) := by decide +kernel
theorem dX8_copy_92 : decode cX8_copy 92 = .ok (.getfield 13, 3) := by decide +kernel
theorem dX8_copy_95 : decode cX8_copy 95 = .ok (.iload_n 3, 1) := by decide +kernel
theorem dX8_copy_96 : decode cX8_copy 96 = .ok (.iaload, 1) := by decide +kernel
theorem dX8_copy_97 : decode cX8_copy 97 = .ok (.i2l, 1) := by decide +kernel
theorem dX8_copy_98 : decode cX8_copy 98 = .ok (.iload 5, 2) := by decide +kernel
theorem dX8_copy_100 : decode cX8_copy 100 = .ok (.i2l, 1) := by decide +kernel
theorem dX8_copy_101 : decode cX8_copy 101 = .ok (.lsub, 1) := by decide +kernel
theorem dX8_copy_102 : decode cX8_copy 102 = .ok (.invokestatic 60, 3) := by decide +kernel
theorem dX8_copy_105 : decode cX8_copy 105 = .ok (.ifCond .ne 9, 3) := by decide +kernel
theorem dX8_copy_108 : decode cX8_copy 108 = .ok (.aload_n 0, 1) := by decide +kernel
theorem dX8_copy_109 : decode cX8_copy 109 = .ok (.iconst 2, 1) := by decide +kernel
theorem dX8_copy_110 : decode cX8_copy 110 = .ok (.invokevirtual 71, 3) := by decide +kernel
theorem dX8_copy_113 : decode cX8_copy 113 = .ok (.ireturn, 1) := by decide +kernel
theorem dX8_copy_114 : decode cX8_copy 114 = .ok (.iconst 0, 1) := by decide +kernel
theorem dX8_copy_115 : decode cX8_copy 115 = .ok (.istore 6, 2) := by decide +kernel
theorem dX8_copy_117 : decode cX8_copy 117 = .ok (.iload 6, 2) := by decide +kernel
theorem dX8_copy_119 : decode cX8_copy 119 = .ok (.iload 5, 2) := by decide +kernel
theorem dX8_copy_121 : decode cX8_copy 121 = .ok (.if_icmp .ge 30, 3) := by decide +kernel
theorem dX8_copy_124 : decode cX8_copy 124 = .ok (.aload_n 0, 1) := by decide +kernel
theorem dX8_copy_125 : decode cX8_copy 125 = .ok (.getfield 22, 3) := by decide +kernel
theorem dX8_copy_128 : decode cX8_copy 128 = .ok (.iload 6, 2) := by decide +kernel
theorem dX8_copy_130 : decode cX8_copy 130 = .ok (.aload_n 0, 1) := by decide +kernel
theorem dX8_copy_131 : decode cX8_copy 131 = .ok (.getfield 16, 3) := by decide +kernel
theorem dX8_copy_134 : decode cX8_copy 134 = .ok (.bipush 40, 2) := by decide +kernel
theorem dX8_copy_136 : decode cX8_copy 136 = .ok (.iload_n 1, 1) := by decide +kernel
theorem dX8_copy_137 : decode cX8_copy 137 = .ok (.imul, 1) := by decide +kernel
theorem dX8_copy_138 : decode cX8_copy 138 = .ok (.iload_n 2, 1) := by decide +kernel
theorem dX8_copy_139 : decode cX8_copy 139 = .ok (.iadd, 1) := by decide +kernel
theorem dX8_copy_140 : decode cX8_copy 140 = .ok (.iload 6, 2) := by decide +kernel
theorem dX8_copy_142 : decode cX8_copy 142 = .ok (.iadd, 1) := by decide +kernel
theorem dX8_copy_143 : decode cX8_copy 143 = .ok (.iaload, 1) := by decide +kernel
theorem dX8_copy_144 : decode cX8_copy 144 = .ok (.iastore, 1) := by decide +kernel
theorem dX8_copy_145 : decode cX8_copy 145 = .ok (.iinc 6 1, 3) := by decide +kernel
theorem dX8_copy_148 : decode cX8_copy 148 = .ok (.goto (-31), 3) := by decide +kernel
theorem dX8_copy_151 : decode cX8_copy 151 = .ok (.iconst 0, 1) := by decide +kernel
theorem dX8_copy_152 : decode cX8_copy 152 = .ok (.istore 6, 2) := by decide +kernel
theorem dX8_copy_154 : decode cX8_copy 154 = .ok (.iload 6, 2) := by decide +kernel
theorem dX8_copy_156 : decode cX8_copy 156 = .ok (.iload 5, 2) := by decide +kernel
theorem dX8_copy_158 : decode cX8_copy 158 = .ok (.if_icmp .ge 31, 3) := by decide +kernel
theorem dX8_copy_161 : decode cX8_copy 161 = .ok (.aload_n 0, 1) := by decide +kernel
theorem dX8_copy_162 : decode cX8_copy 162 = .ok (.getfield 16, 3) := by decide +kernel
theorem dX8_copy_165 : decode cX8_copy 165 = .ok (.bipush 40, 2) := by decide +kernel
theorem dX8_copy_167 : decode cX8_copy 167 = .ok (.iload_n 3, 1) := by decide +kernel
theorem dX8_copy_168 : decode cX8_copy 168 = .ok (.imul, 1) := by decide +kernel
theorem dX8_copy_169 : decode cX8_copy 169 = .ok (.iload 4, 2) := by decide +kernel
theorem dX8_copy_171 : decode cX8_copy 171 = .ok (.iadd, 1) := by decide +kernel
theorem dX8_copy_172 : decode cX8_copy 172 = .ok (.iload 6, 2) := by decide +kernel
theorem dX8_copy_174 : decode cX8_copy 174 = .ok (.iadd, 1) := by decide +kernel
theorem dX8_copy_175 : decode cX8_copy 175 = .ok (.aload_n 0, 1) := by decide +kernel
theorem dX8_copy_176 : decode cX8_copy 176 = .ok (.getfield 22, 3) := by decide +kernel
theorem dX8_copy_179 : decode cX8_copy 179 = .ok (.iload 6, 2) := by decide +kernel
theorem dX8_copy_181 : decode cX8_copy 181 = .ok (.iaload, 1) := by decide +kernel
theorem dX8_copy_182 : decode cX8_copy 182 = .ok (.iastore, 1) := by decide +kernel
theorem dX8_copy_183 : decode cX8_copy 183 = .ok (.iinc 6 1, 3) := by decide +kernel
theorem dX8_copy_186 : decode cX8_copy 186 = .ok (.goto (-32), 3) := by decide +kernel
theorem dX8_copy_189 : decode cX8_copy 189 = .ok (.aload_n 0, 1) := by decide +kernel
theorem dX8_copy_190 : decode cX8_copy 190 = .ok (.iload 5, 2) := by decide +kernel
theorem dX8_copy_192 : decode cX8_copy 192 = .ok (.invokevirtual 75, 3) := by decide +kernel
theorem dX8_copy_195 : decode cX8_copy 195 = .ok (.ireturn, 1) := by decide +kernel
theorem dX8_drop_0 : decode cX8_drop 0 = .ok (.iload_n 1, 1) := by decide +kernel
theorem dX8_drop_1 : decode cX8_drop 1 = .ok (.invokestatic 64, 3) := by decide +kernel
theorem dX8_drop_4 : decode cX8_drop 4 = .ok (.ifCond .ne 6, 3) := by decide +kernel
theorem dX8_drop_7 : decode cX8_drop 7 = .ok (.ldc 70, 2) := by decide +kernel
theorem dX8_drop_9 : decode cX8_drop 9 = .ok (.ireturn, 1) := by decide +kernel
theorem dX8_drop_10 : decode cX8_drop 10 = .ok (.aload_n 0, 1) := by decide +kernel
theorem dX8_drop_11 : decode cX8_drop 11 = .ok (.getfield 13, 3) := by decide +kernel
theorem dX8_drop_14 : decode cX8_drop 14 = .ok (.iload_n 1, 1) := by decide +kernel
theorem dX8_drop_15 : decode cX8_drop 15 = .ok (.iaload, 1) := by decide +kernel
theorem dX8_drop_16 : decode cX8_drop 16 = .ok (.ifCond .ge 9, 3) := by decide +kernel
theorem dX8_drop_19 : decode cX8_drop 19 = .ok (.aload_n 0, 1) := by decide +kernel
theorem dX8_drop_20 : decode cX8_drop 20 = .ok (.iconst 1, 1) := by decide +kernel
theorem dX8_drop_21 : decode cX8_drop 21 = .ok (.invokevirtual 71, 3) := by decide +kernel
theorem dX8_drop_24 : decode cX8_drop 24 = .ok (.ireturn, 1) := by decide +kernel
theorem dX8_drop_25 : decode cX8_drop 25 = .ok (.aload_n 0, 1) := by decide +kernel
theorem dX8_drop_26 : decode cX8_drop 26 = .ok (.getfield 13, 3) := by decide +kernel
theorem dX8_drop_29 : decode cX8_drop 29 = .ok (.iload_n 1, 1) := by decide +kernel
theorem dX8_drop_30 : decode cX8_drop 30 = .ok (.iaload, 1) := by decide +kernel
theorem dX8_drop_31 : decode cX8_drop 31 = .ok (.istore_n 2, 1) := by decide +kernel
theorem dX8_drop_32 : decode cX8_drop 32 = .ok (.aload_n 0, 1) := by decide +kernel
theorem dX8_drop_33 : decode cX8_drop 33 = .ok (.getfield 13, 3) := by decide +kernel
theorem dX8_drop_36 : decode cX8_drop 36 = .ok (.iload_n 1, 1) := by decide +kernel
theorem dX8_drop_37 : decode cX8_drop 37 = .ok (.iconst (-1), 1) := by decide +kernel
theorem dX8_drop_38 : decode cX8_drop 38 = .ok (.iastore, 1) := by decide +kernel
theorem dX8_drop_39 : decode cX8_drop 39 = .ok (.aload_n 0, 1) := by decide +kernel
theorem dX8_drop_40 : decode cX8_drop 40 = .ok (.iload_n 2, 1) := by decide +kernel
theorem dX8_drop_41 : decode cX8_drop 41 = .ok (.invokevirtual 75, 3) := by decide +kernel
theorem dX8_drop_44 : decode cX8_drop 44 = .ok (.ireturn, 1) := by decide +kernel
theorem dX8_feed_0 : decode cX8_feed 0 = .ok (.iload_n 1, 1) := by decide +kernel
theorem dX8_feed_1 : decode cX8_feed 1 = .ok (.i2l, 1) := by decide +kernel
theorem dX8_feed_2 : decode cX8_feed 2 = .ok (.lconst 0, 1) := by decide +kernel
theorem dX8_feed_3 : decode cX8_feed 3 = .ok (.ldc2_w 82, 3) := by decide +kernel
theorem dX8_feed_6 : decode cX8_feed 6 = .ok (.invokestatic 60, 3) := by decide +kernel
theorem dX8_feed_9 : decode cX8_feed 9 = .ok (.ifCond .ne 6, 3) := by decide +kernel
theorem dX8_feed_12 : decode cX8_feed 12 = .ok (.ldc 70, 2) := by decide +kernel
theorem dX8_feed_14 : decode cX8_feed 14 = .ok (.ireturn, 1) := by decide +kernel
theorem dX8_feed_15 : decode cX8_feed 15 = .ok (.aload_n 0, 1) := by decide +kernel
theorem dX8_feed_16 : decode cX8_feed 16 = .ok (.getfield 84, 3) := by decide +kernel
theorem dX8_feed_19 : decode cX8_feed 19 = .ok (.bipush 120, 2) := by decide +kernel
theorem dX8_feed_21 : decode cX8_feed 21 = .ok (.if_icmp .ne 6, 3) := by decide +kernel
theorem dX8_feed_24 : decode cX8_feed 24 = .ok (.ldc 87, 2) := by decide +kernel
theorem dX8_feed_26 : decode cX8_feed 26 = .ok (.ireturn, 1) := by decide +kernel
theorem dX8_feed_27 : decode cX8_feed 27 = .ok (.aload_n 0, 1) := by decide +kernel
theorem dX8_feed_28 : decode cX8_feed 28 = .ok (.getfield 25, 3) := by decide +kernel
theorem dX8_feed_31 : decode cX8_feed 31 = .ok (.aload_n 0, 1) := by decide +kernel
theorem dX8_feed_32 : decode cX8_feed 32 = .ok (.getfield 84, 3) := by decide +kernel
theorem dX8_feed_35 : decode cX8_feed 35 = .ok (.iload_n 1, 1) := by decide +kernel
theorem dX8_feed_36 : decode cX8_feed 36 = .ok (.iastore, 1) := by decide +kernel
theorem dX8_feed_37 : decode cX8_feed 37 = .ok (.aload_n 0, 1) := by decide +kernel
theorem dX8_feed_38 : decode cX8_feed 38 = .ok (.dup, 1) := by decide +kernel
theorem dX8_feed_39 : decode cX8_feed 39 = .ok (.getfield 84, 3) := by decide +kernel
theorem dX8_feed_42 : decode cX8_feed 42 = .ok (.iconst 1, 1) := by decide +kernel
theorem dX8_feed_43 : decode cX8_feed 43 = .ok (.iadd, 1) := by decide +kernel
theorem dX8_feed_44 : decode cX8_feed 44 = .ok (.putfield 84, 3) := by decide +kernel
theorem dX8_feed_47 : decode cX8_feed 47 = .ok (.aload_n 0, 1) := by decide +kernel
theorem dX8_feed_48 : decode cX8_feed 48 = .ok (.getfield 84, 3) := by decide +kernel
theorem dX8_feed_51 : decode cX8_feed 51 = .ok (.ireturn, 1) := by decide +kernel
theorem dX8_nextToken_0 : decode cX8_nextToken 0 = .ok (.aload_n 0, 1) := by decide +kernel
theorem dX8_nextToken_1 : decode cX8_nextToken 1 = .ok (.aload_n 0, 1) := by decide +kernel
theorem dX8_nextToken_2 : decode cX8_nextToken 2 = .ok (.getfield 88, 3) := by decide +kernel
theorem dX8_nextToken_5 : decode cX8_nextToken 5 = .ok (.putfield 91, 3) := by decide +kernel
theorem dX8_nextToken_8 : decode cX8_nextToken 8 = .ok (.aload_n 0, 1) := by decide +kernel
theorem dX8_nextToken_9 : decode cX8_nextToken 9 = .ok (.aload_n 0, 1) := by decide +kernel
theorem dX8_nextToken_10 : decode cX8_nextToken 10 = .ok (.getfield 88, 3) := by decide +kernel
theorem dX8_nextToken_13 : decode cX8_nextToken 13 = .ok (.aload_n 0, 1) := by decide +kernel
theorem dX8_nextToken_14 : decode cX8_nextToken 14 = .ok (.getfield 84, 3) := by decide +kernel
theorem dX8_nextToken_17 : decode cX8_nextToken 17 = .ok (.if_icmp .ne 7, 3) := by decide +kernel
theorem dX8_nextToken_20 : decode cX8_nextToken 20 = .ok (.iconst 3, 1) := by decide +kernel
theorem dX8_nextToken_21 : decode cX8_nextToken 21 = .ok (.goto 4, 3) := by decide +kernel
theorem dX8_nextToken_24 : decode cX8_nextToken 24 = .ok (.iconst 0, 1) := by decide +kernel
theorem dX8_nextToken_25 : decode cX8_nextToken 25 = .ok (.putfield 94, 3) := by decide +kernel
theorem dX8_nextToken_28 : decode cX8_nextToken 28 = .ok (.aload_n 0, 1) := by decide +kernel
theorem dX8_nextToken_29 : decode cX8_nextToken 29 = .ok (.iconst 0, 1) := by decide +kernel
theorem dX8_nextToken_30 : decode cX8_nextToken 30 = .ok (.putfield 97, 3) := by decide +kernel
theorem dX8_nextToken_33 : decode cX8_nextToken 33 = .ok (.aload_n 0, 1) := by decide +kernel
theorem dX8_nextToken_34 : decode cX8_nextToken 34 = .ok (.getfield 88, 3) := by decide +kernel
theorem dX8_nextToken_37 : decode cX8_nextToken 37 = .ok (.aload_n 0, 1) := by decide +kernel
theorem dX8_nextToken_38 : decode cX8_nextToken 38 = .ok (.getfield 84, 3) := by decide +kernel
theorem dX8_nextToken_41 : decode cX8_nextToken 41 = .ok (.if_icmp .ge 78, 3) := by decide +kernel
theorem dX8_nextToken_44 : decode cX8_nextToken 44 = .ok (.aload_n 0, 1) := by decide +kernel
theorem dX8_nextToken_45 : decode cX8_nextToken 45 = .ok (.getfield 25, 3) := by decide +kernel
theorem dX8_nextToken_48 : decode cX8_nextToken 48 = .ok (.aload_n 0, 1) := by decide +kernel
theorem dX8_nextToken_49 : decode cX8_nextToken 49 = .ok (.getfield 88, 3) := by decide +kernel
theorem dX8_nextToken_52 : decode cX8_nextToken 52 = .ok (.iaload, 1) := by decide +kernel
theorem dX8_nextToken_53 : decode cX8_nextToken 53 = .ok (.i2l, 1) := by decide +kernel
theorem dX8_nextToken_54 : decode cX8_nextToken 54 = .ok (.ldc2_w 100, 3) := by decide +kernel
theorem dX8_nextToken_57 : decode cX8_nextToken 57 = .ok (.ldc2_w 102, 3) := by decide +kernel
theorem dX8_nextToken_60 : decode cX8_nextToken 60 = .ok (.invokestatic 60, 3) := by decide +kernel
theorem dX8_nextToken_63 : decode cX8_nextToken 63 = .ok (.ifCond .eq 56, 3) := by decide +kernel
theorem dX8_nextToken_66 : decode cX8_nextToken 66 = .ok (.aload_n 0, 1) := by decide +kernel
theorem dX8_nextToken_67 : decode cX8_nextToken 67 = .ok (.aload_n 0, 1) := by decide +kernel
theorem dX8_nextToken_68 : decode cX8_nextToken 68 = .ok (.getfield 97, 3) := by decide +kernel
theorem dX8_nextToken_71 : decode cX8_nextToken 71 = .ok (.bipush 99, 2) := by decide +kernel
theorem dX8_nextToken_73 : decode cX8_nextToken 73 = .ok (.if_icmp .le 10, 3) := by decide +kernel
theorem dX8_nextToken_76 : decode cX8_nextToken 76 = .ok (.aload_n 0, 1) := by decide +kernel
theorem dX8_nextToken_77 : decode cX8_nextToken 77 = .ok (.getfield 97, 3) := by decide +kernel
theorem dX8_nextToken_80 : decode cX8_nextToken 80 = .ok (.goto 23, 3) := by decide +kernel
theorem dX8_nextToken_83 : decode cX8_nextToken 83 = .ok (.bipush 10, 2) := by decide +kernel
theorem dX8_nextToken_85 : decode cX8_nextToken 85 = .ok (.aload_n 0, 1) := by decide +kernel
theorem dX8_nextToken_86 : decode cX8_nextToken 86 = .ok (.getfield 97, 3) := by decide +kernel
theorem dX8_nextToken_89 : decode cX8_nextToken 89 = .ok (.imul, 1) := by decide +kernel
theorem dX8_nextToken_90 : decode cX8_nextToken 90 = .ok (.aload_n 0, 1) := by decide +kernel
theorem dX8_nextToken_91 : decode cX8_nextToken 91 = .ok (.getfield 25, 3) := by decide +kernel
theorem dX8_nextToken_94 : decode cX8_nextToken 94 = .ok (.aload_n 0, 1) := by decide +kernel
theorem dX8_nextToken_95 : decode cX8_nextToken 95 = .ok (.getfield 88, 3) := by decide +kernel
theorem dX8_nextToken_98 : decode cX8_nextToken 98 = .ok (.iaload, 1) := by decide +kernel
theorem dX8_nextToken_99 : decode cX8_nextToken 99 = .ok (.iadd, 1) := by decide +kernel
theorem dX8_nextToken_100 : decode cX8_nextToken 100 = .ok (.bipush 48, 2) := by decide +kernel
theorem dX8_nextToken_102 : decode cX8_nextToken 102 = .ok (.isub, 1) := by decide +kernel
theorem dX8_nextToken_103 : decode cX8_nextToken 103 = .ok (.putfield 97, 3) := by decide +kernel
theorem dX8_nextToken_106 : decode cX8_nextToken 106 = .ok (.aload_n 0, 1) := by decide +kernel
theorem dX8_nextToken_107 : decode cX8_nextToken 107 = .ok (.dup, 1) := by decide +kernel
theorem dX8_nextToken_108 : decode cX8_nextToken 108 = .ok (.getfield 88, 3) := by decide +kernel
theorem dX8_nextToken_111 : decode cX8_nextToken 111 = .ok (.iconst 1, 1) := by decide +kernel
theorem dX8_nextToken_112 : decode cX8_nextToken 112 = .ok (.iadd, 1) := by decide +kernel
theorem dX8_nextToken_113 : decode cX8_nextToken 113 = .ok (.putfield 88, 3) := by decide +kernel
theorem dX8_nextToken_116 : decode cX8_nextToken 116 = .ok (.goto (-83), 3) := by decide +kernel
theorem dX8_nextToken_119 : decode cX8_nextToken 119 = .ok (.aload_n 0, 1) := by decide +kernel
theorem dX8_nextToken_120 : decode cX8_nextToken 120 = .ok (.getfield 88, 3) := by decide +kernel
theorem dX8_nextToken_123 : decode cX8_nextToken 123 = .ok (.aload_n 0, 1) := by decide +kernel
theorem dX8_nextToken_124 : decode cX8_nextToken 124 = .ok (.getfield 91, 3) := by decide +kernel
theorem dX8_nextToken_127 : decode cX8_nextToken 127 = .ok (.if_icmp .le 28, 3) := by decide +kernel
theorem dX8_nextToken_130 : decode cX8_nextToken 130 = .ok (.aload_n 0, 1) := by decide +kernel
theorem dX8_nextToken_131 : decode cX8_nextToken 131 = .ok (.aload_n 0, 1) := by decide +kernel
theorem dX8_nextToken_132 : decode cX8_nextToken 132 = .ok (.getfield 88, 3) := by decide +kernel
theorem dX8_nextToken_135 : decode cX8_nextToken 135 = .ok (.aload_n 0, 1) := by decide +kernel
theorem dX8_nextToken_136 : decode cX8_nextToken 136 = .ok (.getfield 91, 3) := by decide +kernel
theorem dX8_nextToken_139 : decode cX8_nextToken 139 = .ok (.isub, 1) := by decide +kernel
theorem dX8_nextToken_140 : decode cX8_nextToken 140 = .ok (.iconst 2, 1) := by decide +kernel
theorem dX8_nextToken_141 : decode cX8_nextToken 141 = .ok (.if_icmp .le 7, 3) := by decide +kernel
theorem dX8_nextToken_144 : decode cX8_nextToken 144 = .ok (.iconst 0, 1) := by decide +kernel
theorem dX8_nextToken_145 : decode cX8_nextToken 145 = .ok (.goto 4, 3) := by decide +kernel
theorem dX8_nextToken_148 : decode cX8_nextToken 148 = .ok (.iconst 2, 1) := by decide +kernel
theorem dX8_nextToken_149 : decode cX8_nextToken 149 = .ok (.putfield 94, 3) := by decide +kernel
theorem dX8_nextToken_152 : decode cX8_nextToken 152 = .ok (.goto 77, 3) := by decide +kernel
theorem dX8_nextToken_155 : decode cX8_nextToken 155 = .ok (.aload_n 0, 1) := by decide +kernel
theorem dX8_nextToken_156 : decode cX8_nextToken 156 = .ok (.getfield 94, 3) := by decide +kernel
theorem dX8_nextToken_159 : decode cX8_nextToken 159 = .ok (.ifCond .ne 70, 3) := by decide +kernel
theorem dX8_nextToken_162 : decode cX8_nextToken 162 = .ok (.aload_n 0, 1) := by decide +kernel
theorem dX8_nextToken_163 : decode cX8_nextToken 163 = .ok (.aload_n 0, 1) := by decide +kernel
theorem dX8_nextToken_164 : decode cX8_nextToken 164 = .ok (.getfield 25, 3) := by decide +kernel
theorem dX8_nextToken_167 : decode cX8_nextToken 167 = .ok (.aload_n 0, 1) := by decide +kernel
theorem dX8_nextToken_168 : decode cX8_nextToken 168 = .ok (.getfield 88, 3) := by decide +kernel
theorem dX8_nextToken_171 : decode cX8_nextToken 171 = .ok (.iaload, 1) := by decide +kernel
theorem dX8_nextToken_172 : decode cX8_nextToken 172 = .ok (.putfield 97, 3) := by decide +kernel
theorem dX8_nextToken_175 : decode cX8_nextToken 175 = .ok (.aload_n 0, 1) := by decide +kernel
theorem dX8_nextToken_176 : decode cX8_nextToken 176 = .ok (.aload_n 0, 1) := by decide +kernel
theorem dX8_nextToken_177 : decode cX8_nextToken 177 = .ok (.getfield 97, 3) := by decide +kernel
theorem dX8_nextToken_180 : decode cX8_nextToken 180 = .ok (.i2l, 1) := by decide +kernel
theorem dX8_nextToken_181 : decode cX8_nextToken 181 = .ok (.ldc2_w 104, 3) := by decide +kernel
theorem dX8_nextToken_184 : decode cX8_nextToken 184 = .ok (.ldc2_w 106, 3) := by decide +kernel
theorem dX8_nextToken_187 : decode cX8_nextToken 187 = .ok (.invokestatic 60, 3) := by decide +kernel
theorem dX8_nextToken_190 : decode cX8_nextToken 190 = .ok (.ifCond .ne 21, 3) := by decide +kernel
theorem dX8_nextToken_193 : decode cX8_nextToken 193 = .ok (.aload_n 0, 1) := by decide +kernel
theorem dX8_nextToken_194 : decode cX8_nextToken 194 = .ok (.getfield 97, 3) := by decide +kernel
theorem dX8_nextToken_197 : decode cX8_nextToken 197 = .ok (.bipush 44, 2) := by decide +kernel
theorem dX8_nextToken_199 : decode cX8_nextToken 199 = .ok (.if_icmp .eq 12, 3) := by decide +kernel
theorem dX8_nextToken_202 : decode cX8_nextToken 202 = .ok (.aload_n 0, 1) := by decide +kernel
theorem dX8_nextToken_203 : decode cX8_nextToken 203 = .ok (.getfield 97, 3) := by decide +kernel
theorem dX8_nextToken_206 : decode cX8_nextToken 206 = .ok (.bipush 59, 2) := by decide +kernel
theorem dX8_nextToken_208 : decode cX8_nextToken 208 = .ok (.if_icmp .ne 7, 3) := by decide +kernel
theorem dX8_nextToken_211 : decode cX8_nextToken 211 = .ok (.iconst 1, 1) := by decide +kernel
theorem dX8_nextToken_212 : decode cX8_nextToken 212 = .ok (.goto 4, 3) := by decide +kernel
theorem dX8_nextToken_215 : decode cX8_nextToken 215 = .ok (.iconst 0, 1) := by decide +kernel
theorem dX8_nextToken_216 : decode cX8_nextToken 216 = .ok (.putfield 94, 3) := by decide +kernel
theorem dX8_nextToken_219 : decode cX8_nextToken 219 = .ok (.aload_n 0, 1) := by decide +kernel
theorem dX8_nextToken_220 : decode cX8_nextToken 220 = .ok (.dup, 1) := by decide +kernel
theorem dX8_nextToken_221 : decode cX8_nextToken 221 = .ok (.getfield 88, 3) := by decide +kernel
theorem dX8_nextToken_224 : decode cX8_nextToken 224 = .ok (.iconst 1, 1) := by decide +kernel
theorem dX8_nextToken_225 : decode cX8_nextToken 225 = .ok (.iadd, 1) := by decide +kernel
theorem dX8_nextToken_226 : decode cX8_nextToken 226 = .ok (.putfield 88, 3) := by decide +kernel
theorem dX8_nextToken_229 : decode cX8_nextToken 229 = .ok (.return_, 1) := by decide +kernel
theorem dX8_faults_0 : decode cX8_faults 0 = .ok (.aload_n 0, 1) := by decide +kernel
theorem dX8_faults_1 : decode cX8_faults 1 = .ok (.iload_n 1, 1) := by decide +kernel
theorem dX8_faults_2 : decode cX8_faults 2 = .ok (.putfield 108, 3) := by decide +kernel
theorem dX8_faults_5 : decode cX8_faults 5 = .ok (.iconst 0, 1) := by decide +kernel
theorem dX8_faults_6 : decode cX8_faults 6 = .ok (.ireturn, 1) := by decide +kernel
theorem dX8_isLetter_0 : decode cX8_isLetter 0 = .ok (.aload_n 0, 1) := by decide +kernel
theorem dX8_isLetter_1 : decode cX8_isLetter 1 = .ok (.getfield 94, 3) := by decide +kernel
theorem dX8_isLetter_4 : decode cX8_isLetter 4 = .ok (.iconst 1, 1) := by decide +kernel
theorem dX8_isLetter_5 : decode cX8_isLetter 5 = .ok (.if_icmp .ne 15, 3) := by decide +kernel
theorem dX8_isLetter_8 : decode cX8_isLetter 8 = .ok (.aload_n 0, 1) := by decide +kernel
theorem dX8_isLetter_9 : decode cX8_isLetter 9 = .ok (.getfield 97, 3) := by decide +kernel
theorem dX8_isLetter_12 : decode cX8_isLetter 12 = .ok (.iload_n 1, 1) := by decide +kernel
theorem dX8_isLetter_13 : decode cX8_isLetter 13 = .ok (.if_icmp .ne 7, 3) := by decide +kernel
theorem dX8_isLetter_16 : decode cX8_isLetter 16 = .ok (.iconst 1, 1) := by decide +kernel
theorem dX8_isLetter_17 : decode cX8_isLetter 17 = .ok (.goto 4, 3) := by decide +kernel
theorem dX8_isLetter_20 : decode cX8_isLetter 20 = .ok (.iconst 0, 1) := by decide +kernel
theorem dX8_isLetter_21 : decode cX8_isLetter 21 = .ok (.ireturn, 1) := by decide +kernel
theorem dX8_takes_0 : decode cX8_takes 0 = .ok (.aload_n 0, 1) := by decide +kernel
theorem dX8_takes_1 : decode cX8_takes 1 = .ok (.iload_n 1, 1) := by decide +kernel
theorem dX8_takes_2 : decode cX8_takes 2 = .ok (.invokevirtual 111, 3) := by decide +kernel
theorem dX8_takes_5 : decode cX8_takes 5 = .ok (.ifCond .ne 9, 3) := by decide +kernel
theorem dX8_takes_8 : decode cX8_takes 8 = .ok (.aload_n 0, 1) := by decide +kernel
theorem dX8_takes_9 : decode cX8_takes 9 = .ok (.iconst 1, 1) := by decide +kernel
theorem dX8_takes_10 : decode cX8_takes 10 = .ok (.invokevirtual 114, 3) := by decide +kernel
theorem dX8_takes_13 : decode cX8_takes 13 = .ok (.ireturn, 1) := by decide +kernel
theorem dX8_takes_14 : decode cX8_takes 14 = .ok (.aload_n 0, 1) := by decide +kernel
theorem dX8_takes_15 : decode cX8_takes 15 = .ok (.invokevirtual 117, 3) := by decide +kernel
theorem dX8_takes_18 : decode cX8_takes 18 = .ok (.iconst 1, 1) := by decide +kernel
theorem dX8_takes_19 : decode cX8_takes 19 = .ok (.ireturn, 1) := by decide +kernel
theorem dX8_takesNumber_0 : decode cX8_takesNumber 0 = .ok (.aload_n 0, 1) := by decide +kernel
theorem dX8_takesNumber_1 : decode cX8_takesNumber 1 = .ok (.getfield 94, 3) := by decide +kernel
theorem dX8_takesNumber_4 : decode cX8_takesNumber 4 = .ok (.iconst 2, 1) := by decide +kernel
theorem dX8_takesNumber_5 : decode cX8_takesNumber 5 = .ok (.if_icmp .ne 18, 3) := by decide +kernel
theorem dX8_takesNumber_8 : decode cX8_takesNumber 8 = .ok (.aload_n 0, 1) := by decide +kernel
theorem dX8_takesNumber_9 : decode cX8_takesNumber 9 = .ok (.getfield 97, 3) := by decide +kernel
theorem dX8_takesNumber_12 : decode cX8_takesNumber 12 = .ok (.i2l, 1) := by decide +kernel
theorem dX8_takesNumber_13 : decode cX8_takesNumber 13 = .ok (.iload_n 1, 1) := by decide +kernel
theorem dX8_takesNumber_14 : decode cX8_takesNumber 14 = .ok (.i2l, 1) := by decide +kernel
theorem dX8_takesNumber_15 : decode cX8_takesNumber 15 = .ok (.iload_n 2, 1) := by decide +kernel
theorem dX8_takesNumber_16 : decode cX8_takesNumber 16 = .ok (.i2l, 1) := by decide +kernel
theorem dX8_takesNumber_17 : decode cX8_takesNumber 17 = .ok (.invokestatic 60, 3) := by decide +kernel
theorem dX8_takesNumber_20 : decode cX8_takesNumber 20 = .ok (.ifCond .ne 21, 3) := by decide +kernel
theorem dX8_takesNumber_23 : decode cX8_takesNumber 23 = .ok (.aload_n 0, 1) := by decide +kernel
theorem dX8_takesNumber_24 : decode cX8_takesNumber 24 = .ok (.aload_n 0, 1) := by decide +kernel
theorem dX8_takesNumber_25 : decode cX8_takesNumber 25 = .ok (.getfield 94, 3) := by decide +kernel
theorem dX8_takesNumber_28 : decode cX8_takesNumber 28 = .ok (.iconst 2, 1) := by decide +kernel
theorem dX8_takesNumber_29 : decode cX8_takesNumber 29 = .ok (.if_icmp .ne 7, 3) := by decide +kernel
theorem dX8_takesNumber_32 : decode cX8_takesNumber 32 = .ok (.iconst 2, 1) := by decide +kernel
theorem dX8_takesNumber_33 : decode cX8_takesNumber 33 = .ok (.goto 4, 3) := by decide +kernel
theorem dX8_takesNumber_36 : decode cX8_takesNumber 36 = .ok (.iconst 1, 1) := by decide +kernel
theorem dX8_takesNumber_37 : decode cX8_takesNumber 37 = .ok (.invokevirtual 114, 3) := by decide +kernel
theorem dX8_takesNumber_40 : decode cX8_takesNumber 40 = .ok (.ireturn, 1) := by decide +kernel
theorem dX8_takesNumber_41 : decode cX8_takesNumber 41 = .ok (.aload_n 0, 1) := by decide +kernel
theorem dX8_takesNumber_42 : decode cX8_takesNumber 42 = .ok (.getfield 28, 3) := by decide +kernel
theorem dX8_takesNumber_45 : decode cX8_takesNumber 45 = .ok (.iload_n 3, 1) := by decide +kernel
theorem dX8_takesNumber_46 : decode cX8_takesNumber 46 = .ok (.aload_n 0, 1) := by decide +kernel
theorem dX8_takesNumber_47 : decode cX8_takesNumber 47 = .ok (.getfield 97, 3) := by decide +kernel
theorem dX8_takesNumber_50 : decode cX8_takesNumber 50 = .ok (.iastore, 1) := by decide +kernel
theorem dX8_takesNumber_51 : decode cX8_takesNumber 51 = .ok (.aload_n 0, 1) := by decide +kernel
theorem dX8_takesNumber_52 : decode cX8_takesNumber 52 = .ok (.invokevirtual 117, 3) := by decide +kernel
theorem dX8_takesNumber_55 : decode cX8_takesNumber 55 = .ok (.aload_n 0, 1) := by decide +kernel
theorem dX8_takesNumber_56 : decode cX8_takesNumber 56 = .ok (.iload 4, 2) := by decide +kernel
theorem dX8_takesNumber_58 : decode cX8_takesNumber 58 = .ok (.invokevirtual 120, 3) := by decide +kernel
theorem dX8_takesNumber_61 : decode cX8_takesNumber 61 = .ok (.ireturn, 1) := by decide +kernel
theorem dX8_readThing_0 : decode cX8_readThing 0 = .ok (.aload_n 0, 1) := by decide +kernel
theorem dX8_readThing_1 : decode cX8_readThing 1 = .ok (.getfield 28, 3) := by decide +kernel
theorem dX8_readThing_4 : decode cX8_readThing 4 = .ok (.iconst 2, 1) := by decide +kernel
theorem dX8_readThing_5 : decode cX8_readThing 5 = .ok (.iaload, 1) := by decide +kernel
theorem dX8_readThing_6 : decode cX8_readThing 6 = .ok (.istore_n 2, 1) := by decide +kernel
theorem dX8_readThing_7 : decode cX8_readThing 7 = .ok (.iload_n 2, 1) := by decide +kernel
theorem dX8_readThing_8 : decode cX8_readThing 8 = .ok (.bipush 6, 2) := by decide +kernel
theorem dX8_readThing_10 : decode cX8_readThing 10 = .ok (.if_icmp .eq 12, 3) := by decide +kernel
theorem dX8_readThing_13 : decode cX8_readThing 13 = .ok (.aload_n 0, 1) := by decide +kernel
theorem dX8_readThing_14 : decode cX8_readThing 14 = .ok (.getfield 28, 3) := by decide +kernel
theorem dX8_readThing_17 : decode cX8_readThing 17 = .ok (.iconst 3, 1) := by decide +kernel
theorem dX8_readThing_18 : decode cX8_readThing 18 = .ok (.iaload, 1) := by decide +kernel
theorem dX8_readThing_19 : decode cX8_readThing 19 = .ok (.ifCond .le 22, 3) := by decide +kernel
theorem dX8_readThing_22 : decode cX8_readThing 22 = .ok (.aload_n 0, 1) := by decide +kernel
theorem dX8_readThing_23 : decode cX8_readThing 23 = .ok (.aload_n 0, 1) := by decide +kernel
theorem dX8_readThing_24 : decode cX8_readThing 24 = .ok (.getfield 28, 3) := by decide +kernel
theorem dX8_readThing_27 : decode cX8_readThing 27 = .ok (.iconst 3, 1) := by decide +kernel
theorem dX8_readThing_28 : decode cX8_readThing 28 = .ok (.iaload, 1) := by decide +kernel
theorem dX8_readThing_29 : decode cX8_readThing 29 = .ok (.ifCond .le 7, 3) := by decide +kernel
theorem dX8_readThing_32 : decode cX8_readThing 32 = .ok (.iconst 1, 1) := by decide +kernel
theorem dX8_readThing_33 : decode cX8_readThing 33 = .ok (.goto 4, 3) := by decide +kernel
theorem dX8_readThing_36 : decode cX8_readThing 36 = .ok (.iconst 3, 1) := by decide +kernel
theorem dX8_readThing_37 : decode cX8_readThing 37 = .ok (.invokevirtual 114, 3) := by decide +kernel
theorem dX8_readThing_40 : decode cX8_readThing 40 = .ok (.ireturn, 1) := by decide +kernel
theorem dX8_readThing_41 : decode cX8_readThing 41 = .ok (.aload_n 0, 1) := by decide +kernel
theorem dX8_readThing_42 : decode cX8_readThing 42 = .ok (.invokevirtual 117, 3) := by decide +kernel
theorem dX8_readThing_45 : decode cX8_readThing 45 = .ok (.aload_n 0, 1) := by decide +kernel
theorem dX8_readThing_46 : decode cX8_readThing 46 = .ok (.getfield 28, 3) := by decide +kernel
theorem dX8_readThing_49 : decode cX8_readThing 49 = .ok (.bipush 7, 2) := by decide +kernel
theorem dX8_readThing_51 : decode cX8_readThing 51 = .ok (.iload_n 2, 1) := by decide +kernel
theorem dX8_readThing_52 : decode cX8_readThing 52 = .ok (.iadd, 1) := by decide +kernel
theorem dX8_readThing_53 : decode cX8_readThing 53 = .ok (.iload_n 1, 1) := by decide +kernel
theorem dX8_readThing_54 : decode cX8_readThing 54 = .ok (.iastore, 1) := by decide +kernel
theorem dX8_readThing_55 : decode cX8_readThing 55 = .ok (.aload_n 0, 1) := by decide +kernel
theorem dX8_readThing_56 : decode cX8_readThing 56 = .ok (.getfield 28, 3) := by decide +kernel
theorem dX8_readThing_59 : decode cX8_readThing 59 = .ok (.bipush 31, 2) := by decide +kernel
theorem dX8_readThing_61 : decode cX8_readThing 61 = .ok (.iload_n 2, 1) := by decide +kernel
theorem dX8_readThing_62 : decode cX8_readThing 62 = .ok (.iadd, 1) := by decide +kernel
theorem dX8_readThing_63 : decode cX8_readThing 63 = .ok (.iload_n 2, 1) := by decide +kernel
theorem dX8_readThing_64 : decode cX8_readThing 64 = .ok (.iastore, 1) := by decide +kernel
theorem dX8_readThing_65 : decode cX8_readThing 65 = .ok (.aload_n 0, 1) := by decide +kernel
theorem dX8_readThing_66 : decode cX8_readThing 66 = .ok (.getfield 28, 3) := by decide +kernel
theorem dX8_readThing_69 : decode cX8_readThing 69 = .ok (.iconst 2, 1) := by decide +kernel
theorem dX8_readThing_70 : decode cX8_readThing 70 = .ok (.dup2, 1) := by decide +kernel
theorem dX8_readThing_71 : decode cX8_readThing 71 = .ok (.iaload, 1) := by decide +kernel
theorem dX8_readThing_72 : decode cX8_readThing 72 = .ok (.iconst 1, 1) := by decide +kernel
theorem dX8_readThing_73 : decode cX8_readThing 73 = .ok (.iadd, 1) := by decide +kernel
theorem dX8_readThing_74 : decode cX8_readThing 74 = .ok (.iastore, 1) := by decide +kernel
theorem dX8_readThing_75 : decode cX8_readThing 75 = .ok (.aload_n 0, 1) := by decide +kernel
theorem dX8_readThing_76 : decode cX8_readThing 76 = .ok (.getfield 28, 3) := by decide +kernel
theorem dX8_readThing_79 : decode cX8_readThing 79 = .ok (.bipush 6, 2) := by decide +kernel
theorem dX8_readThing_81 : decode cX8_readThing 81 = .ok (.dup2, 1) := by decide +kernel
theorem dX8_readThing_82 : decode cX8_readThing 82 = .ok (.iaload, 1) := by decide +kernel
theorem dX8_readThing_83 : decode cX8_readThing 83 = .ok (.iconst 1, 1) := by decide +kernel
theorem dX8_readThing_84 : decode cX8_readThing 84 = .ok (.iadd, 1) := by decide +kernel
theorem dX8_readThing_85 : decode cX8_readThing 85 = .ok (.iastore, 1) := by decide +kernel
theorem dX8_readThing_86 : decode cX8_readThing 86 = .ok (.aload_n 0, 1) := by decide +kernel
theorem dX8_readThing_87 : decode cX8_readThing 87 = .ok (.iconst 0, 1) := by decide +kernel
theorem dX8_readThing_88 : decode cX8_readThing 88 = .ok (.bipush 9, 2) := by decide +kernel
theorem dX8_readThing_90 : decode cX8_readThing 90 = .ok (.bipush 13, 2) := by decide +kernel
theorem dX8_readThing_92 : decode cX8_readThing 92 = .ok (.iload_n 2, 1) := by decide +kernel
theorem dX8_readThing_93 : decode cX8_readThing 93 = .ok (.iadd, 1) := by decide +kernel
theorem dX8_readThing_94 : decode cX8_readThing 94 = .ok (.bipush 44, 2) := by decide +kernel
theorem dX8_readThing_96 : decode cX8_readThing 96 = .ok (.invokevirtual 123, 3) := by decide +kernel
theorem dX8_readThing_99 : decode cX8_readThing 99 = .ok (.ifCond .eq 39, 3) := by decide +kernel
theorem dX8_readThing_102 : decode cX8_readThing 102 = .ok (.aload_n 0, 1) := by decide +kernel
theorem dX8_readThing_103 : decode cX8_readThing 103 = .ok (.iconst 1, 1) := by decide +kernel
