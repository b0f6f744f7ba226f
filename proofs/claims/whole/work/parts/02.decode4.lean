theorem dX7_heard_17 : decode cX7_heard 17 = .ok (.istore_n 2, 1) := by decide +kernel
theorem dX7_heard_18 : decode cX7_heard 18 = .ok (.iconst 0, 1) := by decide +kernel
theorem dX7_heard_19 : decode cX7_heard 19 = .ok (.istore_n 3, 1) := by decide +kernel
theorem dX7_heard_20 : decode cX7_heard 20 = .ok (.iload_n 3, 1) := by decide +kernel
theorem dX7_heard_21 : decode cX7_heard 21 = .ok (.iload_n 2, 1) := by decide +kernel
theorem dX7_heard_22 : decode cX7_heard 22 = .ok (.if_icmp .eq 52, 3) := by decide +kernel
theorem dX7_heard_25 : decode cX7_heard 25 = .ok (.iload_n 2, 1) := by decide +kernel
theorem dX7_heard_26 : decode cX7_heard 26 = .ok (.istore_n 3, 1) := by decide +kernel
theorem dX7_heard_27 : decode cX7_heard 27 = .ok (.iconst 0, 1) := by decide +kernel
theorem dX7_heard_28 : decode cX7_heard 28 = .ok (.istore 4, 2) := by decide +kernel
theorem dX7_heard_30 : decode cX7_heard 30 = .ok (.iload 4, 2) := by decide +kernel
theorem dX7_heard_32 : decode cX7_heard 32 = .ok (.aload_n 0, 1) := by decide +kernel
theorem dX7_heard_33 : decode cX7_heard 33 = .ok (.getfield 7, 3) := by decide +kernel
theorem dX7_heard_36 : decode cX7_heard 36 = .ok (.iconst 4, 1) := by decide +kernel
theorem dX7_heard_37 : decode cX7_heard 37 = .ok (.iaload, 1) := by decide +kernel
theorem dX7_heard_38 : decode cX7_heard 38 = .ok (.if_icmp .ge 33, 3) := by decide +kernel
theorem dX7_heard_41 : decode cX7_heard 41 = .ok (.iload_n 2, 1) := by decide +kernel
theorem dX7_heard_42 : decode cX7_heard 42 = .ok (.iload_n 3, 1) := by decide +kernel
theorem dX7_heard_43 : decode cX7_heard 43 = .ok (.iload 4, 2) := by decide +kernel
theorem dX7_heard_45 : decode cX7_heard 45 = .ok (.ishr, 1) := by decide +kernel
theorem dX7_heard_46 : decode cX7_heard 46 = .ok (.iconst 1, 1) := by decide +kernel
theorem dX7_heard_47 : decode cX7_heard 47 = .ok (.iand, 1) := by decide +kernel
theorem dX7_heard_48 : decode cX7_heard 48 = .ok (.iconst 1, 1) := by decide +kernel
theorem dX7_heard_49 : decode cX7_heard 49 = .ok (.if_icmp .ne 13, 3) := by decide +kernel
theorem dX7_heard_52 : decode cX7_heard 52 = .ok (.aload_n 0, 1) := by decide +kernel
theorem dX7_heard_53 : decode cX7_heard 53 = .ok (.iload 4, 2) := by decide +kernel
theorem dX7_heard_55 : decode cX7_heard 55 = .ok (.iconst 4, 1) := by decide +kernel
theorem dX7_heard_56 : decode cX7_heard 56 = .ok (.invokevirtual 120, 3) := by decide +kernel
theorem dX7_heard_59 : decode cX7_heard 59 = .ok (.goto 4, 3) := by decide +kernel
theorem dX7_heard_62 : decode cX7_heard 62 = .ok (.iconst 0, 1) := by decide +kernel
theorem dX7_heard_63 : decode cX7_heard 63 = .ok (.ior, 1) := by decide +kernel
theorem dX7_heard_64 : decode cX7_heard 64 = .ok (.istore_n 2, 1) := by decide +kernel
theorem dX7_heard_65 : decode cX7_heard 65 = .ok (.iinc 4 1, 3) := by decide +kernel
theorem dX7_heard_68 : decode cX7_heard 68 = .ok (.goto (-38), 3) := by decide +kernel
theorem dX7_heard_71 : decode cX7_heard 71 = .ok (.goto (-51), 3) := by decide +kernel
theorem dX7_heard_74 : decode cX7_heard 74 = .ok (.iload_n 2, 1) := by decide +kernel
theorem dX7_heard_75 : decode cX7_heard 75 = .ok (.ireturn, 1) := by decide +kernel
theorem dX7_divisor_0 : decode cX7_divisor 0 = .ok (.iload_n 0, 1) := by decide +kernel
theorem dX7_divisor_1 : decode cX7_divisor 1 = .ok (.istore_n 2, 1) := by decide +kernel
theorem dX7_divisor_2 : decode cX7_divisor 2 = .ok (.iload_n 1, 1) := by decide +kernel
theorem dX7_divisor_3 : decode cX7_divisor 3 = .ok (.istore_n 3, 1) := by decide +kernel
theorem dX7_divisor_4 : decode cX7_divisor 4 = .ok (.iload_n 3, 1) := by decide +kernel
theorem dX7_divisor_5 : decode cX7_divisor 5 = .ok (.ifCond .eq 16, 3) := by decide +kernel
theorem dX7_divisor_8 : decode cX7_divisor 8 = .ok (.iload_n 2, 1) := by decide +kernel
theorem dX7_divisor_9 : decode cX7_divisor 9 = .ok (.iload_n 3, 1) := by decide +kernel
theorem dX7_divisor_10 : decode cX7_divisor 10 = .ok (.irem, 1) := by decide +kernel
theorem dX7_divisor_11 : decode cX7_divisor 11 = .ok (.istore 4, 2) := by decide +kernel
theorem dX7_divisor_13 : decode cX7_divisor 13 = .ok (.iload_n 3, 1) := by decide +kernel
theorem dX7_divisor_14 : decode cX7_divisor 14 = .ok (.istore_n 2, 1) := by decide +kernel
theorem dX7_divisor_15 : decode cX7_divisor 15 = .ok (.iload 4, 2) := by decide +kernel
theorem dX7_divisor_17 : decode cX7_divisor 17 = .ok (.istore_n 3, 1) := by decide +kernel
theorem dX7_divisor_18 : decode cX7_divisor 18 = .ok (.goto (-14), 3) := by decide +kernel
theorem dX7_divisor_21 : decode cX7_divisor 21 = .ok (.iload_n 2, 1) := by decide +kernel
theorem dX7_divisor_22 : decode cX7_divisor 22 = .ok (.ireturn, 1) := by decide +kernel
theorem dX7_odds_0 : decode cX7_odds 0 = .ok (.aload_n 0, 1) := by decide +kernel
theorem dX7_odds_1 : decode cX7_odds 1 = .ok (.iload_n 1, 1) := by decide +kernel
theorem dX7_odds_2 : decode cX7_odds 2 = .ok (.invokevirtual 57, 3) := by decide +kernel
theorem dX7_odds_5 : decode cX7_odds 5 = .ok (.ifCond .eq 12, 3) := by decide +kernel
theorem dX7_odds_8 : decode cX7_odds 8 = .ok (.iload_n 2, 1) := by decide +kernel
theorem dX7_odds_9 : decode cX7_odds 9 = .ok (.iconst 0, 1) := by decide +kernel
theorem dX7_odds_10 : decode cX7_odds 10 = .ok (.iconst 1, 1) := by decide +kernel
theorem dX7_odds_11 : decode cX7_odds 11 = .ok (.invokestatic 53, 3) := by decide +kernel
theorem dX7_odds_14 : decode cX7_odds 14 = .ok (.ifCond .ne 9, 3) := by decide +kernel
theorem dX7_odds_17 : decode cX7_odds 17 = .ok (.aload_n 0, 1) := by decide +kernel
theorem dX7_odds_18 : decode cX7_odds 18 = .ok (.iconst 1, 1) := by decide +kernel
theorem dX7_odds_19 : decode cX7_odds 19 = .ok (.invokevirtual 61, 3) := by decide +kernel
theorem dX7_odds_22 : decode cX7_odds 22 = .ok (.ireturn, 1) := by decide +kernel
theorem dX7_odds_23 : decode cX7_odds 23 = .ok (.aload_n 0, 1) := by decide +kernel
theorem dX7_odds_24 : decode cX7_odds 24 = .ok (.getfield 7, 3) := by decide +kernel
theorem dX7_odds_27 : decode cX7_odds 27 = .ok (.iconst 4, 1) := by decide +kernel
theorem dX7_odds_28 : decode cX7_odds 28 = .ok (.iaload, 1) := by decide +kernel
theorem dX7_odds_29 : decode cX7_odds 29 = .ok (.iconst 1, 1) := by decide +kernel
theorem dX7_odds_30 : decode cX7_odds 30 = .ok (.isub, 1) := by decide +kernel
theorem dX7_odds_31 : decode cX7_odds 31 = .ok (.istore_n 3, 1) := by decide +kernel
theorem dX7_odds_32 : decode cX7_odds 32 = .ok (.iload_n 3, 1) := by decide +kernel
theorem dX7_odds_33 : decode cX7_odds 33 = .ok (.ifCond .ne 9, 3) := by decide +kernel
theorem dX7_odds_36 : decode cX7_odds 36 = .ok (.aload_n 0, 1) := by decide +kernel
theorem dX7_odds_37 : decode cX7_odds 37 = .ok (.iconst 3, 1) := by decide +kernel
theorem dX7_odds_38 : decode cX7_odds 38 = .ok (.invokevirtual 61, 3) := by decide +kernel
theorem dX7_odds_41 : decode cX7_odds 41 = .ok (.ireturn, 1) := by decide +kernel
theorem dX7_odds_42 : decode cX7_odds 42 = .ok (.iconst 0, 1) := by decide +kernel
theorem dX7_odds_43 : decode cX7_odds 43 = .ok (.istore 4, 2) := by decide +kernel
theorem dX7_odds_45 : decode cX7_odds 45 = .ok (.iconst 0, 1) := by decide +kernel
theorem dX7_odds_46 : decode cX7_odds 46 = .ok (.istore 5, 2) := by decide +kernel
theorem dX7_odds_48 : decode cX7_odds 48 = .ok (.iload 5, 2) := by decide +kernel
theorem dX7_odds_50 : decode cX7_odds 50 = .ok (.aload_n 0, 1) := by decide +kernel
theorem dX7_odds_51 : decode cX7_odds 51 = .ok (.getfield 7, 3) := by decide +kernel
theorem dX7_odds_54 : decode cX7_odds 54 = .ok (.iconst 4, 1) := by decide +kernel
theorem dX7_odds_55 : decode cX7_odds 55 = .ok (.iaload, 1) := by decide +kernel
theorem dX7_odds_56 : decode cX7_odds 56 = .ok (.if_icmp .ge 41, 3) := by decide +kernel
theorem dX7_odds_59 : decode cX7_odds 59 = .ok (.iload 4, 2) := by decide +kernel
theorem dX7_odds_61 : decode cX7_odds 61 = .ok (.iload 5, 2) := by decide +kernel
theorem dX7_odds_63 : decode cX7_odds 63 = .ok (.iload_n 1, 1) := by decide +kernel
theorem dX7_odds_64 : decode cX7_odds 64 = .ok (.if_icmp .eq 23, 3) := by decide +kernel
theorem dX7_odds_67 : decode cX7_odds 67 = .ok (.aload_n 0, 1) := by decide +kernel
theorem dX7_odds_68 : decode cX7_odds 68 = .ok (.iload 5, 2) := by decide +kernel
theorem dX7_odds_70 : decode cX7_odds 70 = .ok (.iload_n 1, 1) := by decide +kernel
theorem dX7_odds_71 : decode cX7_odds 71 = .ok (.invokevirtual 142, 3) := by decide +kernel
theorem dX7_odds_74 : decode cX7_odds 74 = .ok (.aload_n 0, 1) := by decide +kernel
theorem dX7_odds_75 : decode cX7_odds 75 = .ok (.iload_n 1, 1) := by decide +kernel
theorem dX7_odds_76 : decode cX7_odds 76 = .ok (.iconst 2, 1) := by decide +kernel
theorem dX7_odds_77 : decode cX7_odds 77 = .ok (.invokevirtual 120, 3) := by decide +kernel
theorem dX7_odds_80 : decode cX7_odds 80 = .ok (.if_icmp .le 7, 3) := by decide +kernel
theorem dX7_odds_83 : decode cX7_odds 83 = .ok (.iconst 1, 1) := by decide +kernel
theorem dX7_odds_84 : decode cX7_odds 84 = .ok (.goto 4, 3) := by decide +kernel
theorem dX7_odds_87 : decode cX7_odds 87 = .ok (.iconst 0, 1) := by decide +kernel
theorem dX7_odds_88 : decode cX7_odds 88 = .ok (.iadd, 1) := by decide +kernel
theorem dX7_odds_89 : decode cX7_odds 89 = .ok (.istore 4, 2) := by decide +kernel
theorem dX7_odds_91 : decode cX7_odds 91 = .ok (.iinc 5 1, 3) := by decide +kernel
theorem dX7_odds_94 : decode cX7_odds 94 = .ok (.goto (-46), 3) := by decide +kernel
theorem dX7_odds_97 : decode cX7_odds 97 = .ok (.iload 4, 2) := by decide +kernel
theorem dX7_odds_99 : decode cX7_odds 99 = .ok (.iload_n 3, 1) := by decide +kernel
theorem dX7_odds_100 : decode cX7_odds 100 = .ok (.invokestatic 207, 3) := by decide +kernel
theorem dX7_odds_103 : decode cX7_odds 103 = .ok (.istore 5, 2) := by decide +kernel
theorem dX7_odds_105 : decode cX7_odds 105 = .ok (.iload_n 2, 1) := by decide +kernel
theorem dX7_odds_106 : decode cX7_odds 106 = .ok (.ifCond .ne 11, 3) := by decide +kernel
theorem dX7_odds_109 : decode cX7_odds 109 = .ok (.iload 4, 2) := by decide +kernel
theorem dX7_odds_111 : decode cX7_odds 111 = .ok (.iload 5, 2) := by decide +kernel
theorem dX7_odds_113 : decode cX7_odds 113 = .ok (.idiv, 1) := by decide +kernel
theorem dX7_odds_114 : decode cX7_odds 114 = .ok (.goto 7, 3) := by decide +kernel
theorem dX7_odds_117 : decode cX7_odds 117 = .ok (.iload_n 3, 1) := by decide +kernel
theorem dX7_odds_118 : decode cX7_odds 118 = .ok (.iload 5, 2) := by decide +kernel
theorem dX7_odds_120 : decode cX7_odds 120 = .ok (.idiv, 1) := by decide +kernel
theorem dX7_odds_121 : decode cX7_odds 121 = .ok (.ireturn, 1) := by decide +kernel
theorem dX7_areNearSo_0 : decode cX7_areNearSo 0 = .ok (.aload_n 0, 1) := by decide +kernel
theorem dX7_areNearSo_1 : decode cX7_areNearSo 1 = .ok (.getfield 43, 3) := by decide +kernel
theorem dX7_areNearSo_4 : decode cX7_areNearSo 4 = .ok (.iload_n 1, 1) := by decide +kernel
theorem dX7_areNearSo_5 : decode cX7_areNearSo 5 = .ok (.iaload, 1) := by decide +kernel
theorem dX7_areNearSo_6 : decode cX7_areNearSo 6 = .ok (.aload_n 0, 1) := by decide +kernel
theorem dX7_areNearSo_7 : decode cX7_areNearSo 7 = .ok (.getfield 7, 3) := by decide +kernel
theorem dX7_areNearSo_10 : decode cX7_areNearSo 10 = .ok (.iconst 4, 1) := by decide +kernel
theorem dX7_areNearSo_11 : decode cX7_areNearSo 11 = .ok (.iaload, 1) := by decide +kernel
theorem dX7_areNearSo_12 : decode cX7_areNearSo 12 = .ok (.if_icmp .gt 7, 3) := by decide +kernel
theorem dX7_areNearSo_15 : decode cX7_areNearSo 15 = .ok (.iconst 1, 1) := by decide +kernel
theorem dX7_areNearSo_16 : decode cX7_areNearSo 16 = .ok (.goto 4, 3) := by decide +kernel
theorem dX7_areNearSo_19 : decode cX7_areNearSo 19 = .ok (.iconst 0, 1) := by decide +kernel
theorem dX7_areNearSo_20 : decode cX7_areNearSo 20 = .ok (.istore_n 2, 1) := by decide +kernel
theorem dX7_areNearSo_21 : decode cX7_areNearSo 21 = .ok (.iconst 0, 1) := by decide +kernel
theorem dX7_areNearSo_22 : decode cX7_areNearSo 22 = .ok (.istore_n 3, 1) := by decide +kernel
theorem dX7_areNearSo_23 : decode cX7_areNearSo 23 = .ok (.iload_n 3, 1) := by decide +kernel
theorem dX7_areNearSo_24 : decode cX7_areNearSo 24 = .ok (.aload_n 0, 1) := by decide +kernel
theorem dX7_areNearSo_25 : decode cX7_areNearSo 25 = .ok (.getfield 43, 3) := by decide +kernel
theorem dX7_areNearSo_28 : decode cX7_areNearSo 28 = .ok (.iload_n 1, 1) := by decide +kernel
theorem dX7_areNearSo_29 : decode cX7_areNearSo 29 = .ok (.iaload, 1) := by decide +kernel
theorem dX7_areNearSo_30 : decode cX7_areNearSo 30 = .ok (.if_icmp .ge 39, 3) := by decide +kernel
theorem dX7_areNearSo_33 : decode cX7_areNearSo 33 = .ok (.iload_n 2, 1) := by decide +kernel
theorem dX7_areNearSo_34 : decode cX7_areNearSo 34 = .ok (.ifCond .eq 35, 3) := by decide +kernel
theorem dX7_areNearSo_37 : decode cX7_areNearSo 37 = .ok (.aload_n 0, 1) := by decide +kernel
theorem dX7_areNearSo_38 : decode cX7_areNearSo 38 = .ok (.iload_n 3, 1) := by decide +kernel
theorem dX7_areNearSo_39 : decode cX7_areNearSo 39 = .ok (.iconst 2, 1) := by decide +kernel
theorem dX7_areNearSo_40 : decode cX7_areNearSo 40 = .ok (.invokevirtual 120, 3) := by decide +kernel
theorem dX7_areNearSo_43 : decode cX7_areNearSo 43 = .ok (.aload_n 0, 1) := by decide +kernel
theorem dX7_areNearSo_44 : decode cX7_areNearSo 44 = .ok (.getfield 46, 3) := by decide +kernel
theorem dX7_areNearSo_47 : decode cX7_areNearSo 47 = .ok (.bipush 24, 2) := by decide +kernel
theorem dX7_areNearSo_49 : decode cX7_areNearSo 49 = .ok (.iload_n 1, 1) := by decide +kernel
theorem dX7_areNearSo_50 : decode cX7_areNearSo 50 = .ok (.imul, 1) := by decide +kernel
theorem dX7_areNearSo_51 : decode cX7_areNearSo 51 = .ok (.iload_n 3, 1) := by decide +kernel
theorem dX7_areNearSo_52 : decode cX7_areNearSo 52 = .ok (.iadd, 1) := by decide +kernel
theorem dX7_areNearSo_53 : decode cX7_areNearSo 53 = .ok (.iaload, 1) := by decide +kernel
theorem dX7_areNearSo_54 : decode cX7_areNearSo 54 = .ok (.if_icmp .ne 7, 3) := by decide +kernel
theorem dX7_areNearSo_57 : decode cX7_areNearSo 57 = .ok (.iconst 1, 1) := by decide +kernel
theorem dX7_areNearSo_58 : decode cX7_areNearSo 58 = .ok (.goto 4, 3) := by decide +kernel
theorem dX7_areNearSo_61 : decode cX7_areNearSo 61 = .ok (.iconst 0, 1) := by decide +kernel
theorem dX7_areNearSo_62 : decode cX7_areNearSo 62 = .ok (.istore_n 2, 1) := by decide +kernel
theorem dX7_areNearSo_63 : decode cX7_areNearSo 63 = .ok (.iinc 3 1, 3) := by decide +kernel
theorem dX7_areNearSo_66 : decode cX7_areNearSo 66 = .ok (.goto (-43), 3) := by decide +kernel
theorem dX7_areNearSo_69 : decode cX7_areNearSo 69 = .ok (.iload_n 2, 1) := by decide +kernel
theorem dX7_areNearSo_70 : decode cX7_areNearSo 70 = .ok (.ireturn, 1) := by decide +kernel
theorem dX7_isSoBy_0 : decode cX7_isSoBy 0 = .ok (.aload_n 0, 1) := by decide +kernel
theorem dX7_isSoBy_1 : decode cX7_isSoBy 1 = .ok (.invokevirtual 191, 3) := by decide +kernel
theorem dX7_isSoBy_4 : decode cX7_isSoBy 4 = .ok (.aload_n 0, 1) := by decide +kernel
theorem dX7_isSoBy_5 : decode cX7_isSoBy 5 = .ok (.iload_n 3, 1) := by decide +kernel
theorem dX7_isSoBy_6 : decode cX7_isSoBy 6 = .ok (.iconst 3, 1) := by decide +kernel
theorem dX7_isSoBy_7 : decode cX7_isSoBy 7 = .ok (.iload 4, 2) := by decide +kernel
theorem dX7_isSoBy_9 : decode cX7_isSoBy 9 = .ok (.invokevirtual 151, 3) := by decide +kernel
theorem dX7_isSoBy_12 : decode cX7_isSoBy 12 = .ok (.aload_n 0, 1) := by decide +kernel
theorem dX7_isSoBy_13 : decode cX7_isSoBy 13 = .ok (.iload_n 2, 1) := by decide +kernel
theorem dX7_isSoBy_14 : decode cX7_isSoBy 14 = .ok (.invokevirtual 178, 3) := by decide +kernel
theorem dX7_isSoBy_17 : decode cX7_isSoBy 17 = .ok (.aload_n 0, 1) := by decide +kernel
theorem dX7_isSoBy_18 : decode cX7_isSoBy 18 = .ok (.iload_n 1, 1) := by decide +kernel
theorem dX7_isSoBy_19 : decode cX7_isSoBy 19 = .ok (.invokevirtual 210, 3) := by decide +kernel
theorem dX7_isSoBy_22 : decode cX7_isSoBy 22 = .ok (.istore 5, 2) := by decide +kernel
theorem dX7_isSoBy_24 : decode cX7_isSoBy 24 = .ok (.aload_n 0, 1) := by decide +kernel
theorem dX7_isSoBy_25 : decode cX7_isSoBy 25 = .ok (.invokevirtual 194, 3) := by decide +kernel
theorem dX7_isSoBy_28 : decode cX7_isSoBy 28 = .ok (.iload 5, 2) := by decide +kernel
theorem dX7_isSoBy_30 : decode cX7_isSoBy 30 = .ok (.ireturn, 1) := by decide +kernel
theorem dX7_began_0 : decode cX7_began 0 = .ok (.iload_n 2, 1) := by decide +kernel
theorem dX7_began_1 : decode cX7_began 1 = .ok (.iconst 0, 1) := by decide +kernel
theorem dX7_began_2 : decode cX7_began 2 = .ok (.bipush 20, 2) := by decide +kernel
theorem dX7_began_4 : decode cX7_began 4 = .ok (.invokestatic 53, 3) := by decide +kernel
theorem dX7_began_7 : decode cX7_began 7 = .ok (.ifCond .eq 20, 3) := by decide +kernel
theorem dX7_began_10 : decode cX7_began 10 = .ok (.iload_n 3, 1) := by decide +kernel
theorem dX7_began_11 : decode cX7_began 11 = .ok (.iconst 0, 1) := by decide +kernel
theorem dX7_began_12 : decode cX7_began 12 = .ok (.iconst 1, 1) := by decide +kernel
theorem dX7_began_13 : decode cX7_began 13 = .ok (.invokestatic 53, 3) := by decide +kernel
theorem dX7_began_16 : decode cX7_began 16 = .ok (.ifCond .eq 11, 3) := by decide +kernel
theorem dX7_began_19 : decode cX7_began 19 = .ok (.aload_n 0, 1) := by decide +kernel
theorem dX7_began_20 : decode cX7_began 20 = .ok (.iload_n 1, 1) := by decide +kernel
theorem dX7_began_21 : decode cX7_began 21 = .ok (.invokevirtual 213, 3) := by decide +kernel
theorem dX7_began_24 : decode cX7_began 24 = .ok (.goto 4, 3) := by decide +kernel
theorem dX7_began_27 : decode cX7_began 27 = .ok (.iconst 1, 1) := by decide +kernel
theorem dX7_began_28 : decode cX7_began 28 = .ok (.istore 4, 2) := by decide +kernel
theorem dX7_began_30 : decode cX7_began 30 = .ok (.iload 4, 2) := by decide +kernel
theorem dX7_began_32 : decode cX7_began 32 = .ok (.ifCond .eq 10, 3) := by decide +kernel
theorem dX7_began_35 : decode cX7_began 35 = .ok (.aload_n 0, 1) := by decide +kernel
theorem dX7_began_36 : decode cX7_began 36 = .ok (.iload 4, 2) := by decide +kernel
theorem dX7_began_38 : decode cX7_began 38 = .ok (.invokevirtual 61, 3) := by decide +kernel
theorem dX7_began_41 : decode cX7_began 41 = .ok (.ireturn, 1) := by decide +kernel
theorem dX7_began_42 : decode cX7_began 42 = .ok (.iconst 0, 1) := by decide +kernel
theorem dX7_began_43 : decode cX7_began 43 = .ok (.istore 5, 2) := by decide +kernel
theorem dX7_began_45 : decode cX7_began 45 = .ok (.iconst (-1), 1) := by decide +kernel
theorem dX7_began_46 : decode cX7_began 46 = .ok (.istore 6, 2) := by decide +kernel
theorem dX7_began_48 : decode cX7_began 48 = .ok (.bipush 10, 2) := by decide +kernel
theorem dX7_began_50 : decode cX7_began 50 = .ok (.aload_n 0, 1) := by decide +kernel
theorem dX7_began_51 : decode cX7_began 51 = .ok (.getfield 7, 3) := by decide +kernel
theorem dX7_began_54 : decode cX7_began 54 = .ok (.iconst 4, 1) := by decide +kernel
theorem dX7_began_55 : decode cX7_began 55 = .ok (.iaload, 1) := by decide +kernel
theorem dX7_began_56 : decode cX7_began 56 = .ok (.imul, 1) := by decide +kernel
theorem dX7_began_57 : decode cX7_began 57 = .ok (.iconst 1, 1) := by decide +kernel
theorem dX7_began_58 : decode cX7_began 58 = .ok (.isub, 1) := by decide +kernel
theorem dX7_began_59 : decode cX7_began 59 = .ok (.istore 7, 2) := by decide +kernel
theorem dX7_began_61 : decode cX7_began 61 = .ok (.iload 7, 2) := by decide +kernel
theorem dX7_began_63 : decode cX7_began 63 = .ok (.ifCond .le 72, 3) := by decide +kernel
theorem dX7_began_66 : decode cX7_began 66 = .ok (.iload 7, 2) := by decide +kernel
theorem dX7_began_68 : decode cX7_began 68 = .ok (.bipush 10, 2) := by decide +kernel
theorem dX7_began_70 : decode cX7_began 70 = .ok (.irem, 1) := by decide +kernel
theorem dX7_began_71 : decode cX7_began 71 = .ok (.ifCond .le 26, 3) := by decide +kernel
theorem dX7_began_74 : decode cX7_began 74 = .ok (.aload_n 0, 1) := by decide +kernel
theorem dX7_began_75 : decode cX7_began 75 = .ok (.iload_n 1, 1) := by decide +kernel
theorem dX7_began_76 : decode cX7_began 76 = .ok (.iload_n 2, 1) := by decide +kernel
theorem dX7_began_77 : decode cX7_began 77 = .ok (.iload 7, 2) := by decide +kernel
theorem dX7_began_79 : decode cX7_began 79 = .ok (.bipush 10, 2) := by decide +kernel
theorem dX7_began_81 : decode cX7_began 81 = .ok (.idiv, 1) := by decide +kernel
theorem dX7_began_82 : decode cX7_began 82 = .ok (.iload 7, 2) := by decide +kernel
theorem dX7_began_84 : decode cX7_began 84 = .ok (.bipush 10, 2) := by decide +kernel
theorem dX7_began_86 : decode cX7_began 86 = .ok (.irem, 1) := by decide +kernel
theorem dX7_began_87 : decode cX7_began 87 = .ok (.invokevirtual 216, 3) := by decide +kernel
theorem dX7_began_90 : decode cX7_began 90 = .ok (.ifCond .eq 7, 3) := by decide +kernel
theorem dX7_began_93 : decode cX7_began 93 = .ok (.iconst 1, 1) := by decide +kernel
theorem dX7_began_94 : decode cX7_began 94 = .ok (.goto 4, 3) := by decide +kernel
theorem dX7_began_97 : decode cX7_began 97 = .ok (.iconst 0, 1) := by decide +kernel
theorem dX7_began_98 : decode cX7_began 98 = .ok (.istore 8, 2) := by decide +kernel
theorem dX7_began_100 : decode cX7_began 100 = .ok (.iload 5, 2) := by decide +kernel
theorem dX7_began_102 : decode cX7_began 102 = .ok (.iload 8, 2) := by decide +kernel
theorem dX7_began_104 : decode cX7_began 104 = .ok (.ifCond .eq 7, 3) := by decide +kernel
theorem dX7_began_107 : decode cX7_began 107 = .ok (.iconst 1, 1) := by decide +kernel
theorem dX7_began_108 : decode cX7_began 108 = .ok (.goto 4, 3) := by decide +kernel
theorem dX7_began_111 : decode cX7_began 111 = .ok (.iconst 0, 1) := by decide +kernel
theorem dX7_began_112 : decode cX7_began 112 = .ok (.iadd, 1) := by decide +kernel
theorem dX7_began_113 : decode cX7_began 113 = .ok (.istore 5, 2) := by decide +kernel
theorem dX7_began_115 : decode cX7_began 115 = .ok (.iload 8, 2) := by decide +kernel
theorem dX7_began_117 : decode cX7_began 117 = .ok (.ifCond .eq 8, 3) := by decide +kernel
theorem dX7_began_120 : decode cX7_began 120 = .ok (.iload 7, 2) := by decide +kernel
theorem dX7_began_122 : decode cX7_began 122 = .ok (.goto 5, 3) := by decide +kernel
theorem dX7_began_125 : decode cX7_began 125 = .ok (.iload 6, 2) := by decide +kernel
theorem dX7_began_127 : decode cX7_began 127 = .ok (.istore 6, 2) := by decide +kernel
theorem dX7_began_129 : decode cX7_began 129 = .ok (.iinc 7 (-1), 3) := by decide +kernel
theorem dX7_began_132 : decode cX7_began 132 = .ok (.goto (-71), 3) := by decide +kernel
theorem dX7_began_135 : decode cX7_began 135 = .ok (.iload_n 3, 1) := by decide +kernel
theorem dX7_began_136 : decode cX7_began 136 = .ok (.ifCond .ne 8, 3) := by decide +kernel
theorem dX7_began_139 : decode cX7_began 139 = .ok (.iload 5, 2) := by decide +kernel
theorem dX7_began_141 : decode cX7_began 141 = .ok (.goto 19, 3) := by decide +kernel
theorem dX7_began_144 : decode cX7_began 144 = .ok (.iload 6, 2) := by decide +kernel
theorem dX7_began_146 : decode cX7_began 146 = .ok (.iconst (-1), 1) := by decide +kernel
theorem dX7_began_147 : decode cX7_began 147 = .ok (.if_icmp .ne 11, 3) := by decide +kernel
theorem dX7_began_150 : decode cX7_began 150 = .ok (.aload_n 0, 1) := by decide +kernel
theorem dX7_began_151 : decode cX7_began 151 = .ok (.iconst 2, 1) := by decide +kernel
theorem dX7_began_152 : decode cX7_began 152 = .ok (.invokevirtual 61, 3) := by decide +kernel
theorem dX7_began_155 : decode cX7_began 155 = .ok (.goto 5, 3) := by decide +kernel
theorem dX7_began_158 : decode cX7_began 158 = .ok (.iload 6, 2) := by decide +kernel
theorem dX7_began_160 : decode cX7_began 160 = .ok (.ireturn, 1) := by decide +kernel
theorem dX7_fits_0 : decode cX7_fits 0 = .ok (.aload_n 0, 1) := by decide +kernel
theorem dX7_fits_1 : decode cX7_fits 1 = .ok (.iload_n 1, 1) := by decide +kernel
theorem dX7_fits_2 : decode cX7_fits 2 = .ok (.invokevirtual 213, 3) := by decide +kernel
theorem dX7_fits_5 : decode cX7_fits 5 = .ok (.istore_n 2, 1) := by decide +kernel
theorem dX7_fits_6 : decode cX7_fits 6 = .ok (.iload_n 2, 1) := by decide +kernel
theorem dX7_fits_7 : decode cX7_fits 7 = .ok (.ifCond .eq 9, 3) := by decide +kernel
theorem dX7_fits_10 : decode cX7_fits 10 = .ok (.aload_n 0, 1) := by decide +kernel
theorem dX7_fits_11 : decode cX7_fits 11 = .ok (.iload_n 2, 1) := by decide +kernel
theorem dX7_fits_12 : decode cX7_fits 12 = .ok (.invokevirtual 61, 3) := by decide +kernel
theorem dX7_fits_15 : decode cX7_fits 15 = .ok (.ireturn, 1) := by decide +kernel
theorem dX7_fits_16 : decode cX7_fits 16 = .ok (.aload_n 0, 1) := by decide +kernel
theorem dX7_fits_17 : decode cX7_fits 17 = .ok (.invokevirtual 191, 3) := by decide +kernel
theorem dX7_fits_20 : decode cX7_fits 20 = .ok (.iconst 0, 1) := by decide +kernel
theorem dX7_fits_21 : decode cX7_fits 21 = .ok (.istore_n 3, 1) := by decide +kernel
theorem dX7_fits_22 : decode cX7_fits 22 = .ok (.iload_n 3, 1) := by decide +kernel
theorem dX7_fits_23 : decode cX7_fits 23 = .ok (.bipush 100, 2) := by decide +kernel
theorem dX7_fits_25 : decode cX7_fits 25 = .ok (.if_icmp .gt 21, 3) := by decide +kernel
theorem dX7_fits_28 : decode cX7_fits 28 = .ok (.aload_n 0, 1) := by decide +kernel
theorem dX7_fits_29 : decode cX7_fits 29 = .ok (.iload_n 1, 1) := by decide +kernel
theorem dX7_fits_30 : decode cX7_fits 30 = .ok (.invokevirtual 210, 3) := by decide +kernel
theorem dX7_fits_33 : decode cX7_fits 33 = .ok (.ifCond .ne 13, 3) := by decide +kernel
theorem dX7_fits_36 : decode cX7_fits 36 = .ok (.aload_n 0, 1) := by decide +kernel
theorem dX7_fits_37 : decode cX7_fits 37 = .ok (.invokevirtual 155, 3) := by decide +kernel
theorem dX7_fits_40 : decode cX7_fits 40 = .ok (.iinc 3 1, 3) := by decide +kernel
theorem dX7_fits_43 : decode cX7_fits 43 = .ok (.goto (-21), 3) := by decide +kernel
theorem dX7_fits_46 : decode cX7_fits 46 = .ok (.aload_n 0, 1) := by decide +kernel
theorem dX7_fits_47 : decode cX7_fits 47 = .ok (.invokevirtual 194, 3) := by decide +kernel
theorem dX7_fits_50 : decode cX7_fits 50 = .ok (.iload_n 3, 1) := by decide +kernel
theorem dX7_fits_51 : decode cX7_fits 51 = .ok (.bipush 100, 2) := by decide +kernel
theorem dX7_fits_53 : decode cX7_fits 53 = .ok (.if_icmp .le 11, 3) := by decide +kernel
theorem dX7_fits_56 : decode cX7_fits 56 = .ok (.aload_n 0, 1) := by decide +kernel
theorem dX7_fits_57 : decode cX7_fits 57 = .ok (.iconst 2, 1) := by decide +kernel
theorem dX7_fits_58 : decode cX7_fits 58 = .ok (.invokevirtual 61, 3) := by decide +kernel
theorem dX7_fits_61 : decode cX7_fits 61 = .ok (.goto 4, 3) := by decide +kernel
theorem dX7_fits_64 : decode cX7_fits 64 = .ok (.iload_n 3, 1) := by decide +kernel
theorem dX7_fits_65 : decode cX7_fits 65 = .ok (.ireturn, 1) := by decide +kernel
theorem dX7_starts_0 : decode cX7_starts 0 = .ok (.aload_n 0, 1) := by decide +kernel
theorem dX7_starts_1 : decode cX7_starts 1 = .ok (.getfield 219, 3) := by decide +kernel
theorem dX7_starts_4 : decode cX7_starts 4 = .ok (.bipush 30, 2) := by decide +kernel
theorem dX7_starts_6 : decode cX7_starts 6 = .ok (.if_icmp .ge 23, 3) := by decide +kernel
theorem dX7_starts_9 : decode cX7_starts 9 = .ok (.aload_n 0, 1) := by decide +kernel
theorem dX7_starts_10 : decode cX7_starts 10 = .ok (.getfield 37, 3) := by decide +kernel
theorem dX7_starts_13 : decode cX7_starts 13 = .ok (.aload_n 0, 1) := by decide +kernel
theorem dX7_starts_14 : decode cX7_starts 14 = .ok (.getfield 219, 3) := by decide +kernel
theorem dX7_starts_17 : decode cX7_starts 17 = .ok (.iload_n 1, 1) := by decide +kernel
theorem dX7_starts_18 : decode cX7_starts 18 = .ok (.iastore, 1) := by decide +kernel
theorem dX7_starts_19 : decode cX7_starts 19 = .ok (.aload_n 0, 1) := by decide +kernel
theorem dX7_starts_20 : decode cX7_starts 20 = .ok (.dup, 1) := by decide +kernel
theorem dX7_starts_21 : decode cX7_starts 21 = .ok (.getfield 219, 3) := by decide +kernel
theorem dX7_starts_24 : decode cX7_starts 24 = .ok (.iconst 1, 1) := by decide +kernel
theorem dX7_starts_25 : decode cX7_starts 25 = .ok (.iadd, 1) := by decide +kernel
theorem dX7_starts_26 : decode cX7_starts 26 = .ok (.putfield 219, 3) := by decide +kernel
theorem dX7_starts_29 : decode cX7_starts 29 = .ok (.return_, 1) := by decide +kernel
theorem dX7_above_0 : decode cX7_above 0 = .ok (.iload_n 0, 1) := by decide +kernel
theorem dX7_above_1 : decode cX7_above 1 = .ok (.iconst 4, 1) := by decide +kernel
theorem dX7_above_2 : decode cX7_above 2 = .ok (.if_icmp .ne 7, 3) := by decide +kernel
theorem dX7_above_5 : decode cX7_above 5 = .ok (.iconst 1, 1) := by decide +kernel
theorem dX7_above_6 : decode cX7_above 6 = .ok (.goto 13, 3) := by decide +kernel
theorem dX7_above_9 : decode cX7_above 9 = .ok (.iload_n 0, 1) := by decide +kernel
theorem dX7_above_10 : decode cX7_above 10 = .ok (.iconst 5, 1) := by decide +kernel
theorem dX7_above_11 : decode cX7_above 11 = .ok (.if_icmp .ne 7, 3) := by decide +kernel
theorem dX7_above_14 : decode cX7_above 14 = .ok (.iconst 2, 1) := by decide +kernel
theorem dX7_above_15 : decode cX7_above 15 = .ok (.goto 4, 3) := by decide +kernel
theorem dX7_above_18 : decode cX7_above 18 = .ok (.iconst 0, 1) := by decide +kernel
theorem dX7_above_19 : decode cX7_above 19 = .ok (.ireturn, 1) := by decide +kernel
theorem dX7_kindNow_0 : decode cX7_kindNow 0 = .ok (.aload_n 0, 1) := by decide +kernel
theorem dX7_kindNow_1 : decode cX7_kindNow 1 = .ok (.aload_n 0, 1) := by decide +kernel
theorem dX7_kindNow_2 : decode cX7_kindNow 2 = .ok (.getfield 222, 3) := by decide +kernel
theorem dX7_kindNow_5 : decode cX7_kindNow 5 = .ok (.iconst 0, 1) := by decide +kernel
theorem dX7_kindNow_6 : decode cX7_kindNow 6 = .ok (.invokevirtual 120, 3) := by decide +kernel
theorem dX7_kindNow_9 : decode cX7_kindNow 9 = .ok (.ireturn, 1) := by decide +kernel
theorem dX7_mNow_0 : decode cX7_mNow 0 = .ok (.aload_n 0, 1) := by decide +kernel
theorem dX7_mNow_1 : decode cX7_mNow 1 = .ok (.aload_n 0, 1) := by decide +kernel
theorem dX7_mNow_2 : decode cX7_mNow 2 = .ok (.getfield 222, 3) := by decide +kernel
theorem dX7_mNow_5 : decode cX7_mNow 5 = .ok (.iconst 1, 1) := by decide +kernel
theorem dX7_mNow_6 : decode cX7_mNow 6 = .ok (.invokevirtual 120, 3) := by decide +kernel
theorem dX7_mNow_9 : decode cX7_mNow 9 = .ok (.ireturn, 1) := by decide +kernel
theorem dX7_sighsAs_0 : decode cX7_sighsAs 0 = .ok (.iload_n 1, 1) := by decide +kernel
theorem dX7_sighsAs_1 : decode cX7_sighsAs 1 = .ok (.tableswitch 101 0 6 #[43, 56, 101, 101, 74, 101, 92], 43) := by decide +kernel
theorem dX7_sighsAs_44 : decode cX7_sighsAs 44 = .ok (.aload_n 0, 1) := by decide +kernel
theorem dX7_sighsAs_45 : decode cX7_sighsAs 45 = .ok (.bipush 10, 2) := by decide +kernel
theorem dX7_sighsAs_47 : decode cX7_sighsAs 47 = .ok (.invokevirtual 225, 3) := by decide +kernel
theorem dX7_sighsAs_50 : decode cX7_sighsAs 50 = .ok (.iload_n 2, 1) := by decide +kernel
theorem dX7_sighsAs_51 : decode cX7_sighsAs 51 = .ok (.aload_n 0, 1) := by decide +kernel
theorem dX7_sighsAs_52 : decode cX7_sighsAs 52 = .ok (.getfield 222, 3) := by decide +kernel
theorem dX7_sighsAs_55 : decode cX7_sighsAs 55 = .ok (.iadd, 1) := by decide +kernel
theorem dX7_sighsAs_56 : decode cX7_sighsAs 56 = .ok (.ireturn, 1) := by decide +kernel
theorem dX7_sighsAs_57 : decode cX7_sighsAs 57 = .ok (.aload_n 0, 1) := by decide +kernel
theorem dX7_sighsAs_58 : decode cX7_sighsAs 58 = .ok (.bipush 20, 2) := by decide +kernel
theorem dX7_sighsAs_60 : decode cX7_sighsAs 60 = .ok (.invokevirtual 225, 3) := by decide +kernel
theorem dX7_sighsAs_63 : decode cX7_sighsAs 63 = .ok (.aload_n 0, 1) := by decide +kernel
theorem dX7_sighsAs_64 : decode cX7_sighsAs 64 = .ok (.iconst 1, 1) := by decide +kernel
theorem dX7_sighsAs_65 : decode cX7_sighsAs 65 = .ok (.invokestatic 165, 3) := by decide +kernel
theorem dX7_sighsAs_68 : decode cX7_sighsAs 68 = .ok (.iload_n 2, 1) := by decide +kernel
theorem dX7_sighsAs_69 : decode cX7_sighsAs 69 = .ok (.invokevirtual 228, 3) := by decide +kernel
theorem dX7_sighsAs_72 : decode cX7_sighsAs 72 = .ok (.iconst 4, 1) := by decide +kernel
theorem dX7_sighsAs_73 : decode cX7_sighsAs 73 = .ok (.isub, 1) := by decide +kernel
theorem dX7_sighsAs_74 : decode cX7_sighsAs 74 = .ok (.ireturn, 1) := by decide +kernel
theorem dX7_sighsAs_75 : decode cX7_sighsAs 75 = .ok (.aload_n 0, 1) := by decide +kernel
theorem dX7_sighsAs_76 : decode cX7_sighsAs 76 = .ok (.bipush 50, 2) := by decide +kernel
theorem dX7_sighsAs_78 : decode cX7_sighsAs 78 = .ok (.invokevirtual 225, 3) := by decide +kernel
theorem dX7_sighsAs_81 : decode cX7_sighsAs 81 = .ok (.aload_n 0, 1) := by decide +kernel
theorem dX7_sighsAs_82 : decode cX7_sighsAs 82 = .ok (.iconst 4, 1) := by decide +kernel
theorem dX7_sighsAs_83 : decode cX7_sighsAs 83 = .ok (.invokestatic 165, 3) := by decide +kernel
theorem dX7_sighsAs_86 : decode cX7_sighsAs 86 = .ok (.iload_n 2, 1) := by decide +kernel
theorem dX7_sighsAs_87 : decode cX7_sighsAs 87 = .ok (.invokevirtual 228, 3) := by decide +kernel
theorem dX7_sighsAs_90 : decode cX7_sighsAs 90 = .ok (.iconst 3, 1) := by decide +kernel
theorem dX7_sighsAs_91 : decode cX7_sighsAs 91 = .ok (.imul, 1) := by decide +kernel
theorem dX7_sighsAs_92 : decode cX7_sighsAs 92 = .ok (.ireturn, 1) := by decide +kernel
theorem dX7_sighsAs_93 : decode cX7_sighsAs 93 = .ok (.aload_n 0, 1) := by decide +kernel
theorem dX7_sighsAs_94 : decode cX7_sighsAs 94 = .ok (.bipush 70, 2) := by decide +kernel
theorem dX7_sighsAs_96 : decode cX7_sighsAs 96 = .ok (.invokevirtual 225, 3) := by decide +kernel
theorem dX7_sighsAs_99 : decode cX7_sighsAs 99 = .ok (.bipush 9, 2) := by decide +kernel
theorem dX7_sighsAs_101 : decode cX7_sighsAs 101 = .ok (.ireturn, 1) := by decide +kernel
theorem dX7_sighsAs_102 : decode cX7_sighsAs 102 = .ok (.aload_n 0, 1) := by decide +kernel
theorem dX7_sighsAs_103 : decode cX7_sighsAs 103 = .ok (.iload_n 1, 1) := by decide +kernel
theorem dX7_sighsAs_104 : decode cX7_sighsAs 104 = .ok (.invokestatic 165, 3) := by decide +kernel
theorem dX7_sighsAs_107 : decode cX7_sighsAs 107 = .ok (.iload_n 2, 1) := by decide +kernel
theorem dX7_sighsAs_108 : decode cX7_sighsAs 108 = .ok (.invokevirtual 228, 3) := by decide +kernel
theorem dX7_sighsAs_111 : decode cX7_sighsAs 111 = .ok (.ireturn, 1) := by decide +kernel
theorem dX7_stirsAs_0 : decode cX7_stirsAs 0 = .ok (.iload_n 1, 1) := by decide +kernel
theorem dX7_stirsAs_1 : decode cX7_stirsAs 1 = .ok (.tableswitch 119 0 6 #[43, 119, 61, 119, 119, 79, 97], 43) := by decide +kernel
theorem dX7_stirsAs_44 : decode cX7_stirsAs 44 = .ok (.aload_n 0, 1) := by decide +kernel
theorem dX7_stirsAs_45 : decode cX7_stirsAs 45 = .ok (.bipush 11, 2) := by decide +kernel
theorem dX7_stirsAs_47 : decode cX7_stirsAs 47 = .ok (.invokevirtual 225, 3) := by decide +kernel
theorem dX7_stirsAs_50 : decode cX7_stirsAs 50 = .ok (.aload_n 0, 1) := by decide +kernel
theorem dX7_stirsAs_51 : decode cX7_stirsAs 51 = .ok (.aload_n 0, 1) := by decide +kernel
theorem dX7_stirsAs_52 : decode cX7_stirsAs 52 = .ok (.invokevirtual 231, 3) := by decide +kernel
theorem dX7_stirsAs_55 : decode cX7_stirsAs 55 = .ok (.iload_n 2, 1) := by decide +kernel
theorem dX7_stirsAs_56 : decode cX7_stirsAs 56 = .ok (.invokevirtual 228, 3) := by decide +kernel
theorem dX7_stirsAs_59 : decode cX7_stirsAs 59 = .ok (.iconst 2, 1) := by decide +kernel
theorem dX7_stirsAs_60 : decode cX7_stirsAs 60 = .ok (.imul, 1) := by decide +kernel
theorem dX7_stirsAs_61 : decode cX7_stirsAs 61 = .ok (.ireturn, 1) := by decide +kernel
theorem dX7_stirsAs_62 : decode cX7_stirsAs 62 = .ok (.aload_n 0, 1) := by decide +kernel
theorem dX7_stirsAs_63 : decode cX7_stirsAs 63 = .ok (.bipush 30, 2) := by decide +kernel
theorem dX7_stirsAs_65 : decode cX7_stirsAs 65 = .ok (.invokevirtual 225, 3) := by decide +kernel
theorem dX7_stirsAs_68 : decode cX7_stirsAs 68 = .ok (.iconst 0, 1) := by decide +kernel
theorem dX7_stirsAs_69 : decode cX7_stirsAs 69 = .ok (.aload_n 0, 1) := by decide +kernel
theorem dX7_stirsAs_70 : decode cX7_stirsAs 70 = .ok (.iconst 2, 1) := by decide +kernel
theorem dX7_stirsAs_71 : decode cX7_stirsAs 71 = .ok (.invokestatic 165, 3) := by decide +kernel
theorem dX7_stirsAs_74 : decode cX7_stirsAs 74 = .ok (.iload_n 2, 1) := by decide +kernel
theorem dX7_stirsAs_75 : decode cX7_stirsAs 75 = .ok (.invokevirtual 234, 3) := by decide +kernel
theorem dX7_stirsAs_78 : decode cX7_stirsAs 78 = .ok (.isub, 1) := by decide +kernel
theorem dX7_stirsAs_79 : decode cX7_stirsAs 79 = .ok (.ireturn, 1) := by decide +kernel
theorem dX7_stirsAs_80 : decode cX7_stirsAs 80 = .ok (.aload_n 0, 1) := by decide +kernel
theorem dX7_stirsAs_81 : decode cX7_stirsAs 81 = .ok (.bipush 60, 2) := by decide +kernel
theorem dX7_stirsAs_83 : decode cX7_stirsAs 83 = .ok (.invokevirtual 225, 3) := by decide +kernel
theorem dX7_stirsAs_86 : decode cX7_stirsAs 86 = .ok (.aload_n 0, 1) := by decide +kernel
theorem dX7_stirsAs_87 : decode cX7_stirsAs 87 = .ok (.iconst 5, 1) := by decide +kernel
theorem dX7_stirsAs_88 : decode cX7_stirsAs 88 = .ok (.invokestatic 165, 3) := by decide +kernel
theorem dX7_stirsAs_91 : decode cX7_stirsAs 91 = .ok (.iload_n 2, 1) := by decide +kernel
theorem dX7_stirsAs_92 : decode cX7_stirsAs 92 = .ok (.iconst 1, 1) := by decide +kernel
theorem dX7_stirsAs_93 : decode cX7_stirsAs 93 = .ok (.iadd, 1) := by decide +kernel
theorem dX7_stirsAs_94 : decode cX7_stirsAs 94 = .ok (.invokevirtual 234, 3) := by decide +kernel
theorem dX7_stirsAs_97 : decode cX7_stirsAs 97 = .ok (.ireturn, 1) := by decide +kernel
theorem dX7_stirsAs_98 : decode cX7_stirsAs 98 = .ok (.aload_n 0, 1) := by decide +kernel
theorem dX7_stirsAs_99 : decode cX7_stirsAs 99 = .ok (.bipush 71, 2) := by decide +kernel
theorem dX7_stirsAs_101 : decode cX7_stirsAs 101 = .ok (.invokevirtual 225, 3) := by decide +kernel
theorem dX7_stirsAs_104 : decode cX7_stirsAs 104 = .ok (.aload_n 0, 1) := by decide +kernel
theorem dX7_stirsAs_105 : decode cX7_stirsAs 105 = .ok (.bipush 6, 2) := by decide +kernel
theorem dX7_stirsAs_107 : decode cX7_stirsAs 107 = .ok (.invokestatic 165, 3) := by decide +kernel
theorem dX7_stirsAs_110 : decode cX7_stirsAs 110 = .ok (.iload_n 2, 1) := by decide +kernel
theorem dX7_stirsAs_111 : decode cX7_stirsAs 111 = .ok (.invokevirtual 234, 3) := by decide +kernel
theorem dX7_stirsAs_114 : decode cX7_stirsAs 114 = .ok (.aload_n 0, 1) := by decide +kernel
theorem dX7_stirsAs_115 : decode cX7_stirsAs 115 = .ok (.invokevirtual 237, 3) := by decide +kernel
theorem dX7_stirsAs_118 : decode cX7_stirsAs 118 = .ok (.iadd, 1) := by decide +kernel
theorem dX7_stirsAs_119 : decode cX7_stirsAs 119 = .ok (.ireturn, 1) := by decide +kernel
theorem dX7_stirsAs_120 : decode cX7_stirsAs 120 = .ok (.aload_n 0, 1) := by decide +kernel
theorem dX7_stirsAs_121 : decode cX7_stirsAs 121 = .ok (.iload_n 1, 1) := by decide +kernel
theorem dX7_stirsAs_122 : decode cX7_stirsAs 122 = .ok (.invokestatic 165, 3) := by decide +kernel
theorem dX7_stirsAs_125 : decode cX7_stirsAs 125 = .ok (.iload_n 2, 1) := by decide +kernel
theorem dX7_stirsAs_126 : decode cX7_stirsAs 126 = .ok (.invokevirtual 234, 3) := by decide +kernel
theorem dX7_stirsAs_129 : decode cX7_stirsAs 129 = .ok (.ireturn, 1) := by decide +kernel
theorem dX7_callsAs_0 : decode cX7_callsAs 0 = .ok (.iload_n 1, 1) := by decide +kernel
theorem dX7_callsAs_1 : decode cX7_callsAs 1 = .ok (.tableswitch 95 0 4 #[35, 95, 95, 56, 74], 35) := by decide +kernel
theorem dX7_callsAs_36 : decode cX7_callsAs 36 = .ok (.aload_n 0, 1) := by decide +kernel
theorem dX7_callsAs_37 : decode cX7_callsAs 37 = .ok (.bipush 12, 2) := by decide +kernel
theorem dX7_callsAs_39 : decode cX7_callsAs 39 = .ok (.invokevirtual 225, 3) := by decide +kernel
theorem dX7_callsAs_42 : decode cX7_callsAs 42 = .ok (.aload_n 0, 1) := by decide +kernel
theorem dX7_callsAs_43 : decode cX7_callsAs 43 = .ok (.aload_n 0, 1) := by decide +kernel
theorem dX7_callsAs_44 : decode cX7_callsAs 44 = .ok (.invokevirtual 231, 3) := by decide +kernel
theorem dX7_callsAs_47 : decode cX7_callsAs 47 = .ok (.iload_n 2, 1) := by decide +kernel
theorem dX7_callsAs_48 : decode cX7_callsAs 48 = .ok (.invokevirtual 234, 3) := by decide +kernel
theorem dX7_callsAs_51 : decode cX7_callsAs 51 = .ok (.aload_n 0, 1) := by decide +kernel
theorem dX7_callsAs_52 : decode cX7_callsAs 52 = .ok (.invokevirtual 237, 3) := by decide +kernel
theorem dX7_callsAs_55 : decode cX7_callsAs 55 = .ok (.isub, 1) := by decide +kernel
theorem dX7_callsAs_56 : decode cX7_callsAs 56 = .ok (.ireturn, 1) := by decide +kernel
theorem dX7_callsAs_57 : decode cX7_callsAs 57 = .ok (.aload_n 0, 1) := by decide +kernel
theorem dX7_callsAs_58 : decode cX7_callsAs 58 = .ok (.bipush 40, 2) := by decide +kernel
theorem dX7_callsAs_60 : decode cX7_callsAs 60 = .ok (.invokevirtual 225, 3) := by decide +kernel
theorem dX7_callsAs_63 : decode cX7_callsAs 63 = .ok (.aload_n 0, 1) := by decide +kernel
theorem dX7_callsAs_64 : decode cX7_callsAs 64 = .ok (.iconst 3, 1) := by decide +kernel
theorem dX7_callsAs_65 : decode cX7_callsAs 65 = .ok (.invokestatic 165, 3) := by decide +kernel
theorem dX7_callsAs_68 : decode cX7_callsAs 68 = .ok (.iload_n 2, 1) := by decide +kernel
theorem dX7_callsAs_69 : decode cX7_callsAs 69 = .ok (.iconst 2, 1) := by decide +kernel
theorem dX7_callsAs_70 : decode cX7_callsAs 70 = .ok (.idiv, 1) := by decide +kernel
theorem dX7_callsAs_71 : decode cX7_callsAs 71 = .ok (.invokevirtual 240, 3) := by decide +kernel
theorem dX7_callsAs_74 : decode cX7_callsAs 74 = .ok (.ireturn, 1) := by decide +kernel
theorem dX7_callsAs_75 : decode cX7_callsAs 75 = .ok (.aload_n 0, 1) := by decide +kernel
theorem dX7_callsAs_76 : decode cX7_callsAs 76 = .ok (.bipush 51, 2) := by decide +kernel
theorem dX7_callsAs_78 : decode cX7_callsAs 78 = .ok (.invokevirtual 225, 3) := by decide +kernel
theorem dX7_callsAs_81 : decode cX7_callsAs 81 = .ok (.aload_n 0, 1) := by decide +kernel
theorem dX7_callsAs_82 : decode cX7_callsAs 82 = .ok (.iconst 4, 1) := by decide +kernel
theorem dX7_callsAs_83 : decode cX7_callsAs 83 = .ok (.invokestatic 165, 3) := by decide +kernel
theorem dX7_callsAs_86 : decode cX7_callsAs 86 = .ok (.iload_n 2, 1) := by decide +kernel
theorem dX7_callsAs_87 : decode cX7_callsAs 87 = .ok (.invokevirtual 240, 3) := by decide +kernel
theorem dX7_callsAs_90 : decode cX7_callsAs 90 = .ok (.aload_n 0, 1) := by decide +kernel
theorem dX7_callsAs_91 : decode cX7_callsAs 91 = .ok (.getfield 222, 3) := by decide +kernel
theorem dX7_callsAs_94 : decode cX7_callsAs 94 = .ok (.ixor, 1) := by decide +kernel
theorem dX7_callsAs_95 : decode cX7_callsAs 95 = .ok (.ireturn, 1) := by decide +kernel
theorem dX7_callsAs_96 : decode cX7_callsAs 96 = .ok (.aload_n 0, 1) := by decide +kernel
theorem dX7_callsAs_97 : decode cX7_callsAs 97 = .ok (.iload_n 1, 1) := by decide +kernel
theorem dX7_callsAs_98 : decode cX7_callsAs 98 = .ok (.invokestatic 165, 3) := by decide +kernel
theorem dX7_callsAs_101 : decode cX7_callsAs 101 = .ok (.iload_n 2, 1) := by decide +kernel
theorem dX7_callsAs_102 : decode cX7_callsAs 102 = .ok (.invokevirtual 240, 3) := by decide +kernel
theorem dX7_callsAs_105 : decode cX7_callsAs 105 = .ok (.ireturn, 1) := by decide +kernel
theorem dX7_partsAs_0 : decode cX7_partsAs 0 = .ok (.iload_n 1, 1) := by decide +kernel
theorem dX7_partsAs_1 : decode cX7_partsAs 1 = .ok (.lookupswitch 119 #[(0, 27), (1, 78)], 27) := by decide +kernel
theorem dX7_partsAs_28 : decode cX7_partsAs 28 = .ok (.aload_n 0, 1) := by decide +kernel
theorem dX7_partsAs_29 : decode cX7_partsAs 29 = .ok (.bipush 13, 2) := by decide +kernel
theorem dX7_partsAs_31 : decode cX7_partsAs 31 = .ok (.invokevirtual 225, 3) := by decide +kernel
theorem dX7_partsAs_34 : decode cX7_partsAs 34 = .ok (.aload_n 0, 1) := by decide +kernel
theorem dX7_partsAs_35 : decode cX7_partsAs 35 = .ok (.invokevirtual 237, 3) := by decide +kernel
theorem dX7_partsAs_38 : decode cX7_partsAs 38 = .ok (.aload_n 0, 1) := by decide +kernel
theorem dX7_partsAs_39 : decode cX7_partsAs 39 = .ok (.getfield 222, 3) := by decide +kernel
theorem dX7_partsAs_42 : decode cX7_partsAs 42 = .ok (.isub, 1) := by decide +kernel
theorem dX7_partsAs_43 : decode cX7_partsAs 43 = .ok (.istore_n 3, 1) := by decide +kernel
theorem dX7_partsAs_44 : decode cX7_partsAs 44 = .ok (.aload_n 0, 1) := by decide +kernel
theorem dX7_partsAs_45 : decode cX7_partsAs 45 = .ok (.iload_n 3, 1) := by decide +kernel
theorem dX7_partsAs_46 : decode cX7_partsAs 46 = .ok (.ifCond .ne 7, 3) := by decide +kernel
theorem dX7_partsAs_49 : decode cX7_partsAs 49 = .ok (.iconst 1, 1) := by decide +kernel
theorem dX7_partsAs_50 : decode cX7_partsAs 50 = .ok (.goto 4, 3) := by decide +kernel
theorem dX7_partsAs_53 : decode cX7_partsAs 53 = .ok (.iconst 0, 1) := by decide +kernel
theorem dX7_partsAs_54 : decode cX7_partsAs 54 = .ok (.putfield 243, 3) := by decide +kernel
theorem dX7_partsAs_57 : decode cX7_partsAs 57 = .ok (.iload_n 3, 1) := by decide +kernel
theorem dX7_partsAs_58 : decode cX7_partsAs 58 = .ok (.ifCond .ne 7, 3) := by decide +kernel
theorem dX7_partsAs_61 : decode cX7_partsAs 61 = .ok (.iconst 0, 1) := by decide +kernel
theorem dX7_partsAs_62 : decode cX7_partsAs 62 = .ok (.goto 16, 3) := by decide +kernel
theorem dX7_partsAs_65 : decode cX7_partsAs 65 = .ok (.iload_n 3, 1) := by decide +kernel
theorem dX7_partsAs_66 : decode cX7_partsAs 66 = .ok (.iconst (-1), 1) := by decide +kernel
theorem dX7_partsAs_67 : decode cX7_partsAs 67 = .ok (.if_icmp .ne 8, 3) := by decide +kernel
theorem dX7_partsAs_70 : decode cX7_partsAs 70 = .ok (.iload_n 2, 1) := by decide +kernel
theorem dX7_partsAs_71 : decode cX7_partsAs 71 = .ok (.ineg, 1) := by decide +kernel
theorem dX7_partsAs_72 : decode cX7_partsAs 72 = .ok (.goto 6, 3) := by decide +kernel
theorem dX7_partsAs_75 : decode cX7_partsAs 75 = .ok (.iload_n 2, 1) := by decide +kernel
theorem dX7_partsAs_76 : decode cX7_partsAs 76 = .ok (.iload_n 3, 1) := by decide +kernel
theorem dX7_partsAs_77 : decode cX7_partsAs 77 = .ok (.idiv, 1) := by decide +kernel
theorem dX7_partsAs_78 : decode cX7_partsAs 78 = .ok (.ireturn, 1) := by decide +kernel
theorem dX7_partsAs_79 : decode cX7_partsAs 79 = .ok (.aload_n 0, 1) := by decide +kernel
theorem dX7_partsAs_80 : decode cX7_partsAs 80 = .ok (.bipush 21, 2) := by decide +kernel
theorem dX7_partsAs_82 : decode cX7_partsAs 82 = .ok (.invokevirtual 225, 3) := by decide +kernel
theorem dX7_partsAs_85 : decode cX7_partsAs 85 = .ok (.aload_n 0, 1) := by decide +kernel
theorem dX7_partsAs_86 : decode cX7_partsAs 86 = .ok (.iconst 1, 1) := by decide +kernel
theorem dX7_partsAs_87 : decode cX7_partsAs 87 = .ok (.invokestatic 165, 3) := by decide +kernel
theorem dX7_partsAs_90 : decode cX7_partsAs 90 = .ok (.iload_n 2, 1) := by decide +kernel
theorem dX7_partsAs_91 : decode cX7_partsAs 91 = .ok (.invokevirtual 247, 3) := by decide +kernel
theorem dX7_partsAs_94 : decode cX7_partsAs 94 = .ok (.istore 4, 2) := by decide +kernel
theorem dX7_partsAs_96 : decode cX7_partsAs 96 = .ok (.aload_n 0, 1) := by decide +kernel
theorem dX7_partsAs_97 : decode cX7_partsAs 97 = .ok (.getfield 243, 3) := by decide +kernel
theorem dX7_partsAs_100 : decode cX7_partsAs 100 = .ok (.ifCond .eq 7, 3) := by decide +kernel
theorem dX7_partsAs_103 : decode cX7_partsAs 103 = .ok (.iconst 0, 1) := by decide +kernel
theorem dX7_partsAs_104 : decode cX7_partsAs 104 = .ok (.goto 15, 3) := by decide +kernel
theorem dX7_partsAs_107 : decode cX7_partsAs 107 = .ok (.iload 4, 2) := by decide +kernel
theorem dX7_partsAs_109 : decode cX7_partsAs 109 = .ok (.aload_n 0, 1) := by decide +kernel
theorem dX7_partsAs_110 : decode cX7_partsAs 110 = .ok (.aload_n 0, 1) := by decide +kernel
theorem dX7_partsAs_111 : decode cX7_partsAs 111 = .ok (.invokevirtual 231, 3) := by decide +kernel
theorem dX7_partsAs_114 : decode cX7_partsAs 114 = .ok (.iconst 1, 1) := by decide +kernel
theorem dX7_partsAs_115 : decode cX7_partsAs 115 = .ok (.invokevirtual 234, 3) := by decide +kernel
theorem dX7_partsAs_118 : decode cX7_partsAs 118 = .ok (.iadd, 1) := by decide +kernel
theorem dX7_partsAs_119 : decode cX7_partsAs 119 = .ok (.ireturn, 1) := by decide +kernel
theorem dX7_partsAs_120 : decode cX7_partsAs 120 = .ok (.aload_n 0, 1) := by decide +kernel
theorem dX7_partsAs_121 : decode cX7_partsAs 121 = .ok (.iload_n 1, 1) := by decide +kernel
theorem dX7_partsAs_122 : decode cX7_partsAs 122 = .ok (.invokestatic 165, 3) := by decide +kernel
theorem dX7_partsAs_125 : decode cX7_partsAs 125 = .ok (.iload_n 2, 1) := by decide +kernel
theorem dX7_partsAs_126 : decode cX7_partsAs 126 = .ok (.invokevirtual 247, 3) := by decide +kernel
theorem dX7_partsAs_129 : decode cX7_partsAs 129 = .ok (.ireturn, 1) := by decide +kernel
theorem dX7_voice_0 : decode cX7_voice 0 = .ok (.aload_n 0, 1) := by decide +kernel
theorem dX7_voice_1 : decode cX7_voice 1 = .ok (.iload_n 1, 1) := by decide +kernel
theorem dX7_voice_2 : decode cX7_voice 2 = .ok (.invokevirtual 57, 3) := by decide +kernel
theorem dX7_voice_5 : decode cX7_voice 5 = .ok (.ifCond .eq 12, 3) := by decide +kernel
theorem dX7_voice_8 : decode cX7_voice 8 = .ok (.iload_n 2, 1) := by decide +kernel
theorem dX7_voice_9 : decode cX7_voice 9 = .ok (.iconst 0, 1) := by decide +kernel
theorem dX7_voice_10 : decode cX7_voice 10 = .ok (.iconst 3, 1) := by decide +kernel
theorem dX7_voice_11 : decode cX7_voice 11 = .ok (.invokestatic 53, 3) := by decide +kernel
theorem dX7_voice_14 : decode cX7_voice 14 = .ok (.ifCond .ne 9, 3) := by decide +kernel
theorem dX7_voice_17 : decode cX7_voice 17 = .ok (.aload_n 0, 1) := by decide +kernel
theorem dX7_voice_18 : decode cX7_voice 18 = .ok (.iconst 1, 1) := by decide +kernel
theorem dX7_voice_19 : decode cX7_voice 19 = .ok (.invokevirtual 61, 3) := by decide +kernel
theorem dX7_voice_22 : decode cX7_voice 22 = .ok (.ireturn, 1) := by decide +kernel
theorem dX7_voice_23 : decode cX7_voice 23 = .ok (.aload_n 0, 1) := by decide +kernel
theorem dX7_voice_24 : decode cX7_voice 24 = .ok (.iconst 0, 1) := by decide +kernel
theorem dX7_voice_25 : decode cX7_voice 25 = .ok (.putfield 219, 3) := by decide +kernel
theorem dX7_voice_28 : decode cX7_voice 28 = .ok (.aload_n 0, 1) := by decide +kernel
theorem dX7_voice_29 : decode cX7_voice 29 = .ok (.iload_n 1, 1) := by decide +kernel
theorem dX7_voice_30 : decode cX7_voice 30 = .ok (.putfield 222, 3) := by decide +kernel
theorem dX7_voice_33 : decode cX7_voice 33 = .ok (.aload_n 0, 1) := by decide +kernel
theorem dX7_voice_34 : decode cX7_voice 34 = .ok (.iconst 0, 1) := by decide +kernel
theorem dX7_voice_35 : decode cX7_voice 35 = .ok (.putfield 243, 3) := by decide +kernel
theorem dX7_voice_38 : decode cX7_voice 38 = .ok (.aload_n 0, 1) := by decide +kernel
theorem dX7_voice_39 : decode cX7_voice 39 = .ok (.invokevirtual 231, 3) := by decide +kernel
theorem dX7_voice_42 : decode cX7_voice 42 = .ok (.istore 4, 2) := by decide +kernel
theorem dX7_voice_44 : decode cX7_voice 44 = .ok (.iload_n 2, 1) := by decide +kernel
theorem dX7_voice_45 : decode cX7_voice 45 = .ok (.ifCond .ne 13, 3) := by decide +kernel
theorem dX7_voice_48 : decode cX7_voice 48 = .ok (.aload_n 0, 1) := by decide +kernel
theorem dX7_voice_49 : decode cX7_voice 49 = .ok (.iload 4, 2) := by decide +kernel
theorem dX7_voice_51 : decode cX7_voice 51 = .ok (.iload_n 3, 1) := by decide +kernel
theorem dX7_voice_52 : decode cX7_voice 52 = .ok (.invokevirtual 228, 3) := by decide +kernel
theorem dX7_voice_55 : decode cX7_voice 55 = .ok (.goto 40, 3) := by decide +kernel
theorem dX7_voice_58 : decode cX7_voice 58 = .ok (.iload_n 2, 1) := by decide +kernel
theorem dX7_voice_59 : decode cX7_voice 59 = .ok (.iconst 1, 1) := by decide +kernel
theorem dX7_voice_60 : decode cX7_voice 60 = .ok (.if_icmp .ne 13, 3) := by decide +kernel
theorem dX7_voice_63 : decode cX7_voice 63 = .ok (.aload_n 0, 1) := by decide +kernel
theorem dX7_voice_64 : decode cX7_voice 64 = .ok (.iload 4, 2) := by decide +kernel
theorem dX7_voice_66 : decode cX7_voice 66 = .ok (.iload_n 3, 1) := by decide +kernel
theorem dX7_voice_67 : decode cX7_voice 67 = .ok (.invokevirtual 234, 3) := by decide +kernel
theorem dX7_voice_70 : decode cX7_voice 70 = .ok (.goto 25, 3) := by decide +kernel
theorem dX7_voice_73 : decode cX7_voice 73 = .ok (.iload_n 2, 1) := by decide +kernel
theorem dX7_voice_74 : decode cX7_voice 74 = .ok (.iconst 2, 1) := by decide +kernel
theorem dX7_voice_75 : decode cX7_voice 75 = .ok (.if_icmp .ne 13, 3) := by decide +kernel
theorem dX7_voice_78 : decode cX7_voice 78 = .ok (.aload_n 0, 1) := by decide +kernel
theorem dX7_voice_79 : decode cX7_voice 79 = .ok (.iload 4, 2) := by decide +kernel
theorem dX7_voice_81 : decode cX7_voice 81 = .ok (.iload_n 3, 1) := by decide +kernel
theorem dX7_voice_82 : decode cX7_voice 82 = .ok (.invokevirtual 240, 3) := by decide +kernel
theorem dX7_voice_85 : decode cX7_voice 85 = .ok (.goto 10, 3) := by decide +kernel
theorem dX7_voice_88 : decode cX7_voice 88 = .ok (.aload_n 0, 1) := by decide +kernel
theorem dX7_voice_89 : decode cX7_voice 89 = .ok (.iload 4, 2) := by decide +kernel
theorem dX7_voice_91 : decode cX7_voice 91 = .ok (.iload_n 3, 1) := by decide +kernel
theorem dX7_voice_92 : decode cX7_voice 92 = .ok (.invokevirtual 247, 3) := by decide +kernel
theorem dX7_voice_95 : decode cX7_voice 95 = .ok (.istore 5, 2) := by decide +kernel
theorem dX7_voice_97 : decode cX7_voice 97 = .ok (.aload_n 0, 1) := by decide +kernel
theorem dX7_voice_98 : decode cX7_voice 98 = .ok (.getfield 243, 3) := by decide +kernel
theorem dX7_voice_101 : decode cX7_voice 101 = .ok (.ifCond .eq 12, 3) := by decide +kernel
theorem dX7_voice_104 : decode cX7_voice 104 = .ok (.aload_n 0, 1) := by decide +kernel
theorem dX7_voice_105 : decode cX7_voice 105 = .ok (.bipush 6, 2) := by decide +kernel
theorem dX7_voice_107 : decode cX7_voice 107 = .ok (.invokevirtual 61, 3) := by decide +kernel
theorem dX7_voice_110 : decode cX7_voice 110 = .ok (.goto 5, 3) := by decide +kernel
theorem dX7_voice_113 : decode cX7_voice 113 = .ok (.iload 5, 2) := by decide +kernel
theorem dX7_voice_115 : decode cX7_voice 115 = .ok (.ireturn, 1) := by decide +kernel
theorem dX7_body_0 : decode cX7_body 0 = .ok (.iload_n 1, 1) := by decide +kernel
theorem dX7_body_1 : decode cX7_body 1 = .ok (.iconst 0, 1) := by decide +kernel
theorem dX7_body_2 : decode cX7_body 2 = .ok (.aload_n 0, 1) := by decide +kernel
theorem dX7_body_3 : decode cX7_body 3 = .ok (.getfield 219, 3) := by decide +kernel
theorem dX7_body_6 : decode cX7_body 6 = .ok (.iconst 1, 1) := by decide +kernel
theorem dX7_body_7 : decode cX7_body 7 = .ok (.isub, 1) := by decide +kernel
theorem dX7_body_8 : decode cX7_body 8 = .ok (.invokestatic 53, 3) := by decide +kernel
theorem dX7_body_11 : decode cX7_body 11 = .ok (.ifCond .eq 12, 3) := by decide +kernel
theorem dX7_body_14 : decode cX7_body 14 = .ok (.aload_n 0, 1) := by decide +kernel
theorem dX7_body_15 : decode cX7_body 15 = .ok (.getfield 37, 3) := by decide +kernel
theorem dX7_body_18 : decode cX7_body 18 = .ok (.iload_n 1, 1) := by decide +kernel
theorem dX7_body_19 : decode cX7_body 19 = .ok (.iaload, 1) := by decide +kernel
theorem dX7_body_20 : decode cX7_body 20 = .ok (.goto 8, 3) := by decide +kernel
theorem dX7_body_23 : decode cX7_body 23 = .ok (.aload_n 0, 1) := by decide +kernel
theorem dX7_body_24 : decode cX7_body 24 = .ok (.iconst 2, 1) := by decide +kernel
theorem dX7_body_25 : decode cX7_body 25 = .ok (.invokevirtual 61, 3) := by decide +kernel
theorem dX7_body_28 : decode cX7_body 28 = .ok (.ireturn, 1) := by decide +kernel
theorem dX7_isSheet_0 : decode cX7_isSheet 0 = .ok (.iload_n 0, 1) := by decide +kernel
theorem dX7_isSheet_1 : decode cX7_isSheet 1 = .ok (.iconst 0, 1) := by decide +kernel
theorem dX7_isSheet_2 : decode cX7_isSheet 2 = .ok (.iconst 3, 1) := by decide +kernel
theorem dX7_isSheet_3 : decode cX7_isSheet 3 = .ok (.invokestatic 53, 3) := by decide +kernel
theorem dX7_isSheet_6 : decode cX7_isSheet 6 = .ok (.ireturn, 1) := by decide +kernel
theorem dX7_sheet_0 : decode cX7_sheet 0 = .ok (.iload_n 1, 1) := by decide +kernel
theorem dX7_sheet_1 : decode cX7_sheet 1 = .ok (.invokestatic 250, 3) := by decide +kernel
theorem dX7_sheet_4 : decode cX7_sheet 4 = .ok (.ifCond .eq 25, 3) := by decide +kernel
theorem dX7_sheet_7 : decode cX7_sheet 7 = .ok (.iload_n 2, 1) := by decide +kernel
theorem dX7_sheet_8 : decode cX7_sheet 8 = .ok (.ifCond .eq 27, 3) := by decide +kernel
theorem dX7_sheet_11 : decode cX7_sheet 11 = .ok (.iload_n 2, 1) := by decide +kernel
theorem dX7_sheet_12 : decode cX7_sheet 12 = .ok (.bipush 8, 2) := by decide +kernel
theorem dX7_sheet_14 : decode cX7_sheet 14 = .ok (.if_icmp .eq 21, 3) := by decide +kernel
theorem dX7_sheet_17 : decode cX7_sheet 17 = .ok (.iload_n 2, 1) := by decide +kernel
theorem dX7_sheet_18 : decode cX7_sheet 18 = .ok (.bipush 16, 2) := by decide +kernel
theorem dX7_sheet_20 : decode cX7_sheet 20 = .ok (.if_icmp .eq 15, 3) := by decide +kernel
theorem dX7_sheet_23 : decode cX7_sheet 23 = .ok (.iload_n 2, 1) := by decide +kernel
theorem dX7_sheet_24 : decode cX7_sheet 24 = .ok (.bipush 32, 2) := by decide +kernel
theorem dX7_sheet_26 : decode cX7_sheet 26 = .ok (.if_icmp .eq 9, 3) := by decide +kernel
theorem dX7_sheet_29 : decode cX7_sheet 29 = .ok (.aload_n 0, 1) := by decide +kernel
theorem dX7_sheet_30 : decode cX7_sheet 30 = .ok (.iconst 1, 1) := by decide +kernel
theorem dX7_sheet_31 : decode cX7_sheet 31 = .ok (.invokevirtual 61, 3) := by decide +kernel
theorem dX7_sheet_34 : decode cX7_sheet 34 = .ok (.ireturn, 1) := by decide +kernel
theorem dX7_sheet_35 : decode cX7_sheet 35 = .ok (.iload_n 2, 1) := by decide +kernel
theorem dX7_sheet_36 : decode cX7_sheet 36 = .ok (.ifCond .eq 13, 3) := by decide +kernel
theorem dX7_sheet_39 : decode cX7_sheet 39 = .ok (.iload_n 3, 1) := by decide +kernel
theorem dX7_sheet_40 : decode cX7_sheet 40 = .ok (.ifCond .ge 9, 3) := by decide +kernel
theorem dX7_sheet_43 : decode cX7_sheet 43 = .ok (.aload_n 0, 1) := by decide +kernel
theorem dX7_sheet_44 : decode cX7_sheet 44 = .ok (.iconst 3, 1) := by decide +kernel
theorem dX7_sheet_45 : decode cX7_sheet 45 = .ok (.invokevirtual 61, 3) := by decide +kernel
theorem dX7_sheet_48 : decode cX7_sheet 48 = .ok (.ireturn, 1) := by decide +kernel
theorem dX7_sheet_49 : decode cX7_sheet 49 = .ok (.iload_n 2, 1) := by decide +kernel
theorem dX7_sheet_50 : decode cX7_sheet 50 = .ok (.ifCond .eq 15, 3) := by decide +kernel
theorem dX7_sheet_53 : decode cX7_sheet 53 = .ok (.iload_n 3, 1) := by decide +kernel
theorem dX7_sheet_54 : decode cX7_sheet 54 = .ok (.bipush 24, 2) := by decide +kernel
theorem dX7_sheet_56 : decode cX7_sheet 56 = .ok (.if_icmp .le 9, 3) := by decide +kernel
theorem dX7_sheet_59 : decode cX7_sheet 59 = .ok (.aload_n 0, 1) := by decide +kernel
theorem dX7_sheet_60 : decode cX7_sheet 60 = .ok (.iconst 1, 1) := by decide +kernel
theorem dX7_sheet_61 : decode cX7_sheet 61 = .ok (.invokevirtual 61, 3) := by decide +kernel
theorem dX7_sheet_64 : decode cX7_sheet 64 = .ok (.ireturn, 1) := by decide +kernel
theorem dX7_sheet_65 : decode cX7_sheet 65 = .ok (.aload_n 0, 1) := by decide +kernel
theorem dX7_sheet_66 : decode cX7_sheet 66 = .ok (.getfield 40, 3) := by decide +kernel
theorem dX7_sheet_69 : decode cX7_sheet 69 = .ok (.iload_n 1, 1) := by decide +kernel
theorem dX7_sheet_70 : decode cX7_sheet 70 = .ok (.iload_n 2, 1) := by decide +kernel
theorem dX7_sheet_71 : decode cX7_sheet 71 = .ok (.iastore, 1) := by decide +kernel
theorem dX7_sheet_72 : decode cX7_sheet 72 = .ok (.aload_n 0, 1) := by decide +kernel
theorem dX7_sheet_73 : decode cX7_sheet 73 = .ok (.getfield 43, 3) := by decide +kernel
theorem dX7_sheet_76 : decode cX7_sheet 76 = .ok (.iload_n 1, 1) := by decide +kernel
theorem dX7_sheet_77 : decode cX7_sheet 77 = .ok (.iload_n 2, 1) := by decide +kernel
theorem dX7_sheet_78 : decode cX7_sheet 78 = .ok (.ifCond .ne 7, 3) := by decide +kernel
theorem dX7_sheet_81 : decode cX7_sheet 81 = .ok (.iconst 0, 1) := by decide +kernel
theorem dX7_sheet_82 : decode cX7_sheet 82 = .ok (.goto 4, 3) := by decide +kernel
theorem dX7_sheet_85 : decode cX7_sheet 85 = .ok (.iload_n 3, 1) := by decide +kernel
theorem dX7_sheet_86 : decode cX7_sheet 86 = .ok (.iastore, 1) := by decide +kernel
theorem dX7_sheet_87 : decode cX7_sheet 87 = .ok (.iconst 0, 1) := by decide +kernel
theorem dX7_sheet_88 : decode cX7_sheet 88 = .ok (.istore 4, 2) := by decide +kernel
theorem dX7_sheet_90 : decode cX7_sheet 90 = .ok (.iload 4, 2) := by decide +kernel
theorem dX7_sheet_92 : decode cX7_sheet 92 = .ok (.bipush 24, 2) := by decide +kernel
theorem dX7_sheet_94 : decode cX7_sheet 94 = .ok (.if_icmp .ge 22, 3) := by decide +kernel
theorem dX7_sheet_97 : decode cX7_sheet 97 = .ok (.aload_n 0, 1) := by decide +kernel
theorem dX7_sheet_98 : decode cX7_sheet 98 = .ok (.getfield 46, 3) := by decide +kernel
theorem dX7_sheet_101 : decode cX7_sheet 101 = .ok (.bipush 24, 2) := by decide +kernel
theorem dX7_sheet_103 : decode cX7_sheet 103 = .ok (.iload_n 1, 1) := by decide +kernel
theorem dX7_sheet_104 : decode cX7_sheet 104 = .ok (.imul, 1) := by decide +kernel
theorem dX7_sheet_105 : decode cX7_sheet 105 = .ok (.iload 4, 2) := by decide +kernel
theorem dX7_sheet_107 : decode cX7_sheet 107 = .ok (.iadd, 1) := by decide +kernel
theorem dX7_sheet_108 : decode cX7_sheet 108 = .ok (.iconst 0, 1) := by decide +kernel
theorem dX7_sheet_109 : decode cX7_sheet 109 = .ok (.iastore, 1) := by decide +kernel
theorem dX7_sheet_110 : decode cX7_sheet 110 = .ok (.iinc 4 1, 3) := by decide +kernel
theorem dX7_sheet_113 : decode cX7_sheet 113 = .ok (.goto (-23), 3) := by decide +kernel
theorem dX7_sheet_116 : decode cX7_sheet 116 = .ok (.iconst 1, 1) := by decide +kernel
theorem dX7_sheet_117 : decode cX7_sheet 117 = .ok (.ireturn, 1) := by decide +kernel
theorem dX7_put_0 : decode cX7_put 0 = .ok (.iload_n 1, 1) := by decide +kernel
theorem dX7_put_1 : decode cX7_put 1 = .ok (.invokestatic 250, 3) := by decide +kernel
theorem dX7_put_4 : decode cX7_put 4 = .ok (.ifCond .ne 9, 3) := by decide +kernel
theorem dX7_put_7 : decode cX7_put 7 = .ok (.aload_n 0, 1) := by decide +kernel
theorem dX7_put_8 : decode cX7_put 8 = .ok (.iconst 1, 1) := by decide +kernel
theorem dX7_put_9 : decode cX7_put 9 = .ok (.invokevirtual 61, 3) := by decide +kernel
theorem dX7_put_12 : decode cX7_put 12 = .ok (.ireturn, 1) := by decide +kernel
theorem dX7_put_13 : decode cX7_put 13 = .ok (.aload_n 0, 1) := by decide +kernel
theorem dX7_put_14 : decode cX7_put 14 = .ok (.getfield 40, 3) := by decide +kernel
theorem dX7_put_17 : decode cX7_put 17 = .ok (.iload_n 1, 1) := by decide +kernel
theorem dX7_put_18 : decode cX7_put 18 = .ok (.iaload, 1) := by decide +kernel
theorem dX7_put_19 : decode cX7_put 19 = .ok (.ifCond .ne 9, 3) := by decide +kernel
theorem dX7_put_22 : decode cX7_put 22 = .ok (.aload_n 0, 1) := by decide +kernel
theorem dX7_put_23 : decode cX7_put 23 = .ok (.iconst 2, 1) := by decide +kernel
theorem dX7_put_24 : decode cX7_put 24 = .ok (.invokevirtual 61, 3) := by decide +kernel
theorem dX7_put_27 : decode cX7_put 27 = .ok (.ireturn, 1) := by decide +kernel
theorem dX7_put_28 : decode cX7_put 28 = .ok (.iload_n 2, 1) := by decide +kernel
theorem dX7_put_29 : decode cX7_put 29 = .ok (.iconst 0, 1) := by decide +kernel
theorem dX7_put_30 : decode cX7_put 30 = .ok (.aload_n 0, 1) := by decide +kernel
theorem dX7_put_31 : decode cX7_put 31 = .ok (.getfield 43, 3) := by decide +kernel
theorem dX7_put_34 : decode cX7_put 34 = .ok (.iload_n 1, 1) := by decide +kernel
theorem dX7_put_35 : decode cX7_put 35 = .ok (.iaload, 1) := by decide +kernel
theorem dX7_put_36 : decode cX7_put 36 = .ok (.iconst 1, 1) := by decide +kernel
theorem dX7_put_37 : decode cX7_put 37 = .ok (.isub, 1) := by decide +kernel
theorem dX7_put_38 : decode cX7_put 38 = .ok (.invokestatic 53, 3) := by decide +kernel
theorem dX7_put_41 : decode cX7_put 41 = .ok (.ifCond .ne 9, 3) := by decide +kernel
theorem dX7_put_44 : decode cX7_put 44 = .ok (.aload_n 0, 1) := by decide +kernel
theorem dX7_put_45 : decode cX7_put 45 = .ok (.iconst 1, 1) := by decide +kernel
theorem dX7_put_46 : decode cX7_put 46 = .ok (.invokevirtual 61, 3) := by decide +kernel
theorem dX7_put_49 : decode cX7_put 49 = .ok (.ireturn, 1) := by decide +kernel
theorem dX7_put_50 : decode cX7_put 50 = .ok (.bipush 32, 2) := by decide +kernel
theorem dX7_put_52 : decode cX7_put 52 = .ok (.aload_n 0, 1) := by decide +kernel
theorem dX7_put_53 : decode cX7_put 53 = .ok (.getfield 40, 3) := by decide +kernel
theorem dX7_put_56 : decode cX7_put 56 = .ok (.iload_n 1, 1) := by decide +kernel
theorem dX7_put_57 : decode cX7_put 57 = .ok (.iaload, 1) := by decide +kernel
theorem dX7_put_58 : decode cX7_put 58 = .ok (.isub, 1) := by decide +kernel
theorem dX7_put_59 : decode cX7_put 59 = .ok (.istore 4, 2) := by decide +kernel
theorem dX7_put_61 : decode cX7_put 61 = .ok (.aload_n 0, 1) := by decide +kernel
theorem dX7_put_62 : decode cX7_put 62 = .ok (.getfield 46, 3) := by decide +kernel
theorem dX7_put_65 : decode cX7_put 65 = .ok (.bipush 24, 2) := by decide +kernel
theorem dX7_put_67 : decode cX7_put 67 = .ok (.iload_n 1, 1) := by decide +kernel
theorem dX7_put_68 : decode cX7_put 68 = .ok (.imul, 1) := by decide +kernel
theorem dX7_put_69 : decode cX7_put 69 = .ok (.iload_n 2, 1) := by decide +kernel
theorem dX7_put_70 : decode cX7_put 70 = .ok (.iadd, 1) := by decide +kernel
theorem dX7_put_71 : decode cX7_put 71 = .ok (.iload_n 3, 1) := by decide +kernel
theorem dX7_put_72 : decode cX7_put 72 = .ok (.iload 4, 2) := by decide +kernel
theorem dX7_put_74 : decode cX7_put 74 = .ok (.ishl, 1) := by decide +kernel
theorem dX7_put_75 : decode cX7_put 75 = .ok (.iload 4, 2) := by decide +kernel
theorem dX7_put_77 : decode cX7_put 77 = .ok (.ishr, 1) := by decide +kernel
theorem dX7_put_78 : decode cX7_put 78 = .ok (.iastore, 1) := by decide +kernel
theorem dX7_put_79 : decode cX7_put 79 = .ok (.iconst 1, 1) := by decide +kernel
theorem dX7_put_80 : decode cX7_put 80 = .ok (.ireturn, 1) := by decide +kernel
theorem dX7_move_0 : decode cX7_move 0 = .ok (.iload_n 1, 1) := by decide +kernel
theorem dX7_move_1 : decode cX7_move 1 = .ok (.invokestatic 250, 3) := by decide +kernel
theorem dX7_move_4 : decode cX7_move 4 = .ok (.ifCond .eq 10, 3) := by decide +kernel
theorem dX7_move_7 : decode cX7_move 7 = .ok (.iload_n 3, 1) := by decide +kernel
theorem dX7_move_8 : decode cX7_move 8 = .ok (.invokestatic 250, 3) := by decide +kernel
theorem dX7_move_11 : decode cX7_move 11 = .ok (.ifCond .ne 9, 3) := by decide +kernel
theorem dX7_move_14 : decode cX7_move 14 = .ok (.aload_n 0, 1) := by decide +kernel
theorem dX7_move_15 : decode cX7_move 15 = .ok (.iconst 1, 1) := by decide +kernel
theorem dX7_move_16 : decode cX7_move 16 = .ok (.invokevirtual 61, 3) := by decide +kernel
theorem dX7_move_19 : decode cX7_move 19 = .ok (.ireturn, 1) := by decide +kernel
theorem dX7_move_20 : decode cX7_move 20 = .ok (.aload_n 0, 1) := by decide +kernel
theorem dX7_move_21 : decode cX7_move 21 = .ok (.getfield 40, 3) := by decide +kernel
theorem dX7_move_24 : decode cX7_move 24 = .ok (.iload_n 1, 1) := by decide +kernel
theorem dX7_move_25 : decode cX7_move 25 = .ok (.iaload, 1) := by decide +kernel
theorem dX7_move_26 : decode cX7_move 26 = .ok (.ifCond .eq 12, 3) := by decide +kernel
theorem dX7_move_29 : decode cX7_move 29 = .ok (.aload_n 0, 1) := by decide +kernel
theorem dX7_move_30 : decode cX7_move 30 = .ok (.getfield 40, 3) := by decide +kernel
theorem dX7_move_33 : decode cX7_move 33 = .ok (.iload_n 3, 1) := by decide +kernel
theorem dX7_move_34 : decode cX7_move 34 = .ok (.iaload, 1) := by decide +kernel
theorem dX7_move_35 : decode cX7_move 35 = .ok (.ifCond .ne 9, 3) := by decide +kernel
theorem dX7_move_38 : decode cX7_move 38 = .ok (.aload_n 0, 1) := by decide +kernel
theorem dX7_move_39 : decode cX7_move 39 = .ok (.iconst 2, 1) := by decide +kernel
theorem dX7_move_40 : decode cX7_move 40 = .ok (.invokevirtual 61, 3) := by decide +kernel
theorem dX7_move_43 : decode cX7_move 43 = .ok (.ireturn, 1) := by decide +kernel
theorem dX7_move_44 : decode cX7_move 44 = .ok (.aload_n 0, 1) := by decide +kernel
theorem dX7_move_45 : decode cX7_move 45 = .ok (.getfield 40, 3) := by decide +kernel
theorem dX7_move_48 : decode cX7_move 48 = .ok (.iload_n 1, 1) := by decide +kernel
theorem dX7_move_49 : decode cX7_move 49 = .ok (.iaload, 1) := by decide +kernel
theorem dX7_move_50 : decode cX7_move 50 = .ok (.aload_n 0, 1) := by decide +kernel
theorem dX7_move_51 : decode cX7_move 51 = .ok (.getfield 40, 3) := by decide +kernel
theorem dX7_move_54 : decode cX7_move 54 = .ok (.iload_n 3, 1) := by decide +kernel
theorem dX7_move_55 : decode cX7_move 55 = .ok (.iaload, 1) := by decide +kernel
theorem dX7_move_56 : decode cX7_move 56 = .ok (.if_icmp .eq 9, 3) := by decide +kernel
theorem dX7_move_59 : decode cX7_move 59 = .ok (.aload_n 0, 1) := by decide +kernel
theorem dX7_move_60 : decode cX7_move 60 = .ok (.iconst 5, 1) := by decide +kernel
theorem dX7_move_61 : decode cX7_move 61 = .ok (.invokevirtual 61, 3) := by decide +kernel
theorem dX7_move_64 : decode cX7_move 64 = .ok (.ireturn, 1) := by decide +kernel
theorem dX7_move_65 : decode cX7_move 65 = .ok (.iload 5, 2) := by decide +kernel
theorem dX7_move_67 : decode cX7_move 67 = .ok (.ifCond .lt 39, 3) := by decide +kernel
theorem dX7_move_70 : decode cX7_move 70 = .ok (.iload_n 2, 1) := by decide +kernel
theorem dX7_move_71 : decode cX7_move 71 = .ok (.ifCond .lt 35, 3) := by decide +kernel
theorem dX7_move_74 : decode cX7_move 74 = .ok (.iload 4, 2) := by decide +kernel
theorem dX7_move_76 : decode cX7_move 76 = .ok (.ifCond .lt 30, 3) := by decide +kernel
theorem dX7_move_79 : decode cX7_move 79 = .ok (.iload_n 2, 1) := by decide +kernel
theorem dX7_move_80 : decode cX7_move 80 = .ok (.aload_n 0, 1) := by decide +kernel
theorem dX7_move_81 : decode cX7_move 81 = .ok (.getfield 43, 3) := by decide +kernel
theorem dX7_move_84 : decode cX7_move 84 = .ok (.iload_n 1, 1) := by decide +kernel
theorem dX7_move_85 : decode cX7_move 85 = .ok (.iaload, 1) := by decide +kernel
theorem dX7_move_86 : decode cX7_move 86 = .ok (.iload 5, 2) := by decide +kernel
theorem dX7_move_88 : decode cX7_move 88 = .ok (.isub, 1) := by decide +kernel
theorem dX7_move_89 : decode cX7_move 89 = .ok (.if_icmp .gt 17, 3) := by decide +kernel
theorem dX7_move_92 : decode cX7_move 92 = .ok (.iload 4, 2) := by decide +kernel
theorem dX7_move_94 : decode cX7_move 94 = .ok (.aload_n 0, 1) := by decide +kernel
theorem dX7_move_95 : decode cX7_move 95 = .ok (.getfield 43, 3) := by decide +kernel
theorem dX7_move_98 : decode cX7_move 98 = .ok (.iload_n 3, 1) := by decide +kernel
theorem dX7_move_99 : decode cX7_move 99 = .ok (.iaload, 1) := by decide +kernel
theorem dX7_move_100 : decode cX7_move 100 = .ok (.iload 5, 2) := by decide +kernel
theorem dX7_move_102 : decode cX7_move 102 = .ok (.isub, 1) := by decide +kernel
theorem dX7_move_103 : decode cX7_move 103 = .ok (.if_icmp .le 9, 3) := by decide +kernel
theorem dX7_move_106 : decode cX7_move 106 = .ok (.aload_n 0, 1) := by decide +kernel
theorem dX7_move_107 : decode cX7_move 107 = .ok (.iconst 1, 1) := by decide +kernel
theorem dX7_move_108 : decode cX7_move 108 = .ok (.invokevirtual 61, 3) := by decide +kernel
theorem dX7_move_111 : decode cX7_move 111 = .ok (.ireturn, 1) := by decide +kernel
theorem dX7_move_112 : decode cX7_move 112 = .ok (.iconst 0, 1) := by decide +kernel
theorem dX7_move_113 : decode cX7_move 113 = .ok (.istore 6, 2) := by decide +kernel
theorem dX7_move_115 : decode cX7_move 115 = .ok (.iload 6, 2) := by decide +kernel
theorem dX7_move_117 : decode cX7_move 117 = .ok (.iload 5, 2) := by decide +kernel
theorem dX7_move_119 : decode cX7_move 119 = .ok (.if_icmp .ge 30, 3) := by decide +kernel
theorem dX7_move_122 : decode cX7_move 122 = .ok (.aload_n 0, 1) := by decide +kernel
theorem dX7_move_123 : decode cX7_move 123 = .ok (.getfield 49, 3) := by decide +kernel
theorem dX7_move_126 : decode cX7_move 126 = .ok (.iload 6, 2) := by decide +kernel
theorem dX7_move_128 : decode cX7_move 128 = .ok (.aload_n 0, 1) := by decide +kernel
theorem dX7_move_129 : decode cX7_move 129 = .ok (.getfield 46, 3) := by decide +kernel
theorem dX7_move_132 : decode cX7_move 132 = .ok (.bipush 24, 2) := by decide +kernel
theorem dX7_move_134 : decode cX7_move 134 = .ok (.iload_n 1, 1) := by decide +kernel
theorem dX7_move_135 : decode cX7_move 135 = .ok (.imul, 1) := by decide +kernel
theorem dX7_move_136 : decode cX7_move 136 = .ok (.iload_n 2, 1) := by decide +kernel
theorem dX7_move_137 : decode cX7_move 137 = .ok (.iadd, 1) := by decide +kernel
theorem dX7_move_138 : decode cX7_move 138 = .ok (.iload 6, 2) := by decide +kernel
theorem dX7_move_140 : decode cX7_move 140 = .ok (.iadd, 1) := by decide +kernel
theorem dX7_move_141 : decode cX7_move 141 = .ok (.iaload, 1) := by decide +kernel
theorem dX7_move_142 : decode cX7_move 142 = .ok (.iastore, 1) := by decide +kernel
theorem dX7_move_143 : decode cX7_move 143 = .ok (.iinc 6 1, 3) := by decide +kernel
theorem dX7_move_146 : decode cX7_move 146 = .ok (.goto (-31), 3) := by decide +kernel
theorem dX7_move_149 : decode cX7_move 149 = .ok (.iconst 0, 1) := by decide +kernel
theorem dX7_move_150 : decode cX7_move 150 = .ok (.istore 6, 2) := by decide +kernel
theorem dX7_move_152 : decode cX7_move 152 = .ok (.iload 6, 2) := by decide +kernel
theorem dX7_move_154 : decode cX7_move 154 = .ok (.iload 5, 2) := by decide +kernel
theorem dX7_move_156 : decode cX7_move 156 = .ok (.if_icmp .ge 31, 3) := by decide +kernel
theorem dX7_move_159 : decode cX7_move 159 = .ok (.aload_n 0, 1) := by decide +kernel
theorem dX7_move_160 : decode cX7_move 160 = .ok (.getfield 46, 3) := by decide +kernel
theorem dX7_move_163 : decode cX7_move 163 = .ok (.bipush 24, 2) := by decide +kernel
theorem dX7_move_165 : decode cX7_move 165 = .ok (.iload_n 3, 1) := by decide +kernel
theorem dX7_move_166 : decode cX7_move 166 = .ok (.imul, 1) := by decide +kernel
theorem dX7_move_167 : decode cX7_move 167 = .ok (.iload 4, 2) := by decide +kernel
theorem dX7_move_169 : decode cX7_move 169 = .ok (.iadd, 1) := by decide +kernel
theorem dX7_move_170 : decode cX7_move 170 = .ok (.iload 6, 2) := by decide +kernel
theorem dX7_move_172 : decode cX7_move 172 = .ok (.iadd, 1) := by decide +kernel
theorem dX7_move_173 : decode cX7_move 173 = .ok (.aload_n 0, 1) := by decide +kernel
theorem dX7_move_174 : decode cX7_move 174 = .ok (.getfield 49, 3) := by decide +kernel
theorem dX7_move_177 : decode cX7_move 177 = .ok (.iload 6, 2) := by decide +kernel
theorem dX7_move_179 : decode cX7_move 179 = .ok (.iaload, 1) := by decide +kernel
theorem dX7_move_180 : decode cX7_move 180 = .ok (.iastore, 1) := by decide +kernel
theorem dX7_move_181 : decode cX7_move 181 = .ok (.iinc 6 1, 3) := by decide +kernel
theorem dX7_move_184 : decode cX7_move 184 = .ok (.goto (-32), 3) := by decide +kernel
theorem dX7_move_187 : decode cX7_move 187 = .ok (.iload 5, 2) := by decide +kernel
theorem dX7_move_189 : decode cX7_move 189 = .ok (.ireturn, 1) := by decide +kernel
theorem dX7_lacks_0 : decode cX7_lacks 0 = .ok (.iload_n 1, 1) := by decide +kernel
theorem dX7_lacks_1 : decode cX7_lacks 1 = .ok (.invokestatic 250, 3) := by decide +kernel
theorem dX7_lacks_4 : decode cX7_lacks 4 = .ok (.ifCond .ne 7, 3) := by decide +kernel
theorem dX7_lacks_7 : decode cX7_lacks 7 = .ok (.iconst 1, 1) := by decide +kernel
theorem dX7_lacks_8 : decode cX7_lacks 8 = .ok (.goto 17, 3) := by decide +kernel
theorem dX7_lacks_11 : decode cX7_lacks 11 = .ok (.aload_n 0, 1) := by decide +kernel
theorem dX7_lacks_12 : decode cX7_lacks 12 = .ok (.getfield 40, 3) := by decide +kernel
theorem dX7_lacks_15 : decode cX7_lacks 15 = .ok (.iload_n 1, 1) := by decide +kernel
theorem dX7_lacks_16 : decode cX7_lacks 16 = .ok (.iaload, 1) := by decide +kernel
theorem dX7_lacks_17 : decode cX7_lacks 17 = .ok (.ifCond .ne 7, 3) := by decide +kernel
theorem dX7_lacks_20 : decode cX7_lacks 20 = .ok (.iconst 2, 1) := by decide +kernel
theorem dX7_lacks_21 : decode cX7_lacks 21 = .ok (.goto 4, 3) := by decide +kernel
theorem dX7_lacks_24 : decode cX7_lacks 24 = .ok (.iconst 0, 1) := by decide +kernel
theorem dX7_lacks_25 : decode cX7_lacks 25 = .ok (.ireturn, 1) := by decide +kernel
theorem dX7_nears_0 : decode cX7_nears 0 = .ok (.aload_n 0, 1) := by decide +kernel
theorem dX7_nears_1 : decode cX7_nears 1 = .ok (.iload_n 1, 1) := by decide +kernel
theorem dX7_nears_2 : decode cX7_nears 2 = .ok (.invokevirtual 213, 3) := by decide +kernel
theorem dX7_nears_5 : decode cX7_nears 5 = .ok (.istore_n 2, 1) := by decide +kernel
theorem dX7_nears_6 : decode cX7_nears 6 = .ok (.iload_n 2, 1) := by decide +kernel
theorem dX7_nears_7 : decode cX7_nears 7 = .ok (.ifCond .eq 9, 3) := by decide +kernel
theorem dX7_nears_10 : decode cX7_nears 10 = .ok (.aload_n 0, 1) := by decide +kernel
theorem dX7_nears_11 : decode cX7_nears 11 = .ok (.iload_n 2, 1) := by decide +kernel
theorem dX7_nears_12 : decode cX7_nears 12 = .ok (.invokevirtual 61, 3) := by decide +kernel
theorem dX7_nears_15 : decode cX7_nears 15 = .ok (.ireturn, 1) := by decide +kernel
theorem dX7_nears_16 : decode cX7_nears 16 = .ok (.iconst 0, 1) := by decide +kernel
theorem dX7_nears_17 : decode cX7_nears 17 = .ok (.istore_n 3, 1) := by decide +kernel
theorem dX7_nears_18 : decode cX7_nears 18 = .ok (.iload_n 3, 1) := by decide +kernel
theorem dX7_nears_19 : decode cX7_nears 19 = .ok (.aload_n 0, 1) := by decide +kernel
theorem dX7_nears_20 : decode cX7_nears 20 = .ok (.getfield 43, 3) := by decide +kernel
theorem dX7_nears_23 : decode cX7_nears 23 = .ok (.iload_n 1, 1) := by decide +kernel
theorem dX7_nears_24 : decode cX7_nears 24 = .ok (.iaload, 1) := by decide +kernel
theorem dX7_nears_25 : decode cX7_nears 25 = .ok (.if_icmp .ge 54, 3) := by decide +kernel
theorem dX7_nears_28 : decode cX7_nears 28 = .ok (.aload_n 0, 1) := by decide +kernel
theorem dX7_nears_29 : decode cX7_nears 29 = .ok (.iload_n 3, 1) := by decide +kernel
theorem dX7_nears_30 : decode cX7_nears 30 = .ok (.invokevirtual 57, 3) := by decide +kernel
theorem dX7_nears_33 : decode cX7_nears 33 = .ok (.ifCond .eq 46, 3) := by decide +kernel
theorem dX7_nears_36 : decode cX7_nears 36 = .ok (.aload_n 0, 1) := by decide +kernel
theorem dX7_nears_37 : decode cX7_nears 37 = .ok (.getfield 46, 3) := by decide +kernel
theorem dX7_nears_40 : decode cX7_nears 40 = .ok (.bipush 24, 2) := by decide +kernel
theorem dX7_nears_42 : decode cX7_nears 42 = .ok (.iload_n 1, 1) := by decide +kernel
theorem dX7_nears_43 : decode cX7_nears 43 = .ok (.imul, 1) := by decide +kernel
theorem dX7_nears_44 : decode cX7_nears 44 = .ok (.iload_n 3, 1) := by decide +kernel
theorem dX7_nears_45 : decode cX7_nears 45 = .ok (.iadd, 1) := by decide +kernel
theorem dX7_nears_46 : decode cX7_nears 46 = .ok (.iaload, 1) := by decide +kernel
theorem dX7_nears_47 : decode cX7_nears 47 = .ok (.iconst 0, 1) := by decide +kernel
theorem dX7_nears_48 : decode cX7_nears 48 = .ok (.bipush 99, 2) := by decide +kernel
theorem dX7_nears_50 : decode cX7_nears 50 = .ok (.invokestatic 53, 3) := by decide +kernel
theorem dX7_nears_53 : decode cX7_nears 53 = .ok (.ifCond .eq 26, 3) := by decide +kernel
theorem dX7_nears_56 : decode cX7_nears 56 = .ok (.aload_n 0, 1) := by decide +kernel
theorem dX7_nears_57 : decode cX7_nears 57 = .ok (.iload_n 3, 1) := by decide +kernel
theorem dX7_nears_58 : decode cX7_nears 58 = .ok (.iconst 2, 1) := by decide +kernel
theorem dX7_nears_59 : decode cX7_nears 59 = .ok (.aload_n 0, 1) := by decide +kernel
theorem dX7_nears_60 : decode cX7_nears 60 = .ok (.getfield 46, 3) := by decide +kernel
theorem dX7_nears_63 : decode cX7_nears 63 = .ok (.bipush 24, 2) := by decide +kernel
theorem dX7_nears_65 : decode cX7_nears 65 = .ok (.iload_n 1, 1) := by decide +kernel
theorem dX7_nears_66 : decode cX7_nears 66 = .ok (.imul, 1) := by decide +kernel
theorem dX7_nears_67 : decode cX7_nears 67 = .ok (.iload_n 3, 1) := by decide +kernel
theorem dX7_nears_68 : decode cX7_nears 68 = .ok (.iadd, 1) := by decide +kernel
theorem dX7_nears_69 : decode cX7_nears 69 = .ok (.iaload, 1) := by decide +kernel
theorem dX7_nears_70 : decode cX7_nears 70 = .ok (.invokevirtual 151, 3) := by decide +kernel
theorem dX7_nears_73 : decode cX7_nears 73 = .ok (.iinc 3 1, 3) := by decide +kernel
theorem dX7_nears_76 : decode cX7_nears 76 = .ok (.goto (-58), 3) := by decide +kernel
theorem dX7_nears_79 : decode cX7_nears 79 = .ok (.iload_n 3, 1) := by decide +kernel
theorem dX7_nears_80 : decode cX7_nears 80 = .ok (.ireturn, 1) := by decide +kernel
theorem dX7_judge_0 : decode cX7_judge 0 = .ok (.aload_n 0, 1) := by decide +kernel
theorem dX7_judge_1 : decode cX7_judge 1 = .ok (.iload_n 1, 1) := by decide +kernel
theorem dX7_judge_2 : decode cX7_judge 2 = .ok (.invokevirtual 213, 3) := by decide +kernel
theorem dX7_judge_5 : decode cX7_judge 5 = .ok (.istore_n 2, 1) := by decide +kernel
theorem dX7_judge_6 : decode cX7_judge 6 = .ok (.iload_n 2, 1) := by decide +kernel
theorem dX7_judge_7 : decode cX7_judge 7 = .ok (.ifCond .eq 9, 3) := by decide +kernel
theorem dX7_judge_10 : decode cX7_judge 10 = .ok (.aload_n 0, 1) := by decide +kernel
theorem dX7_judge_11 : decode cX7_judge 11 = .ok (.iload_n 2, 1) := by decide +kernel
theorem dX7_judge_12 : decode cX7_judge 12 = .ok (.invokevirtual 61, 3) := by decide +kernel
theorem dX7_judge_15 : decode cX7_judge 15 = .ok (.ireturn, 1) := by decide +kernel
theorem dX7_judge_16 : decode cX7_judge 16 = .ok (.iconst 0, 1) := by decide +kernel
theorem dX7_judge_17 : decode cX7_judge 17 = .ok (.istore_n 3, 1) := by decide +kernel
theorem dX7_judge_18 : decode cX7_judge 18 = .ok (.iload_n 3, 1) := by decide +kernel
theorem dX7_judge_19 : decode cX7_judge 19 = .ok (.aload_n 0, 1) := by decide +kernel
theorem dX7_judge_20 : decode cX7_judge 20 = .ok (.getfield 43, 3) := by decide +kernel
theorem dX7_judge_23 : decode cX7_judge 23 = .ok (.iload_n 1, 1) := by decide +kernel
theorem dX7_judge_24 : decode cX7_judge 24 = .ok (.iaload, 1) := by decide +kernel
theorem dX7_judge_25 : decode cX7_judge 25 = .ok (.if_icmp .ge 36, 3) := by decide +kernel
theorem dX7_judge_28 : decode cX7_judge 28 = .ok (.aload_n 0, 1) := by decide +kernel
theorem dX7_judge_29 : decode cX7_judge 29 = .ok (.iload_n 3, 1) := by decide +kernel
theorem dX7_judge_30 : decode cX7_judge 30 = .ok (.invokevirtual 57, 3) := by decide +kernel
theorem dX7_judge_33 : decode cX7_judge 33 = .ok (.ifCond .eq 28, 3) := by decide +kernel
theorem dX7_judge_36 : decode cX7_judge 36 = .ok (.aload_n 0, 1) := by decide +kernel
theorem dX7_judge_37 : decode cX7_judge 37 = .ok (.iload_n 3, 1) := by decide +kernel
theorem dX7_judge_38 : decode cX7_judge 38 = .ok (.invokevirtual 145, 3) := by decide +kernel
theorem dX7_judge_41 : decode cX7_judge 41 = .ok (.aload_n 0, 1) := by decide +kernel
theorem dX7_judge_42 : decode cX7_judge 42 = .ok (.getfield 46, 3) := by decide +kernel
theorem dX7_judge_45 : decode cX7_judge 45 = .ok (.bipush 24, 2) := by decide +kernel
theorem dX7_judge_47 : decode cX7_judge 47 = .ok (.iload_n 1, 1) := by decide +kernel
theorem dX7_judge_48 : decode cX7_judge 48 = .ok (.imul, 1) := by decide +kernel
theorem dX7_judge_49 : decode cX7_judge 49 = .ok (.iload_n 3, 1) := by decide +kernel
theorem dX7_judge_50 : decode cX7_judge 50 = .ok (.iadd, 1) := by decide +kernel
theorem dX7_judge_51 : decode cX7_judge 51 = .ok (.iaload, 1) := by decide +kernel
theorem dX7_judge_52 : decode cX7_judge 52 = .ok (.if_icmp .ne 9, 3) := by decide +kernel
theorem dX7_judge_55 : decode cX7_judge 55 = .ok (.iinc 3 1, 3) := by decide +kernel
theorem dX7_judge_58 : decode cX7_judge 58 = .ok (.goto (-40), 3) := by decide +kernel
theorem dX7_judge_61 : decode cX7_judge 61 = .ok (.iload_n 3, 1) := by decide +kernel
theorem dX7_judge_62 : decode cX7_judge 62 = .ok (.ireturn, 1) := by decide +kernel
theorem dX7_image_0 : decode cX7_image 0 = .ok (.aload_n 0, 1) := by decide +kernel
theorem dX7_image_1 : decode cX7_image 1 = .ok (.getfield 7, 3) := by decide +kernel
theorem dX7_image_4 : decode cX7_image 4 = .ok (.aload_n 0, 1) := by decide +kernel
theorem dX7_image_5 : decode cX7_image 5 = .ok (.getfield 13, 3) := by decide +kernel
theorem dX7_image_8 : decode cX7_image 8 = .ok (.invokestatic 253, 3) := by decide +kernel
theorem dX7_image_11 : decode cX7_image 11 = .ok (.aload_n 0, 1) := by decide +kernel
theorem dX7_image_12 : decode cX7_image 12 = .ok (.dup, 1) := by decide +kernel
theorem dX7_image_13 : decode cX7_image 13 = .ok (.getfield 257, 3) := by decide +kernel
theorem dX7_image_16 : decode cX7_image 16 = .ok (.iconst 1, 1) := by decide +kernel
theorem dX7_image_17 : decode cX7_image 17 = .ok (.iadd, 1) := by decide +kernel
theorem dX7_image_18 : decode cX7_image 18 = .ok (.putfield 257, 3) := by decide +kernel
theorem dX7_image_21 : decode cX7_image 21 = .ok (.aload_n 0, 1) := by decide +kernel
theorem dX7_image_22 : decode cX7_image 22 = .ok (.getfield 257, 3) := by decide +kernel
theorem dX7_image_25 : decode cX7_image 25 = .ok (.ireturn, 1) := by decide +kernel
theorem dX7_restore_0 : decode cX7_restore 0 = .ok (.aload_n 0, 1) := by decide +kernel
theorem dX7_restore_1 : decode cX7_restore 1 = .ok (.getfield 257, 3) := by decide +kernel
theorem dX7_restore_4 : decode cX7_restore 4 = .ok (.ifCond .ne 9, 3) := by decide +kernel
theorem dX7_restore_7 : decode cX7_restore 7 = .ok (.aload_n 0, 1) := by decide +kernel
theorem dX7_restore_8 : decode cX7_restore 8 = .ok (.iconst 2, 1) := by decide +kernel
theorem dX7_restore_9 : decode cX7_restore 9 = .ok (.invokevirtual 61, 3) := by decide +kernel
theorem dX7_restore_12 : decode cX7_restore 12 = .ok (.ireturn, 1) := by decide +kernel
theorem dX7_restore_13 : decode cX7_restore 13 = .ok (.aload_n 0, 1) := by decide +kernel
theorem dX7_restore_14 : decode cX7_restore 14 = .ok (.getfield 13, 3) := by decide +kernel
theorem dX7_restore_17 : decode cX7_restore 17 = .ok (.aload_n 0, 1) := by decide +kernel
theorem dX7_restore_18 : decode cX7_restore 18 = .ok (.getfield 7, 3) := by decide +kernel
theorem dX7_restore_21 : decode cX7_restore 21 = .ok (.invokestatic 253, 3) := by decide +kernel
theorem dX7_restore_24 : decode cX7_restore 24 = .ok (.aload_n 0, 1) := by decide +kernel
theorem dX7_restore_25 : decode cX7_restore 25 = .ok (.getfield 7, 3) := by decide +kernel
theorem dX7_restore_28 : decode cX7_restore 28 = .ok (.iconst 0, 1) := by decide +kernel
theorem dX7_restore_29 : decode cX7_restore 29 = .ok (.iaload, 1) := by decide +kernel
theorem dX7_restore_30 : decode cX7_restore 30 = .ok (.ireturn, 1) := by decide +kernel
theorem dX7_tell_0 : decode cX7_tell 0 = .ok (.aload_n 0, 1) := by decide +kernel
theorem dX7_tell_1 : decode cX7_tell 1 = .ok (.getfield 7, 3) := by decide +kernel
theorem dX7_tell_4 : decode cX7_tell 4 = .ok (.iconst 3, 1) := by decide +kernel
theorem dX7_tell_5 : decode cX7_tell 5 = .ok (.iaload, 1) := by decide +kernel
theorem dX7_tell_6 : decode cX7_tell 6 = .ok (.bipush 24, 2) := by decide +kernel
theorem dX7_tell_8 : decode cX7_tell 8 = .ok (.if_icmp .ne 9, 3) := by decide +kernel
theorem dX7_tell_11 : decode cX7_tell 11 = .ok (.aload_n 0, 1) := by decide +kernel
theorem dX7_tell_12 : decode cX7_tell 12 = .ok (.iconst 4, 1) := by decide +kernel
theorem dX7_tell_13 : decode cX7_tell 13 = .ok (.invokevirtual 61, 3) := by decide +kernel
theorem dX7_tell_16 : decode cX7_tell 16 = .ok (.ireturn, 1) := by decide +kernel
theorem dX7_tell_17 : decode cX7_tell 17 = .ok (.aload_n 0, 1) := by decide +kernel
theorem dX7_tell_18 : decode cX7_tell 18 = .ok (.getfield 7, 3) := by decide +kernel
theorem dX7_tell_21 : decode cX7_tell 21 = .ok (.sipush 358, 3) := by decide +kernel
theorem dX7_tell_24 : decode cX7_tell 24 = .ok (.aload_n 0, 1) := by decide +kernel
theorem dX7_tell_25 : decode cX7_tell 25 = .ok (.getfield 7, 3) := by decide +kernel
theorem dX7_tell_28 : decode cX7_tell 28 = .ok (.iconst 3, 1) := by decide +kernel
theorem dX7_tell_29 : decode cX7_tell 29 = .ok (.iaload, 1) := by decide +kernel
theorem dX7_tell_30 : decode cX7_tell 30 = .ok (.iadd, 1) := by decide +kernel
theorem dX7_tell_31 : decode cX7_tell 31 = .ok (.iload_n 1, 1) := by decide +kernel
theorem dX7_tell_32 : decode cX7_tell 32 = .ok (.iastore, 1) := by decide +kernel
theorem dX7_tell_33 : decode cX7_tell 33 = .ok (.aload_n 0, 1) := by decide +kernel
theorem dX7_tell_34 : decode cX7_tell 34 = .ok (.getfield 7, 3) := by decide +kernel
theorem dX7_tell_37 : decode cX7_tell 37 = .ok (.iconst 3, 1) := by decide +kernel
theorem dX7_tell_38 : decode cX7_tell 38 = .ok (.dup2, 1) := by decide +kernel
theorem dX7_tell_39 : decode cX7_tell 39 = .ok (.iaload, 1) := by decide +kernel
theorem dX7_tell_40 : decode cX7_tell 40 = .ok (.iconst 1, 1) := by decide +kernel
theorem dX7_tell_41 : decode cX7_tell 41 = .ok (.iadd, 1) := by decide +kernel
theorem dX7_tell_42 : decode cX7_tell 42 = .ok (.iastore, 1) := by decide +kernel
theorem dX7_tell_43 : decode cX7_tell 43 = .ok (.aload_n 0, 1) := by decide +kernel
theorem dX7_tell_44 : decode cX7_tell 44 = .ok (.getfield 7, 3) := by decide +kernel
theorem dX7_tell_47 : decode cX7_tell 47 = .ok (.iconst 3, 1) := by decide +kernel
theorem dX7_tell_48 : decode cX7_tell 48 = .ok (.iaload, 1) := by decide +kernel
theorem dX7_tell_49 : decode cX7_tell 49 = .ok (.ireturn, 1) := by decide +kernel
theorem dX7_check_0 : decode cX7_check 0 = .ok (.aload_n 0, 1) := by decide +kernel
theorem dX7_check_1 : decode cX7_check 1 = .ok (.getfield 7, 3) := by decide +kernel
theorem dX7_check_4 : decode cX7_check 4 = .ok (.iconst 3, 1) := by decide +kernel
theorem dX7_check_5 : decode cX7_check 5 = .ok (.iaload, 1) := by decide +kernel
theorem dX7_check_6 : decode cX7_check 6 = .ok (.istore_n 1, 1) := by decide +kernel
theorem dX7_check_7 : decode cX7_check 7 = .ok (.aload_n 0, 1) := by decide +kernel
theorem dX7_check_8 : decode cX7_check 8 = .ok (.getfield 7, 3) := by decide +kernel
theorem dX7_check_11 : decode cX7_check 11 = .ok (.iconst 3, 1) := by decide +kernel
theorem dX7_check_12 : decode cX7_check 12 = .ok (.iconst 0, 1) := by decide +kernel
theorem dX7_check_13 : decode cX7_check 13 = .ok (.iastore, 1) := by decide +kernel
theorem dX7_check_14 : decode cX7_check 14 = .ok (.iconst 0, 1) := by decide +kernel
theorem dX7_check_15 : decode cX7_check 15 = .ok (.istore_n 2, 1) := by decide +kernel
theorem dX7_check_16 : decode cX7_check 16 = .ok (.iload_n 2, 1) := by decide +kernel
theorem dX7_check_17 : decode cX7_check 17 = .ok (.iload_n 1, 1) := by decide +kernel
theorem dX7_check_18 : decode cX7_check 18 = .ok (.if_icmp .ge 40, 3) := by decide +kernel
theorem dX7_check_21 : decode cX7_check 21 = .ok (.aload_n 0, 1) := by decide +kernel
theorem dX7_check_22 : decode cX7_check 22 = .ok (.iload_n 2, 1) := by decide +kernel
theorem dX7_check_23 : decode cX7_check 23 = .ok (.invokevirtual 57, 3) := by decide +kernel
theorem dX7_check_26 : decode cX7_check 26 = .ok (.ifCond .eq 22, 3) := by decide +kernel
theorem dX7_check_29 : decode cX7_check 29 = .ok (.aload_n 0, 1) := by decide +kernel
theorem dX7_check_30 : decode cX7_check 30 = .ok (.getfield 7, 3) := by decide +kernel
theorem dX7_check_33 : decode cX7_check 33 = .ok (.sipush 358, 3) := by decide +kernel
theorem dX7_check_36 : decode cX7_check 36 = .ok (.iload_n 2, 1) := by decide +kernel
theorem dX7_check_37 : decode cX7_check 37 = .ok (.iadd, 1) := by decide +kernel
theorem dX7_check_38 : decode cX7_check 38 = .ok (.iaload, 1) := by decide +kernel
theorem dX7_check_39 : decode cX7_check 39 = .ok (.aload_n 0, 1) := by decide +kernel
theorem dX7_check_40 : decode cX7_check 40 = .ok (.iload_n 2, 1) := by decide +kernel
theorem dX7_check_41 : decode cX7_check 41 = .ok (.iconst 2, 1) := by decide +kernel
theorem dX7_check_42 : decode cX7_check 42 = .ok (.invokevirtual 120, 3) := by decide +kernel
theorem dX7_check_45 : decode cX7_check 45 = .ok (.if_icmp .eq 7, 3) := by decide +kernel
theorem dX7_check_48 : decode cX7_check 48 = .ok (.iconst 1, 1) := by decide +kernel
theorem dX7_check_49 : decode cX7_check 49 = .ok (.iload_n 2, 1) := by decide +kernel
theorem dX7_check_50 : decode cX7_check 50 = .ok (.iadd, 1) := by decide +kernel
theorem dX7_check_51 : decode cX7_check 51 = .ok (.ireturn, 1) := by decide +kernel
theorem dX7_check_52 : decode cX7_check 52 = .ok (.iinc 2 1, 3) := by decide +kernel
theorem dX7_check_55 : decode cX7_check 55 = .ok (.goto (-39), 3) := by decide +kernel
theorem dX7_check_58 : decode cX7_check 58 = .ok (.iconst 0, 1) := by decide +kernel
theorem dX7_check_59 : decode cX7_check 59 = .ok (.ireturn, 1) := by decide +kernel
theorem dX7_count_0 : decode cX7_count 0 = .ok (.iload_n 1, 1) := by decide +kernel
theorem dX7_count_1 : decode cX7_count 1 = .ok (.tableswitch 88 0 6 #[43, 50, 57, 62, 69, 76, 81], 43) := by decide +kernel
theorem dX7_count_44 : decode cX7_count 44 = .ok (.aload_n 0, 1) := by decide +kernel
theorem dX7_count_45 : decode cX7_count 45 = .ok (.getfield 7, 3) := by decide +kernel
theorem dX7_count_48 : decode cX7_count 48 = .ok (.iconst 4, 1) := by decide +kernel
theorem dX7_count_49 : decode cX7_count 49 = .ok (.iaload, 1) := by decide +kernel
theorem dX7_count_50 : decode cX7_count 50 = .ok (.ireturn, 1) := by decide +kernel
theorem dX7_count_51 : decode cX7_count 51 = .ok (.aload_n 0, 1) := by decide +kernel
theorem dX7_count_52 : decode cX7_count 52 = .ok (.getfield 7, 3) := by decide +kernel
theorem dX7_count_55 : decode cX7_count 55 = .ok (.iconst 0, 1) := by decide +kernel
theorem dX7_count_56 : decode cX7_count 56 = .ok (.iaload, 1) := by decide +kernel
theorem dX7_count_57 : decode cX7_count 57 = .ok (.ireturn, 1) := by decide +kernel
theorem dX7_count_58 : decode cX7_count 58 = .ok (.aload_n 0, 1) := by decide +kernel
theorem dX7_count_59 : decode cX7_count 59 = .ok (.invokevirtual 188, 3) := by decide +kernel
theorem dX7_count_62 : decode cX7_count 62 = .ok (.ireturn, 1) := by decide +kernel
theorem dX7_count_63 : decode cX7_count 63 = .ok (.aload_n 0, 1) := by decide +kernel
theorem dX7_count_64 : decode cX7_count 64 = .ok (.getfield 7, 3) := by decide +kernel
theorem dX7_count_67 : decode cX7_count 67 = .ok (.iconst 2, 1) := by decide +kernel
theorem dX7_count_68 : decode cX7_count 68 = .ok (.iaload, 1) := by decide +kernel
theorem dX7_count_69 : decode cX7_count 69 = .ok (.ireturn, 1) := by decide +kernel
theorem dX7_count_70 : decode cX7_count 70 = .ok (.aload_n 0, 1) := by decide +kernel
theorem dX7_count_71 : decode cX7_count 71 = .ok (.getfield 7, 3) := by decide +kernel
theorem dX7_count_74 : decode cX7_count 74 = .ok (.iconst 3, 1) := by decide +kernel
theorem dX7_count_75 : decode cX7_count 75 = .ok (.iaload, 1) := by decide +kernel
theorem dX7_count_76 : decode cX7_count 76 = .ok (.ireturn, 1) := by decide +kernel
theorem dX7_count_77 : decode cX7_count 77 = .ok (.aload_n 0, 1) := by decide +kernel
theorem dX7_count_78 : decode cX7_count 78 = .ok (.getfield 219, 3) := by decide +kernel
theorem dX7_count_81 : decode cX7_count 81 = .ok (.ireturn, 1) := by decide +kernel
theorem dX7_count_82 : decode cX7_count 82 = .ok (.aload_n 0, 1) := by decide +kernel
theorem dX7_count_83 : decode cX7_count 83 = .ok (.getfield 7, 3) := by decide +kernel
theorem dX7_count_86 : decode cX7_count 86 = .ok (.iconst 1, 1) := by decide +kernel
theorem dX7_count_87 : decode cX7_count 87 = .ok (.iaload, 1) := by decide +kernel
theorem dX7_count_88 : decode cX7_count 88 = .ok (.ireturn, 1) := by decide +kernel
theorem dX7_count_89 : decode cX7_count 89 = .ok (.aload_n 0, 1) := by decide +kernel
theorem dX7_count_90 : decode cX7_count 90 = .ok (.iconst 1, 1) := by decide +kernel
theorem dX7_count_91 : decode cX7_count 91 = .ok (.invokevirtual 61, 3) := by decide +kernel
theorem dX7_count_94 : decode cX7_count 94 = .ok (.ireturn, 1) := by decide +kernel
theorem dX7_told_0 : decode cX7_told 0 = .ok (.iload_n 1, 1) := by decide +kernel
theorem dX7_told_1 : decode cX7_told 1 = .ok (.iconst 1, 1) := by decide +kernel
theorem dX7_told_2 : decode cX7_told 2 = .ok (.bipush 6, 2) := by decide +kernel
theorem dX7_told_4 : decode cX7_told 4 = .ok (.invokestatic 53, 3) := by decide +kernel
theorem dX7_told_7 : decode cX7_told 7 = .ok (.ifCond .eq 12, 3) := by decide +kernel
theorem dX7_told_10 : decode cX7_told 10 = .ok (.aload_n 0, 1) := by decide +kernel
theorem dX7_told_11 : decode cX7_told 11 = .ok (.getfield 19, 3) := by decide +kernel
theorem dX7_told_14 : decode cX7_told 14 = .ok (.iload_n 1, 1) := by decide +kernel
theorem dX7_told_15 : decode cX7_told 15 = .ok (.iaload, 1) := by decide +kernel
theorem dX7_told_16 : decode cX7_told 16 = .ok (.goto 8, 3) := by decide +kernel
theorem dX7_told_19 : decode cX7_told 19 = .ok (.aload_n 0, 1) := by decide +kernel
theorem dX7_told_20 : decode cX7_told 20 = .ok (.iconst 1, 1) := by decide +kernel
theorem dX7_told_21 : decode cX7_told 21 = .ok (.invokevirtual 61, 3) := by decide +kernel
theorem dX7_told_24 : decode cX7_told 24 = .ok (.ireturn, 1) := by decide +kernel
theorem dJ11_isValidCodePoint_9a6ad_0 : decode cJ11_isValidCodePoint_9a6ad 0 = .ok (.iload_n 0, 1) := by decide +kernel
theorem dJ11_isValidCodePoint_9a6ad_1 : decode cJ11_isValidCodePoint_9a6ad 1 = .ok (.bipush 16, 2) := by decide +kernel
theorem dJ11_isValidCodePoint_9a6ad_3 : decode cJ11_isValidCodePoint_9a6ad 3 = .ok (.iushr, 1) := by decide +kernel
theorem dJ11_isValidCodePoint_9a6ad_4 : decode cJ11_isValidCodePoint_9a6ad 4 = .ok (.istore_n 1, 1) := by decide +kernel
theorem dJ11_isValidCodePoint_9a6ad_5 : decode cJ11_isValidCodePoint_9a6ad 5 = .ok (.iload_n 1, 1) := by decide +kernel
theorem dJ11_isValidCodePoint_9a6ad_6 : decode cJ11_isValidCodePoint_9a6ad 6 = .ok (.bipush 17, 2) := by decide +kernel
theorem dJ11_isValidCodePoint_9a6ad_8 : decode cJ11_isValidCodePoint_9a6ad 8 = .ok (.if_icmp .ge 7, 3) := by decide +kernel
theorem dJ11_isValidCodePoint_9a6ad_11 : decode cJ11_isValidCodePoint_9a6ad 11 = .ok (.iconst 1, 1) := by decide +kernel
theorem dJ11_isValidCodePoint_9a6ad_12 : decode cJ11_isValidCodePoint_9a6ad 12 = .ok (.goto 4, 3) := by decide +kernel
theorem dJ11_isValidCodePoint_9a6ad_15 : decode cJ11_isValidCodePoint_9a6ad 15 = .ok (.iconst 0, 1) := by decide +kernel
theorem dJ11_isValidCodePoint_9a6ad_16 : decode cJ11_isValidCodePoint_9a6ad 16 = .ok (.ireturn, 1) := by decide +kernel
theorem dJ11_highSurrogate_5068e_0 : decode cJ11_highSurrogate_5068e 0 = .ok (.iload_n 0, 1) := by decide +kernel
theorem dJ11_highSurrogate_5068e_1 : decode cJ11_highSurrogate_5068e 1 = .ok (.bipush 10, 2) := by decide +kernel
theorem dJ11_highSurrogate_5068e_3 : decode cJ11_highSurrogate_5068e 3 = .ok (.iushr, 1) := by decide +kernel
theorem dJ11_highSurrogate_5068e_4 : decode cJ11_highSurrogate_5068e 4 = .ok (.ldc 110, 2) := by decide +kernel
theorem dJ11_highSurrogate_5068e_6 : decode cJ11_highSurrogate_5068e 6 = .ok (.iadd, 1) := by decide +kernel
theorem dJ11_highSurrogate_5068e_7 : decode cJ11_highSurrogate_5068e 7 = .ok (.i2c, 1) := by decide +kernel
theorem dJ11_highSurrogate_5068e_8 : decode cJ11_highSurrogate_5068e 8 = .ok (.ireturn, 1) := by decide +kernel
theorem dJ11_lowSurrogate_5068e_0 : decode cJ11_lowSurrogate_5068e 0 = .ok (.iload_n 0, 1) := by decide +kernel
theorem dJ11_lowSurrogate_5068e_1 : decode cJ11_lowSurrogate_5068e 1 = .ok (.sipush 1023, 3) := by decide +kernel
theorem dJ11_lowSurrogate_5068e_4 : decode cJ11_lowSurrogate_5068e 4 = .ok (.iand, 1) := by decide +kernel
theorem dJ11_lowSurrogate_5068e_5 : decode cJ11_lowSurrogate_5068e 5 = .ok (.ldc 76, 2) := by decide +kernel
theorem dJ11_lowSurrogate_5068e_7 : decode cJ11_lowSurrogate_5068e 7 = .ok (.iadd, 1) := by decide +kernel
theorem dJ11_lowSurrogate_5068e_8 : decode cJ11_lowSurrogate_5068e 8 = .ok (.i2c, 1) := by decide +kernel
theorem dJ11_lowSurrogate_5068e_9 : decode cJ11_lowSurrogate_5068e 9 = .ok (.ireturn, 1) := by decide +kernel
theorem dJ6_bitCount_0f7a4_0 : decode cJ6_bitCount_0f7a4 0 = .ok (.iload_n 0, 1) := by decide +kernel
theorem dJ6_bitCount_0f7a4_1 : decode cJ6_bitCount_0f7a4 1 = .ok (.iload_n 0, 1) := by decide +kernel
theorem dJ6_bitCount_0f7a4_2 : decode cJ6_bitCount_0f7a4 2 = .ok (.iconst 1, 1) := by decide +kernel
theorem dJ6_bitCount_0f7a4_3 : decode cJ6_bitCount_0f7a4 3 = .ok (.iushr, 1) := by decide +kernel
theorem dJ6_bitCount_0f7a4_4 : decode cJ6_bitCount_0f7a4 4 = .ok (.ldc_w 265, 3) := by decide +kernel
theorem dJ6_bitCount_0f7a4_7 : decode cJ6_bitCount_0f7a4 7 = .ok (.iand, 1) := by decide +kernel
theorem dJ6_bitCount_0f7a4_8 : decode cJ6_bitCount_0f7a4 8 = .ok (.isub, 1) := by decide +kernel
theorem dJ6_bitCount_0f7a4_9 : decode cJ6_bitCount_0f7a4 9 = .ok (.istore_n 0, 1) := by decide +kernel
theorem dJ6_bitCount_0f7a4_10 : decode cJ6_bitCount_0f7a4 10 = .ok (.iload_n 0, 1) := by decide +kernel
theorem dJ6_bitCount_0f7a4_11 : decode cJ6_bitCount_0f7a4 11 = .ok (.ldc_w 266, 3) := by decide +kernel
theorem dJ6_bitCount_0f7a4_14 : decode cJ6_bitCount_0f7a4 14 = .ok (.iand, 1) := by decide +kernel
theorem dJ6_bitCount_0f7a4_15 : decode cJ6_bitCount_0f7a4 15 = .ok (.iload_n 0, 1) := by decide +kernel
theorem dJ6_bitCount_0f7a4_16 : decode cJ6_bitCount_0f7a4 16 = .ok (.iconst 2, 1) := by decide +kernel
theorem dJ6_bitCount_0f7a4_17 : decode cJ6_bitCount_0f7a4 17 = .ok (.iushr, 1) := by decide +kernel
theorem dJ6_bitCount_0f7a4_18 : decode cJ6_bitCount_0f7a4 18 = .ok (.ldc_w 266, 3) := by decide +kernel
theorem dJ6_bitCount_0f7a4_21 : decode cJ6_bitCount_0f7a4 21 = .ok (.iand, 1) := by decide +kernel
theorem dJ6_bitCount_0f7a4_22 : decode cJ6_bitCount_0f7a4 22 = .ok (.iadd, 1) := by decide +kernel
theorem dJ6_bitCount_0f7a4_23 : decode cJ6_bitCount_0f7a4 23 = .ok (.istore_n 0, 1) := by decide +kernel
theorem dJ6_bitCount_0f7a4_24 : decode cJ6_bitCount_0f7a4 24 = .ok (.iload_n 0, 1) := by decide +kernel
theorem dJ6_bitCount_0f7a4_25 : decode cJ6_bitCount_0f7a4 25 = .ok (.iload_n 0, 1) := by decide +kernel
theorem dJ6_bitCount_0f7a4_26 : decode cJ6_bitCount_0f7a4 26 = .ok (.iconst 4, 1) := by decide +kernel
theorem dJ6_bitCount_0f7a4_27 : decode cJ6_bitCount_0f7a4 27 = .ok (.iushr, 1) := by decide +kernel
theorem dJ6_bitCount_0f7a4_28 : decode cJ6_bitCount_0f7a4 28 = .ok (.iadd, 1) := by decide +kernel
theorem dJ6_bitCount_0f7a4_29 : decode cJ6_bitCount_0f7a4 29 = .ok (.ldc_w 267, 3) := by decide +kernel
theorem dJ6_bitCount_0f7a4_32 : decode cJ6_bitCount_0f7a4 32 = .ok (.iand, 1) := by decide +kernel
theorem dJ6_bitCount_0f7a4_33 : decode cJ6_bitCount_0f7a4 33 = .ok (.istore_n 0, 1) := by decide +kernel
theorem dJ6_bitCount_0f7a4_34 : decode cJ6_bitCount_0f7a4 34 = .ok (.iload_n 0, 1) := by decide +kernel
theorem dJ6_bitCount_0f7a4_35 : decode cJ6_bitCount_0f7a4 35 = .ok (.iload_n 0, 1) := by decide +kernel
theorem dJ6_bitCount_0f7a4_36 : decode cJ6_bitCount_0f7a4 36 = .ok (.bipush 8, 2) := by decide +kernel
theorem dJ6_bitCount_0f7a4_38 : decode cJ6_bitCount_0f7a4 38 = .ok (.iushr, 1) := by decide +kernel
theorem dJ6_bitCount_0f7a4_39 : decode cJ6_bitCount_0f7a4 39 = .ok (.iadd, 1) := by decide +kernel
theorem dJ6_bitCount_0f7a4_40 : decode cJ6_bitCount_0f7a4 40 = .ok (.istore_n 0, 1) := by decide +kernel
theorem dJ6_bitCount_0f7a4_41 : decode cJ6_bitCount_0f7a4 41 = .ok (.iload_n 0, 1) := by decide +kernel
theorem dJ6_bitCount_0f7a4_42 : decode cJ6_bitCount_0f7a4 42 = .ok (.iload_n 0, 1) := by decide +kernel
theorem dJ6_bitCount_0f7a4_43 : decode cJ6_bitCount_0f7a4 43 = .ok (.bipush 16, 2) := by decide +kernel
theorem dJ6_bitCount_0f7a4_45 : decode cJ6_bitCount_0f7a4 45 = .ok (.iushr, 1) := by decide +kernel
theorem dJ6_bitCount_0f7a4_46 : decode cJ6_bitCount_0f7a4 46 = .ok (.iadd, 1) := by decide +kernel
theorem dJ6_bitCount_0f7a4_47 : decode cJ6_bitCount_0f7a4 47 = .ok (.istore_n 0, 1) := by decide +kernel
theorem dJ6_bitCount_0f7a4_48 : decode cJ6_bitCount_0f7a4 48 = .ok (.iload_n 0, 1) := by decide +kernel
theorem dJ6_bitCount_0f7a4_49 : decode cJ6_bitCount_0f7a4 49 = .ok (.bipush 63, 2) := by decide +kernel
theorem dJ6_bitCount_0f7a4_51 : decode cJ6_bitCount_0f7a4 51 = .ok (.iand, 1) := by decide +kernel
theorem dJ6_bitCount_0f7a4_52 : decode cJ6_bitCount_0f7a4 52 = .ok (.ireturn, 1) := by decide +kernel
theorem dJ9_max_7cf53_0 : decode cJ9_max_7cf53 0 = .ok (.iload_n 0, 1) := by decide +kernel
theorem dJ9_max_7cf53_1 : decode cJ9_max_7cf53 1 = .ok (.iload_n 1, 1) := by decide +kernel
theorem dJ9_max_7cf53_2 : decode cJ9_max_7cf53 2 = .ok (.if_icmp .lt 7, 3) := by decide +kernel
theorem dJ9_max_7cf53_5 : decode cJ9_max_7cf53 5 = .ok (.iload_n 0, 1) := by decide +kernel
theorem dJ9_max_7cf53_6 : decode cJ9_max_7cf53 6 = .ok (.goto 4, 3) := by decide +kernel
theorem dJ9_max_7cf53_9 : decode cJ9_max_7cf53 9 = .ok (.iload_n 1, 1) := by decide +kernel
theorem dJ9_max_7cf53_10 : decode cJ9_max_7cf53 10 = .ok (.ireturn, 1) := by decide +kernel
theorem dJ9_min_7cf53_0 : decode cJ9_min_7cf53 0 = .ok (.iload_n 0, 1) := by decide +kernel
theorem dJ9_min_7cf53_1 : decode cJ9_min_7cf53 1 = .ok (.iload_n 1, 1) := by decide +kernel
theorem dJ9_min_7cf53_2 : decode cJ9_min_7cf53 2 = .ok (.if_icmp .gt 7, 3) := by decide +kernel
theorem dJ9_min_7cf53_5 : decode cJ9_min_7cf53 5 = .ok (.iload_n 0, 1) := by decide +kernel
theorem dJ9_min_7cf53_6 : decode cJ9_min_7cf53 6 = .ok (.goto 4, 3) := by decide +kernel
theorem dJ9_min_7cf53_9 : decode cJ9_min_7cf53 9 = .ok (.iload_n 1, 1) := by decide +kernel
theorem dJ9_min_7cf53_10 : decode cJ9_min_7cf53 10 = .ok (.ireturn, 1) := by decide +kernel
theorem dJ0_length_8abf5_0 : decode cJ0_length_8abf5 0 = .ok (.aload_n 0, 1) := by decide +kernel
theorem dJ0_length_8abf5_1 : decode cJ0_length_8abf5 1 = .ok (.getfield 9, 3) := by decide +kernel
theorem dJ0_length_8abf5_4 : decode cJ0_length_8abf5 4 = .ok (.arraylength, 1) := by decide +kernel
theorem dJ0_length_8abf5_5 : decode cJ0_length_8abf5 5 = .ok (.aload_n 0, 1) := by decide +kernel
theorem dJ0_length_8abf5_6 : decode cJ0_length_8abf5 6 = .ok (.invokevirtual 335, 3) := by decide +kernel
theorem dJ0_length_8abf5_9 : decode cJ0_length_8abf5 9 = .ok (.ishr, 1) := by decide +kernel
theorem dJ0_length_8abf5_10 : decode cJ0_length_8abf5 10 = .ok (.ireturn, 1) := by decide +kernel
theorem dJ0_indexOf_0f7a4_0 : decode cJ0_indexOf_0f7a4 0 = .ok (.aload_n 0, 1) := by decide +kernel
theorem dJ0_indexOf_0f7a4_1 : decode cJ0_indexOf_0f7a4 1 = .ok (.iload_n 1, 1) := by decide +kernel
theorem dJ0_indexOf_0f7a4_2 : decode cJ0_indexOf_0f7a4 2 = .ok (.iconst 0, 1) := by decide +kernel
theorem dJ0_indexOf_0f7a4_3 : decode cJ0_indexOf_0f7a4 3 = .ok (.invokevirtual 633, 3) := by decide +kernel
theorem dJ0_indexOf_0f7a4_6 : decode cJ0_indexOf_0f7a4 6 = .ok (.ireturn, 1) := by decide +kernel
theorem dJ0_indexOf_7cf53_0 : decode cJ0_indexOf_7cf53 0 = .ok (.aload_n 0, 1) := by decide +kernel
theorem dJ0_indexOf_7cf53_1 : decode cJ0_indexOf_7cf53 1 = .ok (.invokevirtual 492, 3) := by decide +kernel
theorem dJ0_indexOf_7cf53_4 : decode cJ0_indexOf_7cf53 4 = .ok (.ifCond .eq 19, 3) := by decide +kernel
theorem dJ0_indexOf_7cf53_7 : decode cJ0_indexOf_7cf53 7 = .ok (.aload_n 0, 1) := by decide +kernel
theorem dJ0_indexOf_7cf53_8 : decode cJ0_indexOf_7cf53 8 = .ok (.getfield 9, 3) := by decide +kernel
theorem dJ0_indexOf_7cf53_11 : decode cJ0_indexOf_7cf53 11 = .ok (.iload_n 1, 1) := by decide +kernel
theorem dJ0_indexOf_7cf53_12 : decode cJ0_indexOf_7cf53 12 = .ok (.iload_n 2, 1) := by decide +kernel
theorem dJ0_indexOf_7cf53_13 : decode cJ0_indexOf_7cf53 13 = .ok (.aload_n 0, 1) := by decide +kernel
theorem dJ0_indexOf_7cf53_14 : decode cJ0_indexOf_7cf53 14 = .ok (.invokevirtual 505, 3) := by decide +kernel
theorem dJ0_indexOf_7cf53_17 : decode cJ0_indexOf_7cf53 17 = .ok (.invokestatic 637, 3) := by decide +kernel
theorem dJ0_indexOf_7cf53_20 : decode cJ0_indexOf_7cf53 20 = .ok (.goto 16, 3) := by decide +kernel
theorem dJ0_indexOf_7cf53_23 : decode cJ0_indexOf_7cf53 23 = .ok (.aload_n 0, 1) := by decide +kernel
theorem dJ0_indexOf_7cf53_24 : decode cJ0_indexOf_7cf53 24 = .ok (.getfield 9, 3) := by decide +kernel
theorem dJ0_indexOf_7cf53_27 : decode cJ0_indexOf_7cf53 27 = .ok (.iload_n 1, 1) := by decide +kernel
theorem dJ0_indexOf_7cf53_28 : decode cJ0_indexOf_7cf53 28 = .ok (.iload_n 2, 1) := by decide +kernel
theorem dJ0_indexOf_7cf53_29 : decode cJ0_indexOf_7cf53 29 = .ok (.aload_n 0, 1) := by decide +kernel
theorem dJ0_indexOf_7cf53_30 : decode cJ0_indexOf_7cf53 30 = .ok (.invokevirtual 505, 3) := by decide +kernel
theorem dJ0_indexOf_7cf53_33 : decode cJ0_indexOf_7cf53 33 = .ok (.invokestatic 640, 3) := by decide +kernel
theorem dJ0_indexOf_7cf53_36 : decode cJ0_indexOf_7cf53 36 = .ok (.ireturn, 1) := by decide +kernel
theorem dJ0_coder_7d493_0 : decode cJ0_coder_7d493 0 = .ok (.getstatic 38, 3) := by decide +kernel
theorem dJ0_coder_7d493_3 : decode cJ0_coder_7d493 3 = .ok (.ifCond .eq 10, 3) := by decide +kernel
theorem dJ0_coder_7d493_6 : decode cJ0_coder_7d493 6 = .ok (.aload_n 0, 1) := by decide +kernel
theorem dJ0_coder_7d493_7 : decode cJ0_coder_7d493 7 = .ok (.getfield 15, 3) := by decide +kernel
theorem dJ0_coder_7d493_10 : decode cJ0_coder_7d493 10 = .ok (.goto 4, 3) := by decide +kernel
theorem dJ0_coder_7d493_13 : decode cJ0_coder_7d493 13 = .ok (.iconst 1, 1) := by decide +kernel
theorem dJ0_coder_7d493_14 : decode cJ0_coder_7d493 14 = .ok (.ireturn, 1) := by decide +kernel
theorem dJ0_isLatin1_aae02_0 : decode cJ0_isLatin1_aae02 0 = .ok (.getstatic 38, 3) := by decide +kernel
theorem dJ0_isLatin1_aae02_3 : decode cJ0_isLatin1_aae02 3 = .ok (.ifCond .eq 14, 3) := by decide +kernel
theorem dJ0_isLatin1_aae02_6 : decode cJ0_isLatin1_aae02 6 = .ok (.aload_n 0, 1) := by decide +kernel
theorem dJ0_isLatin1_aae02_7 : decode cJ0_isLatin1_aae02 7 = .ok (.getfield 15, 3) := by decide +kernel
theorem dJ0_isLatin1_aae02_10 : decode cJ0_isLatin1_aae02 10 = .ok (.ifCond .ne 7, 3) := by decide +kernel
theorem dJ0_isLatin1_aae02_13 : decode cJ0_isLatin1_aae02 13 = .ok (.iconst 1, 1) := by decide +kernel
theorem dJ0_isLatin1_aae02_14 : decode cJ0_isLatin1_aae02 14 = .ok (.goto 4, 3) := by decide +kernel
theorem dJ0_isLatin1_aae02_17 : decode cJ0_isLatin1_aae02 17 = .ok (.iconst 0, 1) := by decide +kernel
theorem dJ0_isLatin1_aae02_18 : decode cJ0_isLatin1_aae02 18 = .ok (.ireturn, 1) := by decide +kernel
theorem dJ0_checkBoundsBeginEnd_23922_0 : decode cJ0_checkBoundsBeginEnd_23922 0 = .ok (.iload_n 0, 1) := by decide +kernel
theorem dJ0_checkBoundsBeginEnd_23922_1 : decode cJ0_checkBoundsBeginEnd_23922 1 = .ok (.iload_n 1, 1) := by decide +kernel
theorem dJ0_checkBoundsBeginEnd_23922_2 : decode cJ0_checkBoundsBeginEnd_23922 2 = .ok (.iload_n 2, 1) := by decide +kernel
theorem dJ0_checkBoundsBeginEnd_23922_3 : decode cJ0_checkBoundsBeginEnd_23922 3 = .ok (.getstatic 1053, 3) := by decide +kernel
theorem dJ0_checkBoundsBeginEnd_23922_6 : decode cJ0_checkBoundsBeginEnd_23922 6 = .ok (.invokestatic 1062, 3) := by decide +kernel
theorem dJ0_checkBoundsBeginEnd_23922_9 : decode cJ0_checkBoundsBeginEnd_23922 9 = .ok (.pop, 1) := by decide +kernel
theorem dJ0_checkBoundsBeginEnd_23922_10 : decode cJ0_checkBoundsBeginEnd_23922 10 = .ok (.return_, 1) := by decide +kernel
theorem dJ1_canEncode_9a6ad_0 : decode cJ1_canEncode_9a6ad 0 = .ok (.iload_n 0, 1) := by decide +kernel
theorem dJ1_canEncode_9a6ad_1 : decode cJ1_canEncode_9a6ad 1 = .ok (.ifCond .lt 14, 3) := by decide +kernel
theorem dJ1_canEncode_9a6ad_4 : decode cJ1_canEncode_9a6ad 4 = .ok (.iload_n 0, 1) := by decide +kernel
theorem dJ1_canEncode_9a6ad_5 : decode cJ1_canEncode_9a6ad 5 = .ok (.sipush 255, 3) := by decide +kernel
theorem dJ1_canEncode_9a6ad_8 : decode cJ1_canEncode_9a6ad 8 = .ok (.if_icmp .gt 7, 3) := by decide +kernel
theorem dJ1_canEncode_9a6ad_11 : decode cJ1_canEncode_9a6ad 11 = .ok (.iconst 1, 1) := by decide +kernel
theorem dJ1_canEncode_9a6ad_12 : decode cJ1_canEncode_9a6ad 12 = .ok (.goto 4, 3) := by decide +kernel
theorem dJ1_canEncode_9a6ad_15 : decode cJ1_canEncode_9a6ad 15 = .ok (.iconst 0, 1) := by decide +kernel
theorem dJ1_canEncode_9a6ad_16 : decode cJ1_canEncode_9a6ad 16 = .ok (.ireturn, 1) := by decide +kernel
theorem dJ1_indexOf_4cfef_0 : decode cJ1_indexOf_4cfef 0 = .ok (.iload_n 1, 1) := by decide +kernel
theorem dJ1_indexOf_4cfef_1 : decode cJ1_indexOf_4cfef 1 = .ok (.invokestatic 88, 3) := by decide +kernel
theorem dJ1_indexOf_4cfef_4 : decode cJ1_indexOf_4cfef 4 = .ok (.ifCond .ne 5, 3) := by decide +kernel
theorem dJ1_indexOf_4cfef_7 : decode cJ1_indexOf_4cfef 7 = .ok (.iconst (-1), 1) := by decide +kernel
theorem dJ1_indexOf_4cfef_8 : decode cJ1_indexOf_4cfef 8 = .ok (.ireturn, 1) := by decide +kernel
theorem dJ1_indexOf_4cfef_9 : decode cJ1_indexOf_4cfef 9 = .ok (.iload_n 2, 1) := by decide +kernel
theorem dJ1_indexOf_4cfef_10 : decode cJ1_indexOf_4cfef 10 = .ok (.iconst 0, 1) := by decide +kernel
theorem dJ1_indexOf_4cfef_11 : decode cJ1_indexOf_4cfef 11 = .ok (.invokestatic 92, 3) := by decide +kernel
theorem dJ1_indexOf_4cfef_14 : decode cJ1_indexOf_4cfef 14 = .ok (.istore_n 2, 1) := by decide +kernel
theorem dJ1_indexOf_4cfef_15 : decode cJ1_indexOf_4cfef 15 = .ok (.iload_n 3, 1) := by decide +kernel
theorem dJ1_indexOf_4cfef_16 : decode cJ1_indexOf_4cfef 16 = .ok (.aload_n 0, 1) := by decide +kernel
theorem dJ1_indexOf_4cfef_17 : decode cJ1_indexOf_4cfef 17 = .ok (.arraylength, 1) := by decide +kernel
theorem dJ1_indexOf_4cfef_18 : decode cJ1_indexOf_4cfef 18 = .ok (.invokestatic 38, 3) := by decide +kernel
theorem dJ1_indexOf_4cfef_21 : decode cJ1_indexOf_4cfef 21 = .ok (.istore_n 3, 1) := by decide +kernel
theorem dJ1_indexOf_4cfef_22 : decode cJ1_indexOf_4cfef 22 = .ok (.iload_n 2, 1) := by decide +kernel
theorem dJ1_indexOf_4cfef_23 : decode cJ1_indexOf_4cfef 23 = .ok (.iload_n 3, 1) := by decide +kernel
theorem dJ1_indexOf_4cfef_24 : decode cJ1_indexOf_4cfef 24 = .ok (.if_icmp .lt 5, 3) := by decide +kernel
theorem dJ1_indexOf_4cfef_27 : decode cJ1_indexOf_4cfef 27 = .ok (.iconst (-1), 1) := by decide +kernel
theorem dJ1_indexOf_4cfef_28 : decode cJ1_indexOf_4cfef 28 = .ok (.ireturn, 1) := by decide +kernel
theorem dJ1_indexOf_4cfef_29 : decode cJ1_indexOf_4cfef 29 = .ok (.aload_n 0, 1) := by decide +kernel
theorem dJ1_indexOf_4cfef_30 : decode cJ1_indexOf_4cfef 30 = .ok (.iload_n 1, 1) := by decide +kernel
theorem dJ1_indexOf_4cfef_31 : decode cJ1_indexOf_4cfef 31 = .ok (.iload_n 2, 1) := by decide +kernel
theorem dJ1_indexOf_4cfef_32 : decode cJ1_indexOf_4cfef 32 = .ok (.iload_n 3, 1) := by decide +kernel
theorem dJ1_indexOf_4cfef_33 : decode cJ1_indexOf_4cfef 33 = .ok (.invokestatic 95, 3) := by decide +kernel
theorem dJ1_indexOf_4cfef_36 : decode cJ1_indexOf_4cfef 36 = .ok (.ireturn, 1) := by decide +kernel
theorem dJ1_indexOfChar_4cfef_0 : decode cJ1_indexOfChar_4cfef 0 = .ok (.iload_n 1, 1) := by decide +kernel
theorem dJ1_indexOfChar_4cfef_1 : decode cJ1_indexOfChar_4cfef 1 = .ok (.i2b, 1) := by decide +kernel
theorem dJ1_indexOfChar_4cfef_2 : decode cJ1_indexOfChar_4cfef 2 = .ok (.istore 4, 2) := by decide +kernel
theorem dJ1_indexOfChar_4cfef_4 : decode cJ1_indexOfChar_4cfef 4 = .ok (.iload_n 2, 1) := by decide +kernel
theorem dJ1_indexOfChar_4cfef_5 : decode cJ1_indexOfChar_4cfef 5 = .ok (.istore 5, 2) := by decide +kernel
theorem dJ1_indexOfChar_4cfef_7 : decode cJ1_indexOfChar_4cfef 7 = .ok (.iload 5, 2) := by decide +kernel
theorem dJ1_indexOfChar_4cfef_9 : decode cJ1_indexOfChar_4cfef 9 = .ok (.iload_n 3, 1) := by decide +kernel
theorem dJ1_indexOfChar_4cfef_10 : decode cJ1_indexOfChar_4cfef 10 = .ok (.if_icmp .ge 21, 3) := by decide +kernel
theorem dJ1_indexOfChar_4cfef_13 : decode cJ1_indexOfChar_4cfef 13 = .ok (.aload_n 0, 1) := by decide +kernel
theorem dJ1_indexOfChar_4cfef_14 : decode cJ1_indexOfChar_4cfef 14 = .ok (.iload 5, 2) := by decide +kernel
theorem dJ1_indexOfChar_4cfef_16 : decode cJ1_indexOfChar_4cfef 16 = .ok (.baload, 1) := by decide +kernel
theorem dJ1_indexOfChar_4cfef_17 : decode cJ1_indexOfChar_4cfef 17 = .ok (.iload 4, 2) := by decide +kernel
theorem dJ1_indexOfChar_4cfef_19 : decode cJ1_indexOfChar_4cfef 19 = .ok (.if_icmp .ne 6, 3) := by decide +kernel
theorem dJ1_indexOfChar_4cfef_22 : decode cJ1_indexOfChar_4cfef 22 = .ok (.iload 5, 2) := by decide +kernel
theorem dJ1_indexOfChar_4cfef_24 : decode cJ1_indexOfChar_4cfef 24 = .ok (.ireturn, 1) := by decide +kernel
theorem dJ1_indexOfChar_4cfef_25 : decode cJ1_indexOfChar_4cfef 25 = .ok (.iinc 5 1, 3) := by decide +kernel
theorem dJ1_indexOfChar_4cfef_28 : decode cJ1_indexOfChar_4cfef 28 = .ok (.goto (-21), 3) := by decide +kernel
theorem dJ1_indexOfChar_4cfef_31 : decode cJ1_indexOfChar_4cfef 31 = .ok (.iconst (-1), 1) := by decide +kernel
theorem dJ1_indexOfChar_4cfef_32 : decode cJ1_indexOfChar_4cfef 32 = .ok (.ireturn, 1) := by decide +kernel
