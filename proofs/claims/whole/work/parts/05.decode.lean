theorem dX4_read_27 : decode cX4_read 27 = .ok (.putfield 147, 3) := by decide +kernel
theorem dX4_read_30 : decode cX4_read 30 = .ok (.iconst 0, 1) := by decide +kernel
theorem dX4_read_31 : decode cX4_read 31 = .ok (.istore_n 1, 1) := by decide +kernel
theorem dX4_read_32 : decode cX4_read 32 = .ok (.iload_n 1, 1) := by decide +kernel
theorem dX4_read_33 : decode cX4_read 33 = .ok (.aload_n 0, 1) := by decide +kernel
theorem dX4_read_34 : decode cX4_read 34 = .ok (.getfield 156, 3) := by decide +kernel
theorem dX4_read_37 : decode cX4_read 37 = .ok (.if_icmp .ge 17, 3) := by decide +kernel
theorem dX4_read_40 : decode cX4_read 40 = .ok (.aload_n 0, 1) := by decide +kernel
theorem dX4_read_41 : decode cX4_read 41 = .ok (.iload_n 1, 1) := by decide +kernel
theorem dX4_read_42 : decode cX4_read 42 = .ok (.invokevirtual 172, 3) := by decide +kernel
theorem dX4_read_45 : decode cX4_read 45 = .ok (.ifCond .eq 9, 3) := by decide +kernel
theorem dX4_read_48 : decode cX4_read 48 = .ok (.iinc 1 1, 3) := by decide +kernel
theorem dX4_read_51 : decode cX4_read 51 = .ok (.goto (-19), 3) := by decide +kernel
theorem dX4_read_54 : decode cX4_read 54 = .ok (.iload_n 1, 1) := by decide +kernel
theorem dX4_read_55 : decode cX4_read 55 = .ok (.ireturn, 1) := by decide +kernel
theorem dX4_howOf_0 : decode cX4_howOf 0 = .ok (.aload_n 0, 1) := by decide +kernel
theorem dX4_howOf_1 : decode cX4_howOf 1 = .ok (.getfield 7, 3) := by decide +kernel
theorem dX4_howOf_4 : decode cX4_howOf 4 = .ok (.iload_n 1, 1) := by decide +kernel
theorem dX4_howOf_5 : decode cX4_howOf 5 = .ok (.iconst 5, 1) := by decide +kernel
theorem dX4_howOf_6 : decode cX4_howOf 6 = .ok (.invokestatic 43, 3) := by decide +kernel
theorem dX4_howOf_9 : decode cX4_howOf 9 = .ok (.istore_n 2, 1) := by decide +kernel
theorem dX4_howOf_10 : decode cX4_howOf 10 = .ok (.iload_n 2, 1) := by decide +kernel
theorem dX4_howOf_11 : decode cX4_howOf 11 = .ok (.iconst 1, 1) := by decide +kernel
theorem dX4_howOf_12 : decode cX4_howOf 12 = .ok (.if_icmp .ne 18, 3) := by decide +kernel
theorem dX4_howOf_15 : decode cX4_howOf 15 = .ok (.aload_n 0, 1) := by decide +kernel
theorem dX4_howOf_16 : decode cX4_howOf 16 = .ok (.getfield 7, 3) := by decide +kernel
theorem dX4_howOf_19 : decode cX4_howOf 19 = .ok (.iload_n 1, 1) := by decide +kernel
theorem dX4_howOf_20 : decode cX4_howOf 20 = .ok (.invokestatic 79, 3) := by decide +kernel
theorem dX4_howOf_23 : decode cX4_howOf 23 = .ok (.ifCond .eq 7, 3) := by decide +kernel
theorem dX4_howOf_26 : decode cX4_howOf 26 = .ok (.iconst 2, 1) := by decide +kernel
theorem dX4_howOf_27 : decode cX4_howOf 27 = .ok (.goto 4, 3) := by decide +kernel
theorem dX4_howOf_30 : decode cX4_howOf 30 = .ok (.iload_n 2, 1) := by decide +kernel
theorem dX4_howOf_31 : decode cX4_howOf 31 = .ok (.ireturn, 1) := by decide +kernel
theorem dX4_beside_0 : decode cX4_beside 0 = .ok (.iconst 0, 1) := by decide +kernel
theorem dX4_beside_1 : decode cX4_beside 1 = .ok (.istore_n 3, 1) := by decide +kernel
theorem dX4_beside_2 : decode cX4_beside 2 = .ok (.iconst 0, 1) := by decide +kernel
theorem dX4_beside_3 : decode cX4_beside 3 = .ok (.istore 4, 2) := by decide +kernel
theorem dX4_beside_5 : decode cX4_beside 5 = .ok (.iload 4, 2) := by decide +kernel
theorem dX4_beside_7 : decode cX4_beside 7 = .ok (.aload_n 0, 1) := by decide +kernel
theorem dX4_beside_8 : decode cX4_beside 8 = .ok (.getfield 7, 3) := by decide +kernel
theorem dX4_beside_11 : decode cX4_beside 11 = .ok (.iconst 0, 1) := by decide +kernel
theorem dX4_beside_12 : decode cX4_beside 12 = .ok (.iaload, 1) := by decide +kernel
theorem dX4_beside_13 : decode cX4_beside 13 = .ok (.if_icmp .ge 53, 3) := by decide +kernel
theorem dX4_beside_16 : decode cX4_beside 16 = .ok (.iload_n 3, 1) := by decide +kernel
theorem dX4_beside_17 : decode cX4_beside 17 = .ok (.iload_n 2, 1) := by decide +kernel
theorem dX4_beside_18 : decode cX4_beside 18 = .ok (.ifCond .eq 19, 3) := by decide +kernel
theorem dX4_beside_21 : decode cX4_beside 21 = .ok (.aload_n 0, 1) := by decide +kernel
theorem dX4_beside_22 : decode cX4_beside 22 = .ok (.getfield 7, 3) := by decide +kernel
theorem dX4_beside_25 : decode cX4_beside 25 = .ok (.iload_n 1, 1) := by decide +kernel
theorem dX4_beside_26 : decode cX4_beside 26 = .ok (.iload 4, 2) := by decide +kernel
theorem dX4_beside_28 : decode cX4_beside 28 = .ok (.invokestatic 76, 3) := by decide +kernel
theorem dX4_beside_31 : decode cX4_beside 31 = .ok (.ifCond .eq 26, 3) := by decide +kernel
theorem dX4_beside_34 : decode cX4_beside 34 = .ok (.goto 16, 3) := by decide +kernel
theorem dX4_beside_37 : decode cX4_beside 37 = .ok (.aload_n 0, 1) := by decide +kernel
theorem dX4_beside_38 : decode cX4_beside 38 = .ok (.getfield 7, 3) := by decide +kernel
theorem dX4_beside_41 : decode cX4_beside 41 = .ok (.iload 4, 2) := by decide +kernel
theorem dX4_beside_43 : decode cX4_beside 43 = .ok (.iload_n 1, 1) := by decide +kernel
theorem dX4_beside_44 : decode cX4_beside 44 = .ok (.invokestatic 76, 3) := by decide +kernel
theorem dX4_beside_47 : decode cX4_beside 47 = .ok (.ifCond .eq 10, 3) := by decide +kernel
theorem dX4_beside_50 : decode cX4_beside 50 = .ok (.iconst 1, 1) := by decide +kernel
theorem dX4_beside_51 : decode cX4_beside 51 = .ok (.iload 4, 2) := by decide +kernel
theorem dX4_beside_53 : decode cX4_beside 53 = .ok (.ishl, 1) := by decide +kernel
theorem dX4_beside_54 : decode cX4_beside 54 = .ok (.goto 4, 3) := by decide +kernel
theorem dX4_beside_57 : decode cX4_beside 57 = .ok (.iconst 0, 1) := by decide +kernel
theorem dX4_beside_58 : decode cX4_beside 58 = .ok (.ior, 1) := by decide +kernel
theorem dX4_beside_59 : decode cX4_beside 59 = .ok (.istore_n 3, 1) := by decide +kernel
theorem dX4_beside_60 : decode cX4_beside 60 = .ok (.iinc 4 1, 3) := by decide +kernel
theorem dX4_beside_63 : decode cX4_beside 63 = .ok (.goto (-58), 3) := by decide +kernel
theorem dX4_beside_66 : decode cX4_beside 66 = .ok (.iload_n 3, 1) := by decide +kernel
theorem dX4_beside_67 : decode cX4_beside 67 = .ok (.ireturn, 1) := by decide +kernel
theorem dX4_place_0 : decode cX4_place 0 = .ok (.bipush 24, 2) := by decide +kernel
theorem dX4_place_2 : decode cX4_place 2 = .ok (.aload_n 0, 1) := by decide +kernel
theorem dX4_place_3 : decode cX4_place 3 = .ok (.iload_n 1, 1) := by decide +kernel
theorem dX4_place_4 : decode cX4_place 4 = .ok (.bipush 6, 2) := by decide +kernel
theorem dX4_place_6 : decode cX4_place 6 = .ok (.invokestatic 43, 3) := by decide +kernel
theorem dX4_place_9 : decode cX4_place 9 = .ok (.imul, 1) := by decide +kernel
theorem dX4_place_10 : decode cX4_place 10 = .ok (.aload_n 0, 1) := by decide +kernel
theorem dX4_place_11 : decode cX4_place 11 = .ok (.iload_n 1, 1) := by decide +kernel
theorem dX4_place_12 : decode cX4_place 12 = .ok (.iconst 3, 1) := by decide +kernel
theorem dX4_place_13 : decode cX4_place 13 = .ok (.invokestatic 43, 3) := by decide +kernel
theorem dX4_place_16 : decode cX4_place 16 = .ok (.iadd, 1) := by decide +kernel
theorem dX4_place_17 : decode cX4_place 17 = .ok (.ireturn, 1) := by decide +kernel
theorem dX4_readAt_0 : decode cX4_readAt 0 = .ok (.iconst 0, 1) := by decide +kernel
theorem dX4_readAt_1 : decode cX4_readAt 1 = .ok (.istore_n 2, 1) := by decide +kernel
theorem dX4_readAt_2 : decode cX4_readAt 2 = .ok (.iconst 0, 1) := by decide +kernel
theorem dX4_readAt_3 : decode cX4_readAt 3 = .ok (.istore_n 3, 1) := by decide +kernel
theorem dX4_readAt_4 : decode cX4_readAt 4 = .ok (.iload_n 3, 1) := by decide +kernel
theorem dX4_readAt_5 : decode cX4_readAt 5 = .ok (.aload_n 0, 1) := by decide +kernel
theorem dX4_readAt_6 : decode cX4_readAt 6 = .ok (.getfield 7, 3) := by decide +kernel
theorem dX4_readAt_9 : decode cX4_readAt 9 = .ok (.iconst 0, 1) := by decide +kernel
theorem dX4_readAt_10 : decode cX4_readAt 10 = .ok (.iaload, 1) := by decide +kernel
theorem dX4_readAt_11 : decode cX4_readAt 11 = .ok (.if_icmp .ge 47, 3) := by decide +kernel
theorem dX4_readAt_14 : decode cX4_readAt 14 = .ok (.iload_n 2, 1) := by decide +kernel
theorem dX4_readAt_15 : decode cX4_readAt 15 = .ok (.aload_n 0, 1) := by decide +kernel
theorem dX4_readAt_16 : decode cX4_readAt 16 = .ok (.getfield 7, 3) := by decide +kernel
theorem dX4_readAt_19 : decode cX4_readAt 19 = .ok (.iload_n 3, 1) := by decide +kernel
theorem dX4_readAt_20 : decode cX4_readAt 20 = .ok (.invokestatic 47, 3) := by decide +kernel
theorem dX4_readAt_23 : decode cX4_readAt 23 = .ok (.ifCond .eq 26, 3) := by decide +kernel
theorem dX4_readAt_26 : decode cX4_readAt 26 = .ok (.aload_n 0, 1) := by decide +kernel
theorem dX4_readAt_27 : decode cX4_readAt 27 = .ok (.getfield 7, 3) := by decide +kernel
theorem dX4_readAt_30 : decode cX4_readAt 30 = .ok (.iload_n 3, 1) := by decide +kernel
theorem dX4_readAt_31 : decode cX4_readAt 31 = .ok (.invokestatic 175, 3) := by decide +kernel
theorem dX4_readAt_34 : decode cX4_readAt 34 = .ok (.aload_n 0, 1) := by decide +kernel
theorem dX4_readAt_35 : decode cX4_readAt 35 = .ok (.getfield 7, 3) := by decide +kernel
theorem dX4_readAt_38 : decode cX4_readAt 38 = .ok (.iload_n 1, 1) := by decide +kernel
theorem dX4_readAt_39 : decode cX4_readAt 39 = .ok (.invokestatic 175, 3) := by decide +kernel
theorem dX4_readAt_42 : decode cX4_readAt 42 = .ok (.if_icmp .ge 7, 3) := by decide +kernel
theorem dX4_readAt_45 : decode cX4_readAt 45 = .ok (.iconst 1, 1) := by decide +kernel
theorem dX4_readAt_46 : decode cX4_readAt 46 = .ok (.goto 4, 3) := by decide +kernel
theorem dX4_readAt_49 : decode cX4_readAt 49 = .ok (.iconst 0, 1) := by decide +kernel
theorem dX4_readAt_50 : decode cX4_readAt 50 = .ok (.iadd, 1) := by decide +kernel
theorem dX4_readAt_51 : decode cX4_readAt 51 = .ok (.istore_n 2, 1) := by decide +kernel
theorem dX4_readAt_52 : decode cX4_readAt 52 = .ok (.iinc 3 1, 3) := by decide +kernel
theorem dX4_readAt_55 : decode cX4_readAt 55 = .ok (.goto (-51), 3) := by decide +kernel
theorem dX4_readAt_58 : decode cX4_readAt 58 = .ok (.aload_n 0, 1) := by decide +kernel
theorem dX4_readAt_59 : decode cX4_readAt 59 = .ok (.getfield 7, 3) := by decide +kernel
theorem dX4_readAt_62 : decode cX4_readAt 62 = .ok (.iload_n 1, 1) := by decide +kernel
theorem dX4_readAt_63 : decode cX4_readAt 63 = .ok (.invokestatic 47, 3) := by decide +kernel
theorem dX4_readAt_66 : decode cX4_readAt 66 = .ok (.ifCond .eq 7, 3) := by decide +kernel
theorem dX4_readAt_69 : decode cX4_readAt 69 = .ok (.iload_n 2, 1) := by decide +kernel
theorem dX4_readAt_70 : decode cX4_readAt 70 = .ok (.goto 4, 3) := by decide +kernel
theorem dX4_readAt_73 : decode cX4_readAt 73 = .ok (.iconst (-1), 1) := by decide +kernel
theorem dX4_readAt_74 : decode cX4_readAt 74 = .ok (.ireturn, 1) := by decide +kernel
theorem dX4_ofLine_0 : decode cX4_ofLine 0 = .ok (.iload_n 2, 1) := by decide +kernel
theorem dX4_ofLine_1 : decode cX4_ofLine 1 = .ok (.tableswitch 113 5 11 #[43, 49, 75, 84, 93, 100, 107], 43) := by decide +kernel
theorem dX4_ofLine_44 : decode cX4_ofLine 44 = .ok (.aload_n 0, 1) := by decide +kernel
theorem dX4_ofLine_45 : decode cX4_ofLine 45 = .ok (.iload_n 1, 1) := by decide +kernel
theorem dX4_ofLine_46 : decode cX4_ofLine 46 = .ok (.invokevirtual 178, 3) := by decide +kernel
theorem dX4_ofLine_49 : decode cX4_ofLine 49 = .ok (.ireturn, 1) := by decide +kernel
theorem dX4_ofLine_50 : decode cX4_ofLine 50 = .ok (.aload_n 0, 1) := by decide +kernel
theorem dX4_ofLine_51 : decode cX4_ofLine 51 = .ok (.getfield 7, 3) := by decide +kernel
theorem dX4_ofLine_54 : decode cX4_ofLine 54 = .ok (.iload_n 1, 1) := by decide +kernel
theorem dX4_ofLine_55 : decode cX4_ofLine 55 = .ok (.invokestatic 47, 3) := by decide +kernel
theorem dX4_ofLine_58 : decode cX4_ofLine 58 = .ok (.ifCond .eq 16, 3) := by decide +kernel
theorem dX4_ofLine_61 : decode cX4_ofLine 61 = .ok (.aload_n 0, 1) := by decide +kernel
theorem dX4_ofLine_62 : decode cX4_ofLine 62 = .ok (.getfield 7, 3) := by decide +kernel
theorem dX4_ofLine_65 : decode cX4_ofLine 65 = .ok (.iload_n 1, 1) := by decide +kernel
theorem dX4_ofLine_66 : decode cX4_ofLine 66 = .ok (.bipush 6, 2) := by decide +kernel
theorem dX4_ofLine_68 : decode cX4_ofLine 68 = .ok (.invokestatic 43, 3) := by decide +kernel
theorem dX4_ofLine_71 : decode cX4_ofLine 71 = .ok (.goto 4, 3) := by decide +kernel
theorem dX4_ofLine_74 : decode cX4_ofLine 74 = .ok (.iconst (-1), 1) := by decide +kernel
theorem dX4_ofLine_75 : decode cX4_ofLine 75 = .ok (.ireturn, 1) := by decide +kernel
theorem dX4_ofLine_76 : decode cX4_ofLine 76 = .ok (.aload_n 0, 1) := by decide +kernel
theorem dX4_ofLine_77 : decode cX4_ofLine 77 = .ok (.getfield 7, 3) := by decide +kernel
theorem dX4_ofLine_80 : decode cX4_ofLine 80 = .ok (.iload_n 1, 1) := by decide +kernel
theorem dX4_ofLine_81 : decode cX4_ofLine 81 = .ok (.invokestatic 82, 3) := by decide +kernel
theorem dX4_ofLine_84 : decode cX4_ofLine 84 = .ok (.ireturn, 1) := by decide +kernel
theorem dX4_ofLine_85 : decode cX4_ofLine 85 = .ok (.aload_n 0, 1) := by decide +kernel
theorem dX4_ofLine_86 : decode cX4_ofLine 86 = .ok (.getfield 7, 3) := by decide +kernel
theorem dX4_ofLine_89 : decode cX4_ofLine 89 = .ok (.iload_n 1, 1) := by decide +kernel
theorem dX4_ofLine_90 : decode cX4_ofLine 90 = .ok (.invokestatic 85, 3) := by decide +kernel
theorem dX4_ofLine_93 : decode cX4_ofLine 93 = .ok (.ireturn, 1) := by decide +kernel
theorem dX4_ofLine_94 : decode cX4_ofLine 94 = .ok (.aload_n 0, 1) := by decide +kernel
theorem dX4_ofLine_95 : decode cX4_ofLine 95 = .ok (.iload_n 1, 1) := by decide +kernel
theorem dX4_ofLine_96 : decode cX4_ofLine 96 = .ok (.iconst 0, 1) := by decide +kernel
theorem dX4_ofLine_97 : decode cX4_ofLine 97 = .ok (.invokevirtual 181, 3) := by decide +kernel
theorem dX4_ofLine_100 : decode cX4_ofLine 100 = .ok (.ireturn, 1) := by decide +kernel
theorem dX4_ofLine_101 : decode cX4_ofLine 101 = .ok (.aload_n 0, 1) := by decide +kernel
theorem dX4_ofLine_102 : decode cX4_ofLine 102 = .ok (.iload_n 1, 1) := by decide +kernel
theorem dX4_ofLine_103 : decode cX4_ofLine 103 = .ok (.iconst 1, 1) := by decide +kernel
theorem dX4_ofLine_104 : decode cX4_ofLine 104 = .ok (.invokevirtual 181, 3) := by decide +kernel
theorem dX4_ofLine_107 : decode cX4_ofLine 107 = .ok (.ireturn, 1) := by decide +kernel
theorem dX4_ofLine_108 : decode cX4_ofLine 108 = .ok (.aload_n 0, 1) := by decide +kernel
theorem dX4_ofLine_109 : decode cX4_ofLine 109 = .ok (.iload_n 1, 1) := by decide +kernel
theorem dX4_ofLine_110 : decode cX4_ofLine 110 = .ok (.invokevirtual 185, 3) := by decide +kernel
theorem dX4_ofLine_113 : decode cX4_ofLine 113 = .ok (.ireturn, 1) := by decide +kernel
theorem dX4_ofLine_114 : decode cX4_ofLine 114 = .ok (.aload_n 0, 1) := by decide +kernel
theorem dX4_ofLine_115 : decode cX4_ofLine 115 = .ok (.getfield 7, 3) := by decide +kernel
theorem dX4_ofLine_118 : decode cX4_ofLine 118 = .ok (.iload_n 1, 1) := by decide +kernel
theorem dX4_ofLine_119 : decode cX4_ofLine 119 = .ok (.iload_n 2, 1) := by decide +kernel
theorem dX4_ofLine_120 : decode cX4_ofLine 120 = .ok (.invokestatic 43, 3) := by decide +kernel
theorem dX4_ofLine_123 : decode cX4_ofLine 123 = .ok (.ireturn, 1) := by decide +kernel
theorem dX4_lineOf_0 : decode cX4_lineOf 0 = .ok (.aload_n 0, 1) := by decide +kernel
theorem dX4_lineOf_1 : decode cX4_lineOf 1 = .ok (.aload_n 0, 1) := by decide +kernel
theorem dX4_lineOf_2 : decode cX4_lineOf 2 = .ok (.iload_n 1, 1) := by decide +kernel
theorem dX4_lineOf_3 : decode cX4_lineOf 3 = .ok (.invokevirtual 140, 3) := by decide +kernel
theorem dX4_lineOf_6 : decode cX4_lineOf 6 = .ok (.ifCond .ne 7, 3) := by decide +kernel
theorem dX4_lineOf_9 : decode cX4_lineOf 9 = .ok (.iconst 1, 1) := by decide +kernel
theorem dX4_lineOf_10 : decode cX4_lineOf 10 = .ok (.goto 18, 3) := by decide +kernel
theorem dX4_lineOf_13 : decode cX4_lineOf 13 = .ok (.iload_n 2, 1) := by decide +kernel
theorem dX4_lineOf_14 : decode cX4_lineOf 14 = .ok (.iconst 0, 1) := by decide +kernel
theorem dX4_lineOf_15 : decode cX4_lineOf 15 = .ok (.bipush 11, 2) := by decide +kernel
theorem dX4_lineOf_17 : decode cX4_lineOf 17 = .ok (.invokestatic 55, 3) := by decide +kernel
theorem dX4_lineOf_20 : decode cX4_lineOf 20 = .ok (.ifCond .eq 7, 3) := by decide +kernel
theorem dX4_lineOf_23 : decode cX4_lineOf 23 = .ok (.iconst 0, 1) := by decide +kernel
theorem dX4_lineOf_24 : decode cX4_lineOf 24 = .ok (.goto 4, 3) := by decide +kernel
theorem dX4_lineOf_27 : decode cX4_lineOf 27 = .ok (.iconst 2, 1) := by decide +kernel
theorem dX4_lineOf_28 : decode cX4_lineOf 28 = .ok (.invokevirtual 39, 3) := by decide +kernel
theorem dX4_lineOf_31 : decode cX4_lineOf 31 = .ok (.ifCond .eq 7, 3) := by decide +kernel
theorem dX4_lineOf_34 : decode cX4_lineOf 34 = .ok (.iconst 0, 1) := by decide +kernel
theorem dX4_lineOf_35 : decode cX4_lineOf 35 = .ok (.goto 9, 3) := by decide +kernel
theorem dX4_lineOf_38 : decode cX4_lineOf 38 = .ok (.aload_n 0, 1) := by decide +kernel
theorem dX4_lineOf_39 : decode cX4_lineOf 39 = .ok (.iload_n 1, 1) := by decide +kernel
theorem dX4_lineOf_40 : decode cX4_lineOf 40 = .ok (.iload_n 2, 1) := by decide +kernel
theorem dX4_lineOf_41 : decode cX4_lineOf 41 = .ok (.invokevirtual 188, 3) := by decide +kernel
theorem dX4_lineOf_44 : decode cX4_lineOf 44 = .ok (.ireturn, 1) := by decide +kernel
theorem dX4_lineAt_0 : decode cX4_lineAt 0 = .ok (.iconst (-1), 1) := by decide +kernel
theorem dX4_lineAt_1 : decode cX4_lineAt 1 = .ok (.istore_n 3, 1) := by decide +kernel
theorem dX4_lineAt_2 : decode cX4_lineAt 2 = .ok (.iconst 0, 1) := by decide +kernel
theorem dX4_lineAt_3 : decode cX4_lineAt 3 = .ok (.istore 4, 2) := by decide +kernel
theorem dX4_lineAt_5 : decode cX4_lineAt 5 = .ok (.iload 4, 2) := by decide +kernel
theorem dX4_lineAt_7 : decode cX4_lineAt 7 = .ok (.aload_n 0, 1) := by decide +kernel
theorem dX4_lineAt_8 : decode cX4_lineAt 8 = .ok (.getfield 7, 3) := by decide +kernel
theorem dX4_lineAt_11 : decode cX4_lineAt 11 = .ok (.iconst 0, 1) := by decide +kernel
theorem dX4_lineAt_12 : decode cX4_lineAt 12 = .ok (.iaload, 1) := by decide +kernel
theorem dX4_lineAt_13 : decode cX4_lineAt 13 = .ok (.if_icmp .ge 72, 3) := by decide +kernel
theorem dX4_lineAt_16 : decode cX4_lineAt 16 = .ok (.aload_n 0, 1) := by decide +kernel
theorem dX4_lineAt_17 : decode cX4_lineAt 17 = .ok (.getfield 7, 3) := by decide +kernel
theorem dX4_lineAt_20 : decode cX4_lineAt 20 = .ok (.iload 4, 2) := by decide +kernel
theorem dX4_lineAt_22 : decode cX4_lineAt 22 = .ok (.invokestatic 47, 3) := by decide +kernel
theorem dX4_lineAt_25 : decode cX4_lineAt 25 = .ok (.ifCond .eq 39, 3) := by decide +kernel
theorem dX4_lineAt_28 : decode cX4_lineAt 28 = .ok (.aload_n 0, 1) := by decide +kernel
theorem dX4_lineAt_29 : decode cX4_lineAt 29 = .ok (.getfield 7, 3) := by decide +kernel
theorem dX4_lineAt_32 : decode cX4_lineAt 32 = .ok (.iload 4, 2) := by decide +kernel
theorem dX4_lineAt_34 : decode cX4_lineAt 34 = .ok (.bipush 6, 2) := by decide +kernel
theorem dX4_lineAt_36 : decode cX4_lineAt 36 = .ok (.invokestatic 43, 3) := by decide +kernel
theorem dX4_lineAt_39 : decode cX4_lineAt 39 = .ok (.iload_n 1, 1) := by decide +kernel
theorem dX4_lineAt_40 : decode cX4_lineAt 40 = .ok (.if_icmp .ne 24, 3) := by decide +kernel
theorem dX4_lineAt_43 : decode cX4_lineAt 43 = .ok (.aload_n 0, 1) := by decide +kernel
theorem dX4_lineAt_44 : decode cX4_lineAt 44 = .ok (.getfield 7, 3) := by decide +kernel
theorem dX4_lineAt_47 : decode cX4_lineAt 47 = .ok (.iload 4, 2) := by decide +kernel
theorem dX4_lineAt_49 : decode cX4_lineAt 49 = .ok (.invokestatic 51, 3) := by decide +kernel
theorem dX4_lineAt_52 : decode cX4_lineAt 52 = .ok (.iload_n 2, 1) := by decide +kernel
theorem dX4_lineAt_53 : decode cX4_lineAt 53 = .ok (.ishr, 1) := by decide +kernel
theorem dX4_lineAt_54 : decode cX4_lineAt 54 = .ok (.iconst 1, 1) := by decide +kernel
theorem dX4_lineAt_55 : decode cX4_lineAt 55 = .ok (.iand, 1) := by decide +kernel
theorem dX4_lineAt_56 : decode cX4_lineAt 56 = .ok (.iconst 1, 1) := by decide +kernel
theorem dX4_lineAt_57 : decode cX4_lineAt 57 = .ok (.if_icmp .ne 7, 3) := by decide +kernel
theorem dX4_lineAt_60 : decode cX4_lineAt 60 = .ok (.iconst 1, 1) := by decide +kernel
theorem dX4_lineAt_61 : decode cX4_lineAt 61 = .ok (.goto 4, 3) := by decide +kernel
theorem dX4_lineAt_64 : decode cX4_lineAt 64 = .ok (.iconst 0, 1) := by decide +kernel
theorem dX4_lineAt_65 : decode cX4_lineAt 65 = .ok (.istore 5, 2) := by decide +kernel
theorem dX4_lineAt_67 : decode cX4_lineAt 67 = .ok (.iload 5, 2) := by decide +kernel
theorem dX4_lineAt_69 : decode cX4_lineAt 69 = .ok (.ifCond .eq 8, 3) := by decide +kernel
theorem dX4_lineAt_72 : decode cX4_lineAt 72 = .ok (.iload 4, 2) := by decide +kernel
theorem dX4_lineAt_74 : decode cX4_lineAt 74 = .ok (.goto 4, 3) := by decide +kernel
theorem dX4_lineAt_77 : decode cX4_lineAt 77 = .ok (.iload_n 3, 1) := by decide +kernel
theorem dX4_lineAt_78 : decode cX4_lineAt 78 = .ok (.istore_n 3, 1) := by decide +kernel
theorem dX4_lineAt_79 : decode cX4_lineAt 79 = .ok (.iinc 4 1, 3) := by decide +kernel
theorem dX4_lineAt_82 : decode cX4_lineAt 82 = .ok (.goto (-77), 3) := by decide +kernel
theorem dX4_lineAt_85 : decode cX4_lineAt 85 = .ok (.iload_n 3, 1) := by decide +kernel
theorem dX4_lineAt_86 : decode cX4_lineAt 86 = .ok (.ireturn, 1) := by decide +kernel
theorem dX4_at_0 : decode cX4_at 0 = .ok (.aload_n 0, 1) := by decide +kernel
theorem dX4_at_1 : decode cX4_at 1 = .ok (.iload_n 1, 1) := by decide +kernel
theorem dX4_at_2 : decode cX4_at 2 = .ok (.iconst 0, 1) := by decide +kernel
theorem dX4_at_3 : decode cX4_at 3 = .ok (.bipush 15, 2) := by decide +kernel
theorem dX4_at_5 : decode cX4_at 5 = .ok (.invokestatic 55, 3) := by decide +kernel
theorem dX4_at_8 : decode cX4_at 8 = .ok (.ifCond .eq 17, 3) := by decide +kernel
theorem dX4_at_11 : decode cX4_at 11 = .ok (.iload_n 2, 1) := by decide +kernel
theorem dX4_at_12 : decode cX4_at 12 = .ok (.iconst 0, 1) := by decide +kernel
theorem dX4_at_13 : decode cX4_at 13 = .ok (.bipush 23, 2) := by decide +kernel
theorem dX4_at_15 : decode cX4_at 15 = .ok (.invokestatic 55, 3) := by decide +kernel
theorem dX4_at_18 : decode cX4_at 18 = .ok (.ifCond .eq 7, 3) := by decide +kernel
theorem dX4_at_21 : decode cX4_at 21 = .ok (.iconst 0, 1) := by decide +kernel
theorem dX4_at_22 : decode cX4_at 22 = .ok (.goto 4, 3) := by decide +kernel
theorem dX4_at_25 : decode cX4_at 25 = .ok (.iconst 1, 1) := by decide +kernel
theorem dX4_at_26 : decode cX4_at 26 = .ok (.invokevirtual 39, 3) := by decide +kernel
theorem dX4_at_29 : decode cX4_at 29 = .ok (.ifCond .eq 7, 3) := by decide +kernel
theorem dX4_at_32 : decode cX4_at 32 = .ok (.iconst 0, 1) := by decide +kernel
theorem dX4_at_33 : decode cX4_at 33 = .ok (.goto 9, 3) := by decide +kernel
theorem dX4_at_36 : decode cX4_at 36 = .ok (.aload_n 0, 1) := by decide +kernel
theorem dX4_at_37 : decode cX4_at 37 = .ok (.iload_n 1, 1) := by decide +kernel
theorem dX4_at_38 : decode cX4_at 38 = .ok (.iload_n 2, 1) := by decide +kernel
theorem dX4_at_39 : decode cX4_at 39 = .ok (.invokevirtual 192, 3) := by decide +kernel
theorem dX4_at_42 : decode cX4_at 42 = .ok (.ireturn, 1) := by decide +kernel
theorem dX4_lineRead_0 : decode cX4_lineRead 0 = .ok (.iconst (-1), 1) := by decide +kernel
theorem dX4_lineRead_1 : decode cX4_lineRead 1 = .ok (.istore_n 2, 1) := by decide +kernel
theorem dX4_lineRead_2 : decode cX4_lineRead 2 = .ok (.iconst 0, 1) := by decide +kernel
theorem dX4_lineRead_3 : decode cX4_lineRead 3 = .ok (.istore_n 3, 1) := by decide +kernel
theorem dX4_lineRead_4 : decode cX4_lineRead 4 = .ok (.iload_n 3, 1) := by decide +kernel
theorem dX4_lineRead_5 : decode cX4_lineRead 5 = .ok (.aload_n 0, 1) := by decide +kernel
theorem dX4_lineRead_6 : decode cX4_lineRead 6 = .ok (.getfield 7, 3) := by decide +kernel
theorem dX4_lineRead_9 : decode cX4_lineRead 9 = .ok (.iconst 0, 1) := by decide +kernel
theorem dX4_lineRead_10 : decode cX4_lineRead 10 = .ok (.iaload, 1) := by decide +kernel
theorem dX4_lineRead_11 : decode cX4_lineRead 11 = .ok (.if_icmp .ge 35, 3) := by decide +kernel
theorem dX4_lineRead_14 : decode cX4_lineRead 14 = .ok (.aload_n 0, 1) := by decide +kernel
theorem dX4_lineRead_15 : decode cX4_lineRead 15 = .ok (.getfield 7, 3) := by decide +kernel
theorem dX4_lineRead_18 : decode cX4_lineRead 18 = .ok (.iload_n 3, 1) := by decide +kernel
theorem dX4_lineRead_19 : decode cX4_lineRead 19 = .ok (.invokestatic 47, 3) := by decide +kernel
theorem dX4_lineRead_22 : decode cX4_lineRead 22 = .ok (.ifCond .eq 16, 3) := by decide +kernel
theorem dX4_lineRead_25 : decode cX4_lineRead 25 = .ok (.aload_n 0, 1) := by decide +kernel
theorem dX4_lineRead_26 : decode cX4_lineRead 26 = .ok (.iload_n 3, 1) := by decide +kernel
theorem dX4_lineRead_27 : decode cX4_lineRead 27 = .ok (.invokevirtual 185, 3) := by decide +kernel
theorem dX4_lineRead_30 : decode cX4_lineRead 30 = .ok (.iload_n 1, 1) := by decide +kernel
theorem dX4_lineRead_31 : decode cX4_lineRead 31 = .ok (.if_icmp .ne 7, 3) := by decide +kernel
theorem dX4_lineRead_34 : decode cX4_lineRead 34 = .ok (.iload_n 3, 1) := by decide +kernel
theorem dX4_lineRead_35 : decode cX4_lineRead 35 = .ok (.goto 4, 3) := by decide +kernel
theorem dX4_lineRead_38 : decode cX4_lineRead 38 = .ok (.iload_n 2, 1) := by decide +kernel
theorem dX4_lineRead_39 : decode cX4_lineRead 39 = .ok (.istore_n 2, 1) := by decide +kernel
theorem dX4_lineRead_40 : decode cX4_lineRead 40 = .ok (.iinc 3 1, 3) := by decide +kernel
theorem dX4_lineRead_43 : decode cX4_lineRead 43 = .ok (.goto (-39), 3) := by decide +kernel
theorem dX4_lineRead_46 : decode cX4_lineRead 46 = .ok (.iload_n 2, 1) := by decide +kernel
theorem dX4_lineRead_47 : decode cX4_lineRead 47 = .ok (.ireturn, 1) := by decide +kernel
theorem dX4_reads_0 : decode cX4_reads 0 = .ok (.aload_n 0, 1) := by decide +kernel
theorem dX4_reads_1 : decode cX4_reads 1 = .ok (.iload_n 1, 1) := by decide +kernel
theorem dX4_reads_2 : decode cX4_reads 2 = .ok (.ifCond .ge 7, 3) := by decide +kernel
theorem dX4_reads_5 : decode cX4_reads 5 = .ok (.iconst 1, 1) := by decide +kernel
theorem dX4_reads_6 : decode cX4_reads 6 = .ok (.goto 4, 3) := by decide +kernel
theorem dX4_reads_9 : decode cX4_reads 9 = .ok (.iconst 0, 1) := by decide +kernel
theorem dX4_reads_10 : decode cX4_reads 10 = .ok (.invokevirtual 39, 3) := by decide +kernel
theorem dX4_reads_13 : decode cX4_reads 13 = .ok (.ifCond .eq 7, 3) := by decide +kernel
theorem dX4_reads_16 : decode cX4_reads 16 = .ok (.iconst 0, 1) := by decide +kernel
theorem dX4_reads_17 : decode cX4_reads 17 = .ok (.goto 8, 3) := by decide +kernel
theorem dX4_reads_20 : decode cX4_reads 20 = .ok (.aload_n 0, 1) := by decide +kernel
theorem dX4_reads_21 : decode cX4_reads 21 = .ok (.iload_n 1, 1) := by decide +kernel
theorem dX4_reads_22 : decode cX4_reads 22 = .ok (.invokevirtual 195, 3) := by decide +kernel
theorem dX4_reads_25 : decode cX4_reads 25 = .ok (.ireturn, 1) := by decide +kernel
theorem dX4_withHow_0 : decode cX4_withHow 0 = .ok (.iconst 0, 1) := by decide +kernel
theorem dX4_withHow_1 : decode cX4_withHow 1 = .ok (.istore_n 2, 1) := by decide +kernel
theorem dX4_withHow_2 : decode cX4_withHow 2 = .ok (.iconst 0, 1) := by decide +kernel
theorem dX4_withHow_3 : decode cX4_withHow 3 = .ok (.istore_n 3, 1) := by decide +kernel
theorem dX4_withHow_4 : decode cX4_withHow 4 = .ok (.iload_n 3, 1) := by decide +kernel
theorem dX4_withHow_5 : decode cX4_withHow 5 = .ok (.aload_n 0, 1) := by decide +kernel
theorem dX4_withHow_6 : decode cX4_withHow 6 = .ok (.getfield 7, 3) := by decide +kernel
theorem dX4_withHow_9 : decode cX4_withHow 9 = .ok (.iconst 0, 1) := by decide +kernel
theorem dX4_withHow_10 : decode cX4_withHow 10 = .ok (.iaload, 1) := by decide +kernel
theorem dX4_withHow_11 : decode cX4_withHow 11 = .ok (.if_icmp .ge 30, 3) := by decide +kernel
theorem dX4_withHow_14 : decode cX4_withHow 14 = .ok (.iload_n 2, 1) := by decide +kernel
theorem dX4_withHow_15 : decode cX4_withHow 15 = .ok (.aload_n 0, 1) := by decide +kernel
theorem dX4_withHow_16 : decode cX4_withHow 16 = .ok (.getfield 7, 3) := by decide +kernel
theorem dX4_withHow_19 : decode cX4_withHow 19 = .ok (.iload_n 3, 1) := by decide +kernel
theorem dX4_withHow_20 : decode cX4_withHow 20 = .ok (.iconst 5, 1) := by decide +kernel
theorem dX4_withHow_21 : decode cX4_withHow 21 = .ok (.invokestatic 43, 3) := by decide +kernel
theorem dX4_withHow_24 : decode cX4_withHow 24 = .ok (.iload_n 1, 1) := by decide +kernel
theorem dX4_withHow_25 : decode cX4_withHow 25 = .ok (.if_icmp .ne 7, 3) := by decide +kernel
theorem dX4_withHow_28 : decode cX4_withHow 28 = .ok (.iconst 1, 1) := by decide +kernel
theorem dX4_withHow_29 : decode cX4_withHow 29 = .ok (.goto 4, 3) := by decide +kernel
theorem dX4_withHow_32 : decode cX4_withHow 32 = .ok (.iconst 0, 1) := by decide +kernel
theorem dX4_withHow_33 : decode cX4_withHow 33 = .ok (.iadd, 1) := by decide +kernel
theorem dX4_withHow_34 : decode cX4_withHow 34 = .ok (.istore_n 2, 1) := by decide +kernel
theorem dX4_withHow_35 : decode cX4_withHow 35 = .ok (.iinc 3 1, 3) := by decide +kernel
theorem dX4_withHow_38 : decode cX4_withHow 38 = .ok (.goto (-34), 3) := by decide +kernel
theorem dX4_withHow_41 : decode cX4_withHow 41 = .ok (.iload_n 2, 1) := by decide +kernel
theorem dX4_withHow_42 : decode cX4_withHow 42 = .ok (.ireturn, 1) := by decide +kernel
theorem dX4_atRest_0 : decode cX4_atRest 0 = .ok (.iconst 0, 1) := by decide +kernel
theorem dX4_atRest_1 : decode cX4_atRest 1 = .ok (.istore_n 1, 1) := by decide +kernel
theorem dX4_atRest_2 : decode cX4_atRest 2 = .ok (.iconst 0, 1) := by decide +kernel
theorem dX4_atRest_3 : decode cX4_atRest 3 = .ok (.istore_n 2, 1) := by decide +kernel
theorem dX4_atRest_4 : decode cX4_atRest 4 = .ok (.iload_n 2, 1) := by decide +kernel
theorem dX4_atRest_5 : decode cX4_atRest 5 = .ok (.aload_n 0, 1) := by decide +kernel
theorem dX4_atRest_6 : decode cX4_atRest 6 = .ok (.getfield 7, 3) := by decide +kernel
theorem dX4_atRest_9 : decode cX4_atRest 9 = .ok (.iconst 0, 1) := by decide +kernel
theorem dX4_atRest_10 : decode cX4_atRest 10 = .ok (.iaload, 1) := by decide +kernel
theorem dX4_atRest_11 : decode cX4_atRest 11 = .ok (.if_icmp .ge 28, 3) := by decide +kernel
theorem dX4_atRest_14 : decode cX4_atRest 14 = .ok (.iload_n 1, 1) := by decide +kernel
theorem dX4_atRest_15 : decode cX4_atRest 15 = .ok (.aload_n 0, 1) := by decide +kernel
theorem dX4_atRest_16 : decode cX4_atRest 16 = .ok (.getfield 7, 3) := by decide +kernel
theorem dX4_atRest_19 : decode cX4_atRest 19 = .ok (.iload_n 2, 1) := by decide +kernel
theorem dX4_atRest_20 : decode cX4_atRest 20 = .ok (.invokestatic 79, 3) := by decide +kernel
theorem dX4_atRest_23 : decode cX4_atRest 23 = .ok (.ifCond .eq 7, 3) := by decide +kernel
theorem dX4_atRest_26 : decode cX4_atRest 26 = .ok (.iconst 1, 1) := by decide +kernel
theorem dX4_atRest_27 : decode cX4_atRest 27 = .ok (.goto 4, 3) := by decide +kernel
theorem dX4_atRest_30 : decode cX4_atRest 30 = .ok (.iconst 0, 1) := by decide +kernel
theorem dX4_atRest_31 : decode cX4_atRest 31 = .ok (.iadd, 1) := by decide +kernel
theorem dX4_atRest_32 : decode cX4_atRest 32 = .ok (.istore_n 1, 1) := by decide +kernel
theorem dX4_atRest_33 : decode cX4_atRest 33 = .ok (.iinc 2 1, 3) := by decide +kernel
theorem dX4_atRest_36 : decode cX4_atRest 36 = .ok (.goto (-32), 3) := by decide +kernel
theorem dX4_atRest_39 : decode cX4_atRest 39 = .ok (.iload_n 1, 1) := by decide +kernel
theorem dX4_atRest_40 : decode cX4_atRest 40 = .ok (.ireturn, 1) := by decide +kernel
theorem dX4_topmost_0 : decode cX4_topmost 0 = .ok (.iconst 0, 1) := by decide +kernel
theorem dX4_topmost_1 : decode cX4_topmost 1 = .ok (.istore_n 1, 1) := by decide +kernel
theorem dX4_topmost_2 : decode cX4_topmost 2 = .ok (.iload_n 1, 1) := by decide +kernel
theorem dX4_topmost_3 : decode cX4_topmost 3 = .ok (.bipush 16, 2) := by decide +kernel
theorem dX4_topmost_5 : decode cX4_topmost 5 = .ok (.if_icmp .ge 22, 3) := by decide +kernel
theorem dX4_topmost_8 : decode cX4_topmost 8 = .ok (.aload_n 0, 1) := by decide +kernel
theorem dX4_topmost_9 : decode cX4_topmost 9 = .ok (.getfield 7, 3) := by decide +kernel
theorem dX4_topmost_12 : decode cX4_topmost 12 = .ok (.iload_n 1, 1) := by decide +kernel
theorem dX4_topmost_13 : decode cX4_topmost 13 = .ok (.invokestatic 59, 3) := by decide +kernel
theorem dX4_topmost_16 : decode cX4_topmost 16 = .ok (.ifCond .eq 5, 3) := by decide +kernel
theorem dX4_topmost_19 : decode cX4_topmost 19 = .ok (.iload_n 1, 1) := by decide +kernel
theorem dX4_topmost_20 : decode cX4_topmost 20 = .ok (.ireturn, 1) := by decide +kernel
theorem dX4_topmost_21 : decode cX4_topmost 21 = .ok (.iinc 1 1, 3) := by decide +kernel
theorem dX4_topmost_24 : decode cX4_topmost 24 = .ok (.goto (-22), 3) := by decide +kernel
theorem dX4_topmost_27 : decode cX4_topmost 27 = .ok (.iconst (-1), 1) := by decide +kernel
theorem dX4_topmost_28 : decode cX4_topmost 28 = .ok (.ireturn, 1) := by decide +kernel
theorem dX4_squares_0 : decode cX4_squares 0 = .ok (.iconst 0, 1) := by decide +kernel
theorem dX4_squares_1 : decode cX4_squares 1 = .ok (.istore_n 1, 1) := by decide +kernel
theorem dX4_squares_2 : decode cX4_squares 2 = .ok (.iconst 0, 1) := by decide +kernel
theorem dX4_squares_3 : decode cX4_squares 3 = .ok (.istore_n 2, 1) := by decide +kernel
theorem dX4_squares_4 : decode cX4_squares 4 = .ok (.iload_n 2, 1) := by decide +kernel
theorem dX4_squares_5 : decode cX4_squares 5 = .ok (.aload_n 0, 1) := by decide +kernel
theorem dX4_squares_6 : decode cX4_squares 6 = .ok (.getfield 7, 3) := by decide +kernel
theorem dX4_squares_9 : decode cX4_squares 9 = .ok (.iconst 0, 1) := by decide +kernel
theorem dX4_squares_10 : decode cX4_squares 10 = .ok (.iaload, 1) := by decide +kernel
theorem dX4_squares_11 : decode cX4_squares 11 = .ok (.if_icmp .ge 36, 3) := by decide +kernel
theorem dX4_squares_14 : decode cX4_squares 14 = .ok (.iload_n 1, 1) := by decide +kernel
theorem dX4_squares_15 : decode cX4_squares 15 = .ok (.aload_n 0, 1) := by decide +kernel
theorem dX4_squares_16 : decode cX4_squares 16 = .ok (.getfield 7, 3) := by decide +kernel
theorem dX4_squares_19 : decode cX4_squares 19 = .ok (.iload_n 2, 1) := by decide +kernel
theorem dX4_squares_20 : decode cX4_squares 20 = .ok (.invokestatic 47, 3) := by decide +kernel
theorem dX4_squares_23 : decode cX4_squares 23 = .ok (.ifCond .eq 15, 3) := by decide +kernel
theorem dX4_squares_26 : decode cX4_squares 26 = .ok (.aload_n 0, 1) := by decide +kernel
theorem dX4_squares_27 : decode cX4_squares 27 = .ok (.getfield 7, 3) := by decide +kernel
theorem dX4_squares_30 : decode cX4_squares 30 = .ok (.iload_n 2, 1) := by decide +kernel
theorem dX4_squares_31 : decode cX4_squares 31 = .ok (.iconst 0, 1) := by decide +kernel
theorem dX4_squares_32 : decode cX4_squares 32 = .ok (.invokestatic 43, 3) := by decide +kernel
theorem dX4_squares_35 : decode cX4_squares 35 = .ok (.goto 4, 3) := by decide +kernel
theorem dX4_squares_38 : decode cX4_squares 38 = .ok (.iconst 0, 1) := by decide +kernel
theorem dX4_squares_39 : decode cX4_squares 39 = .ok (.iadd, 1) := by decide +kernel
theorem dX4_squares_40 : decode cX4_squares 40 = .ok (.istore_n 1, 1) := by decide +kernel
theorem dX4_squares_41 : decode cX4_squares 41 = .ok (.iinc 2 1, 3) := by decide +kernel
theorem dX4_squares_44 : decode cX4_squares 44 = .ok (.goto (-40), 3) := by decide +kernel
theorem dX4_squares_47 : decode cX4_squares 47 = .ok (.iload_n 1, 1) := by decide +kernel
theorem dX4_squares_48 : decode cX4_squares 48 = .ok (.ireturn, 1) := by decide +kernel
theorem dX4_greatestLoad_0 : decode cX4_greatestLoad 0 = .ok (.iconst 0, 1) := by decide +kernel
theorem dX4_greatestLoad_1 : decode cX4_greatestLoad 1 = .ok (.istore_n 1, 1) := by decide +kernel
theorem dX4_greatestLoad_2 : decode cX4_greatestLoad 2 = .ok (.iconst 0, 1) := by decide +kernel
theorem dX4_greatestLoad_3 : decode cX4_greatestLoad 3 = .ok (.istore_n 2, 1) := by decide +kernel
theorem dX4_greatestLoad_4 : decode cX4_greatestLoad 4 = .ok (.iload_n 2, 1) := by decide +kernel
theorem dX4_greatestLoad_5 : decode cX4_greatestLoad 5 = .ok (.aload_n 0, 1) := by decide +kernel
theorem dX4_greatestLoad_6 : decode cX4_greatestLoad 6 = .ok (.getfield 7, 3) := by decide +kernel
theorem dX4_greatestLoad_9 : decode cX4_greatestLoad 9 = .ok (.iconst 0, 1) := by decide +kernel
theorem dX4_greatestLoad_10 : decode cX4_greatestLoad 10 = .ok (.iaload, 1) := by decide +kernel
theorem dX4_greatestLoad_11 : decode cX4_greatestLoad 11 = .ok (.if_icmp .ge 34, 3) := by decide +kernel
theorem dX4_greatestLoad_14 : decode cX4_greatestLoad 14 = .ok (.aload_n 0, 1) := by decide +kernel
theorem dX4_greatestLoad_15 : decode cX4_greatestLoad 15 = .ok (.getfield 7, 3) := by decide +kernel
theorem dX4_greatestLoad_18 : decode cX4_greatestLoad 18 = .ok (.iload_n 2, 1) := by decide +kernel
theorem dX4_greatestLoad_19 : decode cX4_greatestLoad 19 = .ok (.invokestatic 82, 3) := by decide +kernel
theorem dX4_greatestLoad_22 : decode cX4_greatestLoad 22 = .ok (.iload_n 1, 1) := by decide +kernel
theorem dX4_greatestLoad_23 : decode cX4_greatestLoad 23 = .ok (.if_icmp .le 14, 3) := by decide +kernel
theorem dX4_greatestLoad_26 : decode cX4_greatestLoad 26 = .ok (.aload_n 0, 1) := by decide +kernel
theorem dX4_greatestLoad_27 : decode cX4_greatestLoad 27 = .ok (.getfield 7, 3) := by decide +kernel
theorem dX4_greatestLoad_30 : decode cX4_greatestLoad 30 = .ok (.iload_n 2, 1) := by decide +kernel
theorem dX4_greatestLoad_31 : decode cX4_greatestLoad 31 = .ok (.invokestatic 82, 3) := by decide +kernel
theorem dX4_greatestLoad_34 : decode cX4_greatestLoad 34 = .ok (.goto 4, 3) := by decide +kernel
theorem dX4_greatestLoad_37 : decode cX4_greatestLoad 37 = .ok (.iload_n 1, 1) := by decide +kernel
theorem dX4_greatestLoad_38 : decode cX4_greatestLoad 38 = .ok (.istore_n 1, 1) := by decide +kernel
theorem dX4_greatestLoad_39 : decode cX4_greatestLoad 39 = .ok (.iinc 2 1, 3) := by decide +kernel
theorem dX4_greatestLoad_42 : decode cX4_greatestLoad 42 = .ok (.goto (-38), 3) := by decide +kernel
theorem dX4_greatestLoad_45 : decode cX4_greatestLoad 45 = .ok (.iload_n 1, 1) := by decide +kernel
theorem dX4_greatestLoad_46 : decode cX4_greatestLoad 46 = .ok (.ireturn, 1) := by decide +kernel
theorem dX4_counted_0 : decode cX4_counted 0 = .ok (.iload_n 1, 1) := by decide +kernel
theorem dX4_counted_1 : decode cX4_counted 1 = .ok (.tableswitch 134 0 10 #[59, 66, 73, 79, 85, 90, 96, 103, 108, 113, 129], 59) := by decide +kernel
theorem dX4_counted_60 : decode cX4_counted 60 = .ok (.aload_n 0, 1) := by decide +kernel
theorem dX4_counted_61 : decode cX4_counted 61 = .ok (.getfield 7, 3) := by decide +kernel
theorem dX4_counted_64 : decode cX4_counted 64 = .ok (.iconst 1, 1) := by decide +kernel
theorem dX4_counted_65 : decode cX4_counted 65 = .ok (.iaload, 1) := by decide +kernel
theorem dX4_counted_66 : decode cX4_counted 66 = .ok (.ireturn, 1) := by decide +kernel
theorem dX4_counted_67 : decode cX4_counted 67 = .ok (.aload_n 0, 1) := by decide +kernel
theorem dX4_counted_68 : decode cX4_counted 68 = .ok (.getfield 7, 3) := by decide +kernel
theorem dX4_counted_71 : decode cX4_counted 71 = .ok (.iconst 0, 1) := by decide +kernel
theorem dX4_counted_72 : decode cX4_counted 72 = .ok (.iaload, 1) := by decide +kernel
theorem dX4_counted_73 : decode cX4_counted 73 = .ok (.ireturn, 1) := by decide +kernel
theorem dX4_counted_74 : decode cX4_counted 74 = .ok (.aload_n 0, 1) := by decide +kernel
theorem dX4_counted_75 : decode cX4_counted 75 = .ok (.iconst 0, 1) := by decide +kernel
theorem dX4_counted_76 : decode cX4_counted 76 = .ok (.invokevirtual 198, 3) := by decide +kernel
theorem dX4_counted_79 : decode cX4_counted 79 = .ok (.ireturn, 1) := by decide +kernel
theorem dX4_counted_80 : decode cX4_counted 80 = .ok (.aload_n 0, 1) := by decide +kernel
theorem dX4_counted_81 : decode cX4_counted 81 = .ok (.iconst 1, 1) := by decide +kernel
theorem dX4_counted_82 : decode cX4_counted 82 = .ok (.invokevirtual 198, 3) := by decide +kernel
theorem dX4_counted_85 : decode cX4_counted 85 = .ok (.ireturn, 1) := by decide +kernel
theorem dX4_counted_86 : decode cX4_counted 86 = .ok (.aload_n 0, 1) := by decide +kernel
theorem dX4_counted_87 : decode cX4_counted 87 = .ok (.invokevirtual 201, 3) := by decide +kernel
theorem dX4_counted_90 : decode cX4_counted 90 = .ok (.ireturn, 1) := by decide +kernel
theorem dX4_counted_91 : decode cX4_counted 91 = .ok (.aload_n 0, 1) := by decide +kernel
theorem dX4_counted_92 : decode cX4_counted 92 = .ok (.iconst 3, 1) := by decide +kernel
theorem dX4_counted_93 : decode cX4_counted 93 = .ok (.invokevirtual 198, 3) := by decide +kernel
theorem dX4_counted_96 : decode cX4_counted 96 = .ok (.ireturn, 1) := by decide +kernel
theorem dX4_counted_97 : decode cX4_counted 97 = .ok (.aload_n 0, 1) := by decide +kernel
theorem dX4_counted_98 : decode cX4_counted 98 = .ok (.getfield 7, 3) := by decide +kernel
theorem dX4_counted_101 : decode cX4_counted 101 = .ok (.iconst 3, 1) := by decide +kernel
theorem dX4_counted_102 : decode cX4_counted 102 = .ok (.iaload, 1) := by decide +kernel
theorem dX4_counted_103 : decode cX4_counted 103 = .ok (.ireturn, 1) := by decide +kernel
theorem dX4_counted_104 : decode cX4_counted 104 = .ok (.aload_n 0, 1) := by decide +kernel
theorem dX4_counted_105 : decode cX4_counted 105 = .ok (.invokevirtual 205, 3) := by decide +kernel
theorem dX4_counted_108 : decode cX4_counted 108 = .ok (.ireturn, 1) := by decide +kernel
theorem dX4_counted_109 : decode cX4_counted 109 = .ok (.aload_n 0, 1) := by decide +kernel
theorem dX4_counted_110 : decode cX4_counted 110 = .ok (.invokevirtual 208, 3) := by decide +kernel
theorem dX4_counted_113 : decode cX4_counted 113 = .ok (.ireturn, 1) := by decide +kernel
theorem dX4_counted_114 : decode cX4_counted 114 = .ok (.aload_n 0, 1) := by decide +kernel
theorem dX4_counted_115 : decode cX4_counted 115 = .ok (.getfield 7, 3) := by decide +kernel
theorem dX4_counted_118 : decode cX4_counted 118 = .ok (.invokestatic 113, 3) := by decide +kernel
theorem dX4_counted_121 : decode cX4_counted 121 = .ok (.ifCond .eq 7, 3) := by decide +kernel
theorem dX4_counted_124 : decode cX4_counted 124 = .ok (.iconst 1, 1) := by decide +kernel
theorem dX4_counted_125 : decode cX4_counted 125 = .ok (.goto 4, 3) := by decide +kernel
theorem dX4_counted_128 : decode cX4_counted 128 = .ok (.iconst 0, 1) := by decide +kernel
theorem dX4_counted_129 : decode cX4_counted 129 = .ok (.ireturn, 1) := by decide +kernel
theorem dX4_counted_130 : decode cX4_counted 130 = .ok (.aload_n 0, 1) := by decide +kernel
theorem dX4_counted_131 : decode cX4_counted 131 = .ok (.invokevirtual 211, 3) := by decide +kernel
theorem dX4_counted_134 : decode cX4_counted 134 = .ok (.ireturn, 1) := by decide +kernel
theorem dX4_counted_135 : decode cX4_counted 135 = .ok (.aload_n 0, 1) := by decide +kernel
theorem dX4_counted_136 : decode cX4_counted 136 = .ok (.getfield 32, 3) := by decide +kernel
theorem dX4_counted_139 : decode cX4_counted 139 = .ok (.ireturn, 1) := by decide +kernel
theorem dX4_count_0 : decode cX4_count 0 = .ok (.aload_n 0, 1) := by decide +kernel
theorem dX4_count_1 : decode cX4_count 1 = .ok (.iload_n 1, 1) := by decide +kernel
theorem dX4_count_2 : decode cX4_count 2 = .ok (.iconst 0, 1) := by decide +kernel
theorem dX4_count_3 : decode cX4_count 3 = .ok (.bipush 11, 2) := by decide +kernel
theorem dX4_count_5 : decode cX4_count 5 = .ok (.invokestatic 55, 3) := by decide +kernel
theorem dX4_count_8 : decode cX4_count 8 = .ok (.ifCond .eq 7, 3) := by decide +kernel
theorem dX4_count_11 : decode cX4_count 11 = .ok (.iconst 0, 1) := by decide +kernel
theorem dX4_count_12 : decode cX4_count 12 = .ok (.goto 4, 3) := by decide +kernel
theorem dX4_count_15 : decode cX4_count 15 = .ok (.iconst 1, 1) := by decide +kernel
theorem dX4_count_16 : decode cX4_count 16 = .ok (.invokevirtual 39, 3) := by decide +kernel
theorem dX4_count_19 : decode cX4_count 19 = .ok (.ifCond .eq 7, 3) := by decide +kernel
theorem dX4_count_22 : decode cX4_count 22 = .ok (.iconst 0, 1) := by decide +kernel
theorem dX4_count_23 : decode cX4_count 23 = .ok (.goto 8, 3) := by decide +kernel
theorem dX4_count_26 : decode cX4_count 26 = .ok (.aload_n 0, 1) := by decide +kernel
theorem dX4_count_27 : decode cX4_count 27 = .ok (.iload_n 1, 1) := by decide +kernel
theorem dX4_count_28 : decode cX4_count 28 = .ok (.invokevirtual 214, 3) := by decide +kernel
theorem dX4_count_31 : decode cX4_count 31 = .ok (.ireturn, 1) := by decide +kernel
theorem dX4_restIn_0 : decode cX4_restIn 0 = .ok (.aload_n 0, 1) := by decide +kernel
theorem dX4_restIn_1 : decode cX4_restIn 1 = .ok (.getfield 7, 3) := by decide +kernel
theorem dX4_restIn_4 : decode cX4_restIn 4 = .ok (.iconst 0, 1) := by decide +kernel
theorem dX4_restIn_5 : decode cX4_restIn 5 = .ok (.aload_n 0, 1) := by decide +kernel
theorem dX4_restIn_6 : decode cX4_restIn 6 = .ok (.getfield 13, 3) := by decide +kernel
theorem dX4_restIn_9 : decode cX4_restIn 9 = .ok (.iconst 0, 1) := by decide +kernel
theorem dX4_restIn_10 : decode cX4_restIn 10 = .ok (.invokestatic 35, 3) := by decide +kernel
theorem dX4_restIn_13 : decode cX4_restIn 13 = .ok (.aload_n 0, 1) := by decide +kernel
theorem dX4_restIn_14 : decode cX4_restIn 14 = .ok (.aload_n 0, 1) := by decide +kernel
theorem dX4_restIn_15 : decode cX4_restIn 15 = .ok (.getfield 13, 3) := by decide +kernel
theorem dX4_restIn_18 : decode cX4_restIn 18 = .ok (.invokevirtual 217, 3) := by decide +kernel
theorem dX4_restIn_21 : decode cX4_restIn 21 = .ok (.ireturn, 1) := by decide +kernel
theorem dX4_untilRest_0 : decode cX4_untilRest 0 = .ok (.aload_n 0, 1) := by decide +kernel
theorem dX4_untilRest_1 : decode cX4_untilRest 1 = .ok (.iconst 0, 1) := by decide +kernel
theorem dX4_untilRest_2 : decode cX4_untilRest 2 = .ok (.putfield 28, 3) := by decide +kernel
theorem dX4_untilRest_5 : decode cX4_untilRest 5 = .ok (.aload_n 0, 1) := by decide +kernel
theorem dX4_untilRest_6 : decode cX4_untilRest 6 = .ok (.invokevirtual 220, 3) := by decide +kernel
theorem dX4_untilRest_9 : decode cX4_untilRest 9 = .ok (.ireturn, 1) := by decide +kernel
theorem dX4_dropped_0 : decode cX4_dropped 0 = .ok (.aload_n 0, 1) := by decide +kernel
theorem dX4_dropped_1 : decode cX4_dropped 1 = .ok (.getfield 7, 3) := by decide +kernel
theorem dX4_dropped_4 : decode cX4_dropped 4 = .ok (.iconst 0, 1) := by decide +kernel
theorem dX4_dropped_5 : decode cX4_dropped 5 = .ok (.aload_n 0, 1) := by decide +kernel
theorem dX4_dropped_6 : decode cX4_dropped 6 = .ok (.getfield 13, 3) := by decide +kernel
theorem dX4_dropped_9 : decode cX4_dropped 9 = .ok (.iconst 0, 1) := by decide +kernel
theorem dX4_dropped_10 : decode cX4_dropped 10 = .ok (.invokestatic 35, 3) := by decide +kernel
theorem dX4_dropped_13 : decode cX4_dropped 13 = .ok (.aload_n 0, 1) := by decide +kernel
theorem dX4_dropped_14 : decode cX4_dropped 14 = .ok (.getfield 13, 3) := by decide +kernel
theorem dX4_dropped_17 : decode cX4_dropped 17 = .ok (.iconst 0, 1) := by decide +kernel
theorem dX4_dropped_18 : decode cX4_dropped 18 = .ok (.iaload, 1) := by decide +kernel
theorem dX4_dropped_19 : decode cX4_dropped 19 = .ok (.istore 5, 2) := by decide +kernel
theorem dX4_dropped_21 : decode cX4_dropped 21 = .ok (.aload_n 0, 1) := by decide +kernel
theorem dX4_dropped_22 : decode cX4_dropped 22 = .ok (.getfield 13, 3) := by decide +kernel
theorem dX4_dropped_25 : decode cX4_dropped 25 = .ok (.iload_n 1, 1) := by decide +kernel
theorem dX4_dropped_26 : decode cX4_dropped 26 = .ok (.iload_n 2, 1) := by decide +kernel
theorem dX4_dropped_27 : decode cX4_dropped 27 = .ok (.iload_n 3, 1) := by decide +kernel
theorem dX4_dropped_28 : decode cX4_dropped 28 = .ok (.iconst 0, 1) := by decide +kernel
theorem dX4_dropped_29 : decode cX4_dropped 29 = .ok (.aload_n 0, 1) := by decide +kernel
theorem dX4_dropped_30 : decode cX4_dropped 30 = .ok (.getfield 13, 3) := by decide +kernel
theorem dX4_dropped_33 : decode cX4_dropped 33 = .ok (.iconst 1, 1) := by decide +kernel
theorem dX4_dropped_34 : decode cX4_dropped 34 = .ok (.iaload, 1) := by decide +kernel
theorem dX4_dropped_35 : decode cX4_dropped 35 = .ok (.invokestatic 130, 3) := by decide +kernel
theorem dX4_dropped_38 : decode cX4_dropped 38 = .ok (.aload_n 0, 1) := by decide +kernel
theorem dX4_dropped_39 : decode cX4_dropped 39 = .ok (.aload_n 0, 1) := by decide +kernel
theorem dX4_dropped_40 : decode cX4_dropped 40 = .ok (.getfield 13, 3) := by decide +kernel
theorem dX4_dropped_43 : decode cX4_dropped 43 = .ok (.invokevirtual 217, 3) := by decide +kernel
theorem dX4_dropped_46 : decode cX4_dropped 46 = .ok (.istore 6, 2) := by decide +kernel
theorem dX4_dropped_48 : decode cX4_dropped 48 = .ok (.iload 4, 2) := by decide +kernel
theorem dX4_dropped_50 : decode cX4_dropped 50 = .ok (.iconst 2, 1) := by decide +kernel
theorem dX4_dropped_51 : decode cX4_dropped 51 = .ok (.if_icmp .ne 17, 3) := by decide +kernel
theorem dX4_dropped_54 : decode cX4_dropped 54 = .ok (.aload_n 0, 1) := by decide +kernel
theorem dX4_dropped_55 : decode cX4_dropped 55 = .ok (.getfield 13, 3) := by decide +kernel
theorem dX4_dropped_58 : decode cX4_dropped 58 = .ok (.iconst 3, 1) := by decide +kernel
theorem dX4_dropped_59 : decode cX4_dropped 59 = .ok (.iaload, 1) := by decide +kernel
theorem dX4_dropped_60 : decode cX4_dropped 60 = .ok (.aload_n 0, 1) := by decide +kernel
theorem dX4_dropped_61 : decode cX4_dropped 61 = .ok (.getfield 7, 3) := by decide +kernel
theorem dX4_dropped_64 : decode cX4_dropped 64 = .ok (.iconst 3, 1) := by decide +kernel
theorem dX4_dropped_65 : decode cX4_dropped 65 = .ok (.iaload, 1) := by decide +kernel
theorem dX4_dropped_66 : decode cX4_dropped 66 = .ok (.isub, 1) := by decide +kernel
theorem dX4_dropped_67 : decode cX4_dropped 67 = .ok (.ireturn, 1) := by decide +kernel
theorem dX4_dropped_68 : decode cX4_dropped 68 = .ok (.iload 6, 2) := by decide +kernel
theorem dX4_dropped_70 : decode cX4_dropped 70 = .ok (.iconst (-1), 1) := by decide +kernel
theorem dX4_dropped_71 : decode cX4_dropped 71 = .ok (.if_icmp .eq 15, 3) := by decide +kernel
theorem dX4_dropped_74 : decode cX4_dropped 74 = .ok (.aload_n 0, 1) := by decide +kernel
theorem dX4_dropped_75 : decode cX4_dropped 75 = .ok (.getfield 13, 3) := by decide +kernel
theorem dX4_dropped_78 : decode cX4_dropped 78 = .ok (.iload 5, 2) := by decide +kernel
theorem dX4_dropped_80 : decode cX4_dropped 80 = .ok (.invokestatic 47, 3) := by decide +kernel
theorem dX4_dropped_83 : decode cX4_dropped 83 = .ok (.ifCond .ne 7, 3) := by decide +kernel
theorem dX4_dropped_86 : decode cX4_dropped 86 = .ok (.iconst (-1), 1) := by decide +kernel
theorem dX4_dropped_87 : decode cX4_dropped 87 = .ok (.goto 23, 3) := by decide +kernel
theorem dX4_dropped_90 : decode cX4_dropped 90 = .ok (.aload_n 0, 1) := by decide +kernel
theorem dX4_dropped_91 : decode cX4_dropped 91 = .ok (.getfield 13, 3) := by decide +kernel
theorem dX4_dropped_94 : decode cX4_dropped 94 = .ok (.iload 5, 2) := by decide +kernel
theorem dX4_dropped_96 : decode cX4_dropped 96 = .ok (.iload 4, 2) := by decide +kernel
theorem dX4_dropped_98 : decode cX4_dropped 98 = .ok (.ifCond .ne 8, 3) := by decide +kernel
theorem dX4_dropped_101 : decode cX4_dropped 101 = .ok (.bipush 6, 2) := by decide +kernel
theorem dX4_dropped_103 : decode cX4_dropped 103 = .ok (.goto 4, 3) := by decide +kernel
theorem dX4_dropped_106 : decode cX4_dropped 106 = .ok (.iconst 3, 1) := by decide +kernel
theorem dX4_dropped_107 : decode cX4_dropped 107 = .ok (.invokestatic 43, 3) := by decide +kernel
theorem dX4_dropped_110 : decode cX4_dropped 110 = .ok (.ireturn, 1) := by decide +kernel
theorem dX4_ifDropped_0 : decode cX4_ifDropped 0 = .ok (.iload_n 1, 1) := by decide +kernel
theorem dX4_ifDropped_1 : decode cX4_ifDropped 1 = .ok (.iload_n 2, 1) := by decide +kernel
theorem dX4_ifDropped_2 : decode cX4_ifDropped 2 = .ok (.iload_n 3, 1) := by decide +kernel
theorem dX4_ifDropped_3 : decode cX4_ifDropped 3 = .ok (.invokestatic 120, 3) := by decide +kernel
theorem dX4_ifDropped_6 : decode cX4_ifDropped 6 = .ok (.ifCond .eq 17, 3) := by decide +kernel
theorem dX4_ifDropped_9 : decode cX4_ifDropped 9 = .ok (.iload 4, 2) := by decide +kernel
theorem dX4_ifDropped_11 : decode cX4_ifDropped 11 = .ok (.iconst 0, 1) := by decide +kernel
theorem dX4_ifDropped_12 : decode cX4_ifDropped 12 = .ok (.iconst 2, 1) := by decide +kernel
theorem dX4_ifDropped_13 : decode cX4_ifDropped 13 = .ok (.invokestatic 55, 3) := by decide +kernel
theorem dX4_ifDropped_16 : decode cX4_ifDropped 16 = .ok (.ifCond .eq 7, 3) := by decide +kernel
theorem dX4_ifDropped_19 : decode cX4_ifDropped 19 = .ok (.iconst 1, 1) := by decide +kernel
theorem dX4_ifDropped_20 : decode cX4_ifDropped 20 = .ok (.goto 4, 3) := by decide +kernel
theorem dX4_ifDropped_23 : decode cX4_ifDropped 23 = .ok (.iconst 0, 1) := by decide +kernel
theorem dX4_ifDropped_24 : decode cX4_ifDropped 24 = .ok (.istore 5, 2) := by decide +kernel
theorem dX4_ifDropped_26 : decode cX4_ifDropped 26 = .ok (.aload_n 0, 1) := by decide +kernel
theorem dX4_ifDropped_27 : decode cX4_ifDropped 27 = .ok (.iload 5, 2) := by decide +kernel
theorem dX4_ifDropped_29 : decode cX4_ifDropped 29 = .ok (.ifCond .eq 7, 3) := by decide +kernel
theorem dX4_ifDropped_32 : decode cX4_ifDropped 32 = .ok (.iconst 0, 1) := by decide +kernel
theorem dX4_ifDropped_33 : decode cX4_ifDropped 33 = .ok (.goto 4, 3) := by decide +kernel
theorem dX4_ifDropped_36 : decode cX4_ifDropped 36 = .ok (.iconst 1, 1) := by decide +kernel
theorem dX4_ifDropped_37 : decode cX4_ifDropped 37 = .ok (.invokevirtual 39, 3) := by decide +kernel
theorem dX4_ifDropped_40 : decode cX4_ifDropped 40 = .ok (.ifCond .eq 7, 3) := by decide +kernel
theorem dX4_ifDropped_43 : decode cX4_ifDropped 43 = .ok (.iconst 0, 1) := by decide +kernel
theorem dX4_ifDropped_44 : decode cX4_ifDropped 44 = .ok (.goto 12, 3) := by decide +kernel
theorem dX4_ifDropped_47 : decode cX4_ifDropped 47 = .ok (.aload_n 0, 1) := by decide +kernel
theorem dX4_ifDropped_48 : decode cX4_ifDropped 48 = .ok (.iload_n 1, 1) := by decide +kernel
theorem dX4_ifDropped_49 : decode cX4_ifDropped 49 = .ok (.iload_n 2, 1) := by decide +kernel
theorem dX4_ifDropped_50 : decode cX4_ifDropped 50 = .ok (.iload_n 3, 1) := by decide +kernel
theorem dX4_ifDropped_51 : decode cX4_ifDropped 51 = .ok (.iload 4, 2) := by decide +kernel
theorem dX4_ifDropped_53 : decode cX4_ifDropped 53 = .ok (.invokevirtual 223, 3) := by decide +kernel
theorem dX4_ifDropped_56 : decode cX4_ifDropped 56 = .ok (.ireturn, 1) := by decide +kernel
theorem dX4_best_0 : decode cX4_best 0 = .ok (.iconst (-1), 1) := by decide +kernel
theorem dX4_best_1 : decode cX4_best 1 = .ok (.istore_n 3, 1) := by decide +kernel
theorem dX4_best_2 : decode cX4_best 2 = .ok (.iconst 0, 1) := by decide +kernel
theorem dX4_best_3 : decode cX4_best 3 = .ok (.istore 4, 2) := by decide +kernel
theorem dX4_best_5 : decode cX4_best 5 = .ok (.iconst 0, 1) := by decide +kernel
theorem dX4_best_6 : decode cX4_best 6 = .ok (.istore 5, 2) := by decide +kernel
theorem dX4_best_8 : decode cX4_best 8 = .ok (.iconst 0, 1) := by decide +kernel
theorem dX4_best_9 : decode cX4_best 9 = .ok (.istore 6, 2) := by decide +kernel
theorem dX4_best_11 : decode cX4_best 11 = .ok (.iload 6, 2) := by decide +kernel
theorem dX4_best_13 : decode cX4_best 13 = .ok (.bipush 24, 2) := by decide +kernel
theorem dX4_best_15 : decode cX4_best 15 = .ok (.iload_n 1, 1) := by decide +kernel
theorem dX4_best_16 : decode cX4_best 16 = .ok (.isub, 1) := by decide +kernel
theorem dX4_best_17 : decode cX4_best 17 = .ok (.if_icmp .gt 114, 3) := by decide +kernel
theorem dX4_best_20 : decode cX4_best 20 = .ok (.aload_n 0, 1) := by decide +kernel
theorem dX4_best_21 : decode cX4_best 21 = .ok (.iload_n 1, 1) := by decide +kernel
theorem dX4_best_22 : decode cX4_best 22 = .ok (.iload_n 2, 1) := by decide +kernel
theorem dX4_best_23 : decode cX4_best 23 = .ok (.iload 6, 2) := by decide +kernel
theorem dX4_best_25 : decode cX4_best 25 = .ok (.iconst 0, 1) := by decide +kernel
theorem dX4_best_26 : decode cX4_best 26 = .ok (.invokevirtual 223, 3) := by decide +kernel
theorem dX4_best_29 : decode cX4_best 29 = .ok (.istore 7, 2) := by decide +kernel
theorem dX4_best_31 : decode cX4_best 31 = .ok (.aload_n 0, 1) := by decide +kernel
theorem dX4_best_32 : decode cX4_best 32 = .ok (.getfield 13, 3) := by decide +kernel
theorem dX4_best_35 : decode cX4_best 35 = .ok (.iconst 3, 1) := by decide +kernel
theorem dX4_best_36 : decode cX4_best 36 = .ok (.iaload, 1) := by decide +kernel
theorem dX4_best_37 : decode cX4_best 37 = .ok (.aload_n 0, 1) := by decide +kernel
theorem dX4_best_38 : decode cX4_best 38 = .ok (.getfield 7, 3) := by decide +kernel
theorem dX4_best_41 : decode cX4_best 41 = .ok (.iconst 3, 1) := by decide +kernel
theorem dX4_best_42 : decode cX4_best 42 = .ok (.iaload, 1) := by decide +kernel
theorem dX4_best_43 : decode cX4_best 43 = .ok (.isub, 1) := by decide +kernel
theorem dX4_best_44 : decode cX4_best 44 = .ok (.istore 8, 2) := by decide +kernel
theorem dX4_best_46 : decode cX4_best 46 = .ok (.iload 7, 2) := by decide +kernel
theorem dX4_best_48 : decode cX4_best 48 = .ok (.iconst (-1), 1) := by decide +kernel
theorem dX4_best_49 : decode cX4_best 49 = .ok (.if_icmp .eq 33, 3) := by decide +kernel
theorem dX4_best_52 : decode cX4_best 52 = .ok (.iload_n 3, 1) := by decide +kernel
theorem dX4_best_53 : decode cX4_best 53 = .ok (.iconst (-1), 1) := by decide +kernel
theorem dX4_best_54 : decode cX4_best 54 = .ok (.if_icmp .eq 24, 3) := by decide +kernel
theorem dX4_best_57 : decode cX4_best 57 = .ok (.iload 7, 2) := by decide +kernel
theorem dX4_best_59 : decode cX4_best 59 = .ok (.iload 4, 2) := by decide +kernel
theorem dX4_best_61 : decode cX4_best 61 = .ok (.if_icmp .gt 17, 3) := by decide +kernel
theorem dX4_best_64 : decode cX4_best 64 = .ok (.iload 7, 2) := by decide +kernel
theorem dX4_best_66 : decode cX4_best 66 = .ok (.iload 4, 2) := by decide +kernel
theorem dX4_best_68 : decode cX4_best 68 = .ok (.if_icmp .ne 14, 3) := by decide +kernel
theorem dX4_best_71 : decode cX4_best 71 = .ok (.iload 8, 2) := by decide +kernel
theorem dX4_best_73 : decode cX4_best 73 = .ok (.iload 5, 2) := by decide +kernel
theorem dX4_best_75 : decode cX4_best 75 = .ok (.if_icmp .ge 7, 3) := by decide +kernel
theorem dX4_best_78 : decode cX4_best 78 = .ok (.iconst 1, 1) := by decide +kernel
theorem dX4_best_79 : decode cX4_best 79 = .ok (.goto 4, 3) := by decide +kernel
theorem dX4_best_82 : decode cX4_best 82 = .ok (.iconst 0, 1) := by decide +kernel
theorem dX4_best_83 : decode cX4_best 83 = .ok (.istore 9, 2) := by decide +kernel
theorem dX4_best_85 : decode cX4_best 85 = .ok (.iload 9, 2) := by decide +kernel
theorem dX4_best_87 : decode cX4_best 87 = .ok (.ifCond .eq 8, 3) := by decide +kernel
theorem dX4_best_90 : decode cX4_best 90 = .ok (.iload 6, 2) := by decide +kernel
theorem dX4_best_92 : decode cX4_best 92 = .ok (.goto 4, 3) := by decide +kernel
theorem dX4_best_95 : decode cX4_best 95 = .ok (.iload_n 3, 1) := by decide +kernel
theorem dX4_best_96 : decode cX4_best 96 = .ok (.istore_n 3, 1) := by decide +kernel
theorem dX4_best_97 : decode cX4_best 97 = .ok (.iload 9, 2) := by decide +kernel
theorem dX4_best_99 : decode cX4_best 99 = .ok (.ifCond .eq 8, 3) := by decide +kernel
theorem dX4_best_102 : decode cX4_best 102 = .ok (.iload 7, 2) := by decide +kernel
theorem dX4_best_104 : decode cX4_best 104 = .ok (.goto 5, 3) := by decide +kernel
theorem dX4_best_107 : decode cX4_best 107 = .ok (.iload 4, 2) := by decide +kernel
theorem dX4_best_109 : decode cX4_best 109 = .ok (.istore 4, 2) := by decide +kernel
theorem dX4_best_111 : decode cX4_best 111 = .ok (.iload 9, 2) := by decide +kernel
theorem dX4_best_113 : decode cX4_best 113 = .ok (.ifCond .eq 8, 3) := by decide +kernel
theorem dX4_best_116 : decode cX4_best 116 = .ok (.iload 8, 2) := by decide +kernel
theorem dX4_best_118 : decode cX4_best 118 = .ok (.goto 5, 3) := by decide +kernel
theorem dX4_best_121 : decode cX4_best 121 = .ok (.iload 5, 2) := by decide +kernel
theorem dX4_best_123 : decode cX4_best 123 = .ok (.istore 5, 2) := by decide +kernel
theorem dX4_best_125 : decode cX4_best 125 = .ok (.iinc 6 1, 3) := by decide +kernel
theorem dX4_best_128 : decode cX4_best 128 = .ok (.goto (-117), 3) := by decide +kernel
theorem dX4_best_131 : decode cX4_best 131 = .ok (.iload_n 3, 1) := by decide +kernel
theorem dX4_best_132 : decode cX4_best 132 = .ok (.ireturn, 1) := by decide +kernel
theorem dX4_bestColumn_0 : decode cX4_bestColumn 0 = .ok (.iload_n 1, 1) := by decide +kernel
theorem dX4_bestColumn_1 : decode cX4_bestColumn 1 = .ok (.iconst 1, 1) := by decide +kernel
theorem dX4_bestColumn_2 : decode cX4_bestColumn 2 = .ok (.bipush 12, 2) := by decide +kernel
theorem dX4_bestColumn_4 : decode cX4_bestColumn 4 = .ok (.invokestatic 55, 3) := by decide +kernel
theorem dX4_bestColumn_7 : decode cX4_bestColumn 7 = .ok (.ifCond .eq 17, 3) := by decide +kernel
theorem dX4_bestColumn_10 : decode cX4_bestColumn 10 = .ok (.iload_n 2, 1) := by decide +kernel
theorem dX4_bestColumn_11 : decode cX4_bestColumn 11 = .ok (.iconst 1, 1) := by decide +kernel
theorem dX4_bestColumn_12 : decode cX4_bestColumn 12 = .ok (.bipush 9, 2) := by decide +kernel
theorem dX4_bestColumn_14 : decode cX4_bestColumn 14 = .ok (.invokestatic 55, 3) := by decide +kernel
theorem dX4_bestColumn_17 : decode cX4_bestColumn 17 = .ok (.ifCond .eq 7, 3) := by decide +kernel
theorem dX4_bestColumn_20 : decode cX4_bestColumn 20 = .ok (.iconst 1, 1) := by decide +kernel
theorem dX4_bestColumn_21 : decode cX4_bestColumn 21 = .ok (.goto 4, 3) := by decide +kernel
theorem dX4_bestColumn_24 : decode cX4_bestColumn 24 = .ok (.iconst 0, 1) := by decide +kernel
theorem dX4_bestColumn_25 : decode cX4_bestColumn 25 = .ok (.istore_n 3, 1) := by decide +kernel
theorem dX4_bestColumn_26 : decode cX4_bestColumn 26 = .ok (.aload_n 0, 1) := by decide +kernel
theorem dX4_bestColumn_27 : decode cX4_bestColumn 27 = .ok (.iload_n 3, 1) := by decide +kernel
theorem dX4_bestColumn_28 : decode cX4_bestColumn 28 = .ok (.ifCond .eq 7, 3) := by decide +kernel
theorem dX4_bestColumn_31 : decode cX4_bestColumn 31 = .ok (.iconst 0, 1) := by decide +kernel
theorem dX4_bestColumn_32 : decode cX4_bestColumn 32 = .ok (.goto 4, 3) := by decide +kernel
theorem dX4_bestColumn_35 : decode cX4_bestColumn 35 = .ok (.iconst 1, 1) := by decide +kernel
theorem dX4_bestColumn_36 : decode cX4_bestColumn 36 = .ok (.invokevirtual 39, 3) := by decide +kernel
theorem dX4_bestColumn_39 : decode cX4_bestColumn 39 = .ok (.ifCond .eq 7, 3) := by decide +kernel
theorem dX4_bestColumn_42 : decode cX4_bestColumn 42 = .ok (.iconst 0, 1) := by decide +kernel
theorem dX4_bestColumn_43 : decode cX4_bestColumn 43 = .ok (.goto 9, 3) := by decide +kernel
theorem dX4_bestColumn_46 : decode cX4_bestColumn 46 = .ok (.aload_n 0, 1) := by decide +kernel
theorem dX4_bestColumn_47 : decode cX4_bestColumn 47 = .ok (.iload_n 1, 1) := by decide +kernel
theorem dX4_bestColumn_48 : decode cX4_bestColumn 48 = .ok (.iload_n 2, 1) := by decide +kernel
theorem dX4_bestColumn_49 : decode cX4_bestColumn 49 = .ok (.invokevirtual 227, 3) := by decide +kernel
theorem dX4_bestColumn_52 : decode cX4_bestColumn 52 = .ok (.ireturn, 1) := by decide +kernel
theorem dX4_without_0 : decode cX4_without 0 = .ok (.aload_n 0, 1) := by decide +kernel
theorem dX4_without_1 : decode cX4_without 1 = .ok (.getfield 7, 3) := by decide +kernel
theorem dX4_without_4 : decode cX4_without 4 = .ok (.iconst 0, 1) := by decide +kernel
theorem dX4_without_5 : decode cX4_without 5 = .ok (.aload_n 0, 1) := by decide +kernel
theorem dX4_without_6 : decode cX4_without 6 = .ok (.getfield 13, 3) := by decide +kernel
theorem dX4_without_9 : decode cX4_without 9 = .ok (.iconst 0, 1) := by decide +kernel
theorem dX4_without_10 : decode cX4_without 10 = .ok (.invokestatic 35, 3) := by decide +kernel
theorem dX4_without_13 : decode cX4_without 13 = .ok (.aload_n 0, 1) := by decide +kernel
theorem dX4_without_14 : decode cX4_without 14 = .ok (.getfield 13, 3) := by decide +kernel
theorem dX4_without_17 : decode cX4_without 17 = .ok (.iload_n 1, 1) := by decide +kernel
theorem dX4_without_18 : decode cX4_without 18 = .ok (.invokestatic 137, 3) := by decide +kernel
theorem dX4_without_21 : decode cX4_without 21 = .ok (.istore_n 2, 1) := by decide +kernel
theorem dX4_without_22 : decode cX4_without 22 = .ok (.aload_n 0, 1) := by decide +kernel
theorem dX4_without_23 : decode cX4_without 23 = .ok (.aload_n 0, 1) := by decide +kernel
theorem dX4_without_24 : decode cX4_without 24 = .ok (.getfield 13, 3) := by decide +kernel
theorem dX4_without_27 : decode cX4_without 27 = .ok (.invokevirtual 217, 3) := by decide +kernel
theorem dX4_without_30 : decode cX4_without 30 = .ok (.istore_n 3, 1) := by decide +kernel
theorem dX4_without_31 : decode cX4_without 31 = .ok (.iconst 0, 1) := by decide +kernel
theorem dX4_without_32 : decode cX4_without 32 = .ok (.istore 4, 2) := by decide +kernel
theorem dX4_without_34 : decode cX4_without 34 = .ok (.iconst 0, 1) := by decide +kernel
theorem dX4_without_35 : decode cX4_without 35 = .ok (.istore 5, 2) := by decide +kernel
theorem dX4_without_37 : decode cX4_without 37 = .ok (.iload 5, 2) := by decide +kernel
theorem dX4_without_39 : decode cX4_without 39 = .ok (.aload_n 0, 1) := by decide +kernel
theorem dX4_without_40 : decode cX4_without 40 = .ok (.getfield 7, 3) := by decide +kernel
theorem dX4_without_43 : decode cX4_without 43 = .ok (.iconst 0, 1) := by decide +kernel
theorem dX4_without_44 : decode cX4_without 44 = .ok (.iaload, 1) := by decide +kernel
theorem dX4_without_45 : decode cX4_without 45 = .ok (.if_icmp .ge 94, 3) := by decide +kernel
theorem dX4_without_48 : decode cX4_without 48 = .ok (.aload_n 0, 1) := by decide +kernel
theorem dX4_without_49 : decode cX4_without 49 = .ok (.getfield 7, 3) := by decide +kernel
theorem dX4_without_52 : decode cX4_without 52 = .ok (.iload 5, 2) := by decide +kernel
theorem dX4_without_54 : decode cX4_without 54 = .ok (.invokestatic 47, 3) := by decide +kernel
theorem dX4_without_57 : decode cX4_without 57 = .ok (.ifCond .eq 21, 3) := by decide +kernel
theorem dX4_without_60 : decode cX4_without 60 = .ok (.aload_n 0, 1) := by decide +kernel
theorem dX4_without_61 : decode cX4_without 61 = .ok (.getfield 7, 3) := by decide +kernel
theorem dX4_without_64 : decode cX4_without 64 = .ok (.iload 5, 2) := by decide +kernel
theorem dX4_without_66 : decode cX4_without 66 = .ok (.iconst 2, 1) := by decide +kernel
theorem dX4_without_67 : decode cX4_without 67 = .ok (.invokestatic 43, 3) := by decide +kernel
theorem dX4_without_70 : decode cX4_without 70 = .ok (.iload_n 1, 1) := by decide +kernel
theorem dX4_without_71 : decode cX4_without 71 = .ok (.if_icmp .eq 7, 3) := by decide +kernel
theorem dX4_without_74 : decode cX4_without 74 = .ok (.iconst 1, 1) := by decide +kernel
theorem dX4_without_75 : decode cX4_without 75 = .ok (.goto 4, 3) := by decide +kernel
theorem dX4_without_78 : decode cX4_without 78 = .ok (.iconst 0, 1) := by decide +kernel
theorem dX4_without_79 : decode cX4_without 79 = .ok (.istore 6, 2) := by decide +kernel
theorem dX4_without_81 : decode cX4_without 81 = .ok (.iload 4, 2) := by decide +kernel
theorem dX4_without_83 : decode cX4_without 83 = .ok (.iload 6, 2) := by decide +kernel
theorem dX4_without_85 : decode cX4_without 85 = .ok (.ifCond .eq 44, 3) := by decide +kernel
theorem dX4_without_88 : decode cX4_without 88 = .ok (.aload_n 0, 1) := by decide +kernel
theorem dX4_without_89 : decode cX4_without 89 = .ok (.getfield 13, 3) := by decide +kernel
theorem dX4_without_92 : decode cX4_without 92 = .ok (.iload 5, 2) := by decide +kernel
theorem dX4_without_94 : decode cX4_without 94 = .ok (.invokestatic 47, 3) := by decide +kernel
theorem dX4_without_97 : decode cX4_without 97 = .ok (.ifCond .eq 28, 3) := by decide +kernel
theorem dX4_without_100 : decode cX4_without 100 = .ok (.aload_n 0, 1) := by decide +kernel
theorem dX4_without_101 : decode cX4_without 101 = .ok (.getfield 13, 3) := by decide +kernel
theorem dX4_without_104 : decode cX4_without 104 = .ok (.iload 5, 2) := by decide +kernel
theorem dX4_without_106 : decode cX4_without 106 = .ok (.bipush 6, 2) := by decide +kernel
theorem dX4_without_108 : decode cX4_without 108 = .ok (.invokestatic 43, 3) := by decide +kernel
theorem dX4_without_111 : decode cX4_without 111 = .ok (.aload_n 0, 1) := by decide +kernel
theorem dX4_without_112 : decode cX4_without 112 = .ok (.getfield 7, 3) := by decide +kernel
theorem dX4_without_115 : decode cX4_without 115 = .ok (.iload 5, 2) := by decide +kernel
theorem dX4_without_117 : decode cX4_without 117 = .ok (.bipush 6, 2) := by decide +kernel
theorem dX4_without_119 : decode cX4_without 119 = .ok (.invokestatic 43, 3) := by decide +kernel
theorem dX4_without_122 : decode cX4_without 122 = .ok (.if_icmp .le 7, 3) := by decide +kernel
theorem dX4_without_125 : decode cX4_without 125 = .ok (.iconst 1, 1) := by decide +kernel
theorem dX4_without_126 : decode cX4_without 126 = .ok (.goto 4, 3) := by decide +kernel
theorem dX4_without_129 : decode cX4_without 129 = .ok (.iconst 0, 1) := by decide +kernel
theorem dX4_without_130 : decode cX4_without 130 = .ok (.iadd, 1) := by decide +kernel
theorem dX4_without_131 : decode cX4_without 131 = .ok (.istore 4, 2) := by decide +kernel
theorem dX4_without_133 : decode cX4_without 133 = .ok (.iinc 5 1, 3) := by decide +kernel
theorem dX4_without_136 : decode cX4_without 136 = .ok (.goto (-99), 3) := by decide +kernel
theorem dX4_without_139 : decode cX4_without 139 = .ok (.iload_n 3, 1) := by decide +kernel
theorem dX4_without_140 : decode cX4_without 140 = .ok (.iconst (-1), 1) := by decide +kernel
theorem dX4_without_141 : decode cX4_without 141 = .ok (.if_icmp .eq 7, 3) := by decide +kernel
theorem dX4_without_144 : decode cX4_without 144 = .ok (.iload_n 2, 1) := by decide +kernel
theorem dX4_without_145 : decode cX4_without 145 = .ok (.ifCond .ge 7, 3) := by decide +kernel
theorem dX4_without_148 : decode cX4_without 148 = .ok (.iconst (-1), 1) := by decide +kernel
theorem dX4_without_149 : decode cX4_without 149 = .ok (.goto 5, 3) := by decide +kernel
theorem dX4_without_152 : decode cX4_without 152 = .ok (.iload 4, 2) := by decide +kernel
theorem dX4_without_154 : decode cX4_without 154 = .ok (.ireturn, 1) := by decide +kernel
theorem dX4_ifReset_0 : decode cX4_ifReset 0 = .ok (.aload_n 0, 1) := by decide +kernel
theorem dX4_ifReset_1 : decode cX4_ifReset 1 = .ok (.iload_n 1, 1) := by decide +kernel
theorem dX4_ifReset_2 : decode cX4_ifReset 2 = .ok (.invokestatic 134, 3) := by decide +kernel
theorem dX4_ifReset_5 : decode cX4_ifReset 5 = .ok (.ifCond .eq 7, 3) := by decide +kernel
theorem dX4_ifReset_8 : decode cX4_ifReset 8 = .ok (.iconst 0, 1) := by decide +kernel
theorem dX4_ifReset_9 : decode cX4_ifReset 9 = .ok (.goto 4, 3) := by decide +kernel
theorem dX4_ifReset_12 : decode cX4_ifReset 12 = .ok (.iconst 1, 1) := by decide +kernel
theorem dX4_ifReset_13 : decode cX4_ifReset 13 = .ok (.invokevirtual 39, 3) := by decide +kernel
theorem dX4_ifReset_16 : decode cX4_ifReset 16 = .ok (.ifCond .eq 7, 3) := by decide +kernel
theorem dX4_ifReset_19 : decode cX4_ifReset 19 = .ok (.iconst 0, 1) := by decide +kernel
theorem dX4_ifReset_20 : decode cX4_ifReset 20 = .ok (.goto 8, 3) := by decide +kernel
theorem dX4_ifReset_23 : decode cX4_ifReset 23 = .ok (.aload_n 0, 1) := by decide +kernel
theorem dX4_ifReset_24 : decode cX4_ifReset 24 = .ok (.iload_n 1, 1) := by decide +kernel
theorem dX4_ifReset_25 : decode cX4_ifReset 25 = .ok (.invokevirtual 230, 3) := by decide +kernel
theorem dX4_ifReset_28 : decode cX4_ifReset 28 = .ok (.ireturn, 1) := by decide +kernel
theorem dX4_share_0 : decode cX4_share 0 = .ok (.aload_n 0, 1) := by decide +kernel
theorem dX4_share_1 : decode cX4_share 1 = .ok (.invokevirtual 208, 3) := by decide +kernel
theorem dX4_share_4 : decode cX4_share 4 = .ok (.i2d, 1) := by decide +kernel
theorem dX4_share_5 : decode cX4_share 5 = .ok (.ldc2_w 233, 3) := by decide +kernel
theorem dX4_share_8 : decode cX4_share 8 = .ok (.ddiv, 1) := by decide +kernel
theorem dX4_share_9 : decode cX4_share 9 = .ok (.dreturn, 1) := by decide +kernel
theorem dX4_fullness_0 : decode cX4_fullness 0 = .ok (.aload_n 0, 1) := by decide +kernel
theorem dX4_fullness_1 : decode cX4_fullness 1 = .ok (.iconst 0, 1) := by decide +kernel
theorem dX4_fullness_2 : decode cX4_fullness 2 = .ok (.putfield 28, 3) := by decide +kernel
theorem dX4_fullness_5 : decode cX4_fullness 5 = .ok (.aload_n 0, 1) := by decide +kernel
theorem dX4_fullness_6 : decode cX4_fullness 6 = .ok (.invokevirtual 235, 3) := by decide +kernel
theorem dX4_fullness_9 : decode cX4_fullness 9 = .ok (.dreturn, 1) := by decide +kernel
theorem dX4_mix_0 : decode cX4_mix 0 = .ok (.aload_n 0, 1) := by decide +kernel
theorem dX4_mix_1 : decode cX4_mix 1 = .ok (.ldc2_w 239, 3) := by decide +kernel
theorem dX4_mix_4 : decode cX4_mix 4 = .ok (.aload_n 0, 1) := by decide +kernel
theorem dX4_mix_5 : decode cX4_mix 5 = .ok (.getfield 241, 3) := by decide +kernel
theorem dX4_mix_8 : decode cX4_mix 8 = .ok (.lmul, 1) := by decide +kernel
theorem dX4_mix_9 : decode cX4_mix 9 = .ok (.lload_n 1, 1) := by decide +kernel
theorem dX4_mix_10 : decode cX4_mix 10 = .ok (.ladd, 1) := by decide +kernel
theorem dX4_mix_11 : decode cX4_mix 11 = .ok (.putfield 241, 3) := by decide +kernel
theorem dX4_mix_14 : decode cX4_mix 14 = .ok (.return_, 1) := by decide +kernel
theorem dX4_mixScreen_0 : decode cX4_mixScreen 0 = .ok (.iconst 0, 1) := by decide +kernel
theorem dX4_mixScreen_1 : decode cX4_mixScreen 1 = .ok (.istore_n 1, 1) := by decide +kernel
theorem dX4_mixScreen_2 : decode cX4_mixScreen 2 = .ok (.iload_n 1, 1) := by decide +kernel
theorem dX4_mixScreen_3 : decode cX4_mixScreen 3 = .ok (.aload_n 0, 1) := by decide +kernel
theorem dX4_mixScreen_4 : decode cX4_mixScreen 4 = .ok (.getfield 7, 3) := by decide +kernel
theorem dX4_mixScreen_7 : decode cX4_mixScreen 7 = .ok (.iconst 0, 1) := by decide +kernel
theorem dX4_mixScreen_8 : decode cX4_mixScreen 8 = .ok (.iaload, 1) := by decide +kernel
theorem dX4_mixScreen_9 : decode cX4_mixScreen 9 = .ok (.if_icmp .ge 34, 3) := by decide +kernel
theorem dX4_mixScreen_12 : decode cX4_mixScreen 12 = .ok (.iconst 0, 1) := by decide +kernel
theorem dX4_mixScreen_13 : decode cX4_mixScreen 13 = .ok (.istore_n 2, 1) := by decide +kernel
theorem dX4_mixScreen_14 : decode cX4_mixScreen 14 = .ok (.iload_n 2, 1) := by decide +kernel
theorem dX4_mixScreen_15 : decode cX4_mixScreen 15 = .ok (.bipush 12, 2) := by decide +kernel
theorem dX4_mixScreen_17 : decode cX4_mixScreen 17 = .ok (.if_icmp .ge 20, 3) := by decide +kernel
theorem dX4_mixScreen_20 : decode cX4_mixScreen 20 = .ok (.aload_n 0, 1) := by decide +kernel
theorem dX4_mixScreen_21 : decode cX4_mixScreen 21 = .ok (.aload_n 0, 1) := by decide +kernel
theorem dX4_mixScreen_22 : decode cX4_mixScreen 22 = .ok (.iload_n 1, 1) := by decide +kernel
theorem dX4_mixScreen_23 : decode cX4_mixScreen 23 = .ok (.iload_n 2, 1) := by decide +kernel
theorem dX4_mixScreen_24 : decode cX4_mixScreen 24 = .ok (.invokevirtual 188, 3) := by decide +kernel
theorem dX4_mixScreen_27 : decode cX4_mixScreen 27 = .ok (.i2l, 1) := by decide +kernel
theorem dX4_mixScreen_28 : decode cX4_mixScreen 28 = .ok (.invokevirtual 245, 3) := by decide +kernel
theorem dX4_mixScreen_31 : decode cX4_mixScreen 31 = .ok (.iinc 2 1, 3) := by decide +kernel
theorem dX4_mixScreen_34 : decode cX4_mixScreen 34 = .ok (.goto (-20), 3) := by decide +kernel
theorem dX4_mixScreen_37 : decode cX4_mixScreen 37 = .ok (.iinc 1 1, 3) := by decide +kernel
theorem dX4_mixScreen_40 : decode cX4_mixScreen 40 = .ok (.goto (-38), 3) := by decide +kernel
theorem dX4_mixScreen_43 : decode cX4_mixScreen 43 = .ok (.iconst 0, 1) := by decide +kernel
theorem dX4_mixScreen_44 : decode cX4_mixScreen 44 = .ok (.istore_n 1, 1) := by decide +kernel
theorem dX4_mixScreen_45 : decode cX4_mixScreen 45 = .ok (.iload_n 1, 1) := by decide +kernel
theorem dX4_mixScreen_46 : decode cX4_mixScreen 46 = .ok (.sipush 384, 3) := by decide +kernel
theorem dX4_mixScreen_49 : decode cX4_mixScreen 49 = .ok (.if_icmp .ge 26, 3) := by decide +kernel
theorem dX4_mixScreen_52 : decode cX4_mixScreen 52 = .ok (.aload_n 0, 1) := by decide +kernel
theorem dX4_mixScreen_53 : decode cX4_mixScreen 53 = .ok (.aload_n 0, 1) := by decide +kernel
theorem dX4_mixScreen_54 : decode cX4_mixScreen 54 = .ok (.iload_n 1, 1) := by decide +kernel
theorem dX4_mixScreen_55 : decode cX4_mixScreen 55 = .ok (.bipush 24, 2) := by decide +kernel
theorem dX4_mixScreen_57 : decode cX4_mixScreen 57 = .ok (.idiv, 1) := by decide +kernel
theorem dX4_mixScreen_58 : decode cX4_mixScreen 58 = .ok (.iload_n 1, 1) := by decide +kernel
theorem dX4_mixScreen_59 : decode cX4_mixScreen 59 = .ok (.bipush 24, 2) := by decide +kernel
theorem dX4_mixScreen_61 : decode cX4_mixScreen 61 = .ok (.irem, 1) := by decide +kernel
theorem dX4_mixScreen_62 : decode cX4_mixScreen 62 = .ok (.invokevirtual 192, 3) := by decide +kernel
theorem dX4_mixScreen_65 : decode cX4_mixScreen 65 = .ok (.i2l, 1) := by decide +kernel
theorem dX4_mixScreen_66 : decode cX4_mixScreen 66 = .ok (.invokevirtual 245, 3) := by decide +kernel
theorem dX4_mixScreen_69 : decode cX4_mixScreen 69 = .ok (.iinc 1 1, 3) := by decide +kernel
theorem dX4_mixScreen_72 : decode cX4_mixScreen 72 = .ok (.goto (-27), 3) := by decide +kernel
theorem dX4_mixScreen_75 : decode cX4_mixScreen 75 = .ok (.iconst 0, 1) := by decide +kernel
theorem dX4_mixScreen_76 : decode cX4_mixScreen 76 = .ok (.istore_n 1, 1) := by decide +kernel
theorem dX4_mixScreen_77 : decode cX4_mixScreen 77 = .ok (.iload_n 1, 1) := by decide +kernel
theorem dX4_mixScreen_78 : decode cX4_mixScreen 78 = .ok (.bipush 10, 2) := by decide +kernel
theorem dX4_mixScreen_80 : decode cX4_mixScreen 80 = .ok (.if_icmp .ge 19, 3) := by decide +kernel
theorem dX4_mixScreen_83 : decode cX4_mixScreen 83 = .ok (.aload_n 0, 1) := by decide +kernel
theorem dX4_mixScreen_84 : decode cX4_mixScreen 84 = .ok (.aload_n 0, 1) := by decide +kernel
theorem dX4_mixScreen_85 : decode cX4_mixScreen 85 = .ok (.iload_n 1, 1) := by decide +kernel
theorem dX4_mixScreen_86 : decode cX4_mixScreen 86 = .ok (.invokevirtual 195, 3) := by decide +kernel
theorem dX4_mixScreen_89 : decode cX4_mixScreen 89 = .ok (.i2l, 1) := by decide +kernel
theorem dX4_mixScreen_90 : decode cX4_mixScreen 90 = .ok (.invokevirtual 245, 3) := by decide +kernel
theorem dX4_mixScreen_93 : decode cX4_mixScreen 93 = .ok (.iinc 1 1, 3) := by decide +kernel
theorem dX4_mixScreen_96 : decode cX4_mixScreen 96 = .ok (.goto (-19), 3) := by decide +kernel
theorem dX4_mixScreen_99 : decode cX4_mixScreen 99 = .ok (.return_, 1) := by decide +kernel
theorem dX4_digest_0 : decode cX4_digest 0 = .ok (.aload_n 0, 1) := by decide +kernel
theorem dX4_digest_1 : decode cX4_digest 1 = .ok (.iconst 0, 1) := by decide +kernel
theorem dX4_digest_2 : decode cX4_digest 2 = .ok (.putfield 28, 3) := by decide +kernel
theorem dX4_digest_5 : decode cX4_digest 5 = .ok (.aload_n 0, 1) := by decide +kernel
theorem dX4_digest_6 : decode cX4_digest 6 = .ok (.ldc2_w 249, 3) := by decide +kernel
theorem dX4_digest_9 : decode cX4_digest 9 = .ok (.putfield 241, 3) := by decide +kernel
theorem dX4_digest_12 : decode cX4_digest 12 = .ok (.iconst 0, 1) := by decide +kernel
theorem dX4_digest_13 : decode cX4_digest 13 = .ok (.istore_n 1, 1) := by decide +kernel
theorem dX4_digest_14 : decode cX4_digest 14 = .ok (.iload_n 1, 1) := by decide +kernel
theorem dX4_digest_15 : decode cX4_digest 15 = .ok (.bipush 12, 2) := by decide +kernel
theorem dX4_digest_17 : decode cX4_digest 17 = .ok (.if_icmp .ge 19, 3) := by decide +kernel
theorem dX4_digest_20 : decode cX4_digest 20 = .ok (.aload_n 0, 1) := by decide +kernel
theorem dX4_digest_21 : decode cX4_digest 21 = .ok (.aload_n 0, 1) := by decide +kernel
theorem dX4_digest_22 : decode cX4_digest 22 = .ok (.iload_n 1, 1) := by decide +kernel
theorem dX4_digest_23 : decode cX4_digest 23 = .ok (.invokevirtual 214, 3) := by decide +kernel
theorem dX4_digest_26 : decode cX4_digest 26 = .ok (.i2l, 1) := by decide +kernel
theorem dX4_digest_27 : decode cX4_digest 27 = .ok (.invokevirtual 245, 3) := by decide +kernel
theorem dX4_digest_30 : decode cX4_digest 30 = .ok (.iinc 1 1, 3) := by decide +kernel
theorem dX4_digest_33 : decode cX4_digest 33 = .ok (.goto (-19), 3) := by decide +kernel
theorem dX4_digest_36 : decode cX4_digest 36 = .ok (.aload_n 0, 1) := by decide +kernel
theorem dX4_digest_37 : decode cX4_digest 37 = .ok (.aload_n 0, 1) := by decide +kernel
theorem dX4_digest_38 : decode cX4_digest 38 = .ok (.getfield 7, 3) := by decide +kernel
theorem dX4_digest_41 : decode cX4_digest 41 = .ok (.iconst 2, 1) := by decide +kernel
theorem dX4_digest_42 : decode cX4_digest 42 = .ok (.iaload, 1) := by decide +kernel
theorem dX4_digest_43 : decode cX4_digest 43 = .ok (.i2l, 1) := by decide +kernel
theorem dX4_digest_44 : decode cX4_digest 44 = .ok (.invokevirtual 245, 3) := by decide +kernel
theorem dX4_digest_47 : decode cX4_digest 47 = .ok (.aload_n 0, 1) := by decide +kernel
theorem dX4_digest_48 : decode cX4_digest 48 = .ok (.invokevirtual 251, 3) := by decide +kernel
theorem dX4_digest_51 : decode cX4_digest 51 = .ok (.aload_n 0, 1) := by decide +kernel
theorem dX4_digest_52 : decode cX4_digest 52 = .ok (.aload_n 0, 1) := by decide +kernel
theorem dX4_digest_53 : decode cX4_digest 53 = .ok (.invokevirtual 220, 3) := by decide +kernel
theorem dX4_digest_56 : decode cX4_digest 56 = .ok (.i2l, 1) := by decide +kernel
theorem dX4_digest_57 : decode cX4_digest 57 = .ok (.invokevirtual 245, 3) := by decide +kernel
theorem dX4_digest_60 : decode cX4_digest 60 = .ok (.iconst 0, 1) := by decide +kernel
theorem dX4_digest_61 : decode cX4_digest 61 = .ok (.istore_n 1, 1) := by decide +kernel
theorem dX4_digest_62 : decode cX4_digest 62 = .ok (.iload_n 1, 1) := by decide +kernel
theorem dX4_digest_63 : decode cX4_digest 63 = .ok (.iconst 3, 1) := by decide +kernel
theorem dX4_digest_64 : decode cX4_digest 64 = .ok (.if_icmp .ge 22, 3) := by decide +kernel
theorem dX4_digest_67 : decode cX4_digest 67 = .ok (.aload_n 0, 1) := by decide +kernel
theorem dX4_digest_68 : decode cX4_digest 68 = .ok (.aload_n 0, 1) := by decide +kernel
theorem dX4_digest_69 : decode cX4_digest 69 = .ok (.iconst 5, 1) := by decide +kernel
theorem dX4_digest_70 : decode cX4_digest 70 = .ok (.iconst 3, 1) := by decide +kernel
theorem dX4_digest_71 : decode cX4_digest 71 = .ok (.iconst 4, 1) := by decide +kernel
theorem dX4_digest_72 : decode cX4_digest 72 = .ok (.iload_n 1, 1) := by decide +kernel
theorem dX4_digest_73 : decode cX4_digest 73 = .ok (.invokevirtual 223, 3) := by decide +kernel
theorem dX4_digest_76 : decode cX4_digest 76 = .ok (.i2l, 1) := by decide +kernel
theorem dX4_digest_77 : decode cX4_digest 77 = .ok (.invokevirtual 245, 3) := by decide +kernel
theorem dX4_digest_80 : decode cX4_digest 80 = .ok (.iinc 1 1, 3) := by decide +kernel
theorem dX4_digest_83 : decode cX4_digest 83 = .ok (.goto (-21), 3) := by decide +kernel
theorem dX4_digest_86 : decode cX4_digest 86 = .ok (.aload_n 0, 1) := by decide +kernel
theorem dX4_digest_87 : decode cX4_digest 87 = .ok (.aload_n 0, 1) := by decide +kernel
theorem dX4_digest_88 : decode cX4_digest 88 = .ok (.bipush 6, 2) := by decide +kernel
theorem dX4_digest_90 : decode cX4_digest 90 = .ok (.iconst 2, 1) := by decide +kernel
theorem dX4_digest_91 : decode cX4_digest 91 = .ok (.invokevirtual 227, 3) := by decide +kernel
theorem dX4_digest_94 : decode cX4_digest 94 = .ok (.i2l, 1) := by decide +kernel
theorem dX4_digest_95 : decode cX4_digest 95 = .ok (.invokevirtual 245, 3) := by decide +kernel
theorem dX4_digest_98 : decode cX4_digest 98 = .ok (.iconst 0, 1) := by decide +kernel
theorem dX4_digest_99 : decode cX4_digest 99 = .ok (.istore_n 1, 1) := by decide +kernel
theorem dX4_digest_100 : decode cX4_digest 100 = .ok (.iload_n 1, 1) := by decide +kernel
theorem dX4_digest_101 : decode cX4_digest 101 = .ok (.iconst 4, 1) := by decide +kernel
theorem dX4_digest_102 : decode cX4_digest 102 = .ok (.if_icmp .ge 19, 3) := by decide +kernel
theorem dX4_digest_105 : decode cX4_digest 105 = .ok (.aload_n 0, 1) := by decide +kernel
theorem dX4_digest_106 : decode cX4_digest 106 = .ok (.aload_n 0, 1) := by decide +kernel
theorem dX4_digest_107 : decode cX4_digest 107 = .ok (.iload_n 1, 1) := by decide +kernel
theorem dX4_digest_108 : decode cX4_digest 108 = .ok (.invokevirtual 230, 3) := by decide +kernel
theorem dX4_digest_111 : decode cX4_digest 111 = .ok (.i2l, 1) := by decide +kernel
theorem dX4_digest_112 : decode cX4_digest 112 = .ok (.invokevirtual 245, 3) := by decide +kernel
theorem dX4_digest_115 : decode cX4_digest 115 = .ok (.iinc 1 1, 3) := by decide +kernel
theorem dX4_digest_118 : decode cX4_digest 118 = .ok (.goto (-18), 3) := by decide +kernel
theorem dX4_digest_121 : decode cX4_digest 121 = .ok (.aload_n 0, 1) := by decide +kernel
theorem dX4_digest_122 : decode cX4_digest 122 = .ok (.aload_n 0, 1) := by decide +kernel
theorem dX4_digest_123 : decode cX4_digest 123 = .ok (.invokevirtual 235, 3) := by decide +kernel
theorem dX4_digest_126 : decode cX4_digest 126 = .ok (.invokestatic 254, 3) := by decide +kernel
theorem dX4_digest_129 : decode cX4_digest 129 = .ok (.invokevirtual 245, 3) := by decide +kernel
theorem dX4_digest_132 : decode cX4_digest 132 = .ok (.aload_n 0, 1) := by decide +kernel
theorem dX4_digest_133 : decode cX4_digest 133 = .ok (.aload_n 0, 1) := by decide +kernel
theorem dX4_digest_134 : decode cX4_digest 134 = .ok (.getfield 147, 3) := by decide +kernel
theorem dX4_digest_137 : decode cX4_digest 137 = .ok (.i2l, 1) := by decide +kernel
theorem dX4_digest_138 : decode cX4_digest 138 = .ok (.invokevirtual 245, 3) := by decide +kernel
theorem dX4_digest_141 : decode cX4_digest 141 = .ok (.iconst 0, 1) := by decide +kernel
theorem dX4_digest_142 : decode cX4_digest 142 = .ok (.istore_n 1, 1) := by decide +kernel
theorem dX4_digest_143 : decode cX4_digest 143 = .ok (.iload_n 1, 1) := by decide +kernel
theorem dX4_digest_144 : decode cX4_digest 144 = .ok (.aload_n 0, 1) := by decide +kernel
theorem dX4_digest_145 : decode cX4_digest 145 = .ok (.getfield 147, 3) := by decide +kernel
theorem dX4_digest_148 : decode cX4_digest 148 = .ok (.if_icmp .ge 20, 3) := by decide +kernel
theorem dX4_digest_151 : decode cX4_digest 151 = .ok (.aload_n 0, 1) := by decide +kernel
theorem dX4_digest_152 : decode cX4_digest 152 = .ok (.aload_n 0, 1) := by decide +kernel
theorem dX4_digest_153 : decode cX4_digest 153 = .ok (.getfield 19, 3) := by decide +kernel
theorem dX4_digest_156 : decode cX4_digest 156 = .ok (.iload_n 1, 1) := by decide +kernel
theorem dX4_digest_157 : decode cX4_digest 157 = .ok (.iaload, 1) := by decide +kernel
theorem dX4_digest_158 : decode cX4_digest 158 = .ok (.i2l, 1) := by decide +kernel
theorem dX4_digest_159 : decode cX4_digest 159 = .ok (.invokevirtual 245, 3) := by decide +kernel
theorem dX4_digest_162 : decode cX4_digest 162 = .ok (.iinc 1 1, 3) := by decide +kernel
theorem dX4_digest_165 : decode cX4_digest 165 = .ok (.goto (-22), 3) := by decide +kernel
theorem dX4_digest_168 : decode cX4_digest 168 = .ok (.aload_n 0, 1) := by decide +kernel
theorem dX4_digest_169 : decode cX4_digest 169 = .ok (.getfield 241, 3) := by decide +kernel
theorem dX4_digest_172 : decode cX4_digest 172 = .ok (.lreturn, 1) := by decide +kernel
theorem dJxe99ae_isNaN_b9ae7_0 : decode cJxe99ae_isNaN_b9ae7 0 = .ok (.dload_n 0, 1) := by decide +kernel
theorem dJxe99ae_isNaN_b9ae7_1 : decode cJxe99ae_isNaN_b9ae7 1 = .ok (.dload_n 0, 1) := by decide +kernel
theorem dJxe99ae_isNaN_b9ae7_2 : decode cJxe99ae_isNaN_b9ae7 2 = .ok (.dcmp .l, 1) := by decide +kernel
theorem dJxe99ae_isNaN_b9ae7_3 : decode cJxe99ae_isNaN_b9ae7 3 = .ok (.ifCond .eq 7, 3) := by decide +kernel
theorem dJxe99ae_isNaN_b9ae7_6 : decode cJxe99ae_isNaN_b9ae7 6 = .ok (.iconst 1, 1) := by decide +kernel
theorem dJxe99ae_isNaN_b9ae7_7 : decode cJxe99ae_isNaN_b9ae7 7 = .ok (.goto 4, 3) := by decide +kernel
theorem dJxe99ae_isNaN_b9ae7_10 : decode cJxe99ae_isNaN_b9ae7 10 = .ok (.iconst 0, 1) := by decide +kernel
theorem dJxe99ae_isNaN_b9ae7_11 : decode cJxe99ae_isNaN_b9ae7 11 = .ok (.ireturn, 1) := by decide +kernel
theorem dJxe99ae_doubleToLongBits_ccdee_0 : decode cJxe99ae_doubleToLongBits_ccdee 0 = .ok (.dload_n 0, 1) := by decide +kernel
theorem dJxe99ae_doubleToLongBits_ccdee_1 : decode cJxe99ae_doubleToLongBits_ccdee 1 = .ok (.invokestatic 122, 3) := by decide +kernel
theorem dJxe99ae_doubleToLongBits_ccdee_4 : decode cJxe99ae_doubleToLongBits_ccdee 4 = .ok (.ifCond .ne 8, 3) := by decide +kernel
theorem dJxe99ae_doubleToLongBits_ccdee_7 : decode cJxe99ae_doubleToLongBits_ccdee 7 = .ok (.dload_n 0, 1) := by decide +kernel
theorem dJxe99ae_doubleToLongBits_ccdee_8 : decode cJxe99ae_doubleToLongBits_ccdee 8 = .ok (.invokestatic 134, 3) := by decide +kernel
theorem dJxe99ae_doubleToLongBits_ccdee_11 : decode cJxe99ae_doubleToLongBits_ccdee 11 = .ok (.lreturn, 1) := by decide +kernel
theorem dJxe99ae_doubleToLongBits_ccdee_12 : decode cJxe99ae_doubleToLongBits_ccdee 12 = .ok (.ldc2_w 137, 3) := by decide +kernel
theorem dJxe99ae_doubleToLongBits_ccdee_15 : decode cJxe99ae_doubleToLongBits_ccdee 15 = .ok (.lreturn, 1) := by decide +kernel
theorem dJ9_max_7cf53_0 : decode cJ9_max_7cf53 0 = .ok (.iload_n 0, 1) := by decide +kernel
theorem dJ9_max_7cf53_1 : decode cJ9_max_7cf53 1 = .ok (.iload_n 1, 1) := by decide +kernel
theorem dJ9_max_7cf53_2 : decode cJ9_max_7cf53 2 = .ok (.if_icmp .lt 7, 3) := by decide +kernel
theorem dJ9_max_7cf53_5 : decode cJ9_max_7cf53 5 = .ok (.iload_n 0, 1) := by decide +kernel
theorem dJ9_max_7cf53_6 : decode cJ9_max_7cf53 6 = .ok (.goto 4, 3) := by decide +kernel
theorem dJ9_max_7cf53_9 : decode cJ9_max_7cf53 9 = .ok (.iload_n 1, 1) := by decide +kernel
theorem dJ9_max_7cf53_10 : decode cJ9_max_7cf53 10 = .ok (.ireturn, 1) := by decide +kernel
theorem dL_line_0 : decode cL_line 0 = .ok (.aload 6, 2) := by decide +kernel
theorem dL_line_2 : decode cL_line 2 = .ok (.iconst 0, 1) := by decide +kernel
theorem dL_line_3 : decode cL_line 3 = .ok (.aload_n 0, 1) := by decide +kernel
theorem dL_line_4 : decode cL_line 4 = .ok (.iload_n 1, 1) := by decide +kernel
theorem dL_line_5 : decode cL_line 5 = .ok (.iload_n 2, 1) := by decide +kernel
theorem dL_line_6 : decode cL_line 6 = .ok (.iload_n 3, 1) := by decide +kernel
theorem dL_line_7 : decode cL_line 7 = .ok (.iload 4, 2) := by decide +kernel
theorem dL_line_9 : decode cL_line 9 = .ok (.iload 5, 2) := by decide +kernel
theorem dL_line_11 : decode cL_line 11 = .ok (.invokevirtual 7, 3) := by decide +kernel
theorem dL_line_14 : decode cL_line 14 = .ok (.i2l, 1) := by decide +kernel
theorem dL_line_15 : decode cL_line 15 = .ok (.lastore, 1) := by decide +kernel
theorem dL_line_16 : decode cL_line 16 = .ok (.goto 11, 3) := by decide +kernel
theorem dL_line_19 : decode cL_line 19 = .ok (.astore 7, 2) := by decide +kernel
theorem dL_line_21 : decode cL_line 21 = .ok (.iconst 1, 1) := by decide +kernel
theorem dL_line_22 : decode cL_line 22 = .ok (.ireturn, 1) := by decide +kernel
theorem dL_line_23 : decode cL_line 23 = .ok (.astore 7, 2) := by decide +kernel
theorem dL_line_25 : decode cL_line 25 = .ok (.iconst 2, 1) := by decide +kernel
theorem dL_line_26 : decode cL_line 26 = .ok (.ireturn, 1) := by decide +kernel
theorem dL_line_27 : decode cL_line 27 = .ok (.iconst 0, 1) := by decide +kernel
theorem dL_line_28 : decode cL_line 28 = .ok (.ireturn, 1) := by decide +kernel
theorem dL_run_0 : decode cL_run 0 = .ok (.aload_n 2, 1) := by decide +kernel
theorem dL_run_1 : decode cL_run 1 = .ok (.iconst 0, 1) := by decide +kernel
theorem dL_run_2 : decode cL_run 2 = .ok (.aload_n 0, 1) := by decide +kernel
theorem dL_run_3 : decode cL_run 3 = .ok (.iload_n 1, 1) := by decide +kernel
theorem dL_run_4 : decode cL_run 4 = .ok (.invokevirtual 17, 3) := by decide +kernel
theorem dL_run_7 : decode cL_run 7 = .ok (.i2l, 1) := by decide +kernel
theorem dL_run_8 : decode cL_run 8 = .ok (.lastore, 1) := by decide +kernel
theorem dL_run_9 : decode cL_run 9 = .ok (.goto 9, 3) := by decide +kernel
theorem dL_run_12 : decode cL_run 12 = .ok (.astore_n 3, 1) := by decide +kernel
theorem dL_run_13 : decode cL_run 13 = .ok (.iconst 1, 1) := by decide +kernel
theorem dL_run_14 : decode cL_run 14 = .ok (.ireturn, 1) := by decide +kernel
theorem dL_run_15 : decode cL_run 15 = .ok (.astore_n 3, 1) := by decide +kernel
theorem dL_run_16 : decode cL_run 16 = .ok (.iconst 2, 1) := by decide +kernel
theorem dL_run_17 : decode cL_run 17 = .ok (.ireturn, 1) := by decide +kernel
theorem dL_run_18 : decode cL_run 18 = .ok (.iconst 0, 1) := by decide +kernel
theorem dL_run_19 : decode cL_run 19 = .ok (.ireturn, 1) := by decide +kernel
theorem dL_reset_0 : decode cL_reset 0 = .ok (.aload_n 2, 1) := by decide +kernel
theorem dL_reset_1 : decode cL_reset 1 = .ok (.iconst 0, 1) := by decide +kernel
theorem dL_reset_2 : decode cL_reset 2 = .ok (.aload_n 0, 1) := by decide +kernel
theorem dL_reset_3 : decode cL_reset 3 = .ok (.iload_n 1, 1) := by decide +kernel
theorem dL_reset_4 : decode cL_reset 4 = .ok (.invokevirtual 21, 3) := by decide +kernel
theorem dL_reset_7 : decode cL_reset 7 = .ok (.i2l, 1) := by decide +kernel
theorem dL_reset_8 : decode cL_reset 8 = .ok (.lastore, 1) := by decide +kernel
theorem dL_reset_9 : decode cL_reset 9 = .ok (.goto 6, 3) := by decide +kernel
theorem dL_reset_12 : decode cL_reset 12 = .ok (.astore_n 3, 1) := by decide +kernel
theorem dL_reset_13 : decode cL_reset 13 = .ok (.iconst 1, 1) := by decide +kernel
theorem dL_reset_14 : decode cL_reset 14 = .ok (.ireturn, 1) := by decide +kernel
theorem dL_reset_15 : decode cL_reset 15 = .ok (.iconst 0, 1) := by decide +kernel
theorem dL_reset_16 : decode cL_reset 16 = .ok (.ireturn, 1) := by decide +kernel
theorem dL_push_0 : decode cL_push 0 = .ok (.aload_n 3, 1) := by decide +kernel
theorem dL_push_1 : decode cL_push 1 = .ok (.iconst 0, 1) := by decide +kernel
theorem dL_push_2 : decode cL_push 2 = .ok (.aload_n 0, 1) := by decide +kernel
theorem dL_push_3 : decode cL_push 3 = .ok (.iload_n 1, 1) := by decide +kernel
theorem dL_push_4 : decode cL_push 4 = .ok (.iload_n 2, 1) := by decide +kernel
theorem dL_push_5 : decode cL_push 5 = .ok (.invokevirtual 24, 3) := by decide +kernel
theorem dL_push_8 : decode cL_push 8 = .ok (.i2l, 1) := by decide +kernel
theorem dL_push_9 : decode cL_push 9 = .ok (.lastore, 1) := by decide +kernel
theorem dL_push_10 : decode cL_push 10 = .ok (.goto 11, 3) := by decide +kernel
theorem dL_push_13 : decode cL_push 13 = .ok (.astore 4, 2) := by decide +kernel
theorem dL_push_15 : decode cL_push 15 = .ok (.iconst 1, 1) := by decide +kernel
theorem dL_push_16 : decode cL_push 16 = .ok (.ireturn, 1) := by decide +kernel
theorem dL_push_17 : decode cL_push 17 = .ok (.astore 4, 2) := by decide +kernel
theorem dL_push_19 : decode cL_push 19 = .ok (.iconst 2, 1) := by decide +kernel
theorem dL_push_20 : decode cL_push 20 = .ok (.ireturn, 1) := by decide +kernel
theorem dL_push_21 : decode cL_push 21 = .ok (.iconst 0, 1) := by decide +kernel
theorem dL_push_22 : decode cL_push 22 = .ok (.ireturn, 1) := by decide +kernel
theorem dL_set_0 : decode cL_set 0 = .ok (.aload_n 2, 1) := by decide +kernel
theorem dL_set_1 : decode cL_set 1 = .ok (.iconst 0, 1) := by decide +kernel
theorem dL_set_2 : decode cL_set 2 = .ok (.aload_n 0, 1) := by decide +kernel
theorem dL_set_3 : decode cL_set 3 = .ok (.iload_n 1, 1) := by decide +kernel
theorem dL_set_4 : decode cL_set 4 = .ok (.invokevirtual 30, 3) := by decide +kernel
theorem dL_set_7 : decode cL_set 7 = .ok (.i2l, 1) := by decide +kernel
theorem dL_set_8 : decode cL_set 8 = .ok (.lastore, 1) := by decide +kernel
theorem dL_set_9 : decode cL_set 9 = .ok (.goto 6, 3) := by decide +kernel
theorem dL_set_12 : decode cL_set 12 = .ok (.astore_n 3, 1) := by decide +kernel
theorem dL_set_13 : decode cL_set 13 = .ok (.iconst 1, 1) := by decide +kernel
theorem dL_set_14 : decode cL_set 14 = .ok (.ireturn, 1) := by decide +kernel
theorem dL_set_15 : decode cL_set 15 = .ok (.iconst 0, 1) := by decide +kernel
theorem dL_set_16 : decode cL_set 16 = .ok (.ireturn, 1) := by decide +kernel
theorem dL_append_0 : decode cL_append 0 = .ok (.aload_n 2, 1) := by decide +kernel
theorem dL_append_1 : decode cL_append 1 = .ok (.iconst 0, 1) := by decide +kernel
theorem dL_append_2 : decode cL_append 2 = .ok (.aload_n 0, 1) := by decide +kernel
theorem dL_append_3 : decode cL_append 3 = .ok (.iload_n 1, 1) := by decide +kernel
theorem dL_append_4 : decode cL_append 4 = .ok (.invokevirtual 33, 3) := by decide +kernel
theorem dL_append_7 : decode cL_append 7 = .ok (.i2l, 1) := by decide +kernel
theorem dL_append_8 : decode cL_append 8 = .ok (.lastore, 1) := by decide +kernel
theorem dL_append_9 : decode cL_append 9 = .ok (.goto 9, 3) := by decide +kernel
theorem dL_append_12 : decode cL_append 12 = .ok (.astore_n 3, 1) := by decide +kernel
theorem dL_append_13 : decode cL_append 13 = .ok (.iconst 1, 1) := by decide +kernel
theorem dL_append_14 : decode cL_append 14 = .ok (.ireturn, 1) := by decide +kernel
theorem dL_append_15 : decode cL_append 15 = .ok (.astore_n 3, 1) := by decide +kernel
theorem dL_append_16 : decode cL_append 16 = .ok (.iconst 2, 1) := by decide +kernel
theorem dL_append_17 : decode cL_append 17 = .ok (.ireturn, 1) := by decide +kernel
theorem dL_append_18 : decode cL_append 18 = .ok (.iconst 0, 1) := by decide +kernel
theorem dL_append_19 : decode cL_append 19 = .ok (.ireturn, 1) := by decide +kernel
theorem dL_read_0 : decode cL_read 0 = .ok (.aload_n 1, 1) := by decide +kernel
theorem dL_read_1 : decode cL_read 1 = .ok (.iconst 0, 1) := by decide +kernel
theorem dL_read_2 : decode cL_read 2 = .ok (.aload_n 0, 1) := by decide +kernel
theorem dL_read_3 : decode cL_read 3 = .ok (.invokevirtual 36, 3) := by decide +kernel
theorem dL_read_6 : decode cL_read 6 = .ok (.i2l, 1) := by decide +kernel
theorem dL_read_7 : decode cL_read 7 = .ok (.lastore, 1) := by decide +kernel
theorem dL_read_8 : decode cL_read 8 = .ok (.goto 6, 3) := by decide +kernel
theorem dL_read_11 : decode cL_read 11 = .ok (.astore_n 2, 1) := by decide +kernel
theorem dL_read_12 : decode cL_read 12 = .ok (.iconst 1, 1) := by decide +kernel
theorem dL_read_13 : decode cL_read 13 = .ok (.ireturn, 1) := by decide +kernel
theorem dL_read_14 : decode cL_read 14 = .ok (.iconst 0, 1) := by decide +kernel
theorem dL_read_15 : decode cL_read 15 = .ok (.ireturn, 1) := by decide +kernel
theorem dL_undo_0 : decode cL_undo 0 = .ok (.aload_n 1, 1) := by decide +kernel
theorem dL_undo_1 : decode cL_undo 1 = .ok (.iconst 0, 1) := by decide +kernel
theorem dL_undo_2 : decode cL_undo 2 = .ok (.aload_n 0, 1) := by decide +kernel
theorem dL_undo_3 : decode cL_undo 3 = .ok (.invokevirtual 40, 3) := by decide +kernel
theorem dL_undo_6 : decode cL_undo 6 = .ok (.i2l, 1) := by decide +kernel
theorem dL_undo_7 : decode cL_undo 7 = .ok (.lastore, 1) := by decide +kernel
theorem dL_undo_8 : decode cL_undo 8 = .ok (.goto 6, 3) := by decide +kernel
theorem dL_undo_11 : decode cL_undo 11 = .ok (.astore_n 2, 1) := by decide +kernel
theorem dL_undo_12 : decode cL_undo 12 = .ok (.iconst 1, 1) := by decide +kernel
theorem dL_undo_13 : decode cL_undo 13 = .ok (.ireturn, 1) := by decide +kernel
theorem dL_undo_14 : decode cL_undo 14 = .ok (.iconst 0, 1) := by decide +kernel
theorem dL_undo_15 : decode cL_undo 15 = .ok (.ireturn, 1) := by decide +kernel
theorem dL_lineOf_0 : decode cL_lineOf 0 = .ok (.aload_n 3, 1) := by decide +kernel
theorem dL_lineOf_1 : decode cL_lineOf 1 = .ok (.iconst 0, 1) := by decide +kernel
theorem dL_lineOf_2 : decode cL_lineOf 2 = .ok (.aload_n 0, 1) := by decide +kernel
theorem dL_lineOf_3 : decode cL_lineOf 3 = .ok (.iload_n 1, 1) := by decide +kernel
theorem dL_lineOf_4 : decode cL_lineOf 4 = .ok (.iload_n 2, 1) := by decide +kernel
theorem dL_lineOf_5 : decode cL_lineOf 5 = .ok (.invokevirtual 43, 3) := by decide +kernel
theorem dL_lineOf_8 : decode cL_lineOf 8 = .ok (.i2l, 1) := by decide +kernel
theorem dL_lineOf_9 : decode cL_lineOf 9 = .ok (.lastore, 1) := by decide +kernel
theorem dL_lineOf_10 : decode cL_lineOf 10 = .ok (.goto 11, 3) := by decide +kernel
theorem dL_lineOf_13 : decode cL_lineOf 13 = .ok (.astore 4, 2) := by decide +kernel
theorem dL_lineOf_15 : decode cL_lineOf 15 = .ok (.iconst 1, 1) := by decide +kernel
theorem dL_lineOf_16 : decode cL_lineOf 16 = .ok (.ireturn, 1) := by decide +kernel
theorem dL_lineOf_17 : decode cL_lineOf 17 = .ok (.astore 4, 2) := by decide +kernel
theorem dL_lineOf_19 : decode cL_lineOf 19 = .ok (.iconst 2, 1) := by decide +kernel
theorem dL_lineOf_20 : decode cL_lineOf 20 = .ok (.ireturn, 1) := by decide +kernel
theorem dL_lineOf_21 : decode cL_lineOf 21 = .ok (.iconst 0, 1) := by decide +kernel
theorem dL_lineOf_22 : decode cL_lineOf 22 = .ok (.ireturn, 1) := by decide +kernel
theorem dL_at_0 : decode cL_at 0 = .ok (.aload_n 3, 1) := by decide +kernel
theorem dL_at_1 : decode cL_at 1 = .ok (.iconst 0, 1) := by decide +kernel
theorem dL_at_2 : decode cL_at 2 = .ok (.aload_n 0, 1) := by decide +kernel
theorem dL_at_3 : decode cL_at 3 = .ok (.iload_n 1, 1) := by decide +kernel
theorem dL_at_4 : decode cL_at 4 = .ok (.iload_n 2, 1) := by decide +kernel
theorem dL_at_5 : decode cL_at 5 = .ok (.invokevirtual 47, 3) := by decide +kernel
theorem dL_at_8 : decode cL_at 8 = .ok (.i2l, 1) := by decide +kernel
theorem dL_at_9 : decode cL_at 9 = .ok (.lastore, 1) := by decide +kernel
theorem dL_at_10 : decode cL_at 10 = .ok (.goto 7, 3) := by decide +kernel
theorem dL_at_13 : decode cL_at 13 = .ok (.astore 4, 2) := by decide +kernel
theorem dL_at_15 : decode cL_at 15 = .ok (.iconst 1, 1) := by decide +kernel
theorem dL_at_16 : decode cL_at 16 = .ok (.ireturn, 1) := by decide +kernel
theorem dL_at_17 : decode cL_at 17 = .ok (.iconst 0, 1) := by decide +kernel
theorem dL_at_18 : decode cL_at 18 = .ok (.ireturn, 1) := by decide +kernel
theorem dL_reads_0 : decode cL_reads 0 = .ok (.aload_n 2, 1) := by decide +kernel
theorem dL_reads_1 : decode cL_reads 1 = .ok (.iconst 0, 1) := by decide +kernel
theorem dL_reads_2 : decode cL_reads 2 = .ok (.aload_n 0, 1) := by decide +kernel
theorem dL_reads_3 : decode cL_reads 3 = .ok (.iload_n 1, 1) := by decide +kernel
theorem dL_reads_4 : decode cL_reads 4 = .ok (.invokevirtual 50, 3) := by decide +kernel
theorem dL_reads_7 : decode cL_reads 7 = .ok (.i2l, 1) := by decide +kernel
theorem dL_reads_8 : decode cL_reads 8 = .ok (.lastore, 1) := by decide +kernel
theorem dL_reads_9 : decode cL_reads 9 = .ok (.goto 6, 3) := by decide +kernel
theorem dL_reads_12 : decode cL_reads 12 = .ok (.astore_n 3, 1) := by decide +kernel
theorem dL_reads_13 : decode cL_reads 13 = .ok (.iconst 1, 1) := by decide +kernel
theorem dL_reads_14 : decode cL_reads 14 = .ok (.ireturn, 1) := by decide +kernel
theorem dL_reads_15 : decode cL_reads 15 = .ok (.iconst 0, 1) := by decide +kernel
theorem dL_reads_16 : decode cL_reads 16 = .ok (.ireturn, 1) := by decide +kernel
theorem dL_count_0 : decode cL_count 0 = .ok (.aload_n 2, 1) := by decide +kernel
theorem dL_count_1 : decode cL_count 1 = .ok (.iconst 0, 1) := by decide +kernel
theorem dL_count_2 : decode cL_count 2 = .ok (.aload_n 0, 1) := by decide +kernel
theorem dL_count_3 : decode cL_count 3 = .ok (.iload_n 1, 1) := by decide +kernel
theorem dL_count_4 : decode cL_count 4 = .ok (.invokevirtual 53, 3) := by decide +kernel
theorem dL_count_7 : decode cL_count 7 = .ok (.i2l, 1) := by decide +kernel
theorem dL_count_8 : decode cL_count 8 = .ok (.lastore, 1) := by decide +kernel
theorem dL_count_9 : decode cL_count 9 = .ok (.goto 6, 3) := by decide +kernel
theorem dL_count_12 : decode cL_count 12 = .ok (.astore_n 3, 1) := by decide +kernel
theorem dL_count_13 : decode cL_count 13 = .ok (.iconst 1, 1) := by decide +kernel
theorem dL_count_14 : decode cL_count 14 = .ok (.ireturn, 1) := by decide +kernel
theorem dL_count_15 : decode cL_count 15 = .ok (.iconst 0, 1) := by decide +kernel
theorem dL_count_16 : decode cL_count 16 = .ok (.ireturn, 1) := by decide +kernel
theorem dL_ifDropped_0 : decode cL_ifDropped 0 = .ok (.aload 5, 2) := by decide +kernel
theorem dL_ifDropped_2 : decode cL_ifDropped 2 = .ok (.iconst 0, 1) := by decide +kernel
theorem dL_ifDropped_3 : decode cL_ifDropped 3 = .ok (.aload_n 0, 1) := by decide +kernel
theorem dL_ifDropped_4 : decode cL_ifDropped 4 = .ok (.iload_n 1, 1) := by decide +kernel
theorem dL_ifDropped_5 : decode cL_ifDropped 5 = .ok (.iload_n 2, 1) := by decide +kernel
theorem dL_ifDropped_6 : decode cL_ifDropped 6 = .ok (.iload_n 3, 1) := by decide +kernel
theorem dL_ifDropped_7 : decode cL_ifDropped 7 = .ok (.iload 4, 2) := by decide +kernel
theorem dL_ifDropped_9 : decode cL_ifDropped 9 = .ok (.invokevirtual 56, 3) := by decide +kernel
theorem dL_ifDropped_12 : decode cL_ifDropped 12 = .ok (.i2l, 1) := by decide +kernel
theorem dL_ifDropped_13 : decode cL_ifDropped 13 = .ok (.lastore, 1) := by decide +kernel
theorem dL_ifDropped_14 : decode cL_ifDropped 14 = .ok (.goto 7, 3) := by decide +kernel
theorem dL_ifDropped_17 : decode cL_ifDropped 17 = .ok (.astore 6, 2) := by decide +kernel
theorem dL_ifDropped_19 : decode cL_ifDropped 19 = .ok (.iconst 1, 1) := by decide +kernel
theorem dL_ifDropped_20 : decode cL_ifDropped 20 = .ok (.ireturn, 1) := by decide +kernel
theorem dL_ifDropped_21 : decode cL_ifDropped 21 = .ok (.iconst 0, 1) := by decide +kernel
theorem dL_ifDropped_22 : decode cL_ifDropped 22 = .ok (.ireturn, 1) := by decide +kernel
theorem dL_bestColumn_0 : decode cL_bestColumn 0 = .ok (.aload_n 3, 1) := by decide +kernel
theorem dL_bestColumn_1 : decode cL_bestColumn 1 = .ok (.iconst 0, 1) := by decide +kernel
theorem dL_bestColumn_2 : decode cL_bestColumn 2 = .ok (.aload_n 0, 1) := by decide +kernel
theorem dL_bestColumn_3 : decode cL_bestColumn 3 = .ok (.iload_n 1, 1) := by decide +kernel
theorem dL_bestColumn_4 : decode cL_bestColumn 4 = .ok (.iload_n 2, 1) := by decide +kernel
theorem dL_bestColumn_5 : decode cL_bestColumn 5 = .ok (.invokevirtual 60, 3) := by decide +kernel
theorem dL_bestColumn_8 : decode cL_bestColumn 8 = .ok (.i2l, 1) := by decide +kernel
theorem dL_bestColumn_9 : decode cL_bestColumn 9 = .ok (.lastore, 1) := by decide +kernel
theorem dL_bestColumn_10 : decode cL_bestColumn 10 = .ok (.goto 7, 3) := by decide +kernel
theorem dL_bestColumn_13 : decode cL_bestColumn 13 = .ok (.astore 4, 2) := by decide +kernel
theorem dL_bestColumn_15 : decode cL_bestColumn 15 = .ok (.iconst 1, 1) := by decide +kernel
theorem dL_bestColumn_16 : decode cL_bestColumn 16 = .ok (.ireturn, 1) := by decide +kernel
theorem dL_bestColumn_17 : decode cL_bestColumn 17 = .ok (.iconst 0, 1) := by decide +kernel
theorem dL_bestColumn_18 : decode cL_bestColumn 18 = .ok (.ireturn, 1) := by decide +kernel
theorem dL_ifReset_0 : decode cL_ifReset 0 = .ok (.aload_n 2, 1) := by decide +kernel
theorem dL_ifReset_1 : decode cL_ifReset 1 = .ok (.iconst 0, 1) := by decide +kernel
theorem dL_ifReset_2 : decode cL_ifReset 2 = .ok (.aload_n 0, 1) := by decide +kernel
theorem dL_ifReset_3 : decode cL_ifReset 3 = .ok (.iload_n 1, 1) := by decide +kernel
theorem dL_ifReset_4 : decode cL_ifReset 4 = .ok (.invokevirtual 63, 3) := by decide +kernel
theorem dL_ifReset_7 : decode cL_ifReset 7 = .ok (.i2l, 1) := by decide +kernel
theorem dL_ifReset_8 : decode cL_ifReset 8 = .ok (.lastore, 1) := by decide +kernel
theorem dL_ifReset_9 : decode cL_ifReset 9 = .ok (.goto 6, 3) := by decide +kernel
theorem dL_ifReset_12 : decode cL_ifReset 12 = .ok (.astore_n 3, 1) := by decide +kernel
theorem dL_ifReset_13 : decode cL_ifReset 13 = .ok (.iconst 1, 1) := by decide +kernel
theorem dL_ifReset_14 : decode cL_ifReset 14 = .ok (.ireturn, 1) := by decide +kernel
theorem dL_ifReset_15 : decode cL_ifReset 15 = .ok (.iconst 0, 1) := by decide +kernel
theorem dL_ifReset_16 : decode cL_ifReset 16 = .ok (.ireturn, 1) := by decide +kernel
theorem dL_law_0 : decode cL_law 0 = .ok (.new 8, 3) := by decide +kernel
theorem dL_law_3 : decode cL_law 3 = .ok (.dup, 1) := by decide +kernel
theorem dL_law_4 : decode cL_law 4 = .ok (.invokespecial 66, 3) := by decide +kernel
theorem dL_law_7 : decode cL_law 7 = .ok (.astore_n 1, 1) := by decide +kernel
theorem dL_law_8 : decode cL_law 8 = .ok (.new 67, 3) := by decide +kernel
theorem dL_law_11 : decode cL_law 11 = .ok (.dup, 1) := by decide +kernel
theorem dL_law_12 : decode cL_law 12 = .ok (.invokespecial 69, 3) := by decide +kernel
theorem dL_law_15 : decode cL_law 15 = .ok (.astore_n 2, 1) := by decide +kernel
theorem dL_law_16 : decode cL_law 16 = .ok (.iconst 1, 1) := by decide +kernel
theorem dL_law_17 : decode cL_law 17 = .ok (.newarray .long, 2) := by decide +kernel
theorem dL_law_19 : decode cL_law 19 = .ok (.astore_n 3, 1) := by decide +kernel
theorem dL_law_20 : decode cL_law 20 = .ok (.iconst 0, 1) := by decide +kernel
theorem dL_law_21 : decode cL_law 21 = .ok (.istore 4, 2) := by decide +kernel
theorem dL_law_23 : decode cL_law 23 = .ok (.iload 4, 2) := by decide +kernel
theorem dL_law_25 : decode cL_law 25 = .ok (.aload_n 0, 1) := by decide +kernel
theorem dL_law_26 : decode cL_law 26 = .ok (.arraylength, 1) := by decide +kernel
theorem dL_law_27 : decode cL_law 27 = .ok (.bipush 6, 2) := by decide +kernel
theorem dL_law_29 : decode cL_law 29 = .ok (.isub, 1) := by decide +kernel
theorem dL_law_30 : decode cL_law 30 = .ok (.if_icmp .gt 1170, 3) := by decide +kernel
theorem dL_law_33 : decode cL_law 33 = .ok (.aload_n 0, 1) := by decide +kernel
theorem dL_law_34 : decode cL_law 34 = .ok (.iload 4, 2) := by decide +kernel
theorem dL_law_36 : decode cL_law 36 = .ok (.iaload, 1) := by decide +kernel
theorem dL_law_37 : decode cL_law 37 = .ok (.bipush 31, 2) := by decide +kernel
theorem dL_law_39 : decode cL_law 39 = .ok (.iand, 1) := by decide +kernel
theorem dL_law_40 : decode cL_law 40 = .ok (.tableswitch 1154 0 19 #[96, 200, 256, 312, 396, 452, 508, 521, 534, 578, 622, 690, 758, 814, 870, 883, 975, 1043, 1099, 1140], 96) := by decide +kernel
theorem dL_law_136 : decode cL_law 136 = .ok (.aload_n 1, 1) := by decide +kernel
theorem dL_law_137 : decode cL_law 137 = .ok (.aload_n 0, 1) := by decide +kernel
theorem dL_law_138 : decode cL_law 138 = .ok (.iload 4, 2) := by decide +kernel
theorem dL_law_140 : decode cL_law 140 = .ok (.iconst 1, 1) := by decide +kernel
theorem dL_law_141 : decode cL_law 141 = .ok (.iadd, 1) := by decide +kernel
theorem dL_law_142 : decode cL_law 142 = .ok (.iaload, 1) := by decide +kernel
theorem dL_law_143 : decode cL_law 143 = .ok (.aload_n 0, 1) := by decide +kernel
theorem dL_law_144 : decode cL_law 144 = .ok (.iload 4, 2) := by decide +kernel
theorem dL_law_146 : decode cL_law 146 = .ok (.iconst 2, 1) := by decide +kernel
theorem dL_law_147 : decode cL_law 147 = .ok (.iadd, 1) := by decide +kernel
theorem dL_law_148 : decode cL_law 148 = .ok (.iaload, 1) := by decide +kernel
theorem dL_law_149 : decode cL_law 149 = .ok (.aload_n 0, 1) := by decide +kernel
theorem dL_law_150 : decode cL_law 150 = .ok (.iload 4, 2) := by decide +kernel
theorem dL_law_152 : decode cL_law 152 = .ok (.iconst 3, 1) := by decide +kernel
theorem dL_law_153 : decode cL_law 153 = .ok (.iadd, 1) := by decide +kernel
theorem dL_law_154 : decode cL_law 154 = .ok (.iaload, 1) := by decide +kernel
theorem dL_law_155 : decode cL_law 155 = .ok (.aload_n 0, 1) := by decide +kernel
theorem dL_law_156 : decode cL_law 156 = .ok (.iload 4, 2) := by decide +kernel
theorem dL_law_158 : decode cL_law 158 = .ok (.iconst 4, 1) := by decide +kernel
theorem dL_law_159 : decode cL_law 159 = .ok (.iadd, 1) := by decide +kernel
theorem dL_law_160 : decode cL_law 160 = .ok (.iaload, 1) := by decide +kernel
theorem dL_law_161 : decode cL_law 161 = .ok (.aload_n 0, 1) := by decide +kernel
theorem dL_law_162 : decode cL_law 162 = .ok (.iload 4, 2) := by decide +kernel
theorem dL_law_164 : decode cL_law 164 = .ok (.iconst 5, 1) := by decide +kernel
theorem dL_law_165 : decode cL_law 165 = .ok (.iadd, 1) := by decide +kernel
theorem dL_law_166 : decode cL_law 166 = .ok (.iaload, 1) := by decide +kernel
theorem dL_law_167 : decode cL_law 167 = .ok (.aload_n 3, 1) := by decide +kernel
theorem dL_law_168 : decode cL_law 168 = .ok (.invokestatic 70, 3) := by decide +kernel
theorem dL_law_171 : decode cL_law 171 = .ok (.istore 5, 2) := by decide +kernel
theorem dL_law_173 : decode cL_law 173 = .ok (.aload_n 2, 1) := by decide +kernel
theorem dL_law_174 : decode cL_law 174 = .ok (.aload_n 0, 1) := by decide +kernel
theorem dL_law_175 : decode cL_law 175 = .ok (.iload 4, 2) := by decide +kernel
theorem dL_law_177 : decode cL_law 177 = .ok (.iconst 1, 1) := by decide +kernel
theorem dL_law_178 : decode cL_law 178 = .ok (.iadd, 1) := by decide +kernel
theorem dL_law_179 : decode cL_law 179 = .ok (.iaload, 1) := by decide +kernel
theorem dL_law_180 : decode cL_law 180 = .ok (.aload_n 0, 1) := by decide +kernel
theorem dL_law_181 : decode cL_law 181 = .ok (.iload 4, 2) := by decide +kernel
theorem dL_law_183 : decode cL_law 183 = .ok (.iconst 2, 1) := by decide +kernel
theorem dL_law_184 : decode cL_law 184 = .ok (.iadd, 1) := by decide +kernel
theorem dL_law_185 : decode cL_law 185 = .ok (.iaload, 1) := by decide +kernel
theorem dL_law_186 : decode cL_law 186 = .ok (.aload_n 0, 1) := by decide +kernel
theorem dL_law_187 : decode cL_law 187 = .ok (.iload 4, 2) := by decide +kernel
theorem dL_law_189 : decode cL_law 189 = .ok (.iconst 3, 1) := by decide +kernel
theorem dL_law_190 : decode cL_law 190 = .ok (.iadd, 1) := by decide +kernel
theorem dL_law_191 : decode cL_law 191 = .ok (.iaload, 1) := by decide +kernel
theorem dL_law_192 : decode cL_law 192 = .ok (.aload_n 0, 1) := by decide +kernel
theorem dL_law_193 : decode cL_law 193 = .ok (.iload 4, 2) := by decide +kernel
theorem dL_law_195 : decode cL_law 195 = .ok (.iconst 4, 1) := by decide +kernel
theorem dL_law_196 : decode cL_law 196 = .ok (.iadd, 1) := by decide +kernel
theorem dL_law_197 : decode cL_law 197 = .ok (.iaload, 1) := by decide +kernel
theorem dL_law_198 : decode cL_law 198 = .ok (.aload_n 0, 1) := by decide +kernel
theorem dL_law_199 : decode cL_law 199 = .ok (.iload 4, 2) := by decide +kernel
theorem dL_law_201 : decode cL_law 201 = .ok (.iconst 5, 1) := by decide +kernel
theorem dL_law_202 : decode cL_law 202 = .ok (.iadd, 1) := by decide +kernel
theorem dL_law_203 : decode cL_law 203 = .ok (.iaload, 1) := by decide +kernel
theorem dL_law_204 : decode cL_law 204 = .ok (.invokevirtual 75, 3) := by decide +kernel
theorem dL_law_207 : decode cL_law 207 = .ok (.istore 6, 2) := by decide +kernel
theorem dL_law_209 : decode cL_law 209 = .ok (.aload_n 2, 1) := by decide +kernel
theorem dL_law_210 : decode cL_law 210 = .ok (.invokevirtual 76, 3) := by decide +kernel
theorem dL_law_213 : decode cL_law 213 = .ok (.iload 5, 2) := by decide +kernel
theorem dL_law_215 : decode cL_law 215 = .ok (.if_icmp .eq 5, 3) := by decide +kernel
theorem dL_law_218 : decode cL_law 218 = .ok (.iconst 0, 1) := by decide +kernel
theorem dL_law_219 : decode cL_law 219 = .ok (.ireturn, 1) := by decide +kernel
theorem dL_law_220 : decode cL_law 220 = .ok (.iload 5, 2) := by decide +kernel
theorem dL_law_222 : decode cL_law 222 = .ok (.ifCond .ne 15, 3) := by decide +kernel
theorem dL_law_225 : decode cL_law 225 = .ok (.aload_n 3, 1) := by decide +kernel
theorem dL_law_226 : decode cL_law 226 = .ok (.iconst 0, 1) := by decide +kernel
theorem dL_law_227 : decode cL_law 227 = .ok (.laload, 1) := by decide +kernel
theorem dL_law_228 : decode cL_law 228 = .ok (.iload 6, 2) := by decide +kernel
theorem dL_law_230 : decode cL_law 230 = .ok (.i2l, 1) := by decide +kernel
theorem dL_law_231 : decode cL_law 231 = .ok (.lcmp, 1) := by decide +kernel
theorem dL_law_232 : decode cL_law 232 = .ok (.ifCond .eq 5, 3) := by decide +kernel
theorem dL_law_235 : decode cL_law 235 = .ok (.iconst 0, 1) := by decide +kernel
theorem dL_law_236 : decode cL_law 236 = .ok (.ireturn, 1) := by decide +kernel
theorem dL_law_237 : decode cL_law 237 = .ok (.goto 957, 3) := by decide +kernel
theorem dL_law_240 : decode cL_law 240 = .ok (.aload_n 1, 1) := by decide +kernel
theorem dL_law_241 : decode cL_law 241 = .ok (.aload_n 0, 1) := by decide +kernel
theorem dL_law_242 : decode cL_law 242 = .ok (.iload 4, 2) := by decide +kernel
theorem dL_law_244 : decode cL_law 244 = .ok (.iconst 1, 1) := by decide +kernel
theorem dL_law_245 : decode cL_law 245 = .ok (.iadd, 1) := by decide +kernel
theorem dL_law_246 : decode cL_law 246 = .ok (.iaload, 1) := by decide +kernel
theorem dL_law_247 : decode cL_law 247 = .ok (.aload_n 3, 1) := by decide +kernel
theorem dL_law_248 : decode cL_law 248 = .ok (.invokestatic 79, 3) := by decide +kernel
theorem dL_law_251 : decode cL_law 251 = .ok (.istore 5, 2) := by decide +kernel
theorem dL_law_253 : decode cL_law 253 = .ok (.aload_n 2, 1) := by decide +kernel
theorem dL_law_254 : decode cL_law 254 = .ok (.aload_n 0, 1) := by decide +kernel
theorem dL_law_255 : decode cL_law 255 = .ok (.iload 4, 2) := by decide +kernel
theorem dL_law_257 : decode cL_law 257 = .ok (.iconst 1, 1) := by decide +kernel
theorem dL_law_258 : decode cL_law 258 = .ok (.iadd, 1) := by decide +kernel
theorem dL_law_259 : decode cL_law 259 = .ok (.iaload, 1) := by decide +kernel
theorem dL_law_260 : decode cL_law 260 = .ok (.invokevirtual 82, 3) := by decide +kernel
theorem dL_law_263 : decode cL_law 263 = .ok (.istore 6, 2) := by decide +kernel
theorem dL_law_265 : decode cL_law 265 = .ok (.aload_n 2, 1) := by decide +kernel
theorem dL_law_266 : decode cL_law 266 = .ok (.invokevirtual 76, 3) := by decide +kernel
theorem dL_law_269 : decode cL_law 269 = .ok (.iload 5, 2) := by decide +kernel
theorem dL_law_271 : decode cL_law 271 = .ok (.if_icmp .eq 5, 3) := by decide +kernel
theorem dL_law_274 : decode cL_law 274 = .ok (.iconst 0, 1) := by decide +kernel
theorem dL_law_275 : decode cL_law 275 = .ok (.ireturn, 1) := by decide +kernel
theorem dL_law_276 : decode cL_law 276 = .ok (.iload 5, 2) := by decide +kernel
theorem dL_law_278 : decode cL_law 278 = .ok (.ifCond .ne 15, 3) := by decide +kernel
theorem dL_law_281 : decode cL_law 281 = .ok (.aload_n 3, 1) := by decide +kernel
theorem dL_law_282 : decode cL_law 282 = .ok (.iconst 0, 1) := by decide +kernel
theorem dL_law_283 : decode cL_law 283 = .ok (.laload, 1) := by decide +kernel
theorem dL_law_284 : decode cL_law 284 = .ok (.iload 6, 2) := by decide +kernel
theorem dL_law_286 : decode cL_law 286 = .ok (.i2l, 1) := by decide +kernel
theorem dL_law_287 : decode cL_law 287 = .ok (.lcmp, 1) := by decide +kernel
theorem dL_law_288 : decode cL_law 288 = .ok (.ifCond .eq 5, 3) := by decide +kernel
theorem dL_law_291 : decode cL_law 291 = .ok (.iconst 0, 1) := by decide +kernel
theorem dL_law_292 : decode cL_law 292 = .ok (.ireturn, 1) := by decide +kernel
theorem dL_law_293 : decode cL_law 293 = .ok (.goto 901, 3) := by decide +kernel
theorem dL_law_296 : decode cL_law 296 = .ok (.aload_n 1, 1) := by decide +kernel
theorem dL_law_297 : decode cL_law 297 = .ok (.aload_n 0, 1) := by decide +kernel
theorem dL_law_298 : decode cL_law 298 = .ok (.iload 4, 2) := by decide +kernel
theorem dL_law_300 : decode cL_law 300 = .ok (.iconst 1, 1) := by decide +kernel
theorem dL_law_301 : decode cL_law 301 = .ok (.iadd, 1) := by decide +kernel
theorem dL_law_302 : decode cL_law 302 = .ok (.iaload, 1) := by decide +kernel
theorem dL_law_303 : decode cL_law 303 = .ok (.aload_n 3, 1) := by decide +kernel
theorem dL_law_304 : decode cL_law 304 = .ok (.invokestatic 83, 3) := by decide +kernel
theorem dL_law_307 : decode cL_law 307 = .ok (.istore 5, 2) := by decide +kernel
theorem dL_law_309 : decode cL_law 309 = .ok (.aload_n 2, 1) := by decide +kernel
theorem dL_law_310 : decode cL_law 310 = .ok (.aload_n 0, 1) := by decide +kernel
theorem dL_law_311 : decode cL_law 311 = .ok (.iload 4, 2) := by decide +kernel
theorem dL_law_313 : decode cL_law 313 = .ok (.iconst 1, 1) := by decide +kernel
theorem dL_law_314 : decode cL_law 314 = .ok (.iadd, 1) := by decide +kernel
theorem dL_law_315 : decode cL_law 315 = .ok (.iaload, 1) := by decide +kernel
theorem dL_law_316 : decode cL_law 316 = .ok (.invokevirtual 85, 3) := by decide +kernel
theorem dL_law_319 : decode cL_law 319 = .ok (.istore 6, 2) := by decide +kernel
theorem dL_law_321 : decode cL_law 321 = .ok (.aload_n 2, 1) := by decide +kernel
theorem dL_law_322 : decode cL_law 322 = .ok (.invokevirtual 76, 3) := by decide +kernel
theorem dL_law_325 : decode cL_law 325 = .ok (.iload 5, 2) := by decide +kernel
theorem dL_law_327 : decode cL_law 327 = .ok (.if_icmp .eq 5, 3) := by decide +kernel
theorem dL_law_330 : decode cL_law 330 = .ok (.iconst 0, 1) := by decide +kernel
theorem dL_law_331 : decode cL_law 331 = .ok (.ireturn, 1) := by decide +kernel
theorem dL_law_332 : decode cL_law 332 = .ok (.iload 5, 2) := by decide +kernel
theorem dL_law_334 : decode cL_law 334 = .ok (.ifCond .ne 15, 3) := by decide +kernel
theorem dL_law_337 : decode cL_law 337 = .ok (.aload_n 3, 1) := by decide +kernel
theorem dL_law_338 : decode cL_law 338 = .ok (.iconst 0, 1) := by decide +kernel
theorem dL_law_339 : decode cL_law 339 = .ok (.laload, 1) := by decide +kernel
theorem dL_law_340 : decode cL_law 340 = .ok (.iload 6, 2) := by decide +kernel
theorem dL_law_342 : decode cL_law 342 = .ok (.i2l, 1) := by decide +kernel
theorem dL_law_343 : decode cL_law 343 = .ok (.lcmp, 1) := by decide +kernel
theorem dL_law_344 : decode cL_law 344 = .ok (.ifCond .eq 5, 3) := by decide +kernel
theorem dL_law_347 : decode cL_law 347 = .ok (.iconst 0, 1) := by decide +kernel
theorem dL_law_348 : decode cL_law 348 = .ok (.ireturn, 1) := by decide +kernel
theorem dL_law_349 : decode cL_law 349 = .ok (.goto 845, 3) := by decide +kernel
theorem dL_law_352 : decode cL_law 352 = .ok (.aload_n 1, 1) := by decide +kernel
theorem dL_law_353 : decode cL_law 353 = .ok (.aload_n 0, 1) := by decide +kernel
theorem dL_law_354 : decode cL_law 354 = .ok (.iload 4, 2) := by decide +kernel
theorem dL_law_356 : decode cL_law 356 = .ok (.iconst 1, 1) := by decide +kernel
theorem dL_law_357 : decode cL_law 357 = .ok (.iadd, 1) := by decide +kernel
theorem dL_law_358 : decode cL_law 358 = .ok (.iaload, 1) := by decide +kernel
theorem dL_law_359 : decode cL_law 359 = .ok (.aload_n 0, 1) := by decide +kernel
theorem dL_law_360 : decode cL_law 360 = .ok (.iload 4, 2) := by decide +kernel
theorem dL_law_362 : decode cL_law 362 = .ok (.iconst 2, 1) := by decide +kernel
theorem dL_law_363 : decode cL_law 363 = .ok (.iadd, 1) := by decide +kernel
theorem dL_law_364 : decode cL_law 364 = .ok (.iaload, 1) := by decide +kernel
theorem dL_law_365 : decode cL_law 365 = .ok (.ifCond .eq 7, 3) := by decide +kernel
theorem dL_law_368 : decode cL_law 368 = .ok (.iconst 1, 1) := by decide +kernel
theorem dL_law_369 : decode cL_law 369 = .ok (.goto 4, 3) := by decide +kernel
theorem dL_law_372 : decode cL_law 372 = .ok (.iconst 0, 1) := by decide +kernel
theorem dL_law_373 : decode cL_law 373 = .ok (.aload_n 3, 1) := by decide +kernel
theorem dL_law_374 : decode cL_law 374 = .ok (.invokestatic 86, 3) := by decide +kernel
theorem dL_law_377 : decode cL_law 377 = .ok (.istore 5, 2) := by decide +kernel
theorem dL_law_379 : decode cL_law 379 = .ok (.aload_n 2, 1) := by decide +kernel
theorem dL_law_380 : decode cL_law 380 = .ok (.aload_n 0, 1) := by decide +kernel
theorem dL_law_381 : decode cL_law 381 = .ok (.iload 4, 2) := by decide +kernel
theorem dL_law_383 : decode cL_law 383 = .ok (.iconst 1, 1) := by decide +kernel
theorem dL_law_384 : decode cL_law 384 = .ok (.iadd, 1) := by decide +kernel
theorem dL_law_385 : decode cL_law 385 = .ok (.iaload, 1) := by decide +kernel
theorem dL_law_386 : decode cL_law 386 = .ok (.aload_n 0, 1) := by decide +kernel
theorem dL_law_387 : decode cL_law 387 = .ok (.iload 4, 2) := by decide +kernel
theorem dL_law_389 : decode cL_law 389 = .ok (.iconst 2, 1) := by decide +kernel
theorem dL_law_390 : decode cL_law 390 = .ok (.iadd, 1) := by decide +kernel
theorem dL_law_391 : decode cL_law 391 = .ok (.iaload, 1) := by decide +kernel
theorem dL_law_392 : decode cL_law 392 = .ok (.ifCond .eq 7, 3) := by decide +kernel
theorem dL_law_395 : decode cL_law 395 = .ok (.iconst 1, 1) := by decide +kernel
theorem dL_law_396 : decode cL_law 396 = .ok (.goto 4, 3) := by decide +kernel
theorem dL_law_399 : decode cL_law 399 = .ok (.iconst 0, 1) := by decide +kernel
theorem dL_law_400 : decode cL_law 400 = .ok (.invokevirtual 89, 3) := by decide +kernel
theorem dL_law_403 : decode cL_law 403 = .ok (.istore 6, 2) := by decide +kernel
theorem dL_law_405 : decode cL_law 405 = .ok (.aload_n 2, 1) := by decide +kernel
theorem dL_law_406 : decode cL_law 406 = .ok (.invokevirtual 76, 3) := by decide +kernel
theorem dL_law_409 : decode cL_law 409 = .ok (.iload 5, 2) := by decide +kernel
theorem dL_law_411 : decode cL_law 411 = .ok (.if_icmp .eq 5, 3) := by decide +kernel
theorem dL_law_414 : decode cL_law 414 = .ok (.iconst 0, 1) := by decide +kernel
theorem dL_law_415 : decode cL_law 415 = .ok (.ireturn, 1) := by decide +kernel
theorem dL_law_416 : decode cL_law 416 = .ok (.iload 5, 2) := by decide +kernel
theorem dL_law_418 : decode cL_law 418 = .ok (.ifCond .ne 15, 3) := by decide +kernel
theorem dL_law_421 : decode cL_law 421 = .ok (.aload_n 3, 1) := by decide +kernel
theorem dL_law_422 : decode cL_law 422 = .ok (.iconst 0, 1) := by decide +kernel
theorem dL_law_423 : decode cL_law 423 = .ok (.laload, 1) := by decide +kernel
theorem dL_law_424 : decode cL_law 424 = .ok (.iload 6, 2) := by decide +kernel
theorem dL_law_426 : decode cL_law 426 = .ok (.i2l, 1) := by decide +kernel
theorem dL_law_427 : decode cL_law 427 = .ok (.lcmp, 1) := by decide +kernel
theorem dL_law_428 : decode cL_law 428 = .ok (.ifCond .eq 5, 3) := by decide +kernel
theorem dL_law_431 : decode cL_law 431 = .ok (.iconst 0, 1) := by decide +kernel
theorem dL_law_432 : decode cL_law 432 = .ok (.ireturn, 1) := by decide +kernel
theorem dL_law_433 : decode cL_law 433 = .ok (.goto 761, 3) := by decide +kernel
theorem dL_law_436 : decode cL_law 436 = .ok (.aload_n 1, 1) := by decide +kernel
theorem dL_law_437 : decode cL_law 437 = .ok (.aload_n 0, 1) := by decide +kernel
theorem dL_law_438 : decode cL_law 438 = .ok (.iload 4, 2) := by decide +kernel
theorem dL_law_440 : decode cL_law 440 = .ok (.iconst 1, 1) := by decide +kernel
theorem dL_law_441 : decode cL_law 441 = .ok (.iadd, 1) := by decide +kernel
theorem dL_law_442 : decode cL_law 442 = .ok (.iaload, 1) := by decide +kernel
theorem dL_law_443 : decode cL_law 443 = .ok (.aload_n 3, 1) := by decide +kernel
theorem dL_law_444 : decode cL_law 444 = .ok (.invokestatic 90, 3) := by decide +kernel
theorem dL_law_447 : decode cL_law 447 = .ok (.istore 5, 2) := by decide +kernel
theorem dL_law_449 : decode cL_law 449 = .ok (.aload_n 2, 1) := by decide +kernel
theorem dL_law_450 : decode cL_law 450 = .ok (.aload_n 0, 1) := by decide +kernel
theorem dL_law_451 : decode cL_law 451 = .ok (.iload 4, 2) := by decide +kernel
theorem dL_law_453 : decode cL_law 453 = .ok (.iconst 1, 1) := by decide +kernel
theorem dL_law_454 : decode cL_law 454 = .ok (.iadd, 1) := by decide +kernel
theorem dL_law_455 : decode cL_law 455 = .ok (.iaload, 1) := by decide +kernel
theorem dL_law_456 : decode cL_law 456 = .ok (.invokevirtual 92, 3) := by decide +kernel
theorem dL_law_459 : decode cL_law 459 = .ok (.istore 6, 2) := by decide +kernel
theorem dL_law_461 : decode cL_law 461 = .ok (.aload_n 2, 1) := by decide +kernel
theorem dL_law_462 : decode cL_law 462 = .ok (.invokevirtual 76, 3) := by decide +kernel
theorem dL_law_465 : decode cL_law 465 = .ok (.iload 5, 2) := by decide +kernel
theorem dL_law_467 : decode cL_law 467 = .ok (.if_icmp .eq 5, 3) := by decide +kernel
theorem dL_law_470 : decode cL_law 470 = .ok (.iconst 0, 1) := by decide +kernel
theorem dL_law_471 : decode cL_law 471 = .ok (.ireturn, 1) := by decide +kernel
theorem dL_law_472 : decode cL_law 472 = .ok (.iload 5, 2) := by decide +kernel
theorem dL_law_474 : decode cL_law 474 = .ok (.ifCond .ne 15, 3) := by decide +kernel
theorem dL_law_477 : decode cL_law 477 = .ok (.aload_n 3, 1) := by decide +kernel
theorem dL_law_478 : decode cL_law 478 = .ok (.iconst 0, 1) := by decide +kernel
theorem dL_law_479 : decode cL_law 479 = .ok (.laload, 1) := by decide +kernel
theorem dL_law_480 : decode cL_law 480 = .ok (.iload 6, 2) := by decide +kernel
theorem dL_law_482 : decode cL_law 482 = .ok (.i2l, 1) := by decide +kernel
theorem dL_law_483 : decode cL_law 483 = .ok (.lcmp, 1) := by decide +kernel
theorem dL_law_484 : decode cL_law 484 = .ok (.ifCond .eq 5, 3) := by decide +kernel
theorem dL_law_487 : decode cL_law 487 = .ok (.iconst 0, 1) := by decide +kernel
theorem dL_law_488 : decode cL_law 488 = .ok (.ireturn, 1) := by decide +kernel
theorem dL_law_489 : decode cL_law 489 = .ok (.goto 705, 3) := by decide +kernel
theorem dL_law_492 : decode cL_law 492 = .ok (.aload_n 1, 1) := by decide +kernel
theorem dL_law_493 : decode cL_law 493 = .ok (.aload_n 0, 1) := by decide +kernel
theorem dL_law_494 : decode cL_law 494 = .ok (.iload 4, 2) := by decide +kernel
theorem dL_law_496 : decode cL_law 496 = .ok (.iconst 1, 1) := by decide +kernel
theorem dL_law_497 : decode cL_law 497 = .ok (.iadd, 1) := by decide +kernel
theorem dL_law_498 : decode cL_law 498 = .ok (.iaload, 1) := by decide +kernel
theorem dL_law_499 : decode cL_law 499 = .ok (.aload_n 3, 1) := by decide +kernel
theorem dL_law_500 : decode cL_law 500 = .ok (.invokestatic 93, 3) := by decide +kernel
theorem dL_law_503 : decode cL_law 503 = .ok (.istore 5, 2) := by decide +kernel
theorem dL_law_505 : decode cL_law 505 = .ok (.aload_n 2, 1) := by decide +kernel
theorem dL_law_506 : decode cL_law 506 = .ok (.aload_n 0, 1) := by decide +kernel
theorem dL_law_507 : decode cL_law 507 = .ok (.iload 4, 2) := by decide +kernel
theorem dL_law_509 : decode cL_law 509 = .ok (.iconst 1, 1) := by decide +kernel
theorem dL_law_510 : decode cL_law 510 = .ok (.iadd, 1) := by decide +kernel
theorem dL_law_511 : decode cL_law 511 = .ok (.iaload, 1) := by decide +kernel
theorem dL_law_512 : decode cL_law 512 = .ok (.invokevirtual 95, 3) := by decide +kernel
theorem dL_law_515 : decode cL_law 515 = .ok (.istore 6, 2) := by decide +kernel
theorem dL_law_517 : decode cL_law 517 = .ok (.aload_n 2, 1) := by decide +kernel
theorem dL_law_518 : decode cL_law 518 = .ok (.invokevirtual 76, 3) := by decide +kernel
theorem dL_law_521 : decode cL_law 521 = .ok (.iload 5, 2) := by decide +kernel
theorem dL_law_523 : decode cL_law 523 = .ok (.if_icmp .eq 5, 3) := by decide +kernel
theorem dL_law_526 : decode cL_law 526 = .ok (.iconst 0, 1) := by decide +kernel
theorem dL_law_527 : decode cL_law 527 = .ok (.ireturn, 1) := by decide +kernel
theorem dL_law_528 : decode cL_law 528 = .ok (.iload 5, 2) := by decide +kernel
theorem dL_law_530 : decode cL_law 530 = .ok (.ifCond .ne 15, 3) := by decide +kernel
theorem dL_law_533 : decode cL_law 533 = .ok (.aload_n 3, 1) := by decide +kernel
theorem dL_law_534 : decode cL_law 534 = .ok (.iconst 0, 1) := by decide +kernel
theorem dL_law_535 : decode cL_law 535 = .ok (.laload, 1) := by decide +kernel
theorem dL_law_536 : decode cL_law 536 = .ok (.iload 6, 2) := by decide +kernel
theorem dL_law_538 : decode cL_law 538 = .ok (.i2l, 1) := by decide +kernel
theorem dL_law_539 : decode cL_law 539 = .ok (.lcmp, 1) := by decide +kernel
theorem dL_law_540 : decode cL_law 540 = .ok (.ifCond .eq 5, 3) := by decide +kernel
theorem dL_law_543 : decode cL_law 543 = .ok (.iconst 0, 1) := by decide +kernel
theorem dL_law_544 : decode cL_law 544 = .ok (.ireturn, 1) := by decide +kernel
theorem dL_law_545 : decode cL_law 545 = .ok (.goto 649, 3) := by decide +kernel
theorem dL_law_548 : decode cL_law 548 = .ok (.aload_n 1, 1) := by decide +kernel
theorem dL_law_549 : decode cL_law 549 = .ok (.invokevirtual 96, 3) := by decide +kernel
theorem dL_law_552 : decode cL_law 552 = .ok (.aload_n 2, 1) := by decide +kernel
theorem dL_law_553 : decode cL_law 553 = .ok (.invokevirtual 99, 3) := by decide +kernel
theorem dL_law_556 : decode cL_law 556 = .ok (.if_icmp .eq 638, 3) := by decide +kernel
theorem dL_law_559 : decode cL_law 559 = .ok (.iconst 0, 1) := by decide +kernel
theorem dL_law_560 : decode cL_law 560 = .ok (.ireturn, 1) := by decide +kernel
theorem dL_law_561 : decode cL_law 561 = .ok (.aload_n 1, 1) := by decide +kernel
theorem dL_law_562 : decode cL_law 562 = .ok (.invokevirtual 100, 3) := by decide +kernel
theorem dL_law_565 : decode cL_law 565 = .ok (.aload_n 2, 1) := by decide +kernel
theorem dL_law_566 : decode cL_law 566 = .ok (.invokevirtual 103, 3) := by decide +kernel
theorem dL_law_569 : decode cL_law 569 = .ok (.if_icmp .eq 625, 3) := by decide +kernel
theorem dL_law_572 : decode cL_law 572 = .ok (.iconst 0, 1) := by decide +kernel
theorem dL_law_573 : decode cL_law 573 = .ok (.ireturn, 1) := by decide +kernel
theorem dL_law_574 : decode cL_law 574 = .ok (.aload_n 1, 1) := by decide +kernel
theorem dL_law_575 : decode cL_law 575 = .ok (.aload_n 3, 1) := by decide +kernel
theorem dL_law_576 : decode cL_law 576 = .ok (.invokestatic 104, 3) := by decide +kernel
theorem dL_law_579 : decode cL_law 579 = .ok (.istore 5, 2) := by decide +kernel
theorem dL_law_581 : decode cL_law 581 = .ok (.aload_n 2, 1) := by decide +kernel
theorem dL_law_582 : decode cL_law 582 = .ok (.invokevirtual 107, 3) := by decide +kernel
theorem dL_law_585 : decode cL_law 585 = .ok (.istore 6, 2) := by decide +kernel
theorem dL_law_587 : decode cL_law 587 = .ok (.aload_n 2, 1) := by decide +kernel
theorem dL_law_588 : decode cL_law 588 = .ok (.invokevirtual 76, 3) := by decide +kernel
theorem dL_law_591 : decode cL_law 591 = .ok (.iload 5, 2) := by decide +kernel
theorem dL_law_593 : decode cL_law 593 = .ok (.if_icmp .eq 5, 3) := by decide +kernel
theorem dL_law_596 : decode cL_law 596 = .ok (.iconst 0, 1) := by decide +kernel
theorem dL_law_597 : decode cL_law 597 = .ok (.ireturn, 1) := by decide +kernel
theorem dL_law_598 : decode cL_law 598 = .ok (.iload 5, 2) := by decide +kernel
theorem dL_law_600 : decode cL_law 600 = .ok (.ifCond .ne 15, 3) := by decide +kernel
theorem dL_law_603 : decode cL_law 603 = .ok (.aload_n 3, 1) := by decide +kernel
theorem dL_law_604 : decode cL_law 604 = .ok (.iconst 0, 1) := by decide +kernel
theorem dL_law_605 : decode cL_law 605 = .ok (.laload, 1) := by decide +kernel
theorem dL_law_606 : decode cL_law 606 = .ok (.iload 6, 2) := by decide +kernel
theorem dL_law_608 : decode cL_law 608 = .ok (.i2l, 1) := by decide +kernel
theorem dL_law_609 : decode cL_law 609 = .ok (.lcmp, 1) := by decide +kernel
theorem dL_law_610 : decode cL_law 610 = .ok (.ifCond .eq 5, 3) := by decide +kernel
theorem dL_law_613 : decode cL_law 613 = .ok (.iconst 0, 1) := by decide +kernel
theorem dL_law_614 : decode cL_law 614 = .ok (.ireturn, 1) := by decide +kernel
theorem dL_law_615 : decode cL_law 615 = .ok (.goto 579, 3) := by decide +kernel
theorem dL_law_618 : decode cL_law 618 = .ok (.aload_n 1, 1) := by decide +kernel
theorem dL_law_619 : decode cL_law 619 = .ok (.aload_n 3, 1) := by decide +kernel
theorem dL_law_620 : decode cL_law 620 = .ok (.invokestatic 108, 3) := by decide +kernel
theorem dL_law_623 : decode cL_law 623 = .ok (.istore 5, 2) := by decide +kernel
theorem dL_law_625 : decode cL_law 625 = .ok (.aload_n 2, 1) := by decide +kernel
theorem dL_law_626 : decode cL_law 626 = .ok (.invokevirtual 110, 3) := by decide +kernel
theorem dL_law_629 : decode cL_law 629 = .ok (.istore 6, 2) := by decide +kernel
theorem dL_law_631 : decode cL_law 631 = .ok (.aload_n 2, 1) := by decide +kernel
theorem dL_law_632 : decode cL_law 632 = .ok (.invokevirtual 76, 3) := by decide +kernel
theorem dL_law_635 : decode cL_law 635 = .ok (.iload 5, 2) := by decide +kernel
theorem dL_law_637 : decode cL_law 637 = .ok (.if_icmp .eq 5, 3) := by decide +kernel
theorem dL_law_640 : decode cL_law 640 = .ok (.iconst 0, 1) := by decide +kernel
theorem dL_law_641 : decode cL_law 641 = .ok (.ireturn, 1) := by decide +kernel
theorem dL_law_642 : decode cL_law 642 = .ok (.iload 5, 2) := by decide +kernel
theorem dL_law_644 : decode cL_law 644 = .ok (.ifCond .ne 15, 3) := by decide +kernel
theorem dL_law_647 : decode cL_law 647 = .ok (.aload_n 3, 1) := by decide +kernel
theorem dL_law_648 : decode cL_law 648 = .ok (.iconst 0, 1) := by decide +kernel
theorem dL_law_649 : decode cL_law 649 = .ok (.laload, 1) := by decide +kernel
theorem dL_law_650 : decode cL_law 650 = .ok (.iload 6, 2) := by decide +kernel
theorem dL_law_652 : decode cL_law 652 = .ok (.i2l, 1) := by decide +kernel
theorem dL_law_653 : decode cL_law 653 = .ok (.lcmp, 1) := by decide +kernel
theorem dL_law_654 : decode cL_law 654 = .ok (.ifCond .eq 5, 3) := by decide +kernel
theorem dL_law_657 : decode cL_law 657 = .ok (.iconst 0, 1) := by decide +kernel
theorem dL_law_658 : decode cL_law 658 = .ok (.ireturn, 1) := by decide +kernel
theorem dL_law_659 : decode cL_law 659 = .ok (.goto 535, 3) := by decide +kernel
theorem dL_law_662 : decode cL_law 662 = .ok (.aload_n 1, 1) := by decide +kernel
theorem dL_law_663 : decode cL_law 663 = .ok (.aload_n 0, 1) := by decide +kernel
theorem dL_law_664 : decode cL_law 664 = .ok (.iload 4, 2) := by decide +kernel
theorem dL_law_666 : decode cL_law 666 = .ok (.iconst 1, 1) := by decide +kernel
theorem dL_law_667 : decode cL_law 667 = .ok (.iadd, 1) := by decide +kernel
theorem dL_law_668 : decode cL_law 668 = .ok (.iaload, 1) := by decide +kernel
theorem dL_law_669 : decode cL_law 669 = .ok (.aload_n 0, 1) := by decide +kernel
theorem dL_law_670 : decode cL_law 670 = .ok (.iload 4, 2) := by decide +kernel
theorem dL_law_672 : decode cL_law 672 = .ok (.iconst 2, 1) := by decide +kernel
theorem dL_law_673 : decode cL_law 673 = .ok (.iadd, 1) := by decide +kernel
theorem dL_law_674 : decode cL_law 674 = .ok (.iaload, 1) := by decide +kernel
theorem dL_law_675 : decode cL_law 675 = .ok (.aload_n 3, 1) := by decide +kernel
theorem dL_law_676 : decode cL_law 676 = .ok (.invokestatic 111, 3) := by decide +kernel
theorem dL_law_679 : decode cL_law 679 = .ok (.istore 5, 2) := by decide +kernel
theorem dL_law_681 : decode cL_law 681 = .ok (.aload_n 2, 1) := by decide +kernel
theorem dL_law_682 : decode cL_law 682 = .ok (.aload_n 0, 1) := by decide +kernel
theorem dL_law_683 : decode cL_law 683 = .ok (.iload 4, 2) := by decide +kernel
theorem dL_law_685 : decode cL_law 685 = .ok (.iconst 1, 1) := by decide +kernel
theorem dL_law_686 : decode cL_law 686 = .ok (.iadd, 1) := by decide +kernel
theorem dL_law_687 : decode cL_law 687 = .ok (.iaload, 1) := by decide +kernel
theorem dL_law_688 : decode cL_law 688 = .ok (.aload_n 0, 1) := by decide +kernel
theorem dL_law_689 : decode cL_law 689 = .ok (.iload 4, 2) := by decide +kernel
theorem dL_law_691 : decode cL_law 691 = .ok (.iconst 2, 1) := by decide +kernel
theorem dL_law_692 : decode cL_law 692 = .ok (.iadd, 1) := by decide +kernel
theorem dL_law_693 : decode cL_law 693 = .ok (.iaload, 1) := by decide +kernel
theorem dL_law_694 : decode cL_law 694 = .ok (.invokevirtual 114, 3) := by decide +kernel
theorem dL_law_697 : decode cL_law 697 = .ok (.istore 6, 2) := by decide +kernel
theorem dL_law_699 : decode cL_law 699 = .ok (.aload_n 2, 1) := by decide +kernel
theorem dL_law_700 : decode cL_law 700 = .ok (.invokevirtual 76, 3) := by decide +kernel
theorem dL_law_703 : decode cL_law 703 = .ok (.iload 5, 2) := by decide +kernel
theorem dL_law_705 : decode cL_law 705 = .ok (.if_icmp .eq 5, 3) := by decide +kernel
theorem dL_law_708 : decode cL_law 708 = .ok (.iconst 0, 1) := by decide +kernel
theorem dL_law_709 : decode cL_law 709 = .ok (.ireturn, 1) := by decide +kernel
theorem dL_law_710 : decode cL_law 710 = .ok (.iload 5, 2) := by decide +kernel
theorem dL_law_712 : decode cL_law 712 = .ok (.ifCond .ne 15, 3) := by decide +kernel
theorem dL_law_715 : decode cL_law 715 = .ok (.aload_n 3, 1) := by decide +kernel
theorem dL_law_716 : decode cL_law 716 = .ok (.iconst 0, 1) := by decide +kernel
theorem dL_law_717 : decode cL_law 717 = .ok (.laload, 1) := by decide +kernel
theorem dL_law_718 : decode cL_law 718 = .ok (.iload 6, 2) := by decide +kernel
theorem dL_law_720 : decode cL_law 720 = .ok (.i2l, 1) := by decide +kernel
theorem dL_law_721 : decode cL_law 721 = .ok (.lcmp, 1) := by decide +kernel
theorem dL_law_722 : decode cL_law 722 = .ok (.ifCond .eq 5, 3) := by decide +kernel
theorem dL_law_725 : decode cL_law 725 = .ok (.iconst 0, 1) := by decide +kernel
theorem dL_law_726 : decode cL_law 726 = .ok (.ireturn, 1) := by decide +kernel
theorem dL_law_727 : decode cL_law 727 = .ok (.goto 467, 3) := by decide +kernel
theorem dL_law_730 : decode cL_law 730 = .ok (.aload_n 1, 1) := by decide +kernel
theorem dL_law_731 : decode cL_law 731 = .ok (.aload_n 0, 1) := by decide +kernel
theorem dL_law_732 : decode cL_law 732 = .ok (.iload 4, 2) := by decide +kernel
theorem dL_law_734 : decode cL_law 734 = .ok (.iconst 1, 1) := by decide +kernel
theorem dL_law_735 : decode cL_law 735 = .ok (.iadd, 1) := by decide +kernel
theorem dL_law_736 : decode cL_law 736 = .ok (.iaload, 1) := by decide +kernel
theorem dL_law_737 : decode cL_law 737 = .ok (.aload_n 0, 1) := by decide +kernel
theorem dL_law_738 : decode cL_law 738 = .ok (.iload 4, 2) := by decide +kernel
theorem dL_law_740 : decode cL_law 740 = .ok (.iconst 2, 1) := by decide +kernel
theorem dL_law_741 : decode cL_law 741 = .ok (.iadd, 1) := by decide +kernel
theorem dL_law_742 : decode cL_law 742 = .ok (.iaload, 1) := by decide +kernel
theorem dL_law_743 : decode cL_law 743 = .ok (.aload_n 3, 1) := by decide +kernel
theorem dL_law_744 : decode cL_law 744 = .ok (.invokestatic 115, 3) := by decide +kernel
theorem dL_law_747 : decode cL_law 747 = .ok (.istore 5, 2) := by decide +kernel
theorem dL_law_749 : decode cL_law 749 = .ok (.aload_n 2, 1) := by decide +kernel
theorem dL_law_750 : decode cL_law 750 = .ok (.aload_n 0, 1) := by decide +kernel
theorem dL_law_751 : decode cL_law 751 = .ok (.iload 4, 2) := by decide +kernel
theorem dL_law_753 : decode cL_law 753 = .ok (.iconst 1, 1) := by decide +kernel
theorem dL_law_754 : decode cL_law 754 = .ok (.iadd, 1) := by decide +kernel
theorem dL_law_755 : decode cL_law 755 = .ok (.iaload, 1) := by decide +kernel
theorem dL_law_756 : decode cL_law 756 = .ok (.aload_n 0, 1) := by decide +kernel
theorem dL_law_757 : decode cL_law 757 = .ok (.iload 4, 2) := by decide +kernel
theorem dL_law_759 : decode cL_law 759 = .ok (.iconst 2, 1) := by decide +kernel
theorem dL_law_760 : decode cL_law 760 = .ok (.iadd, 1) := by decide +kernel
theorem dL_law_761 : decode cL_law 761 = .ok (.iaload, 1) := by decide +kernel
theorem dL_law_762 : decode cL_law 762 = .ok (.invokevirtual 117, 3) := by decide +kernel
theorem dL_law_765 : decode cL_law 765 = .ok (.istore 6, 2) := by decide +kernel
theorem dL_law_767 : decode cL_law 767 = .ok (.aload_n 2, 1) := by decide +kernel
theorem dL_law_768 : decode cL_law 768 = .ok (.invokevirtual 76, 3) := by decide +kernel
theorem dL_law_771 : decode cL_law 771 = .ok (.iload 5, 2) := by decide +kernel
theorem dL_law_773 : decode cL_law 773 = .ok (.if_icmp .eq 5, 3) := by decide +kernel
theorem dL_law_776 : decode cL_law 776 = .ok (.iconst 0, 1) := by decide +kernel
theorem dL_law_777 : decode cL_law 777 = .ok (.ireturn, 1) := by decide +kernel
theorem dL_law_778 : decode cL_law 778 = .ok (.iload 5, 2) := by decide +kernel
theorem dL_law_780 : decode cL_law 780 = .ok (.ifCond .ne 15, 3) := by decide +kernel
theorem dL_law_783 : decode cL_law 783 = .ok (.aload_n 3, 1) := by decide +kernel
theorem dL_law_784 : decode cL_law 784 = .ok (.iconst 0, 1) := by decide +kernel
theorem dL_law_785 : decode cL_law 785 = .ok (.laload, 1) := by decide +kernel
theorem dL_law_786 : decode cL_law 786 = .ok (.iload 6, 2) := by decide +kernel
theorem dL_law_788 : decode cL_law 788 = .ok (.i2l, 1) := by decide +kernel
theorem dL_law_789 : decode cL_law 789 = .ok (.lcmp, 1) := by decide +kernel
theorem dL_law_790 : decode cL_law 790 = .ok (.ifCond .eq 5, 3) := by decide +kernel
theorem dL_law_793 : decode cL_law 793 = .ok (.iconst 0, 1) := by decide +kernel
theorem dL_law_794 : decode cL_law 794 = .ok (.ireturn, 1) := by decide +kernel
theorem dL_law_795 : decode cL_law 795 = .ok (.goto 399, 3) := by decide +kernel
theorem dL_law_798 : decode cL_law 798 = .ok (.aload_n 1, 1) := by decide +kernel
theorem dL_law_799 : decode cL_law 799 = .ok (.aload_n 0, 1) := by decide +kernel
theorem dL_law_800 : decode cL_law 800 = .ok (.iload 4, 2) := by decide +kernel
theorem dL_law_802 : decode cL_law 802 = .ok (.iconst 1, 1) := by decide +kernel
theorem dL_law_803 : decode cL_law 803 = .ok (.iadd, 1) := by decide +kernel
theorem dL_law_804 : decode cL_law 804 = .ok (.iaload, 1) := by decide +kernel
theorem dL_law_805 : decode cL_law 805 = .ok (.aload_n 3, 1) := by decide +kernel
theorem dL_law_806 : decode cL_law 806 = .ok (.invokestatic 118, 3) := by decide +kernel
theorem dL_law_809 : decode cL_law 809 = .ok (.istore 5, 2) := by decide +kernel
theorem dL_law_811 : decode cL_law 811 = .ok (.aload_n 2, 1) := by decide +kernel
theorem dL_law_812 : decode cL_law 812 = .ok (.aload_n 0, 1) := by decide +kernel
theorem dL_law_813 : decode cL_law 813 = .ok (.iload 4, 2) := by decide +kernel
theorem dL_law_815 : decode cL_law 815 = .ok (.iconst 1, 1) := by decide +kernel
theorem dL_law_816 : decode cL_law 816 = .ok (.iadd, 1) := by decide +kernel
theorem dL_law_817 : decode cL_law 817 = .ok (.iaload, 1) := by decide +kernel
theorem dL_law_818 : decode cL_law 818 = .ok (.invokevirtual 120, 3) := by decide +kernel
theorem dL_law_821 : decode cL_law 821 = .ok (.istore 6, 2) := by decide +kernel
theorem dL_law_823 : decode cL_law 823 = .ok (.aload_n 2, 1) := by decide +kernel
theorem dL_law_824 : decode cL_law 824 = .ok (.invokevirtual 76, 3) := by decide +kernel
theorem dL_law_827 : decode cL_law 827 = .ok (.iload 5, 2) := by decide +kernel
theorem dL_law_829 : decode cL_law 829 = .ok (.if_icmp .eq 5, 3) := by decide +kernel
theorem dL_law_832 : decode cL_law 832 = .ok (.iconst 0, 1) := by decide +kernel
theorem dL_law_833 : decode cL_law 833 = .ok (.ireturn, 1) := by decide +kernel
theorem dL_law_834 : decode cL_law 834 = .ok (.iload 5, 2) := by decide +kernel
theorem dL_law_836 : decode cL_law 836 = .ok (.ifCond .ne 15, 3) := by decide +kernel
theorem dL_law_839 : decode cL_law 839 = .ok (.aload_n 3, 1) := by decide +kernel
theorem dL_law_840 : decode cL_law 840 = .ok (.iconst 0, 1) := by decide +kernel
theorem dL_law_841 : decode cL_law 841 = .ok (.laload, 1) := by decide +kernel
theorem dL_law_842 : decode cL_law 842 = .ok (.iload 6, 2) := by decide +kernel
theorem dL_law_844 : decode cL_law 844 = .ok (.i2l, 1) := by decide +kernel
theorem dL_law_845 : decode cL_law 845 = .ok (.lcmp, 1) := by decide +kernel
theorem dL_law_846 : decode cL_law 846 = .ok (.ifCond .eq 5, 3) := by decide +kernel
theorem dL_law_849 : decode cL_law 849 = .ok (.iconst 0, 1) := by decide +kernel
theorem dL_law_850 : decode cL_law 850 = .ok (.ireturn, 1) := by decide +kernel
theorem dL_law_851 : decode cL_law 851 = .ok (.goto 343, 3) := by decide +kernel
theorem dL_law_854 : decode cL_law 854 = .ok (.aload_n 1, 1) := by decide +kernel
theorem dL_law_855 : decode cL_law 855 = .ok (.aload_n 0, 1) := by decide +kernel
theorem dL_law_856 : decode cL_law 856 = .ok (.iload 4, 2) := by decide +kernel
theorem dL_law_858 : decode cL_law 858 = .ok (.iconst 1, 1) := by decide +kernel
theorem dL_law_859 : decode cL_law 859 = .ok (.iadd, 1) := by decide +kernel
theorem dL_law_860 : decode cL_law 860 = .ok (.iaload, 1) := by decide +kernel
theorem dL_law_861 : decode cL_law 861 = .ok (.aload_n 3, 1) := by decide +kernel
theorem dL_law_862 : decode cL_law 862 = .ok (.invokestatic 121, 3) := by decide +kernel
theorem dL_law_865 : decode cL_law 865 = .ok (.istore 5, 2) := by decide +kernel
theorem dL_law_867 : decode cL_law 867 = .ok (.aload_n 2, 1) := by decide +kernel
theorem dL_law_868 : decode cL_law 868 = .ok (.aload_n 0, 1) := by decide +kernel
theorem dL_law_869 : decode cL_law 869 = .ok (.iload 4, 2) := by decide +kernel
theorem dL_law_871 : decode cL_law 871 = .ok (.iconst 1, 1) := by decide +kernel
theorem dL_law_872 : decode cL_law 872 = .ok (.iadd, 1) := by decide +kernel
theorem dL_law_873 : decode cL_law 873 = .ok (.iaload, 1) := by decide +kernel
theorem dL_law_874 : decode cL_law 874 = .ok (.invokevirtual 123, 3) := by decide +kernel
theorem dL_law_877 : decode cL_law 877 = .ok (.istore 6, 2) := by decide +kernel
theorem dL_law_879 : decode cL_law 879 = .ok (.aload_n 2, 1) := by decide +kernel
theorem dL_law_880 : decode cL_law 880 = .ok (.invokevirtual 76, 3) := by decide +kernel
theorem dL_law_883 : decode cL_law 883 = .ok (.iload 5, 2) := by decide +kernel
theorem dL_law_885 : decode cL_law 885 = .ok (.if_icmp .eq 5, 3) := by decide +kernel
theorem dL_law_888 : decode cL_law 888 = .ok (.iconst 0, 1) := by decide +kernel
theorem dL_law_889 : decode cL_law 889 = .ok (.ireturn, 1) := by decide +kernel
theorem dL_law_890 : decode cL_law 890 = .ok (.iload 5, 2) := by decide +kernel
theorem dL_law_892 : decode cL_law 892 = .ok (.ifCond .ne 15, 3) := by decide +kernel
theorem dL_law_895 : decode cL_law 895 = .ok (.aload_n 3, 1) := by decide +kernel
theorem dL_law_896 : decode cL_law 896 = .ok (.iconst 0, 1) := by decide +kernel
theorem dL_law_897 : decode cL_law 897 = .ok (.laload, 1) := by decide +kernel
theorem dL_law_898 : decode cL_law 898 = .ok (.iload 6, 2) := by decide +kernel
theorem dL_law_900 : decode cL_law 900 = .ok (.i2l, 1) := by decide +kernel
theorem dL_law_901 : decode cL_law 901 = .ok (.lcmp, 1) := by decide +kernel
theorem dL_law_902 : decode cL_law 902 = .ok (.ifCond .eq 5, 3) := by decide +kernel
theorem dL_law_905 : decode cL_law 905 = .ok (.iconst 0, 1) := by decide +kernel
theorem dL_law_906 : decode cL_law 906 = .ok (.ireturn, 1) := by decide +kernel
theorem dL_law_907 : decode cL_law 907 = .ok (.goto 287, 3) := by decide +kernel
theorem dL_law_910 : decode cL_law 910 = .ok (.aload_n 1, 1) := by decide +kernel
theorem dL_law_911 : decode cL_law 911 = .ok (.invokevirtual 124, 3) := by decide +kernel
theorem dL_law_914 : decode cL_law 914 = .ok (.aload_n 2, 1) := by decide +kernel
theorem dL_law_915 : decode cL_law 915 = .ok (.invokevirtual 127, 3) := by decide +kernel
theorem dL_law_918 : decode cL_law 918 = .ok (.if_icmp .eq 276, 3) := by decide +kernel
theorem dL_law_921 : decode cL_law 921 = .ok (.iconst 0, 1) := by decide +kernel
theorem dL_law_922 : decode cL_law 922 = .ok (.ireturn, 1) := by decide +kernel
theorem dL_law_923 : decode cL_law 923 = .ok (.aload_n 1, 1) := by decide +kernel
theorem dL_law_924 : decode cL_law 924 = .ok (.aload_n 0, 1) := by decide +kernel
theorem dL_law_925 : decode cL_law 925 = .ok (.iload 4, 2) := by decide +kernel
theorem dL_law_927 : decode cL_law 927 = .ok (.iconst 1, 1) := by decide +kernel
theorem dL_law_928 : decode cL_law 928 = .ok (.iadd, 1) := by decide +kernel
theorem dL_law_929 : decode cL_law 929 = .ok (.iaload, 1) := by decide +kernel
theorem dL_law_930 : decode cL_law 930 = .ok (.aload_n 0, 1) := by decide +kernel
theorem dL_law_931 : decode cL_law 931 = .ok (.iload 4, 2) := by decide +kernel
theorem dL_law_933 : decode cL_law 933 = .ok (.iconst 2, 1) := by decide +kernel
theorem dL_law_934 : decode cL_law 934 = .ok (.iadd, 1) := by decide +kernel
theorem dL_law_935 : decode cL_law 935 = .ok (.iaload, 1) := by decide +kernel
theorem dL_law_936 : decode cL_law 936 = .ok (.aload_n 0, 1) := by decide +kernel
theorem dL_law_937 : decode cL_law 937 = .ok (.iload 4, 2) := by decide +kernel
theorem dL_law_939 : decode cL_law 939 = .ok (.iconst 3, 1) := by decide +kernel
theorem dL_law_940 : decode cL_law 940 = .ok (.iadd, 1) := by decide +kernel
theorem dL_law_941 : decode cL_law 941 = .ok (.iaload, 1) := by decide +kernel
theorem dL_law_942 : decode cL_law 942 = .ok (.aload_n 0, 1) := by decide +kernel
theorem dL_law_943 : decode cL_law 943 = .ok (.iload 4, 2) := by decide +kernel
theorem dL_law_945 : decode cL_law 945 = .ok (.iconst 4, 1) := by decide +kernel
theorem dL_law_946 : decode cL_law 946 = .ok (.iadd, 1) := by decide +kernel
theorem dL_law_947 : decode cL_law 947 = .ok (.iaload, 1) := by decide +kernel
theorem dL_law_948 : decode cL_law 948 = .ok (.aload_n 3, 1) := by decide +kernel
theorem dL_law_949 : decode cL_law 949 = .ok (.invokestatic 128, 3) := by decide +kernel
theorem dL_law_952 : decode cL_law 952 = .ok (.istore 5, 2) := by decide +kernel
theorem dL_law_954 : decode cL_law 954 = .ok (.aload_n 2, 1) := by decide +kernel
theorem dL_law_955 : decode cL_law 955 = .ok (.aload_n 0, 1) := by decide +kernel
theorem dL_law_956 : decode cL_law 956 = .ok (.iload 4, 2) := by decide +kernel
theorem dL_law_958 : decode cL_law 958 = .ok (.iconst 1, 1) := by decide +kernel
theorem dL_law_959 : decode cL_law 959 = .ok (.iadd, 1) := by decide +kernel
theorem dL_law_960 : decode cL_law 960 = .ok (.iaload, 1) := by decide +kernel
theorem dL_law_961 : decode cL_law 961 = .ok (.aload_n 0, 1) := by decide +kernel
theorem dL_law_962 : decode cL_law 962 = .ok (.iload 4, 2) := by decide +kernel
theorem dL_law_964 : decode cL_law 964 = .ok (.iconst 2, 1) := by decide +kernel
theorem dL_law_965 : decode cL_law 965 = .ok (.iadd, 1) := by decide +kernel
theorem dL_law_966 : decode cL_law 966 = .ok (.iaload, 1) := by decide +kernel
theorem dL_law_967 : decode cL_law 967 = .ok (.aload_n 0, 1) := by decide +kernel
theorem dL_law_968 : decode cL_law 968 = .ok (.iload 4, 2) := by decide +kernel
theorem dL_law_970 : decode cL_law 970 = .ok (.iconst 3, 1) := by decide +kernel
theorem dL_law_971 : decode cL_law 971 = .ok (.iadd, 1) := by decide +kernel
theorem dL_law_972 : decode cL_law 972 = .ok (.iaload, 1) := by decide +kernel
theorem dL_law_973 : decode cL_law 973 = .ok (.aload_n 0, 1) := by decide +kernel
theorem dL_law_974 : decode cL_law 974 = .ok (.iload 4, 2) := by decide +kernel
theorem dL_law_976 : decode cL_law 976 = .ok (.iconst 4, 1) := by decide +kernel
theorem dL_law_977 : decode cL_law 977 = .ok (.iadd, 1) := by decide +kernel
theorem dL_law_978 : decode cL_law 978 = .ok (.iaload, 1) := by decide +kernel
theorem dL_law_979 : decode cL_law 979 = .ok (.invokevirtual 131, 3) := by decide +kernel
theorem dL_law_982 : decode cL_law 982 = .ok (.istore 6, 2) := by decide +kernel
theorem dL_law_984 : decode cL_law 984 = .ok (.aload_n 2, 1) := by decide +kernel
theorem dL_law_985 : decode cL_law 985 = .ok (.invokevirtual 76, 3) := by decide +kernel
theorem dL_law_988 : decode cL_law 988 = .ok (.iload 5, 2) := by decide +kernel
theorem dL_law_990 : decode cL_law 990 = .ok (.if_icmp .eq 5, 3) := by decide +kernel
theorem dL_law_993 : decode cL_law 993 = .ok (.iconst 0, 1) := by decide +kernel
theorem dL_law_994 : decode cL_law 994 = .ok (.ireturn, 1) := by decide +kernel
theorem dL_law_995 : decode cL_law 995 = .ok (.iload 5, 2) := by decide +kernel
theorem dL_law_997 : decode cL_law 997 = .ok (.ifCond .ne 15, 3) := by decide +kernel
theorem dL_law_1000 : decode cL_law 1000 = .ok (.aload_n 3, 1) := by decide +kernel
theorem dL_law_1001 : decode cL_law 1001 = .ok (.iconst 0, 1) := by decide +kernel
theorem dL_law_1002 : decode cL_law 1002 = .ok (.laload, 1) := by decide +kernel
theorem dL_law_1003 : decode cL_law 1003 = .ok (.iload 6, 2) := by decide +kernel
theorem dL_law_1005 : decode cL_law 1005 = .ok (.i2l, 1) := by decide +kernel
theorem dL_law_1006 : decode cL_law 1006 = .ok (.lcmp, 1) := by decide +kernel
theorem dL_law_1007 : decode cL_law 1007 = .ok (.ifCond .eq 5, 3) := by decide +kernel
theorem dL_law_1010 : decode cL_law 1010 = .ok (.iconst 0, 1) := by decide +kernel
theorem dL_law_1011 : decode cL_law 1011 = .ok (.ireturn, 1) := by decide +kernel
theorem dL_law_1012 : decode cL_law 1012 = .ok (.goto 182, 3) := by decide +kernel
theorem dL_law_1015 : decode cL_law 1015 = .ok (.aload_n 1, 1) := by decide +kernel
theorem dL_law_1016 : decode cL_law 1016 = .ok (.aload_n 0, 1) := by decide +kernel
theorem dL_law_1017 : decode cL_law 1017 = .ok (.iload 4, 2) := by decide +kernel
theorem dL_law_1019 : decode cL_law 1019 = .ok (.iconst 1, 1) := by decide +kernel
theorem dL_law_1020 : decode cL_law 1020 = .ok (.iadd, 1) := by decide +kernel
theorem dL_law_1021 : decode cL_law 1021 = .ok (.iaload, 1) := by decide +kernel
theorem dL_law_1022 : decode cL_law 1022 = .ok (.aload_n 0, 1) := by decide +kernel
theorem dL_law_1023 : decode cL_law 1023 = .ok (.iload 4, 2) := by decide +kernel
theorem dL_law_1025 : decode cL_law 1025 = .ok (.iconst 2, 1) := by decide +kernel
theorem dL_law_1026 : decode cL_law 1026 = .ok (.iadd, 1) := by decide +kernel
theorem dL_law_1027 : decode cL_law 1027 = .ok (.iaload, 1) := by decide +kernel
theorem dL_law_1028 : decode cL_law 1028 = .ok (.aload_n 3, 1) := by decide +kernel
theorem dL_law_1029 : decode cL_law 1029 = .ok (.invokestatic 132, 3) := by decide +kernel
theorem dL_law_1032 : decode cL_law 1032 = .ok (.istore 5, 2) := by decide +kernel
theorem dL_law_1034 : decode cL_law 1034 = .ok (.aload_n 2, 1) := by decide +kernel
theorem dL_law_1035 : decode cL_law 1035 = .ok (.aload_n 0, 1) := by decide +kernel
theorem dL_law_1036 : decode cL_law 1036 = .ok (.iload 4, 2) := by decide +kernel
theorem dL_law_1038 : decode cL_law 1038 = .ok (.iconst 1, 1) := by decide +kernel
theorem dL_law_1039 : decode cL_law 1039 = .ok (.iadd, 1) := by decide +kernel
theorem dL_law_1040 : decode cL_law 1040 = .ok (.iaload, 1) := by decide +kernel
theorem dL_law_1041 : decode cL_law 1041 = .ok (.aload_n 0, 1) := by decide +kernel
theorem dL_law_1042 : decode cL_law 1042 = .ok (.iload 4, 2) := by decide +kernel
theorem dL_law_1044 : decode cL_law 1044 = .ok (.iconst 2, 1) := by decide +kernel
theorem dL_law_1045 : decode cL_law 1045 = .ok (.iadd, 1) := by decide +kernel
theorem dL_law_1046 : decode cL_law 1046 = .ok (.iaload, 1) := by decide +kernel
theorem dL_law_1047 : decode cL_law 1047 = .ok (.invokevirtual 134, 3) := by decide +kernel
theorem dL_law_1050 : decode cL_law 1050 = .ok (.istore 6, 2) := by decide +kernel
theorem dL_law_1052 : decode cL_law 1052 = .ok (.aload_n 2, 1) := by decide +kernel
theorem dL_law_1053 : decode cL_law 1053 = .ok (.invokevirtual 76, 3) := by decide +kernel
theorem dL_law_1056 : decode cL_law 1056 = .ok (.iload 5, 2) := by decide +kernel
theorem dL_law_1058 : decode cL_law 1058 = .ok (.if_icmp .eq 5, 3) := by decide +kernel
theorem dL_law_1061 : decode cL_law 1061 = .ok (.iconst 0, 1) := by decide +kernel
theorem dL_law_1062 : decode cL_law 1062 = .ok (.ireturn, 1) := by decide +kernel
theorem dL_law_1063 : decode cL_law 1063 = .ok (.iload 5, 2) := by decide +kernel
theorem dL_law_1065 : decode cL_law 1065 = .ok (.ifCond .ne 15, 3) := by decide +kernel
theorem dL_law_1068 : decode cL_law 1068 = .ok (.aload_n 3, 1) := by decide +kernel
theorem dL_law_1069 : decode cL_law 1069 = .ok (.iconst 0, 1) := by decide +kernel
theorem dL_law_1070 : decode cL_law 1070 = .ok (.laload, 1) := by decide +kernel
theorem dL_law_1071 : decode cL_law 1071 = .ok (.iload 6, 2) := by decide +kernel
theorem dL_law_1073 : decode cL_law 1073 = .ok (.i2l, 1) := by decide +kernel
theorem dL_law_1074 : decode cL_law 1074 = .ok (.lcmp, 1) := by decide +kernel
theorem dL_law_1075 : decode cL_law 1075 = .ok (.ifCond .eq 5, 3) := by decide +kernel
theorem dL_law_1078 : decode cL_law 1078 = .ok (.iconst 0, 1) := by decide +kernel
theorem dL_law_1079 : decode cL_law 1079 = .ok (.ireturn, 1) := by decide +kernel
theorem dL_law_1080 : decode cL_law 1080 = .ok (.goto 114, 3) := by decide +kernel
theorem dL_law_1083 : decode cL_law 1083 = .ok (.aload_n 1, 1) := by decide +kernel
theorem dL_law_1084 : decode cL_law 1084 = .ok (.aload_n 0, 1) := by decide +kernel
theorem dL_law_1085 : decode cL_law 1085 = .ok (.iload 4, 2) := by decide +kernel
theorem dL_law_1087 : decode cL_law 1087 = .ok (.iconst 1, 1) := by decide +kernel
theorem dL_law_1088 : decode cL_law 1088 = .ok (.iadd, 1) := by decide +kernel
theorem dL_law_1089 : decode cL_law 1089 = .ok (.iaload, 1) := by decide +kernel
theorem dL_law_1090 : decode cL_law 1090 = .ok (.aload_n 3, 1) := by decide +kernel
theorem dL_law_1091 : decode cL_law 1091 = .ok (.invokestatic 135, 3) := by decide +kernel
theorem dL_law_1094 : decode cL_law 1094 = .ok (.istore 5, 2) := by decide +kernel
theorem dL_law_1096 : decode cL_law 1096 = .ok (.aload_n 2, 1) := by decide +kernel
theorem dL_law_1097 : decode cL_law 1097 = .ok (.aload_n 0, 1) := by decide +kernel
theorem dL_law_1098 : decode cL_law 1098 = .ok (.iload 4, 2) := by decide +kernel
theorem dL_law_1100 : decode cL_law 1100 = .ok (.iconst 1, 1) := by decide +kernel
theorem dL_law_1101 : decode cL_law 1101 = .ok (.iadd, 1) := by decide +kernel
theorem dL_law_1102 : decode cL_law 1102 = .ok (.iaload, 1) := by decide +kernel
theorem dL_law_1103 : decode cL_law 1103 = .ok (.invokevirtual 137, 3) := by decide +kernel
theorem dL_law_1106 : decode cL_law 1106 = .ok (.istore 6, 2) := by decide +kernel
theorem dL_law_1108 : decode cL_law 1108 = .ok (.aload_n 2, 1) := by decide +kernel
theorem dL_law_1109 : decode cL_law 1109 = .ok (.invokevirtual 76, 3) := by decide +kernel
theorem dL_law_1112 : decode cL_law 1112 = .ok (.iload 5, 2) := by decide +kernel
theorem dL_law_1114 : decode cL_law 1114 = .ok (.if_icmp .eq 5, 3) := by decide +kernel
theorem dL_law_1117 : decode cL_law 1117 = .ok (.iconst 0, 1) := by decide +kernel
theorem dL_law_1118 : decode cL_law 1118 = .ok (.ireturn, 1) := by decide +kernel
theorem dL_law_1119 : decode cL_law 1119 = .ok (.iload 5, 2) := by decide +kernel
theorem dL_law_1121 : decode cL_law 1121 = .ok (.ifCond .ne 15, 3) := by decide +kernel
theorem dL_law_1124 : decode cL_law 1124 = .ok (.aload_n 3, 1) := by decide +kernel
theorem dL_law_1125 : decode cL_law 1125 = .ok (.iconst 0, 1) := by decide +kernel
theorem dL_law_1126 : decode cL_law 1126 = .ok (.laload, 1) := by decide +kernel
theorem dL_law_1127 : decode cL_law 1127 = .ok (.iload 6, 2) := by decide +kernel
theorem dL_law_1129 : decode cL_law 1129 = .ok (.i2l, 1) := by decide +kernel
theorem dL_law_1130 : decode cL_law 1130 = .ok (.lcmp, 1) := by decide +kernel
theorem dL_law_1131 : decode cL_law 1131 = .ok (.ifCond .eq 5, 3) := by decide +kernel
theorem dL_law_1134 : decode cL_law 1134 = .ok (.iconst 0, 1) := by decide +kernel
theorem dL_law_1135 : decode cL_law 1135 = .ok (.ireturn, 1) := by decide +kernel
theorem dL_law_1136 : decode cL_law 1136 = .ok (.goto 58, 3) := by decide +kernel
theorem dL_law_1139 : decode cL_law 1139 = .ok (.aload_n 1, 1) := by decide +kernel
theorem dL_law_1140 : decode cL_law 1140 = .ok (.invokevirtual 138, 3) := by decide +kernel
theorem dL_law_1143 : decode cL_law 1143 = .ok (.dstore 5, 2) := by decide +kernel
theorem dL_law_1145 : decode cL_law 1145 = .ok (.aload_n 2, 1) := by decide +kernel
theorem dL_law_1146 : decode cL_law 1146 = .ok (.invokevirtual 142, 3) := by decide +kernel
theorem dL_law_1149 : decode cL_law 1149 = .ok (.dstore 7, 2) := by decide +kernel
theorem dL_law_1151 : decode cL_law 1151 = .ok (.dload 5, 2) := by decide +kernel
theorem dL_law_1153 : decode cL_law 1153 = .ok (.dload 7, 2) := by decide +kernel
theorem dL_law_1155 : decode cL_law 1155 = .ok (.dcmp .l, 1) := by decide +kernel
theorem dL_law_1156 : decode cL_law 1156 = .ok (.ifCond .eq 21, 3) := by decide +kernel
theorem dL_law_1159 : decode cL_law 1159 = .ok (.dload 5, 2) := by decide +kernel
theorem dL_law_1161 : decode cL_law 1161 = .ok (.dload 5, 2) := by decide +kernel
theorem dL_law_1163 : decode cL_law 1163 = .ok (.dcmp .l, 1) := by decide +kernel
theorem dL_law_1164 : decode cL_law 1164 = .ok (.ifCond .eq 11, 3) := by decide +kernel
theorem dL_law_1167 : decode cL_law 1167 = .ok (.dload 7, 2) := by decide +kernel
theorem dL_law_1169 : decode cL_law 1169 = .ok (.dload 7, 2) := by decide +kernel
theorem dL_law_1171 : decode cL_law 1171 = .ok (.dcmp .l, 1) := by decide +kernel
theorem dL_law_1172 : decode cL_law 1172 = .ok (.ifCond .ne 5, 3) := by decide +kernel
theorem dL_law_1175 : decode cL_law 1175 = .ok (.iconst 0, 1) := by decide +kernel
theorem dL_law_1176 : decode cL_law 1176 = .ok (.ireturn, 1) := by decide +kernel
theorem dL_law_1177 : decode cL_law 1177 = .ok (.goto 17, 3) := by decide +kernel
theorem dL_law_1180 : decode cL_law 1180 = .ok (.aload_n 1, 1) := by decide +kernel
theorem dL_law_1181 : decode cL_law 1181 = .ok (.invokevirtual 143, 3) := by decide +kernel
theorem dL_law_1184 : decode cL_law 1184 = .ok (.aload_n 2, 1) := by decide +kernel
theorem dL_law_1185 : decode cL_law 1185 = .ok (.invokevirtual 147, 3) := by decide +kernel
theorem dL_law_1188 : decode cL_law 1188 = .ok (.lcmp, 1) := by decide +kernel
theorem dL_law_1189 : decode cL_law 1189 = .ok (.ifCond .eq 5, 3) := by decide +kernel
theorem dL_law_1192 : decode cL_law 1192 = .ok (.iconst 0, 1) := by decide +kernel
theorem dL_law_1193 : decode cL_law 1193 = .ok (.ireturn, 1) := by decide +kernel
theorem dL_law_1194 : decode cL_law 1194 = .ok (.iinc 4 6, 3) := by decide +kernel
theorem dL_law_1197 : decode cL_law 1197 = .ok (.goto (-1174), 3) := by decide +kernel
theorem dL_law_1200 : decode cL_law 1200 = .ok (.iconst 1, 1) := by decide +kernel
theorem dL_law_1201 : decode cL_law 1201 = .ok (.ireturn, 1) := by decide +kernel
