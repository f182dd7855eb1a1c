theorem dX3_ifDropped_24 : decode cX3_ifDropped 24 = .ok (.invokespecial 46, 3) := by decide +kernel
theorem dX3_ifDropped_27 : decode cX3_ifDropped 27 = .ok (.athrow, 1) := by decide +kernel
theorem dX3_ifDropped_28 : decode cX3_ifDropped 28 = .ok (.aload_n 0, 1) := by decide +kernel
theorem dX3_ifDropped_29 : decode cX3_ifDropped 29 = .ok (.iload_n 1, 1) := by decide +kernel
theorem dX3_ifDropped_30 : decode cX3_ifDropped 30 = .ok (.iload_n 2, 1) := by decide +kernel
theorem dX3_ifDropped_31 : decode cX3_ifDropped 31 = .ok (.iload_n 3, 1) := by decide +kernel
theorem dX3_ifDropped_32 : decode cX3_ifDropped 32 = .ok (.invokevirtual 142, 3) := by decide +kernel
theorem dX3_ifDropped_35 : decode cX3_ifDropped 35 = .ok (.istore 5, 2) := by decide +kernel
theorem dX3_ifDropped_37 : decode cX3_ifDropped 37 = .ok (.aload_n 0, 1) := by decide +kernel
theorem dX3_ifDropped_38 : decode cX3_ifDropped 38 = .ok (.getfield 16, 3) := by decide +kernel
theorem dX3_ifDropped_41 : decode cX3_ifDropped 41 = .ok (.invokevirtual 139, 3) := by decide +kernel
theorem dX3_ifDropped_44 : decode cX3_ifDropped 44 = .ok (.istore 6, 2) := by decide +kernel
theorem dX3_ifDropped_46 : decode cX3_ifDropped 46 = .ok (.iload 4, 2) := by decide +kernel
theorem dX3_ifDropped_48 : decode cX3_ifDropped 48 = .ok (.iconst 2, 1) := by decide +kernel
theorem dX3_ifDropped_49 : decode cX3_ifDropped 49 = .ok (.if_icmp .ne 19, 3) := by decide +kernel
theorem dX3_ifDropped_52 : decode cX3_ifDropped 52 = .ok (.aload_n 0, 1) := by decide +kernel
theorem dX3_ifDropped_53 : decode cX3_ifDropped 53 = .ok (.getfield 16, 3) := by decide +kernel
theorem dX3_ifDropped_56 : decode cX3_ifDropped 56 = .ok (.getfield 65, 3) := by decide +kernel
theorem dX3_ifDropped_59 : decode cX3_ifDropped 59 = .ok (.aload_n 0, 1) := by decide +kernel
theorem dX3_ifDropped_60 : decode cX3_ifDropped 60 = .ok (.getfield 12, 3) := by decide +kernel
theorem dX3_ifDropped_63 : decode cX3_ifDropped 63 = .ok (.getfield 65, 3) := by decide +kernel
theorem dX3_ifDropped_66 : decode cX3_ifDropped 66 = .ok (.isub, 1) := by decide +kernel
theorem dX3_ifDropped_67 : decode cX3_ifDropped 67 = .ok (.ireturn, 1) := by decide +kernel
theorem dX3_ifDropped_68 : decode cX3_ifDropped 68 = .ok (.iload 6, 2) := by decide +kernel
theorem dX3_ifDropped_70 : decode cX3_ifDropped 70 = .ok (.iconst (-1), 1) := by decide +kernel
theorem dX3_ifDropped_71 : decode cX3_ifDropped 71 = .ok (.if_icmp .eq 15, 3) := by decide +kernel
theorem dX3_ifDropped_74 : decode cX3_ifDropped 74 = .ok (.aload_n 0, 1) := by decide +kernel
theorem dX3_ifDropped_75 : decode cX3_ifDropped 75 = .ok (.getfield 16, 3) := by decide +kernel
theorem dX3_ifDropped_78 : decode cX3_ifDropped 78 = .ok (.iload 5, 2) := by decide +kernel
theorem dX3_ifDropped_80 : decode cX3_ifDropped 80 = .ok (.invokevirtual 146, 3) := by decide +kernel
theorem dX3_ifDropped_83 : decode cX3_ifDropped 83 = .ok (.ifCond .ne 5, 3) := by decide +kernel
theorem dX3_ifDropped_86 : decode cX3_ifDropped 86 = .ok (.iconst (-1), 1) := by decide +kernel
theorem dX3_ifDropped_87 : decode cX3_ifDropped 87 = .ok (.ireturn, 1) := by decide +kernel
theorem dX3_ifDropped_88 : decode cX3_ifDropped 88 = .ok (.iload 4, 2) := by decide +kernel
theorem dX3_ifDropped_90 : decode cX3_ifDropped 90 = .ok (.ifCond .ne 16, 3) := by decide +kernel
theorem dX3_ifDropped_93 : decode cX3_ifDropped 93 = .ok (.aload_n 0, 1) := by decide +kernel
theorem dX3_ifDropped_94 : decode cX3_ifDropped 94 = .ok (.getfield 16, 3) := by decide +kernel
theorem dX3_ifDropped_97 : decode cX3_ifDropped 97 = .ok (.getfield 149, 3) := by decide +kernel
theorem dX3_ifDropped_100 : decode cX3_ifDropped 100 = .ok (.iload 5, 2) := by decide +kernel
theorem dX3_ifDropped_102 : decode cX3_ifDropped 102 = .ok (.iaload, 1) := by decide +kernel
theorem dX3_ifDropped_103 : decode cX3_ifDropped 103 = .ok (.goto 13, 3) := by decide +kernel
theorem dX3_ifDropped_106 : decode cX3_ifDropped 106 = .ok (.aload_n 0, 1) := by decide +kernel
theorem dX3_ifDropped_107 : decode cX3_ifDropped 107 = .ok (.getfield 16, 3) := by decide +kernel
theorem dX3_ifDropped_110 : decode cX3_ifDropped 110 = .ok (.getfield 89, 3) := by decide +kernel
theorem dX3_ifDropped_113 : decode cX3_ifDropped 113 = .ok (.iload 5, 2) := by decide +kernel
theorem dX3_ifDropped_115 : decode cX3_ifDropped 115 = .ok (.iaload, 1) := by decide +kernel
theorem dX3_ifDropped_116 : decode cX3_ifDropped 116 = .ok (.ireturn, 1) := by decide +kernel
theorem dX3_bestColumn_0 : decode cX3_bestColumn 0 = .ok (.iload_n 1, 1) := by decide +kernel
theorem dX3_bestColumn_1 : decode cX3_bestColumn 1 = .ok (.invokestatic 152, 3) := by decide +kernel
theorem dX3_bestColumn_4 : decode cX3_bestColumn 4 = .ok (.ifCond .eq 10, 3) := by decide +kernel
theorem dX3_bestColumn_7 : decode cX3_bestColumn 7 = .ok (.iload_n 2, 1) := by decide +kernel
theorem dX3_bestColumn_8 : decode cX3_bestColumn 8 = .ok (.invokestatic 155, 3) := by decide +kernel
theorem dX3_bestColumn_11 : decode cX3_bestColumn 11 = .ok (.ifCond .ne 11, 3) := by decide +kernel
theorem dX3_bestColumn_14 : decode cX3_bestColumn 14 = .ok (.new 44, 3) := by decide +kernel
theorem dX3_bestColumn_17 : decode cX3_bestColumn 17 = .ok (.dup, 1) := by decide +kernel
theorem dX3_bestColumn_18 : decode cX3_bestColumn 18 = .ok (.invokespecial 46, 3) := by decide +kernel
theorem dX3_bestColumn_21 : decode cX3_bestColumn 21 = .ok (.athrow, 1) := by decide +kernel
theorem dX3_bestColumn_22 : decode cX3_bestColumn 22 = .ok (.iconst (-1), 1) := by decide +kernel
theorem dX3_bestColumn_23 : decode cX3_bestColumn 23 = .ok (.istore_n 3, 1) := by decide +kernel
theorem dX3_bestColumn_24 : decode cX3_bestColumn 24 = .ok (.iconst (-1), 1) := by decide +kernel
theorem dX3_bestColumn_25 : decode cX3_bestColumn 25 = .ok (.istore 4, 2) := by decide +kernel
theorem dX3_bestColumn_27 : decode cX3_bestColumn 27 = .ok (.iconst 0, 1) := by decide +kernel
theorem dX3_bestColumn_28 : decode cX3_bestColumn 28 = .ok (.istore 5, 2) := by decide +kernel
theorem dX3_bestColumn_30 : decode cX3_bestColumn 30 = .ok (.iconst 0, 1) := by decide +kernel
theorem dX3_bestColumn_31 : decode cX3_bestColumn 31 = .ok (.istore 6, 2) := by decide +kernel
theorem dX3_bestColumn_33 : decode cX3_bestColumn 33 = .ok (.iload 6, 2) := by decide +kernel
theorem dX3_bestColumn_35 : decode cX3_bestColumn 35 = .ok (.iload_n 1, 1) := by decide +kernel
theorem dX3_bestColumn_36 : decode cX3_bestColumn 36 = .ok (.iadd, 1) := by decide +kernel
theorem dX3_bestColumn_37 : decode cX3_bestColumn 37 = .ok (.bipush 24, 2) := by decide +kernel
theorem dX3_bestColumn_39 : decode cX3_bestColumn 39 = .ok (.if_icmp .gt 106, 3) := by decide +kernel
theorem dX3_bestColumn_42 : decode cX3_bestColumn 42 = .ok (.aload_n 0, 1) := by decide +kernel
theorem dX3_bestColumn_43 : decode cX3_bestColumn 43 = .ok (.iload_n 1, 1) := by decide +kernel
theorem dX3_bestColumn_44 : decode cX3_bestColumn 44 = .ok (.iload_n 2, 1) := by decide +kernel
theorem dX3_bestColumn_45 : decode cX3_bestColumn 45 = .ok (.iload 6, 2) := by decide +kernel
theorem dX3_bestColumn_47 : decode cX3_bestColumn 47 = .ok (.invokevirtual 142, 3) := by decide +kernel
theorem dX3_bestColumn_50 : decode cX3_bestColumn 50 = .ok (.istore 7, 2) := by decide +kernel
theorem dX3_bestColumn_52 : decode cX3_bestColumn 52 = .ok (.aload_n 0, 1) := by decide +kernel
theorem dX3_bestColumn_53 : decode cX3_bestColumn 53 = .ok (.getfield 16, 3) := by decide +kernel
theorem dX3_bestColumn_56 : decode cX3_bestColumn 56 = .ok (.invokevirtual 139, 3) := by decide +kernel
theorem dX3_bestColumn_59 : decode cX3_bestColumn 59 = .ok (.iconst (-1), 1) := by decide +kernel
theorem dX3_bestColumn_60 : decode cX3_bestColumn 60 = .ok (.if_icmp .eq 79, 3) := by decide +kernel
theorem dX3_bestColumn_63 : decode cX3_bestColumn 63 = .ok (.aload_n 0, 1) := by decide +kernel
theorem dX3_bestColumn_64 : decode cX3_bestColumn 64 = .ok (.getfield 16, 3) := by decide +kernel
theorem dX3_bestColumn_67 : decode cX3_bestColumn 67 = .ok (.iload 7, 2) := by decide +kernel
theorem dX3_bestColumn_69 : decode cX3_bestColumn 69 = .ok (.invokevirtual 146, 3) := by decide +kernel
theorem dX3_bestColumn_72 : decode cX3_bestColumn 72 = .ok (.ifCond .ne 6, 3) := by decide +kernel
theorem dX3_bestColumn_75 : decode cX3_bestColumn 75 = .ok (.goto 64, 3) := by decide +kernel
theorem dX3_bestColumn_78 : decode cX3_bestColumn 78 = .ok (.aload_n 0, 1) := by decide +kernel
theorem dX3_bestColumn_79 : decode cX3_bestColumn 79 = .ok (.getfield 16, 3) := by decide +kernel
theorem dX3_bestColumn_82 : decode cX3_bestColumn 82 = .ok (.getfield 149, 3) := by decide +kernel
theorem dX3_bestColumn_85 : decode cX3_bestColumn 85 = .ok (.iload 7, 2) := by decide +kernel
theorem dX3_bestColumn_87 : decode cX3_bestColumn 87 = .ok (.iaload, 1) := by decide +kernel
theorem dX3_bestColumn_88 : decode cX3_bestColumn 88 = .ok (.istore 8, 2) := by decide +kernel
theorem dX3_bestColumn_90 : decode cX3_bestColumn 90 = .ok (.aload_n 0, 1) := by decide +kernel
theorem dX3_bestColumn_91 : decode cX3_bestColumn 91 = .ok (.getfield 16, 3) := by decide +kernel
theorem dX3_bestColumn_94 : decode cX3_bestColumn 94 = .ok (.getfield 65, 3) := by decide +kernel
theorem dX3_bestColumn_97 : decode cX3_bestColumn 97 = .ok (.aload_n 0, 1) := by decide +kernel
theorem dX3_bestColumn_98 : decode cX3_bestColumn 98 = .ok (.getfield 12, 3) := by decide +kernel
theorem dX3_bestColumn_101 : decode cX3_bestColumn 101 = .ok (.getfield 65, 3) := by decide +kernel
theorem dX3_bestColumn_104 : decode cX3_bestColumn 104 = .ok (.isub, 1) := by decide +kernel
theorem dX3_bestColumn_105 : decode cX3_bestColumn 105 = .ok (.istore 9, 2) := by decide +kernel
theorem dX3_bestColumn_107 : decode cX3_bestColumn 107 = .ok (.iload 8, 2) := by decide +kernel
theorem dX3_bestColumn_109 : decode cX3_bestColumn 109 = .ok (.iload 4, 2) := by decide +kernel
theorem dX3_bestColumn_111 : decode cX3_bestColumn 111 = .ok (.if_icmp .gt 17, 3) := by decide +kernel
theorem dX3_bestColumn_114 : decode cX3_bestColumn 114 = .ok (.iload 8, 2) := by decide +kernel
theorem dX3_bestColumn_116 : decode cX3_bestColumn 116 = .ok (.iload 4, 2) := by decide +kernel
theorem dX3_bestColumn_118 : decode cX3_bestColumn 118 = .ok (.if_icmp .ne 21, 3) := by decide +kernel
theorem dX3_bestColumn_121 : decode cX3_bestColumn 121 = .ok (.iload 9, 2) := by decide +kernel
theorem dX3_bestColumn_123 : decode cX3_bestColumn 123 = .ok (.iload 5, 2) := by decide +kernel
theorem dX3_bestColumn_125 : decode cX3_bestColumn 125 = .ok (.if_icmp .ge 14, 3) := by decide +kernel
theorem dX3_bestColumn_128 : decode cX3_bestColumn 128 = .ok (.iload 6, 2) := by decide +kernel
theorem dX3_bestColumn_130 : decode cX3_bestColumn 130 = .ok (.istore_n 3, 1) := by decide +kernel
theorem dX3_bestColumn_131 : decode cX3_bestColumn 131 = .ok (.iload 8, 2) := by decide +kernel
theorem dX3_bestColumn_133 : decode cX3_bestColumn 133 = .ok (.istore 4, 2) := by decide +kernel
theorem dX3_bestColumn_135 : decode cX3_bestColumn 135 = .ok (.iload 9, 2) := by decide +kernel
theorem dX3_bestColumn_137 : decode cX3_bestColumn 137 = .ok (.istore 5, 2) := by decide +kernel
theorem dX3_bestColumn_139 : decode cX3_bestColumn 139 = .ok (.iinc 6 1, 3) := by decide +kernel
theorem dX3_bestColumn_142 : decode cX3_bestColumn 142 = .ok (.goto (-109), 3) := by decide +kernel
theorem dX3_bestColumn_145 : decode cX3_bestColumn 145 = .ok (.iload_n 3, 1) := by decide +kernel
theorem dX3_bestColumn_146 : decode cX3_bestColumn 146 = .ok (.ireturn, 1) := by decide +kernel
theorem dX3_ifReset_0 : decode cX3_ifReset 0 = .ok (.iload_n 1, 1) := by decide +kernel
theorem dX3_ifReset_1 : decode cX3_ifReset 1 = .ok (.invokestatic 37, 3) := by decide +kernel
theorem dX3_ifReset_4 : decode cX3_ifReset 4 = .ok (.ifCond .ne 11, 3) := by decide +kernel
theorem dX3_ifReset_7 : decode cX3_ifReset 7 = .ok (.new 44, 3) := by decide +kernel
theorem dX3_ifReset_10 : decode cX3_ifReset 10 = .ok (.dup, 1) := by decide +kernel
theorem dX3_ifReset_11 : decode cX3_ifReset 11 = .ok (.invokespecial 46, 3) := by decide +kernel
theorem dX3_ifReset_14 : decode cX3_ifReset 14 = .ok (.athrow, 1) := by decide +kernel
theorem dX3_ifReset_15 : decode cX3_ifReset 15 = .ok (.aload_n 0, 1) := by decide +kernel
theorem dX3_ifReset_16 : decode cX3_ifReset 16 = .ok (.getfield 16, 3) := by decide +kernel
theorem dX3_ifReset_19 : decode cX3_ifReset 19 = .ok (.aload_n 0, 1) := by decide +kernel
theorem dX3_ifReset_20 : decode cX3_ifReset 20 = .ok (.getfield 12, 3) := by decide +kernel
theorem dX3_ifReset_23 : decode cX3_ifReset 23 = .ok (.invokevirtual 136, 3) := by decide +kernel
theorem dX3_ifReset_26 : decode cX3_ifReset 26 = .ok (.aload_n 0, 1) := by decide +kernel
theorem dX3_ifReset_27 : decode cX3_ifReset 27 = .ok (.getfield 16, 3) := by decide +kernel
theorem dX3_ifReset_30 : decode cX3_ifReset 30 = .ok (.iload_n 1, 1) := by decide +kernel
theorem dX3_ifReset_31 : decode cX3_ifReset 31 = .ok (.invokevirtual 71, 3) := by decide +kernel
theorem dX3_ifReset_34 : decode cX3_ifReset 34 = .ok (.pop, 1) := by decide +kernel
theorem dX3_ifReset_35 : decode cX3_ifReset 35 = .ok (.aload_n 0, 1) := by decide +kernel
theorem dX3_ifReset_36 : decode cX3_ifReset 36 = .ok (.getfield 16, 3) := by decide +kernel
theorem dX3_ifReset_39 : decode cX3_ifReset 39 = .ok (.invokevirtual 139, 3) := by decide +kernel
theorem dX3_ifReset_42 : decode cX3_ifReset 42 = .ok (.iconst (-1), 1) := by decide +kernel
theorem dX3_ifReset_43 : decode cX3_ifReset 43 = .ok (.if_icmp .ne 5, 3) := by decide +kernel
theorem dX3_ifReset_46 : decode cX3_ifReset 46 = .ok (.iconst (-1), 1) := by decide +kernel
theorem dX3_ifReset_47 : decode cX3_ifReset 47 = .ok (.ireturn, 1) := by decide +kernel
theorem dX3_ifReset_48 : decode cX3_ifReset 48 = .ok (.iconst 0, 1) := by decide +kernel
theorem dX3_ifReset_49 : decode cX3_ifReset 49 = .ok (.istore_n 2, 1) := by decide +kernel
theorem dX3_ifReset_50 : decode cX3_ifReset 50 = .ok (.iconst 0, 1) := by decide +kernel
theorem dX3_ifReset_51 : decode cX3_ifReset 51 = .ok (.istore_n 3, 1) := by decide +kernel
theorem dX3_ifReset_52 : decode cX3_ifReset 52 = .ok (.iload_n 3, 1) := by decide +kernel
theorem dX3_ifReset_53 : decode cX3_ifReset 53 = .ok (.aload_n 0, 1) := by decide +kernel
theorem dX3_ifReset_54 : decode cX3_ifReset 54 = .ok (.getfield 12, 3) := by decide +kernel
theorem dX3_ifReset_57 : decode cX3_ifReset 57 = .ok (.getfield 47, 3) := by decide +kernel
theorem dX3_ifReset_60 : decode cX3_ifReset 60 = .ok (.if_icmp .ge 80, 3) := by decide +kernel
theorem dX3_ifReset_63 : decode cX3_ifReset 63 = .ok (.aload_n 0, 1) := by decide +kernel
theorem dX3_ifReset_64 : decode cX3_ifReset 64 = .ok (.getfield 12, 3) := by decide +kernel
theorem dX3_ifReset_67 : decode cX3_ifReset 67 = .ok (.iload_n 3, 1) := by decide +kernel
theorem dX3_ifReset_68 : decode cX3_ifReset 68 = .ok (.invokevirtual 146, 3) := by decide +kernel
theorem dX3_ifReset_71 : decode cX3_ifReset 71 = .ok (.ifCond .eq 20, 3) := by decide +kernel
theorem dX3_ifReset_74 : decode cX3_ifReset 74 = .ok (.aload_n 0, 1) := by decide +kernel
theorem dX3_ifReset_75 : decode cX3_ifReset 75 = .ok (.getfield 12, 3) := by decide +kernel
theorem dX3_ifReset_78 : decode cX3_ifReset 78 = .ok (.getfield 158, 3) := by decide +kernel
theorem dX3_ifReset_81 : decode cX3_ifReset 81 = .ok (.iload_n 3, 1) := by decide +kernel
theorem dX3_ifReset_82 : decode cX3_ifReset 82 = .ok (.iaload, 1) := by decide +kernel
theorem dX3_ifReset_83 : decode cX3_ifReset 83 = .ok (.iload_n 1, 1) := by decide +kernel
theorem dX3_ifReset_84 : decode cX3_ifReset 84 = .ok (.if_icmp .eq 7, 3) := by decide +kernel
theorem dX3_ifReset_87 : decode cX3_ifReset 87 = .ok (.iconst 1, 1) := by decide +kernel
theorem dX3_ifReset_88 : decode cX3_ifReset 88 = .ok (.goto 4, 3) := by decide +kernel
theorem dX3_ifReset_91 : decode cX3_ifReset 91 = .ok (.iconst 0, 1) := by decide +kernel
theorem dX3_ifReset_92 : decode cX3_ifReset 92 = .ok (.istore 4, 2) := by decide +kernel
theorem dX3_ifReset_94 : decode cX3_ifReset 94 = .ok (.iload 4, 2) := by decide +kernel
theorem dX3_ifReset_96 : decode cX3_ifReset 96 = .ok (.ifCond .eq 38, 3) := by decide +kernel
theorem dX3_ifReset_99 : decode cX3_ifReset 99 = .ok (.aload_n 0, 1) := by decide +kernel
theorem dX3_ifReset_100 : decode cX3_ifReset 100 = .ok (.getfield 16, 3) := by decide +kernel
theorem dX3_ifReset_103 : decode cX3_ifReset 103 = .ok (.iload_n 3, 1) := by decide +kernel
theorem dX3_ifReset_104 : decode cX3_ifReset 104 = .ok (.invokevirtual 146, 3) := by decide +kernel
theorem dX3_ifReset_107 : decode cX3_ifReset 107 = .ok (.ifCond .eq 24, 3) := by decide +kernel
theorem dX3_ifReset_110 : decode cX3_ifReset 110 = .ok (.aload_n 0, 1) := by decide +kernel
theorem dX3_ifReset_111 : decode cX3_ifReset 111 = .ok (.getfield 16, 3) := by decide +kernel
theorem dX3_ifReset_114 : decode cX3_ifReset 114 = .ok (.getfield 149, 3) := by decide +kernel
theorem dX3_ifReset_117 : decode cX3_ifReset 117 = .ok (.iload_n 3, 1) := by decide +kernel
theorem dX3_ifReset_118 : decode cX3_ifReset 118 = .ok (.iaload, 1) := by decide +kernel
theorem dX3_ifReset_119 : decode cX3_ifReset 119 = .ok (.aload_n 0, 1) := by decide +kernel
theorem dX3_ifReset_120 : decode cX3_ifReset 120 = .ok (.getfield 12, 3) := by decide +kernel
theorem dX3_ifReset_123 : decode cX3_ifReset 123 = .ok (.getfield 149, 3) := by decide +kernel
theorem dX3_ifReset_126 : decode cX3_ifReset 126 = .ok (.iload_n 3, 1) := by decide +kernel
theorem dX3_ifReset_127 : decode cX3_ifReset 127 = .ok (.iaload, 1) := by decide +kernel
theorem dX3_ifReset_128 : decode cX3_ifReset 128 = .ok (.if_icmp .le 6, 3) := by decide +kernel
theorem dX3_ifReset_131 : decode cX3_ifReset 131 = .ok (.iinc 2 1, 3) := by decide +kernel
theorem dX3_ifReset_134 : decode cX3_ifReset 134 = .ok (.iinc 3 1, 3) := by decide +kernel
theorem dX3_ifReset_137 : decode cX3_ifReset 137 = .ok (.goto (-85), 3) := by decide +kernel
theorem dX3_ifReset_140 : decode cX3_ifReset 140 = .ok (.iload_n 2, 1) := by decide +kernel
theorem dX3_ifReset_141 : decode cX3_ifReset 141 = .ok (.ireturn, 1) := by decide +kernel
theorem dX3_fullness_0 : decode cX3_fullness 0 = .ok (.aload_n 0, 1) := by decide +kernel
theorem dX3_fullness_1 : decode cX3_fullness 1 = .ok (.getfield 12, 3) := by decide +kernel
theorem dX3_fullness_4 : decode cX3_fullness 4 = .ok (.invokevirtual 161, 3) := by decide +kernel
theorem dX3_fullness_7 : decode cX3_fullness 7 = .ok (.i2d, 1) := by decide +kernel
theorem dX3_fullness_8 : decode cX3_fullness 8 = .ok (.ldc2_w 164, 3) := by decide +kernel
theorem dX3_fullness_11 : decode cX3_fullness 11 = .ok (.ddiv, 1) := by decide +kernel
theorem dX3_fullness_12 : decode cX3_fullness 12 = .ok (.dreturn, 1) := by decide +kernel
theorem dX3_digest_0 : decode cX3_digest 0 = .ok (.aload_n 0, 1) := by decide +kernel
theorem dX3_digest_1 : decode cX3_digest 1 = .ok (.ldc2_w 166, 3) := by decide +kernel
theorem dX3_digest_4 : decode cX3_digest 4 = .ok (.invokevirtual 168, 3) := by decide +kernel
theorem dX3_digest_7 : decode cX3_digest 7 = .ok (.lstore_n 1, 1) := by decide +kernel
theorem dX3_digest_8 : decode cX3_digest 8 = .ok (.ldc2_w 172, 3) := by decide +kernel
theorem dX3_digest_11 : decode cX3_digest 11 = .ok (.lload_n 1, 1) := by decide +kernel
theorem dX3_digest_12 : decode cX3_digest 12 = .ok (.lmul, 1) := by decide +kernel
theorem dX3_digest_13 : decode cX3_digest 13 = .ok (.aload_n 0, 1) := by decide +kernel
theorem dX3_digest_14 : decode cX3_digest 14 = .ok (.invokevirtual 174, 3) := by decide +kernel
theorem dX3_digest_17 : decode cX3_digest 17 = .ok (.i2l, 1) := by decide +kernel
theorem dX3_digest_18 : decode cX3_digest 18 = .ok (.ladd, 1) := by decide +kernel
theorem dX3_digest_19 : decode cX3_digest 19 = .ok (.lstore_n 1, 1) := by decide +kernel
theorem dX3_digest_20 : decode cX3_digest 20 = .ok (.iconst 0, 1) := by decide +kernel
theorem dX3_digest_21 : decode cX3_digest 21 = .ok (.istore_n 3, 1) := by decide +kernel
theorem dX3_digest_22 : decode cX3_digest 22 = .ok (.iload_n 3, 1) := by decide +kernel
theorem dX3_digest_23 : decode cX3_digest 23 = .ok (.iconst 2, 1) := by decide +kernel
theorem dX3_digest_24 : decode cX3_digest 24 = .ok (.if_icmp .gt 25, 3) := by decide +kernel
theorem dX3_digest_27 : decode cX3_digest 27 = .ok (.ldc2_w 172, 3) := by decide +kernel
theorem dX3_digest_30 : decode cX3_digest 30 = .ok (.lload_n 1, 1) := by decide +kernel
theorem dX3_digest_31 : decode cX3_digest 31 = .ok (.lmul, 1) := by decide +kernel
theorem dX3_digest_32 : decode cX3_digest 32 = .ok (.aload_n 0, 1) := by decide +kernel
theorem dX3_digest_33 : decode cX3_digest 33 = .ok (.iconst 5, 1) := by decide +kernel
theorem dX3_digest_34 : decode cX3_digest 34 = .ok (.iconst 3, 1) := by decide +kernel
theorem dX3_digest_35 : decode cX3_digest 35 = .ok (.iconst 4, 1) := by decide +kernel
theorem dX3_digest_36 : decode cX3_digest 36 = .ok (.iload_n 3, 1) := by decide +kernel
theorem dX3_digest_37 : decode cX3_digest 37 = .ok (.invokevirtual 177, 3) := by decide +kernel
theorem dX3_digest_40 : decode cX3_digest 40 = .ok (.i2l, 1) := by decide +kernel
theorem dX3_digest_41 : decode cX3_digest 41 = .ok (.ladd, 1) := by decide +kernel
theorem dX3_digest_42 : decode cX3_digest 42 = .ok (.lstore_n 1, 1) := by decide +kernel
theorem dX3_digest_43 : decode cX3_digest 43 = .ok (.iinc 3 1, 3) := by decide +kernel
theorem dX3_digest_46 : decode cX3_digest 46 = .ok (.goto (-24), 3) := by decide +kernel
theorem dX3_digest_49 : decode cX3_digest 49 = .ok (.ldc2_w 172, 3) := by decide +kernel
theorem dX3_digest_52 : decode cX3_digest 52 = .ok (.lload_n 1, 1) := by decide +kernel
theorem dX3_digest_53 : decode cX3_digest 53 = .ok (.lmul, 1) := by decide +kernel
theorem dX3_digest_54 : decode cX3_digest 54 = .ok (.aload_n 0, 1) := by decide +kernel
theorem dX3_digest_55 : decode cX3_digest 55 = .ok (.bipush 6, 2) := by decide +kernel
theorem dX3_digest_57 : decode cX3_digest 57 = .ok (.iconst 2, 1) := by decide +kernel
theorem dX3_digest_58 : decode cX3_digest 58 = .ok (.invokevirtual 181, 3) := by decide +kernel
theorem dX3_digest_61 : decode cX3_digest 61 = .ok (.i2l, 1) := by decide +kernel
theorem dX3_digest_62 : decode cX3_digest 62 = .ok (.ladd, 1) := by decide +kernel
theorem dX3_digest_63 : decode cX3_digest 63 = .ok (.lstore_n 1, 1) := by decide +kernel
theorem dX3_digest_64 : decode cX3_digest 64 = .ok (.iconst 0, 1) := by decide +kernel
theorem dX3_digest_65 : decode cX3_digest 65 = .ok (.istore_n 3, 1) := by decide +kernel
theorem dX3_digest_66 : decode cX3_digest 66 = .ok (.iload_n 3, 1) := by decide +kernel
theorem dX3_digest_67 : decode cX3_digest 67 = .ok (.iconst 3, 1) := by decide +kernel
theorem dX3_digest_68 : decode cX3_digest 68 = .ok (.if_icmp .gt 22, 3) := by decide +kernel
theorem dX3_digest_71 : decode cX3_digest 71 = .ok (.ldc2_w 172, 3) := by decide +kernel
theorem dX3_digest_74 : decode cX3_digest 74 = .ok (.lload_n 1, 1) := by decide +kernel
theorem dX3_digest_75 : decode cX3_digest 75 = .ok (.lmul, 1) := by decide +kernel
theorem dX3_digest_76 : decode cX3_digest 76 = .ok (.aload_n 0, 1) := by decide +kernel
theorem dX3_digest_77 : decode cX3_digest 77 = .ok (.iload_n 3, 1) := by decide +kernel
theorem dX3_digest_78 : decode cX3_digest 78 = .ok (.invokevirtual 184, 3) := by decide +kernel
theorem dX3_digest_81 : decode cX3_digest 81 = .ok (.i2l, 1) := by decide +kernel
theorem dX3_digest_82 : decode cX3_digest 82 = .ok (.ladd, 1) := by decide +kernel
theorem dX3_digest_83 : decode cX3_digest 83 = .ok (.lstore_n 1, 1) := by decide +kernel
theorem dX3_digest_84 : decode cX3_digest 84 = .ok (.iinc 3 1, 3) := by decide +kernel
theorem dX3_digest_87 : decode cX3_digest 87 = .ok (.goto (-21), 3) := by decide +kernel
theorem dX3_digest_90 : decode cX3_digest 90 = .ok (.ldc2_w 172, 3) := by decide +kernel
theorem dX3_digest_93 : decode cX3_digest 93 = .ok (.lload_n 1, 1) := by decide +kernel
theorem dX3_digest_94 : decode cX3_digest 94 = .ok (.lmul, 1) := by decide +kernel
theorem dX3_digest_95 : decode cX3_digest 95 = .ok (.aload_n 0, 1) := by decide +kernel
theorem dX3_digest_96 : decode cX3_digest 96 = .ok (.invokevirtual 187, 3) := by decide +kernel
theorem dX3_digest_99 : decode cX3_digest 99 = .ok (.invokestatic 191, 3) := by decide +kernel
theorem dX3_digest_102 : decode cX3_digest 102 = .ok (.ladd, 1) := by decide +kernel
theorem dX3_digest_103 : decode cX3_digest 103 = .ok (.lstore_n 1, 1) := by decide +kernel
theorem dX3_digest_104 : decode cX3_digest 104 = .ok (.ldc2_w 172, 3) := by decide +kernel
theorem dX3_digest_107 : decode cX3_digest 107 = .ok (.lload_n 1, 1) := by decide +kernel
theorem dX3_digest_108 : decode cX3_digest 108 = .ok (.lmul, 1) := by decide +kernel
theorem dX3_digest_109 : decode cX3_digest 109 = .ok (.aload_n 0, 1) := by decide +kernel
theorem dX3_digest_110 : decode cX3_digest 110 = .ok (.getfield 29, 3) := by decide +kernel
theorem dX3_digest_113 : decode cX3_digest 113 = .ok (.getfield 96, 3) := by decide +kernel
theorem dX3_digest_116 : decode cX3_digest 116 = .ok (.i2l, 1) := by decide +kernel
theorem dX3_digest_117 : decode cX3_digest 117 = .ok (.ladd, 1) := by decide +kernel
theorem dX3_digest_118 : decode cX3_digest 118 = .ok (.lstore_n 1, 1) := by decide +kernel
theorem dX3_digest_119 : decode cX3_digest 119 = .ok (.iconst 0, 1) := by decide +kernel
theorem dX3_digest_120 : decode cX3_digest 120 = .ok (.istore_n 3, 1) := by decide +kernel
theorem dX3_digest_121 : decode cX3_digest 121 = .ok (.iload_n 3, 1) := by decide +kernel
theorem dX3_digest_122 : decode cX3_digest 122 = .ok (.aload_n 0, 1) := by decide +kernel
theorem dX3_digest_123 : decode cX3_digest 123 = .ok (.getfield 29, 3) := by decide +kernel
theorem dX3_digest_126 : decode cX3_digest 126 = .ok (.getfield 96, 3) := by decide +kernel
theorem dX3_digest_129 : decode cX3_digest 129 = .ok (.if_icmp .ge 26, 3) := by decide +kernel
theorem dX3_digest_132 : decode cX3_digest 132 = .ok (.ldc2_w 172, 3) := by decide +kernel
theorem dX3_digest_135 : decode cX3_digest 135 = .ok (.lload_n 1, 1) := by decide +kernel
theorem dX3_digest_136 : decode cX3_digest 136 = .ok (.lmul, 1) := by decide +kernel
theorem dX3_digest_137 : decode cX3_digest 137 = .ok (.aload_n 0, 1) := by decide +kernel
theorem dX3_digest_138 : decode cX3_digest 138 = .ok (.getfield 29, 3) := by decide +kernel
theorem dX3_digest_141 : decode cX3_digest 141 = .ok (.getfield 195, 3) := by decide +kernel
theorem dX3_digest_144 : decode cX3_digest 144 = .ok (.iload_n 3, 1) := by decide +kernel
theorem dX3_digest_145 : decode cX3_digest 145 = .ok (.iaload, 1) := by decide +kernel
theorem dX3_digest_146 : decode cX3_digest 146 = .ok (.i2l, 1) := by decide +kernel
theorem dX3_digest_147 : decode cX3_digest 147 = .ok (.ladd, 1) := by decide +kernel
theorem dX3_digest_148 : decode cX3_digest 148 = .ok (.lstore_n 1, 1) := by decide +kernel
theorem dX3_digest_149 : decode cX3_digest 149 = .ok (.iinc 3 1, 3) := by decide +kernel
theorem dX3_digest_152 : decode cX3_digest 152 = .ok (.goto (-31), 3) := by decide +kernel
theorem dX3_digest_155 : decode cX3_digest 155 = .ok (.lload_n 1, 1) := by decide +kernel
theorem dX3_digest_156 : decode cX3_digest 156 = .ok (.lreturn, 1) := by decide +kernel
theorem dX3_hashOfLooks_0 : decode cX3_hashOfLooks 0 = .ok (.lload_n 1, 1) := by decide +kernel
theorem dX3_hashOfLooks_1 : decode cX3_hashOfLooks 1 = .ok (.lstore_n 3, 1) := by decide +kernel
theorem dX3_hashOfLooks_2 : decode cX3_hashOfLooks 2 = .ok (.iconst 0, 1) := by decide +kernel
theorem dX3_hashOfLooks_3 : decode cX3_hashOfLooks 3 = .ok (.istore 5, 2) := by decide +kernel
theorem dX3_hashOfLooks_5 : decode cX3_hashOfLooks 5 = .ok (.iload 5, 2) := by decide +kernel
theorem dX3_hashOfLooks_7 : decode cX3_hashOfLooks 7 = .ok (.bipush 11, 2) := by decide +kernel
theorem dX3_hashOfLooks_9 : decode cX3_hashOfLooks 9 = .ok (.if_icmp .ge 26, 3) := by decide +kernel
theorem dX3_hashOfLooks_12 : decode cX3_hashOfLooks 12 = .ok (.ldc2_w 172, 3) := by decide +kernel
theorem dX3_hashOfLooks_15 : decode cX3_hashOfLooks 15 = .ok (.lload_n 3, 1) := by decide +kernel
theorem dX3_hashOfLooks_16 : decode cX3_hashOfLooks 16 = .ok (.lmul, 1) := by decide +kernel
theorem dX3_hashOfLooks_17 : decode cX3_hashOfLooks 17 = .ok (.aload_n 0, 1) := by decide +kernel
theorem dX3_hashOfLooks_18 : decode cX3_hashOfLooks 18 = .ok (.getfield 12, 3) := by decide +kernel
theorem dX3_hashOfLooks_21 : decode cX3_hashOfLooks 21 = .ok (.iload 5, 2) := by decide +kernel
theorem dX3_hashOfLooks_23 : decode cX3_hashOfLooks 23 = .ok (.invokevirtual 133, 3) := by decide +kernel
theorem dX3_hashOfLooks_26 : decode cX3_hashOfLooks 26 = .ok (.i2l, 1) := by decide +kernel
theorem dX3_hashOfLooks_27 : decode cX3_hashOfLooks 27 = .ok (.ladd, 1) := by decide +kernel
theorem dX3_hashOfLooks_28 : decode cX3_hashOfLooks 28 = .ok (.lstore_n 3, 1) := by decide +kernel
theorem dX3_hashOfLooks_29 : decode cX3_hashOfLooks 29 = .ok (.iinc 5 1, 3) := by decide +kernel
theorem dX3_hashOfLooks_32 : decode cX3_hashOfLooks 32 = .ok (.goto (-27), 3) := by decide +kernel
theorem dX3_hashOfLooks_35 : decode cX3_hashOfLooks 35 = .ok (.ldc2_w 172, 3) := by decide +kernel
theorem dX3_hashOfLooks_38 : decode cX3_hashOfLooks 38 = .ok (.lload_n 3, 1) := by decide +kernel
theorem dX3_hashOfLooks_39 : decode cX3_hashOfLooks 39 = .ok (.lmul, 1) := by decide +kernel
theorem dX3_hashOfLooks_40 : decode cX3_hashOfLooks 40 = .ok (.aload_n 0, 1) := by decide +kernel
theorem dX3_hashOfLooks_41 : decode cX3_hashOfLooks 41 = .ok (.getfield 22, 3) := by decide +kernel
theorem dX3_hashOfLooks_44 : decode cX3_hashOfLooks 44 = .ok (.getfield 117, 3) := by decide +kernel
theorem dX3_hashOfLooks_47 : decode cX3_hashOfLooks 47 = .ok (.i2l, 1) := by decide +kernel
theorem dX3_hashOfLooks_48 : decode cX3_hashOfLooks 48 = .ok (.ladd, 1) := by decide +kernel
theorem dX3_hashOfLooks_49 : decode cX3_hashOfLooks 49 = .ok (.lstore_n 3, 1) := by decide +kernel
theorem dX3_hashOfLooks_50 : decode cX3_hashOfLooks 50 = .ok (.ldc2_w 172, 3) := by decide +kernel
theorem dX3_hashOfLooks_53 : decode cX3_hashOfLooks 53 = .ok (.lload_n 3, 1) := by decide +kernel
theorem dX3_hashOfLooks_54 : decode cX3_hashOfLooks 54 = .ok (.lmul, 1) := by decide +kernel
theorem dX3_hashOfLooks_55 : decode cX3_hashOfLooks 55 = .ok (.aload_n 0, 1) := by decide +kernel
theorem dX3_hashOfLooks_56 : decode cX3_hashOfLooks 56 = .ok (.getfield 12, 3) := by decide +kernel
theorem dX3_hashOfLooks_59 : decode cX3_hashOfLooks 59 = .ok (.getfield 93, 3) := by decide +kernel
theorem dX3_hashOfLooks_62 : decode cX3_hashOfLooks 62 = .ok (.i2l, 1) := by decide +kernel
theorem dX3_hashOfLooks_63 : decode cX3_hashOfLooks 63 = .ok (.ladd, 1) := by decide +kernel
theorem dX3_hashOfLooks_64 : decode cX3_hashOfLooks 64 = .ok (.lstore_n 3, 1) := by decide +kernel
theorem dX3_hashOfLooks_65 : decode cX3_hashOfLooks 65 = .ok (.iconst 0, 1) := by decide +kernel
theorem dX3_hashOfLooks_66 : decode cX3_hashOfLooks 66 = .ok (.istore 5, 2) := by decide +kernel
theorem dX3_hashOfLooks_68 : decode cX3_hashOfLooks 68 = .ok (.iload 5, 2) := by decide +kernel
theorem dX3_hashOfLooks_70 : decode cX3_hashOfLooks 70 = .ok (.aload_n 0, 1) := by decide +kernel
theorem dX3_hashOfLooks_71 : decode cX3_hashOfLooks 71 = .ok (.getfield 12, 3) := by decide +kernel
theorem dX3_hashOfLooks_74 : decode cX3_hashOfLooks 74 = .ok (.getfield 47, 3) := by decide +kernel
theorem dX3_hashOfLooks_77 : decode cX3_hashOfLooks 77 = .ok (.if_icmp .ge 44, 3) := by decide +kernel
theorem dX3_hashOfLooks_80 : decode cX3_hashOfLooks 80 = .ok (.iconst 0, 1) := by decide +kernel
theorem dX3_hashOfLooks_81 : decode cX3_hashOfLooks 81 = .ok (.istore 6, 2) := by decide +kernel
theorem dX3_hashOfLooks_83 : decode cX3_hashOfLooks 83 = .ok (.iload 6, 2) := by decide +kernel
theorem dX3_hashOfLooks_85 : decode cX3_hashOfLooks 85 = .ok (.bipush 11, 2) := by decide +kernel
theorem dX3_hashOfLooks_87 : decode cX3_hashOfLooks 87 = .ok (.if_icmp .gt 28, 3) := by decide +kernel
theorem dX3_hashOfLooks_90 : decode cX3_hashOfLooks 90 = .ok (.ldc2_w 172, 3) := by decide +kernel
theorem dX3_hashOfLooks_93 : decode cX3_hashOfLooks 93 = .ok (.lload_n 3, 1) := by decide +kernel
theorem dX3_hashOfLooks_94 : decode cX3_hashOfLooks 94 = .ok (.lmul, 1) := by decide +kernel
theorem dX3_hashOfLooks_95 : decode cX3_hashOfLooks 95 = .ok (.aload_n 0, 1) := by decide +kernel
theorem dX3_hashOfLooks_96 : decode cX3_hashOfLooks 96 = .ok (.getfield 12, 3) := by decide +kernel
theorem dX3_hashOfLooks_99 : decode cX3_hashOfLooks 99 = .ok (.iload 5, 2) := by decide +kernel
theorem dX3_hashOfLooks_101 : decode cX3_hashOfLooks 101 = .ok (.iload 6, 2) := by decide +kernel
theorem dX3_hashOfLooks_103 : decode cX3_hashOfLooks 103 = .ok (.invokevirtual 123, 3) := by decide +kernel
theorem dX3_hashOfLooks_106 : decode cX3_hashOfLooks 106 = .ok (.i2l, 1) := by decide +kernel
theorem dX3_hashOfLooks_107 : decode cX3_hashOfLooks 107 = .ok (.ladd, 1) := by decide +kernel
theorem dX3_hashOfLooks_108 : decode cX3_hashOfLooks 108 = .ok (.lstore_n 3, 1) := by decide +kernel
theorem dX3_hashOfLooks_109 : decode cX3_hashOfLooks 109 = .ok (.iinc 6 1, 3) := by decide +kernel
theorem dX3_hashOfLooks_112 : decode cX3_hashOfLooks 112 = .ok (.goto (-29), 3) := by decide +kernel
theorem dX3_hashOfLooks_115 : decode cX3_hashOfLooks 115 = .ok (.iinc 5 1, 3) := by decide +kernel
theorem dX3_hashOfLooks_118 : decode cX3_hashOfLooks 118 = .ok (.goto (-50), 3) := by decide +kernel
theorem dX3_hashOfLooks_121 : decode cX3_hashOfLooks 121 = .ok (.iconst 0, 1) := by decide +kernel
theorem dX3_hashOfLooks_122 : decode cX3_hashOfLooks 122 = .ok (.istore 5, 2) := by decide +kernel
theorem dX3_hashOfLooks_124 : decode cX3_hashOfLooks 124 = .ok (.iload 5, 2) := by decide +kernel
theorem dX3_hashOfLooks_126 : decode cX3_hashOfLooks 126 = .ok (.bipush 16, 2) := by decide +kernel
theorem dX3_hashOfLooks_128 : decode cX3_hashOfLooks 128 = .ok (.if_icmp .ge 44, 3) := by decide +kernel
theorem dX3_hashOfLooks_131 : decode cX3_hashOfLooks 131 = .ok (.iconst 0, 1) := by decide +kernel
theorem dX3_hashOfLooks_132 : decode cX3_hashOfLooks 132 = .ok (.istore 6, 2) := by decide +kernel
theorem dX3_hashOfLooks_134 : decode cX3_hashOfLooks 134 = .ok (.iload 6, 2) := by decide +kernel
theorem dX3_hashOfLooks_136 : decode cX3_hashOfLooks 136 = .ok (.bipush 24, 2) := by decide +kernel
theorem dX3_hashOfLooks_138 : decode cX3_hashOfLooks 138 = .ok (.if_icmp .ge 28, 3) := by decide +kernel
theorem dX3_hashOfLooks_141 : decode cX3_hashOfLooks 141 = .ok (.ldc2_w 172, 3) := by decide +kernel
theorem dX3_hashOfLooks_144 : decode cX3_hashOfLooks 144 = .ok (.lload_n 3, 1) := by decide +kernel
theorem dX3_hashOfLooks_145 : decode cX3_hashOfLooks 145 = .ok (.lmul, 1) := by decide +kernel
theorem dX3_hashOfLooks_146 : decode cX3_hashOfLooks 146 = .ok (.aload_n 0, 1) := by decide +kernel
theorem dX3_hashOfLooks_147 : decode cX3_hashOfLooks 147 = .ok (.getfield 12, 3) := by decide +kernel
theorem dX3_hashOfLooks_150 : decode cX3_hashOfLooks 150 = .ok (.iload 5, 2) := by decide +kernel
theorem dX3_hashOfLooks_152 : decode cX3_hashOfLooks 152 = .ok (.iload 6, 2) := by decide +kernel
theorem dX3_hashOfLooks_154 : decode cX3_hashOfLooks 154 = .ok (.invokevirtual 127, 3) := by decide +kernel
theorem dX3_hashOfLooks_157 : decode cX3_hashOfLooks 157 = .ok (.i2l, 1) := by decide +kernel
theorem dX3_hashOfLooks_158 : decode cX3_hashOfLooks 158 = .ok (.ladd, 1) := by decide +kernel
theorem dX3_hashOfLooks_159 : decode cX3_hashOfLooks 159 = .ok (.lstore_n 3, 1) := by decide +kernel
theorem dX3_hashOfLooks_160 : decode cX3_hashOfLooks 160 = .ok (.iinc 6 1, 3) := by decide +kernel
theorem dX3_hashOfLooks_163 : decode cX3_hashOfLooks 163 = .ok (.goto (-29), 3) := by decide +kernel
theorem dX3_hashOfLooks_166 : decode cX3_hashOfLooks 166 = .ok (.iinc 5 1, 3) := by decide +kernel
theorem dX3_hashOfLooks_169 : decode cX3_hashOfLooks 169 = .ok (.goto (-45), 3) := by decide +kernel
theorem dX3_hashOfLooks_172 : decode cX3_hashOfLooks 172 = .ok (.iconst 0, 1) := by decide +kernel
theorem dX3_hashOfLooks_173 : decode cX3_hashOfLooks 173 = .ok (.istore 5, 2) := by decide +kernel
theorem dX3_hashOfLooks_175 : decode cX3_hashOfLooks 175 = .ok (.iload 5, 2) := by decide +kernel
theorem dX3_hashOfLooks_177 : decode cX3_hashOfLooks 177 = .ok (.bipush 10, 2) := by decide +kernel
theorem dX3_hashOfLooks_179 : decode cX3_hashOfLooks 179 = .ok (.if_icmp .ge 26, 3) := by decide +kernel
theorem dX3_hashOfLooks_182 : decode cX3_hashOfLooks 182 = .ok (.ldc2_w 172, 3) := by decide +kernel
theorem dX3_hashOfLooks_185 : decode cX3_hashOfLooks 185 = .ok (.lload_n 3, 1) := by decide +kernel
theorem dX3_hashOfLooks_186 : decode cX3_hashOfLooks 186 = .ok (.lmul, 1) := by decide +kernel
theorem dX3_hashOfLooks_187 : decode cX3_hashOfLooks 187 = .ok (.aload_n 0, 1) := by decide +kernel
theorem dX3_hashOfLooks_188 : decode cX3_hashOfLooks 188 = .ok (.getfield 12, 3) := by decide +kernel
theorem dX3_hashOfLooks_191 : decode cX3_hashOfLooks 191 = .ok (.iload 5, 2) := by decide +kernel
theorem dX3_hashOfLooks_193 : decode cX3_hashOfLooks 193 = .ok (.invokevirtual 130, 3) := by decide +kernel
theorem dX3_hashOfLooks_196 : decode cX3_hashOfLooks 196 = .ok (.i2l, 1) := by decide +kernel
theorem dX3_hashOfLooks_197 : decode cX3_hashOfLooks 197 = .ok (.ladd, 1) := by decide +kernel
theorem dX3_hashOfLooks_198 : decode cX3_hashOfLooks 198 = .ok (.lstore_n 3, 1) := by decide +kernel
theorem dX3_hashOfLooks_199 : decode cX3_hashOfLooks 199 = .ok (.iinc 5 1, 3) := by decide +kernel
theorem dX3_hashOfLooks_202 : decode cX3_hashOfLooks 202 = .ok (.goto (-27), 3) := by decide +kernel
theorem dX3_hashOfLooks_205 : decode cX3_hashOfLooks 205 = .ok (.lload_n 3, 1) := by decide +kernel
theorem dX3_hashOfLooks_206 : decode cX3_hashOfLooks 206 = .ok (.lreturn, 1) := by decide +kernel
theorem dX3_bitsOf_0 : decode cX3_bitsOf 0 = .ok (.dload_n 0, 1) := by decide +kernel
theorem dX3_bitsOf_1 : decode cX3_bitsOf 1 = .ok (.dconst 0, 1) := by decide +kernel
theorem dX3_bitsOf_2 : decode cX3_bitsOf 2 = .ok (.dcmp .l, 1) := by decide +kernel
theorem dX3_bitsOf_3 : decode cX3_bitsOf 3 = .ok (.ifCond .gt 5, 3) := by decide +kernel
theorem dX3_bitsOf_6 : decode cX3_bitsOf 6 = .ok (.lconst 0, 1) := by decide +kernel
theorem dX3_bitsOf_7 : decode cX3_bitsOf 7 = .ok (.lreturn, 1) := by decide +kernel
theorem dX3_bitsOf_8 : decode cX3_bitsOf 8 = .ok (.dload_n 0, 1) := by decide +kernel
theorem dX3_bitsOf_9 : decode cX3_bitsOf 9 = .ok (.dstore_n 2, 1) := by decide +kernel
theorem dX3_bitsOf_10 : decode cX3_bitsOf 10 = .ok (.ldc2_w 198, 3) := by decide +kernel
theorem dX3_bitsOf_13 : decode cX3_bitsOf 13 = .ok (.lstore 4, 2) := by decide +kernel
theorem dX3_bitsOf_15 : decode cX3_bitsOf 15 = .ok (.iconst 0, 1) := by decide +kernel
theorem dX3_bitsOf_16 : decode cX3_bitsOf 16 = .ok (.istore 6, 2) := by decide +kernel
theorem dX3_bitsOf_18 : decode cX3_bitsOf 18 = .ok (.iload 6, 2) := by decide +kernel
theorem dX3_bitsOf_20 : decode cX3_bitsOf 20 = .ok (.bipush 64, 2) := by decide +kernel
theorem dX3_bitsOf_22 : decode cX3_bitsOf 22 = .ok (.if_icmp .ge 27, 3) := by decide +kernel
theorem dX3_bitsOf_25 : decode cX3_bitsOf 25 = .ok (.dload_n 2, 1) := by decide +kernel
theorem dX3_bitsOf_26 : decode cX3_bitsOf 26 = .ok (.dconst 1, 1) := by decide +kernel
theorem dX3_bitsOf_27 : decode cX3_bitsOf 27 = .ok (.dcmp .g, 1) := by decide +kernel
theorem dX3_bitsOf_28 : decode cX3_bitsOf 28 = .ok (.ifCond .ge 21, 3) := by decide +kernel
theorem dX3_bitsOf_31 : decode cX3_bitsOf 31 = .ok (.dload_n 2, 1) := by decide +kernel
theorem dX3_bitsOf_32 : decode cX3_bitsOf 32 = .ok (.ldc2_w 200, 3) := by decide +kernel
theorem dX3_bitsOf_35 : decode cX3_bitsOf 35 = .ok (.dmul, 1) := by decide +kernel
theorem dX3_bitsOf_36 : decode cX3_bitsOf 36 = .ok (.dstore_n 2, 1) := by decide +kernel
theorem dX3_bitsOf_37 : decode cX3_bitsOf 37 = .ok (.lload 4, 2) := by decide +kernel
theorem dX3_bitsOf_39 : decode cX3_bitsOf 39 = .ok (.lconst 1, 1) := by decide +kernel
theorem dX3_bitsOf_40 : decode cX3_bitsOf 40 = .ok (.lsub, 1) := by decide +kernel
theorem dX3_bitsOf_41 : decode cX3_bitsOf 41 = .ok (.lstore 4, 2) := by decide +kernel
theorem dX3_bitsOf_43 : decode cX3_bitsOf 43 = .ok (.iinc 6 1, 3) := by decide +kernel
theorem dX3_bitsOf_46 : decode cX3_bitsOf 46 = .ok (.goto (-28), 3) := by decide +kernel
theorem dX3_bitsOf_49 : decode cX3_bitsOf 49 = .ok (.lload 4, 2) := by decide +kernel
theorem dX3_bitsOf_51 : decode cX3_bitsOf 51 = .ok (.bipush 52, 2) := by decide +kernel
theorem dX3_bitsOf_53 : decode cX3_bitsOf 53 = .ok (.lshl, 1) := by decide +kernel
theorem dX3_bitsOf_54 : decode cX3_bitsOf 54 = .ok (.dload_n 2, 1) := by decide +kernel
theorem dX3_bitsOf_55 : decode cX3_bitsOf 55 = .ok (.dconst 1, 1) := by decide +kernel
theorem dX3_bitsOf_56 : decode cX3_bitsOf 56 = .ok (.dsub, 1) := by decide +kernel
theorem dX3_bitsOf_57 : decode cX3_bitsOf 57 = .ok (.ldc2_w 202, 3) := by decide +kernel
theorem dX3_bitsOf_60 : decode cX3_bitsOf 60 = .ok (.dmul, 1) := by decide +kernel
theorem dX3_bitsOf_61 : decode cX3_bitsOf 61 = .ok (.d2l, 1) := by decide +kernel
theorem dX3_bitsOf_62 : decode cX3_bitsOf 62 = .ok (.ladd, 1) := by decide +kernel
theorem dX3_bitsOf_63 : decode cX3_bitsOf 63 = .ok (.lreturn, 1) := by decide +kernel
theorem dX3_joinTrial_0 : decode cX3_joinTrial 0 = .ok (.aload_n 0, 1) := by decide +kernel
theorem dX3_joinTrial_1 : decode cX3_joinTrial 1 = .ok (.getfield 16, 3) := by decide +kernel
theorem dX3_joinTrial_4 : decode cX3_joinTrial 4 = .ok (.aload_n 0, 1) := by decide +kernel
theorem dX3_joinTrial_5 : decode cX3_joinTrial 5 = .ok (.getfield 12, 3) := by decide +kernel
theorem dX3_joinTrial_8 : decode cX3_joinTrial 8 = .ok (.invokevirtual 136, 3) := by decide +kernel
theorem dX3_joinTrial_11 : decode cX3_joinTrial 11 = .ok (.aload_n 0, 1) := by decide +kernel
theorem dX3_joinTrial_12 : decode cX3_joinTrial 12 = .ok (.getfield 16, 3) := by decide +kernel
theorem dX3_joinTrial_15 : decode cX3_joinTrial 15 = .ok (.iload_n 1, 1) := by decide +kernel
theorem dX3_joinTrial_16 : decode cX3_joinTrial 16 = .ok (.iload_n 2, 1) := by decide +kernel
theorem dX3_joinTrial_17 : decode cX3_joinTrial 17 = .ok (.iload_n 3, 1) := by decide +kernel
theorem dX3_joinTrial_18 : decode cX3_joinTrial 18 = .ok (.iconst 0, 1) := by decide +kernel
theorem dX3_joinTrial_19 : decode cX3_joinTrial 19 = .ok (.aload_n 0, 1) := by decide +kernel
theorem dX3_joinTrial_20 : decode cX3_joinTrial 20 = .ok (.getfield 12, 3) := by decide +kernel
theorem dX3_joinTrial_23 : decode cX3_joinTrial 23 = .ok (.getfield 62, 3) := by decide +kernel
theorem dX3_joinTrial_26 : decode cX3_joinTrial 26 = .ok (.invokevirtual 58, 3) := by decide +kernel
theorem dX3_joinTrial_29 : decode cX3_joinTrial 29 = .ok (.ireturn, 1) := by decide +kernel
theorem dX3_addToldLine_0 : decode cX3_addToldLine 0 = .ok (.aload_n 0, 1) := by decide +kernel
theorem dX3_addToldLine_1 : decode cX3_addToldLine 1 = .ok (.getfield 29, 3) := by decide +kernel
theorem dX3_addToldLine_4 : decode cX3_addToldLine 4 = .ok (.getfield 204, 3) := by decide +kernel
theorem dX3_addToldLine_7 : decode cX3_addToldLine 7 = .ok (.iconst 0, 1) := by decide +kernel
theorem dX3_addToldLine_8 : decode cX3_addToldLine 8 = .ok (.iaload, 1) := by decide +kernel
theorem dX3_addToldLine_9 : decode cX3_addToldLine 9 = .ok (.istore_n 1, 1) := by decide +kernel
theorem dX3_addToldLine_10 : decode cX3_addToldLine 10 = .ok (.aload_n 0, 1) := by decide +kernel
theorem dX3_addToldLine_11 : decode cX3_addToldLine 11 = .ok (.getfield 29, 3) := by decide +kernel
theorem dX3_addToldLine_14 : decode cX3_addToldLine 14 = .ok (.getfield 204, 3) := by decide +kernel
theorem dX3_addToldLine_17 : decode cX3_addToldLine 17 = .ok (.iconst 1, 1) := by decide +kernel
theorem dX3_addToldLine_18 : decode cX3_addToldLine 18 = .ok (.iaload, 1) := by decide +kernel
theorem dX3_addToldLine_19 : decode cX3_addToldLine 19 = .ok (.istore_n 2, 1) := by decide +kernel
theorem dX3_addToldLine_20 : decode cX3_addToldLine 20 = .ok (.aload_n 0, 1) := by decide +kernel
theorem dX3_addToldLine_21 : decode cX3_addToldLine 21 = .ok (.getfield 29, 3) := by decide +kernel
theorem dX3_addToldLine_24 : decode cX3_addToldLine 24 = .ok (.getfield 204, 3) := by decide +kernel
theorem dX3_addToldLine_27 : decode cX3_addToldLine 27 = .ok (.iconst 2, 1) := by decide +kernel
theorem dX3_addToldLine_28 : decode cX3_addToldLine 28 = .ok (.iaload, 1) := by decide +kernel
theorem dX3_addToldLine_29 : decode cX3_addToldLine 29 = .ok (.istore_n 3, 1) := by decide +kernel
theorem dX3_addToldLine_30 : decode cX3_addToldLine 30 = .ok (.aload_n 0, 1) := by decide +kernel
theorem dX3_addToldLine_31 : decode cX3_addToldLine 31 = .ok (.getfield 12, 3) := by decide +kernel
theorem dX3_addToldLine_34 : decode cX3_addToldLine 34 = .ok (.getfield 62, 3) := by decide +kernel
theorem dX3_addToldLine_37 : decode cX3_addToldLine 37 = .ok (.aload_n 0, 1) := by decide +kernel
theorem dX3_addToldLine_38 : decode cX3_addToldLine 38 = .ok (.getfield 29, 3) := by decide +kernel
theorem dX3_addToldLine_41 : decode cX3_addToldLine 41 = .ok (.getfield 204, 3) := by decide +kernel
theorem dX3_addToldLine_44 : decode cX3_addToldLine 44 = .ok (.iconst 3, 1) := by decide +kernel
theorem dX3_addToldLine_45 : decode cX3_addToldLine 45 = .ok (.iaload, 1) := by decide +kernel
theorem dX3_addToldLine_46 : decode cX3_addToldLine 46 = .ok (.iadd, 1) := by decide +kernel
theorem dX3_addToldLine_47 : decode cX3_addToldLine 47 = .ok (.istore 4, 2) := by decide +kernel
theorem dX3_addToldLine_49 : decode cX3_addToldLine 49 = .ok (.iload_n 1, 1) := by decide +kernel
theorem dX3_addToldLine_50 : decode cX3_addToldLine 50 = .ok (.iload_n 2, 1) := by decide +kernel
theorem dX3_addToldLine_51 : decode cX3_addToldLine 51 = .ok (.iload_n 3, 1) := by decide +kernel
theorem dX3_addToldLine_52 : decode cX3_addToldLine 52 = .ok (.invokestatic 33, 3) := by decide +kernel
theorem dX3_addToldLine_55 : decode cX3_addToldLine 55 = .ok (.ifCond .eq 23, 3) := by decide +kernel
theorem dX3_addToldLine_58 : decode cX3_addToldLine 58 = .ok (.iload 4, 2) := by decide +kernel
theorem dX3_addToldLine_60 : decode cX3_addToldLine 60 = .ok (.invokestatic 41, 3) := by decide +kernel
theorem dX3_addToldLine_63 : decode cX3_addToldLine 63 = .ok (.ifCond .eq 15, 3) := by decide +kernel
theorem dX3_addToldLine_66 : decode cX3_addToldLine 66 = .ok (.aload_n 0, 1) := by decide +kernel
theorem dX3_addToldLine_67 : decode cX3_addToldLine 67 = .ok (.getfield 12, 3) := by decide +kernel
theorem dX3_addToldLine_70 : decode cX3_addToldLine 70 = .ok (.getfield 47, 3) := by decide +kernel
theorem dX3_addToldLine_73 : decode cX3_addToldLine 73 = .ok (.bipush 10, 2) := by decide +kernel
theorem dX3_addToldLine_75 : decode cX3_addToldLine 75 = .ok (.if_icmp .lt 5, 3) := by decide +kernel
theorem dX3_addToldLine_78 : decode cX3_addToldLine 78 = .ok (.iconst 0, 1) := by decide +kernel
theorem dX3_addToldLine_79 : decode cX3_addToldLine 79 = .ok (.ireturn, 1) := by decide +kernel
theorem dX3_addToldLine_80 : decode cX3_addToldLine 80 = .ok (.aload_n 0, 1) := by decide +kernel
theorem dX3_addToldLine_81 : decode cX3_addToldLine 81 = .ok (.getfield 12, 3) := by decide +kernel
theorem dX3_addToldLine_84 : decode cX3_addToldLine 84 = .ok (.iload_n 1, 1) := by decide +kernel
theorem dX3_addToldLine_85 : decode cX3_addToldLine 85 = .ok (.iload_n 2, 1) := by decide +kernel
theorem dX3_addToldLine_86 : decode cX3_addToldLine 86 = .ok (.iload_n 3, 1) := by decide +kernel
theorem dX3_addToldLine_87 : decode cX3_addToldLine 87 = .ok (.iconst 0, 1) := by decide +kernel
theorem dX3_addToldLine_88 : decode cX3_addToldLine 88 = .ok (.iload 4, 2) := by decide +kernel
theorem dX3_addToldLine_90 : decode cX3_addToldLine 90 = .ok (.invokevirtual 58, 3) := by decide +kernel
theorem dX3_addToldLine_93 : decode cX3_addToldLine 93 = .ok (.pop, 1) := by decide +kernel
theorem dX3_addToldLine_94 : decode cX3_addToldLine 94 = .ok (.iconst 1, 1) := by decide +kernel
theorem dX3_addToldLine_95 : decode cX3_addToldLine 95 = .ok (.ireturn, 1) := by decide +kernel
theorem dX3_isNumber_0 : decode cX3_isNumber 0 = .ok (.iload_n 1, 1) := by decide +kernel
theorem dX3_isNumber_1 : decode cX3_isNumber 1 = .ok (.ifCond .lt 18, 3) := by decide +kernel
theorem dX3_isNumber_4 : decode cX3_isNumber 4 = .ok (.iload_n 1, 1) := by decide +kernel
theorem dX3_isNumber_5 : decode cX3_isNumber 5 = .ok (.aload_n 0, 1) := by decide +kernel
theorem dX3_isNumber_6 : decode cX3_isNumber 6 = .ok (.getfield 12, 3) := by decide +kernel
theorem dX3_isNumber_9 : decode cX3_isNumber 9 = .ok (.getfield 47, 3) := by decide +kernel
theorem dX3_isNumber_12 : decode cX3_isNumber 12 = .ok (.if_icmp .ge 7, 3) := by decide +kernel
theorem dX3_isNumber_15 : decode cX3_isNumber 15 = .ok (.iconst 1, 1) := by decide +kernel
theorem dX3_isNumber_16 : decode cX3_isNumber 16 = .ok (.goto 4, 3) := by decide +kernel
theorem dX3_isNumber_19 : decode cX3_isNumber 19 = .ok (.iconst 0, 1) := by decide +kernel
theorem dX3_isNumber_20 : decode cX3_isNumber 20 = .ok (.ireturn, 1) := by decide +kernel
theorem dX3_isShape_0 : decode cX3_isShape 0 = .ok (.iload_n 0, 1) := by decide +kernel
theorem dX3_isShape_1 : decode cX3_isShape 1 = .ok (.invokestatic 152, 3) := by decide +kernel
theorem dX3_isShape_4 : decode cX3_isShape 4 = .ok (.ifCond .eq 32, 3) := by decide +kernel
theorem dX3_isShape_7 : decode cX3_isShape 7 = .ok (.iload_n 1, 1) := by decide +kernel
theorem dX3_isShape_8 : decode cX3_isShape 8 = .ok (.invokestatic 155, 3) := by decide +kernel
theorem dX3_isShape_11 : decode cX3_isShape 11 = .ok (.ifCond .eq 25, 3) := by decide +kernel
theorem dX3_isShape_14 : decode cX3_isShape 14 = .ok (.iload_n 2, 1) := by decide +kernel
theorem dX3_isShape_15 : decode cX3_isShape 15 = .ok (.ifCond .lt 21, 3) := by decide +kernel
theorem dX3_isShape_18 : decode cX3_isShape 18 = .ok (.iload_n 2, 1) := by decide +kernel
theorem dX3_isShape_19 : decode cX3_isShape 19 = .ok (.bipush 24, 2) := by decide +kernel
theorem dX3_isShape_21 : decode cX3_isShape 21 = .ok (.if_icmp .ge 15, 3) := by decide +kernel
theorem dX3_isShape_24 : decode cX3_isShape 24 = .ok (.iload_n 2, 1) := by decide +kernel
theorem dX3_isShape_25 : decode cX3_isShape 25 = .ok (.iload_n 0, 1) := by decide +kernel
theorem dX3_isShape_26 : decode cX3_isShape 26 = .ok (.iadd, 1) := by decide +kernel
theorem dX3_isShape_27 : decode cX3_isShape 27 = .ok (.bipush 24, 2) := by decide +kernel
theorem dX3_isShape_29 : decode cX3_isShape 29 = .ok (.if_icmp .gt 7, 3) := by decide +kernel
theorem dX3_isShape_32 : decode cX3_isShape 32 = .ok (.iconst 1, 1) := by decide +kernel
theorem dX3_isShape_33 : decode cX3_isShape 33 = .ok (.goto 4, 3) := by decide +kernel
theorem dX3_isShape_36 : decode cX3_isShape 36 = .ok (.iconst 0, 1) := by decide +kernel
theorem dX3_isShape_37 : decode cX3_isShape 37 = .ok (.ireturn, 1) := by decide +kernel
theorem dX3_isWidth_0 : decode cX3_isWidth 0 = .ok (.iload_n 0, 1) := by decide +kernel
theorem dX3_isWidth_1 : decode cX3_isWidth 1 = .ok (.iconst 1, 1) := by decide +kernel
theorem dX3_isWidth_2 : decode cX3_isWidth 2 = .ok (.if_icmp .lt 13, 3) := by decide +kernel
theorem dX3_isWidth_5 : decode cX3_isWidth 5 = .ok (.iload_n 0, 1) := by decide +kernel
theorem dX3_isWidth_6 : decode cX3_isWidth 6 = .ok (.bipush 12, 2) := by decide +kernel
theorem dX3_isWidth_8 : decode cX3_isWidth 8 = .ok (.if_icmp .gt 7, 3) := by decide +kernel
theorem dX3_isWidth_11 : decode cX3_isWidth 11 = .ok (.iconst 1, 1) := by decide +kernel
theorem dX3_isWidth_12 : decode cX3_isWidth 12 = .ok (.goto 4, 3) := by decide +kernel
theorem dX3_isWidth_15 : decode cX3_isWidth 15 = .ok (.iconst 0, 1) := by decide +kernel
theorem dX3_isWidth_16 : decode cX3_isWidth 16 = .ok (.ireturn, 1) := by decide +kernel
theorem dX3_isWeight_0 : decode cX3_isWeight 0 = .ok (.iload_n 0, 1) := by decide +kernel
theorem dX3_isWeight_1 : decode cX3_isWeight 1 = .ok (.iconst 1, 1) := by decide +kernel
theorem dX3_isWeight_2 : decode cX3_isWeight 2 = .ok (.if_icmp .lt 13, 3) := by decide +kernel
theorem dX3_isWeight_5 : decode cX3_isWeight 5 = .ok (.iload_n 0, 1) := by decide +kernel
theorem dX3_isWeight_6 : decode cX3_isWeight 6 = .ok (.bipush 9, 2) := by decide +kernel
theorem dX3_isWeight_8 : decode cX3_isWeight 8 = .ok (.if_icmp .gt 7, 3) := by decide +kernel
theorem dX3_isWeight_11 : decode cX3_isWeight 11 = .ok (.iconst 1, 1) := by decide +kernel
theorem dX3_isWeight_12 : decode cX3_isWeight 12 = .ok (.goto 4, 3) := by decide +kernel
theorem dX3_isWeight_15 : decode cX3_isWeight 15 = .ok (.iconst 0, 1) := by decide +kernel
theorem dX3_isWeight_16 : decode cX3_isWeight 16 = .ok (.ireturn, 1) := by decide +kernel
theorem dX3_isVerse_0 : decode cX3_isVerse 0 = .ok (.iload_n 0, 1) := by decide +kernel
theorem dX3_isVerse_1 : decode cX3_isVerse 1 = .ok (.ifCond .lt 12, 3) := by decide +kernel
theorem dX3_isVerse_4 : decode cX3_isVerse 4 = .ok (.iload_n 0, 1) := by decide +kernel
theorem dX3_isVerse_5 : decode cX3_isVerse 5 = .ok (.iconst 3, 1) := by decide +kernel
theorem dX3_isVerse_6 : decode cX3_isVerse 6 = .ok (.if_icmp .gt 7, 3) := by decide +kernel
theorem dX3_isVerse_9 : decode cX3_isVerse 9 = .ok (.iconst 1, 1) := by decide +kernel
theorem dX3_isVerse_10 : decode cX3_isVerse 10 = .ok (.goto 4, 3) := by decide +kernel
theorem dX3_isVerse_13 : decode cX3_isVerse 13 = .ok (.iconst 0, 1) := by decide +kernel
theorem dX3_isVerse_14 : decode cX3_isVerse 14 = .ok (.ireturn, 1) := by decide +kernel
theorem dX3_isLineBeat_0 : decode cX3_isLineBeat 0 = .ok (.iload_n 0, 1) := by decide +kernel
theorem dX3_isLineBeat_1 : decode cX3_isLineBeat 1 = .ok (.ifCond .lt 13, 3) := by decide +kernel
theorem dX3_isLineBeat_4 : decode cX3_isLineBeat 4 = .ok (.iload_n 0, 1) := by decide +kernel
theorem dX3_isLineBeat_5 : decode cX3_isLineBeat 5 = .ok (.bipush 99, 2) := by decide +kernel
theorem dX3_isLineBeat_7 : decode cX3_isLineBeat 7 = .ok (.if_icmp .gt 7, 3) := by decide +kernel
theorem dX3_isLineBeat_10 : decode cX3_isLineBeat 10 = .ok (.iconst 1, 1) := by decide +kernel
theorem dX3_isLineBeat_11 : decode cX3_isLineBeat 11 = .ok (.goto 4, 3) := by decide +kernel
theorem dX3_isLineBeat_14 : decode cX3_isLineBeat 14 = .ok (.iconst 0, 1) := by decide +kernel
theorem dX3_isLineBeat_15 : decode cX3_isLineBeat 15 = .ok (.ireturn, 1) := by decide +kernel
theorem dX4_init_0 : decode cX4_init 0 = .ok (.aload_n 0, 1) := by decide +kernel
theorem dX4_init_1 : decode cX4_init 1 = .ok (.invokespecial 1, 3) := by decide +kernel
theorem dX4_init_4 : decode cX4_init 4 = .ok (.aload_n 0, 1) := by decide +kernel
theorem dX4_init_5 : decode cX4_init 5 = .ok (.bipush 81, 2) := by decide +kernel
theorem dX4_init_7 : decode cX4_init 7 = .ok (.newarray .int, 2) := by decide +kernel
theorem dX4_init_9 : decode cX4_init 9 = .ok (.putfield 7, 3) := by decide +kernel
theorem dX4_init_12 : decode cX4_init 12 = .ok (.aload_n 0, 1) := by decide +kernel
theorem dX4_init_13 : decode cX4_init 13 = .ok (.bipush 81, 2) := by decide +kernel
theorem dX4_init_15 : decode cX4_init 15 = .ok (.newarray .int, 2) := by decide +kernel
theorem dX4_init_17 : decode cX4_init 17 = .ok (.putfield 13, 3) := by decide +kernel
theorem dX4_init_20 : decode cX4_init 20 = .ok (.aload_n 0, 1) := by decide +kernel
theorem dX4_init_21 : decode cX4_init 21 = .ok (.sipush 486, 3) := by decide +kernel
theorem dX4_init_24 : decode cX4_init 24 = .ok (.newarray .int, 2) := by decide +kernel
theorem dX4_init_26 : decode cX4_init 26 = .ok (.putfield 16, 3) := by decide +kernel
theorem dX4_init_29 : decode cX4_init 29 = .ok (.aload_n 0, 1) := by decide +kernel
theorem dX4_init_30 : decode cX4_init 30 = .ok (.bipush 60, 2) := by decide +kernel
theorem dX4_init_32 : decode cX4_init 32 = .ok (.newarray .int, 2) := by decide +kernel
theorem dX4_init_34 : decode cX4_init 34 = .ok (.putfield 19, 3) := by decide +kernel
theorem dX4_init_37 : decode cX4_init 37 = .ok (.aload_n 0, 1) := by decide +kernel
theorem dX4_init_38 : decode cX4_init 38 = .ok (.bipush 11, 2) := by decide +kernel
theorem dX4_init_40 : decode cX4_init 40 = .ok (.newarray .int, 2) := by decide +kernel
theorem dX4_init_42 : decode cX4_init 42 = .ok (.putfield 22, 3) := by decide +kernel
theorem dX4_init_45 : decode cX4_init 45 = .ok (.aload_n 0, 1) := by decide +kernel
theorem dX4_init_46 : decode cX4_init 46 = .ok (.bipush 48, 2) := by decide +kernel
theorem dX4_init_48 : decode cX4_init 48 = .ok (.newarray .int, 2) := by decide +kernel
theorem dX4_init_50 : decode cX4_init 50 = .ok (.putfield 25, 3) := by decide +kernel
theorem dX4_init_53 : decode cX4_init 53 = .ok (.aload_n 0, 1) := by decide +kernel
theorem dX4_init_54 : decode cX4_init 54 = .ok (.getfield 7, 3) := by decide +kernel
theorem dX4_init_57 : decode cX4_init 57 = .ok (.iconst 2, 1) := by decide +kernel
theorem dX4_init_58 : decode cX4_init 58 = .ok (.iconst 2, 1) := by decide +kernel
theorem dX4_init_59 : decode cX4_init 59 = .ok (.iastore, 1) := by decide +kernel
theorem dX4_init_60 : decode cX4_init 60 = .ok (.return_, 1) := by decide +kernel
theorem dX4_thrown_0 : decode cX4_thrown 0 = .ok (.aload_n 0, 1) := by decide +kernel
theorem dX4_thrown_1 : decode cX4_thrown 1 = .ok (.getfield 28, 3) := by decide +kernel
theorem dX4_thrown_4 : decode cX4_thrown 4 = .ok (.ireturn, 1) := by decide +kernel
theorem dX4_in_0 : decode cX4_in 0 = .ok (.iload_n 0, 1) := by decide +kernel
theorem dX4_in_1 : decode cX4_in 1 = .ok (.iload_n 1, 1) := by decide +kernel
theorem dX4_in_2 : decode cX4_in 2 = .ok (.if_icmp .lt 12, 3) := by decide +kernel
theorem dX4_in_5 : decode cX4_in 5 = .ok (.iload_n 0, 1) := by decide +kernel
theorem dX4_in_6 : decode cX4_in 6 = .ok (.iload_n 2, 1) := by decide +kernel
theorem dX4_in_7 : decode cX4_in 7 = .ok (.if_icmp .gt 7, 3) := by decide +kernel
theorem dX4_in_10 : decode cX4_in 10 = .ok (.iconst 1, 1) := by decide +kernel
theorem dX4_in_11 : decode cX4_in 11 = .ok (.goto 4, 3) := by decide +kernel
theorem dX4_in_14 : decode cX4_in 14 = .ok (.iconst 0, 1) := by decide +kernel
theorem dX4_in_15 : decode cX4_in 15 = .ok (.ireturn, 1) := by decide +kernel
theorem dX4_refuses_0 : decode cX4_refuses 0 = .ok (.aload_n 0, 1) := by decide +kernel
theorem dX4_refuses_1 : decode cX4_refuses 1 = .ok (.iload_n 1, 1) := by decide +kernel
theorem dX4_refuses_2 : decode cX4_refuses 2 = .ok (.putfield 28, 3) := by decide +kernel
theorem dX4_refuses_5 : decode cX4_refuses 5 = .ok (.iload_n 1, 1) := by decide +kernel
theorem dX4_refuses_6 : decode cX4_refuses 6 = .ok (.ifCond .le 7, 3) := by decide +kernel
theorem dX4_refuses_9 : decode cX4_refuses 9 = .ok (.iconst 1, 1) := by decide +kernel
theorem dX4_refuses_10 : decode cX4_refuses 10 = .ok (.goto 4, 3) := by decide +kernel
theorem dX4_refuses_13 : decode cX4_refuses 13 = .ok (.iconst 0, 1) := by decide +kernel
theorem dX4_refuses_14 : decode cX4_refuses 14 = .ok (.ireturn, 1) := by decide +kernel
theorem dX4_lays_0 : decode cX4_lays 0 = .ok (.iconst 0, 1) := by decide +kernel
theorem dX4_lays_1 : decode cX4_lays 1 = .ok (.istore 4, 2) := by decide +kernel
theorem dX4_lays_3 : decode cX4_lays 3 = .ok (.iload 4, 2) := by decide +kernel
theorem dX4_lays_5 : decode cX4_lays 5 = .ok (.bipush 81, 2) := by decide +kernel
theorem dX4_lays_7 : decode cX4_lays 7 = .ok (.if_icmp .ge 21, 3) := by decide +kernel
theorem dX4_lays_10 : decode cX4_lays 10 = .ok (.aload_n 2, 1) := by decide +kernel
theorem dX4_lays_11 : decode cX4_lays 11 = .ok (.iload_n 3, 1) := by decide +kernel
theorem dX4_lays_12 : decode cX4_lays 12 = .ok (.iload 4, 2) := by decide +kernel
theorem dX4_lays_14 : decode cX4_lays 14 = .ok (.iadd, 1) := by decide +kernel
theorem dX4_lays_15 : decode cX4_lays 15 = .ok (.aload_n 0, 1) := by decide +kernel
theorem dX4_lays_16 : decode cX4_lays 16 = .ok (.iload_n 1, 1) := by decide +kernel
theorem dX4_lays_17 : decode cX4_lays 17 = .ok (.iload 4, 2) := by decide +kernel
theorem dX4_lays_19 : decode cX4_lays 19 = .ok (.iadd, 1) := by decide +kernel
theorem dX4_lays_20 : decode cX4_lays 20 = .ok (.iaload, 1) := by decide +kernel
theorem dX4_lays_21 : decode cX4_lays 21 = .ok (.iastore, 1) := by decide +kernel
theorem dX4_lays_22 : decode cX4_lays 22 = .ok (.iinc 4 1, 3) := by decide +kernel
theorem dX4_lays_25 : decode cX4_lays 25 = .ok (.goto (-22), 3) := by decide +kernel
theorem dX4_lays_28 : decode cX4_lays 28 = .ok (.return_, 1) := by decide +kernel
theorem dX4_saves_0 : decode cX4_saves 0 = .ok (.aload_n 0, 1) := by decide +kernel
theorem dX4_saves_1 : decode cX4_saves 1 = .ok (.getfield 32, 3) := by decide +kernel
theorem dX4_saves_4 : decode cX4_saves 4 = .ok (.bipush 6, 2) := by decide +kernel
theorem dX4_saves_6 : decode cX4_saves 6 = .ok (.if_icmp .ne 43, 3) := by decide +kernel
theorem dX4_saves_9 : decode cX4_saves 9 = .ok (.iconst 0, 1) := by decide +kernel
theorem dX4_saves_10 : decode cX4_saves 10 = .ok (.istore_n 1, 1) := by decide +kernel
theorem dX4_saves_11 : decode cX4_saves 11 = .ok (.iload_n 1, 1) := by decide +kernel
theorem dX4_saves_12 : decode cX4_saves 12 = .ok (.sipush 405, 3) := by decide +kernel
theorem dX4_saves_15 : decode cX4_saves 15 = .ok (.if_icmp .ge 24, 3) := by decide +kernel
theorem dX4_saves_18 : decode cX4_saves 18 = .ok (.aload_n 0, 1) := by decide +kernel
theorem dX4_saves_19 : decode cX4_saves 19 = .ok (.getfield 16, 3) := by decide +kernel
theorem dX4_saves_22 : decode cX4_saves 22 = .ok (.iload_n 1, 1) := by decide +kernel
theorem dX4_saves_23 : decode cX4_saves 23 = .ok (.aload_n 0, 1) := by decide +kernel
theorem dX4_saves_24 : decode cX4_saves 24 = .ok (.getfield 16, 3) := by decide +kernel
theorem dX4_saves_27 : decode cX4_saves 27 = .ok (.iload_n 1, 1) := by decide +kernel
theorem dX4_saves_28 : decode cX4_saves 28 = .ok (.bipush 81, 2) := by decide +kernel
theorem dX4_saves_30 : decode cX4_saves 30 = .ok (.iadd, 1) := by decide +kernel
theorem dX4_saves_31 : decode cX4_saves 31 = .ok (.iaload, 1) := by decide +kernel
theorem dX4_saves_32 : decode cX4_saves 32 = .ok (.iastore, 1) := by decide +kernel
theorem dX4_saves_33 : decode cX4_saves 33 = .ok (.iinc 1 1, 3) := by decide +kernel
theorem dX4_saves_36 : decode cX4_saves 36 = .ok (.goto (-25), 3) := by decide +kernel
theorem dX4_saves_39 : decode cX4_saves 39 = .ok (.aload_n 0, 1) := by decide +kernel
theorem dX4_saves_40 : decode cX4_saves 40 = .ok (.dup, 1) := by decide +kernel
theorem dX4_saves_41 : decode cX4_saves 41 = .ok (.getfield 32, 3) := by decide +kernel
theorem dX4_saves_44 : decode cX4_saves 44 = .ok (.iconst 1, 1) := by decide +kernel
theorem dX4_saves_45 : decode cX4_saves 45 = .ok (.isub, 1) := by decide +kernel
theorem dX4_saves_46 : decode cX4_saves 46 = .ok (.putfield 32, 3) := by decide +kernel
theorem dX4_saves_49 : decode cX4_saves 49 = .ok (.aload_n 0, 1) := by decide +kernel
theorem dX4_saves_50 : decode cX4_saves 50 = .ok (.getfield 7, 3) := by decide +kernel
theorem dX4_saves_53 : decode cX4_saves 53 = .ok (.iconst 0, 1) := by decide +kernel
theorem dX4_saves_54 : decode cX4_saves 54 = .ok (.aload_n 0, 1) := by decide +kernel
theorem dX4_saves_55 : decode cX4_saves 55 = .ok (.getfield 16, 3) := by decide +kernel
theorem dX4_saves_58 : decode cX4_saves 58 = .ok (.bipush 81, 2) := by decide +kernel
theorem dX4_saves_60 : decode cX4_saves 60 = .ok (.aload_n 0, 1) := by decide +kernel
theorem dX4_saves_61 : decode cX4_saves 61 = .ok (.getfield 32, 3) := by decide +kernel
theorem dX4_saves_64 : decode cX4_saves 64 = .ok (.imul, 1) := by decide +kernel
theorem dX4_saves_65 : decode cX4_saves 65 = .ok (.invokestatic 35, 3) := by decide +kernel
theorem dX4_saves_68 : decode cX4_saves 68 = .ok (.aload_n 0, 1) := by decide +kernel
theorem dX4_saves_69 : decode cX4_saves 69 = .ok (.dup, 1) := by decide +kernel
theorem dX4_saves_70 : decode cX4_saves 70 = .ok (.getfield 32, 3) := by decide +kernel
theorem dX4_saves_73 : decode cX4_saves 73 = .ok (.iconst 1, 1) := by decide +kernel
theorem dX4_saves_74 : decode cX4_saves 74 = .ok (.iadd, 1) := by decide +kernel
theorem dX4_saves_75 : decode cX4_saves 75 = .ok (.putfield 32, 3) := by decide +kernel
theorem dX4_saves_78 : decode cX4_saves 78 = .ok (.return_, 1) := by decide +kernel
theorem dX4_undo_0 : decode cX4_undo 0 = .ok (.aload_n 0, 1) := by decide +kernel
theorem dX4_undo_1 : decode cX4_undo 1 = .ok (.aload_n 0, 1) := by decide +kernel
theorem dX4_undo_2 : decode cX4_undo 2 = .ok (.getfield 32, 3) := by decide +kernel
theorem dX4_undo_5 : decode cX4_undo 5 = .ok (.ifCond .ne 7, 3) := by decide +kernel
theorem dX4_undo_8 : decode cX4_undo 8 = .ok (.iconst 1, 1) := by decide +kernel
theorem dX4_undo_9 : decode cX4_undo 9 = .ok (.goto 4, 3) := by decide +kernel
theorem dX4_undo_12 : decode cX4_undo 12 = .ok (.iconst 0, 1) := by decide +kernel
theorem dX4_undo_13 : decode cX4_undo 13 = .ok (.invokevirtual 39, 3) := by decide +kernel
theorem dX4_undo_16 : decode cX4_undo 16 = .ok (.ifCond .eq 5, 3) := by decide +kernel
theorem dX4_undo_19 : decode cX4_undo 19 = .ok (.iconst 0, 1) := by decide +kernel
theorem dX4_undo_20 : decode cX4_undo 20 = .ok (.ireturn, 1) := by decide +kernel
theorem dX4_undo_21 : decode cX4_undo 21 = .ok (.aload_n 0, 1) := by decide +kernel
theorem dX4_undo_22 : decode cX4_undo 22 = .ok (.dup, 1) := by decide +kernel
theorem dX4_undo_23 : decode cX4_undo 23 = .ok (.getfield 32, 3) := by decide +kernel
theorem dX4_undo_26 : decode cX4_undo 26 = .ok (.iconst 1, 1) := by decide +kernel
theorem dX4_undo_27 : decode cX4_undo 27 = .ok (.isub, 1) := by decide +kernel
theorem dX4_undo_28 : decode cX4_undo 28 = .ok (.putfield 32, 3) := by decide +kernel
theorem dX4_undo_31 : decode cX4_undo 31 = .ok (.aload_n 0, 1) := by decide +kernel
theorem dX4_undo_32 : decode cX4_undo 32 = .ok (.getfield 16, 3) := by decide +kernel
theorem dX4_undo_35 : decode cX4_undo 35 = .ok (.bipush 81, 2) := by decide +kernel
theorem dX4_undo_37 : decode cX4_undo 37 = .ok (.aload_n 0, 1) := by decide +kernel
theorem dX4_undo_38 : decode cX4_undo 38 = .ok (.getfield 32, 3) := by decide +kernel
theorem dX4_undo_41 : decode cX4_undo 41 = .ok (.imul, 1) := by decide +kernel
theorem dX4_undo_42 : decode cX4_undo 42 = .ok (.aload_n 0, 1) := by decide +kernel
theorem dX4_undo_43 : decode cX4_undo 43 = .ok (.getfield 7, 3) := by decide +kernel
theorem dX4_undo_46 : decode cX4_undo 46 = .ok (.iconst 0, 1) := by decide +kernel
theorem dX4_undo_47 : decode cX4_undo 47 = .ok (.invokestatic 35, 3) := by decide +kernel
theorem dX4_undo_50 : decode cX4_undo 50 = .ok (.aload_n 0, 1) := by decide +kernel
theorem dX4_undo_51 : decode cX4_undo 51 = .ok (.getfield 32, 3) := by decide +kernel
theorem dX4_undo_54 : decode cX4_undo 54 = .ok (.ireturn, 1) := by decide +kernel
theorem dX4_of_0 : decode cX4_of 0 = .ok (.aload_n 0, 1) := by decide +kernel
theorem dX4_of_1 : decode cX4_of 1 = .ok (.iconst 4, 1) := by decide +kernel
theorem dX4_of_2 : decode cX4_of 2 = .ok (.bipush 7, 2) := by decide +kernel
theorem dX4_of_4 : decode cX4_of 4 = .ok (.iload_n 1, 1) := by decide +kernel
theorem dX4_of_5 : decode cX4_of 5 = .ok (.imul, 1) := by decide +kernel
theorem dX4_of_6 : decode cX4_of 6 = .ok (.iadd, 1) := by decide +kernel
theorem dX4_of_7 : decode cX4_of 7 = .ok (.iload_n 2, 1) := by decide +kernel
theorem dX4_of_8 : decode cX4_of 8 = .ok (.iadd, 1) := by decide +kernel
theorem dX4_of_9 : decode cX4_of 9 = .ok (.iaload, 1) := by decide +kernel
theorem dX4_of_10 : decode cX4_of 10 = .ok (.ireturn, 1) := by decide +kernel
theorem dX4_puts_0 : decode cX4_puts 0 = .ok (.aload_n 0, 1) := by decide +kernel
theorem dX4_puts_1 : decode cX4_puts 1 = .ok (.iconst 4, 1) := by decide +kernel
theorem dX4_puts_2 : decode cX4_puts 2 = .ok (.bipush 7, 2) := by decide +kernel
theorem dX4_puts_4 : decode cX4_puts 4 = .ok (.iload_n 1, 1) := by decide +kernel
theorem dX4_puts_5 : decode cX4_puts 5 = .ok (.imul, 1) := by decide +kernel
theorem dX4_puts_6 : decode cX4_puts 6 = .ok (.iadd, 1) := by decide +kernel
theorem dX4_puts_7 : decode cX4_puts 7 = .ok (.iload_n 2, 1) := by decide +kernel
theorem dX4_puts_8 : decode cX4_puts 8 = .ok (.iadd, 1) := by decide +kernel
theorem dX4_puts_9 : decode cX4_puts 9 = .ok (.iload_n 3, 1) := by decide +kernel
theorem dX4_puts_10 : decode cX4_puts 10 = .ok (.iastore, 1) := by decide +kernel
theorem dX4_puts_11 : decode cX4_puts 11 = .ok (.return_, 1) := by decide +kernel
theorem dX4_isOn_0 : decode cX4_isOn 0 = .ok (.aload_n 0, 1) := by decide +kernel
theorem dX4_isOn_1 : decode cX4_isOn 1 = .ok (.iload_n 1, 1) := by decide +kernel
theorem dX4_isOn_2 : decode cX4_isOn 2 = .ok (.iconst 5, 1) := by decide +kernel
theorem dX4_isOn_3 : decode cX4_isOn 3 = .ok (.invokestatic 43, 3) := by decide +kernel
theorem dX4_isOn_6 : decode cX4_isOn 6 = .ok (.iconst 1, 1) := by decide +kernel
theorem dX4_isOn_7 : decode cX4_isOn 7 = .ok (.if_icmp .ne 7, 3) := by decide +kernel
theorem dX4_isOn_10 : decode cX4_isOn 10 = .ok (.iconst 1, 1) := by decide +kernel
theorem dX4_isOn_11 : decode cX4_isOn 11 = .ok (.goto 4, 3) := by decide +kernel
theorem dX4_isOn_14 : decode cX4_isOn 14 = .ok (.iconst 0, 1) := by decide +kernel
theorem dX4_isOn_15 : decode cX4_isOn 15 = .ok (.ireturn, 1) := by decide +kernel
theorem dX4_span_0 : decode cX4_span 0 = .ok (.iconst 1, 1) := by decide +kernel
theorem dX4_span_1 : decode cX4_span 1 = .ok (.aload_n 0, 1) := by decide +kernel
theorem dX4_span_2 : decode cX4_span 2 = .ok (.iload_n 1, 1) := by decide +kernel
theorem dX4_span_3 : decode cX4_span 3 = .ok (.iconst 0, 1) := by decide +kernel
theorem dX4_span_4 : decode cX4_span 4 = .ok (.invokestatic 43, 3) := by decide +kernel
theorem dX4_span_7 : decode cX4_span 7 = .ok (.ishl, 1) := by decide +kernel
theorem dX4_span_8 : decode cX4_span 8 = .ok (.iconst 1, 1) := by decide +kernel
theorem dX4_span_9 : decode cX4_span 9 = .ok (.isub, 1) := by decide +kernel
theorem dX4_span_10 : decode cX4_span 10 = .ok (.aload_n 0, 1) := by decide +kernel
theorem dX4_span_11 : decode cX4_span 11 = .ok (.iload_n 1, 1) := by decide +kernel
theorem dX4_span_12 : decode cX4_span 12 = .ok (.iconst 3, 1) := by decide +kernel
theorem dX4_span_13 : decode cX4_span 13 = .ok (.invokestatic 43, 3) := by decide +kernel
theorem dX4_span_16 : decode cX4_span 16 = .ok (.ishl, 1) := by decide +kernel
theorem dX4_span_17 : decode cX4_span 17 = .ok (.ireturn, 1) := by decide +kernel
theorem dX4_full_0 : decode cX4_full 0 = .ok (.iconst 0, 1) := by decide +kernel
theorem dX4_full_1 : decode cX4_full 1 = .ok (.istore_n 2, 1) := by decide +kernel
theorem dX4_full_2 : decode cX4_full 2 = .ok (.iconst 0, 1) := by decide +kernel
theorem dX4_full_3 : decode cX4_full 3 = .ok (.istore_n 3, 1) := by decide +kernel
theorem dX4_full_4 : decode cX4_full 4 = .ok (.iload_n 3, 1) := by decide +kernel
theorem dX4_full_5 : decode cX4_full 5 = .ok (.aload_n 0, 1) := by decide +kernel
theorem dX4_full_6 : decode cX4_full 6 = .ok (.iconst 0, 1) := by decide +kernel
theorem dX4_full_7 : decode cX4_full 7 = .ok (.iaload, 1) := by decide +kernel
theorem dX4_full_8 : decode cX4_full 8 = .ok (.if_icmp .ge 40, 3) := by decide +kernel
theorem dX4_full_11 : decode cX4_full 11 = .ok (.iload_n 2, 1) := by decide +kernel
theorem dX4_full_12 : decode cX4_full 12 = .ok (.aload_n 0, 1) := by decide +kernel
theorem dX4_full_13 : decode cX4_full 13 = .ok (.iload_n 3, 1) := by decide +kernel
theorem dX4_full_14 : decode cX4_full 14 = .ok (.invokestatic 47, 3) := by decide +kernel
theorem dX4_full_17 : decode cX4_full 17 = .ok (.ifCond .eq 22, 3) := by decide +kernel
theorem dX4_full_20 : decode cX4_full 20 = .ok (.aload_n 0, 1) := by decide +kernel
theorem dX4_full_21 : decode cX4_full 21 = .ok (.iload_n 3, 1) := by decide +kernel
theorem dX4_full_22 : decode cX4_full 22 = .ok (.bipush 6, 2) := by decide +kernel
theorem dX4_full_24 : decode cX4_full 24 = .ok (.invokestatic 43, 3) := by decide +kernel
theorem dX4_full_27 : decode cX4_full 27 = .ok (.iload_n 1, 1) := by decide +kernel
theorem dX4_full_28 : decode cX4_full 28 = .ok (.if_icmp .ne 11, 3) := by decide +kernel
theorem dX4_full_31 : decode cX4_full 31 = .ok (.aload_n 0, 1) := by decide +kernel
theorem dX4_full_32 : decode cX4_full 32 = .ok (.iload_n 3, 1) := by decide +kernel
theorem dX4_full_33 : decode cX4_full 33 = .ok (.invokestatic 51, 3) := by decide +kernel
theorem dX4_full_36 : decode cX4_full 36 = .ok (.goto 4, 3) := by decide +kernel
theorem dX4_full_39 : decode cX4_full 39 = .ok (.iconst 0, 1) := by decide +kernel
theorem dX4_full_40 : decode cX4_full 40 = .ok (.ior, 1) := by decide +kernel
theorem dX4_full_41 : decode cX4_full 41 = .ok (.istore_n 2, 1) := by decide +kernel
theorem dX4_full_42 : decode cX4_full 42 = .ok (.iinc 3 1, 3) := by decide +kernel
theorem dX4_full_45 : decode cX4_full 45 = .ok (.goto (-41), 3) := by decide +kernel
theorem dX4_full_48 : decode cX4_full 48 = .ok (.iload_n 2, 1) := by decide +kernel
theorem dX4_full_49 : decode cX4_full 49 = .ok (.ireturn, 1) := by decide +kernel
theorem dX4_isFree_0 : decode cX4_isFree 0 = .ok (.iload_n 2, 1) := by decide +kernel
theorem dX4_isFree_1 : decode cX4_isFree 1 = .ok (.iconst 0, 1) := by decide +kernel
theorem dX4_isFree_2 : decode cX4_isFree 2 = .ok (.bipush 23, 2) := by decide +kernel
theorem dX4_isFree_4 : decode cX4_isFree 4 = .ok (.invokestatic 55, 3) := by decide +kernel
theorem dX4_isFree_7 : decode cX4_isFree 7 = .ok (.ifCond .eq 19, 3) := by decide +kernel
theorem dX4_isFree_10 : decode cX4_isFree 10 = .ok (.aload_n 0, 1) := by decide +kernel
theorem dX4_isFree_11 : decode cX4_isFree 11 = .ok (.iload_n 1, 1) := by decide +kernel
theorem dX4_isFree_12 : decode cX4_isFree 12 = .ok (.invokestatic 59, 3) := by decide +kernel
theorem dX4_isFree_15 : decode cX4_isFree 15 = .ok (.iload_n 2, 1) := by decide +kernel
theorem dX4_isFree_16 : decode cX4_isFree 16 = .ok (.ishr, 1) := by decide +kernel
theorem dX4_isFree_17 : decode cX4_isFree 17 = .ok (.iconst 1, 1) := by decide +kernel
theorem dX4_isFree_18 : decode cX4_isFree 18 = .ok (.iand, 1) := by decide +kernel
theorem dX4_isFree_19 : decode cX4_isFree 19 = .ok (.ifCond .ne 7, 3) := by decide +kernel
theorem dX4_isFree_22 : decode cX4_isFree 22 = .ok (.iconst 1, 1) := by decide +kernel
theorem dX4_isFree_23 : decode cX4_isFree 23 = .ok (.goto 4, 3) := by decide +kernel
theorem dX4_isFree_26 : decode cX4_isFree 26 = .ok (.iconst 0, 1) := by decide +kernel
theorem dX4_isFree_27 : decode cX4_isFree 27 = .ok (.ireturn, 1) := by decide +kernel
theorem dX4_least_0 : decode cX4_least 0 = .ok (.iconst 0, 1) := by decide +kernel
theorem dX4_least_1 : decode cX4_least 1 = .ok (.istore_n 1, 1) := by decide +kernel
theorem dX4_least_2 : decode cX4_least 2 = .ok (.iload_n 0, 1) := by decide +kernel
theorem dX4_least_3 : decode cX4_least 3 = .ok (.iload_n 1, 1) := by decide +kernel
theorem dX4_least_4 : decode cX4_least 4 = .ok (.ishr, 1) := by decide +kernel
theorem dX4_least_5 : decode cX4_least 5 = .ok (.iconst 1, 1) := by decide +kernel
theorem dX4_least_6 : decode cX4_least 6 = .ok (.iand, 1) := by decide +kernel
theorem dX4_least_7 : decode cX4_least 7 = .ok (.ifCond .ne 9, 3) := by decide +kernel
theorem dX4_least_10 : decode cX4_least 10 = .ok (.iinc 1 1, 3) := by decide +kernel
theorem dX4_least_13 : decode cX4_least 13 = .ok (.goto (-11), 3) := by decide +kernel
theorem dX4_least_16 : decode cX4_least 16 = .ok (.iload_n 1, 1) := by decide +kernel
theorem dX4_least_17 : decode cX4_least 17 = .ok (.ireturn, 1) := by decide +kernel
theorem dX4_greatest_0 : decode cX4_greatest 0 = .ok (.bipush 23, 2) := by decide +kernel
theorem dX4_greatest_2 : decode cX4_greatest 2 = .ok (.istore_n 1, 1) := by decide +kernel
theorem dX4_greatest_3 : decode cX4_greatest 3 = .ok (.iload_n 0, 1) := by decide +kernel
theorem dX4_greatest_4 : decode cX4_greatest 4 = .ok (.iload_n 1, 1) := by decide +kernel
theorem dX4_greatest_5 : decode cX4_greatest 5 = .ok (.ishr, 1) := by decide +kernel
theorem dX4_greatest_6 : decode cX4_greatest 6 = .ok (.iconst 1, 1) := by decide +kernel
theorem dX4_greatest_7 : decode cX4_greatest 7 = .ok (.iand, 1) := by decide +kernel
theorem dX4_greatest_8 : decode cX4_greatest 8 = .ok (.ifCond .ne 9, 3) := by decide +kernel
theorem dX4_greatest_11 : decode cX4_greatest 11 = .ok (.iinc 1 (-1), 3) := by decide +kernel
theorem dX4_greatest_14 : decode cX4_greatest 14 = .ok (.goto (-11), 3) := by decide +kernel
theorem dX4_greatest_17 : decode cX4_greatest 17 = .ok (.iload_n 1, 1) := by decide +kernel
theorem dX4_greatest_18 : decode cX4_greatest 18 = .ok (.ireturn, 1) := by decide +kernel
theorem dX4_stepOf_0 : decode cX4_stepOf 0 = .ok (.aload_n 0, 1) := by decide +kernel
theorem dX4_stepOf_1 : decode cX4_stepOf 1 = .ok (.iload_n 1, 1) := by decide +kernel
theorem dX4_stepOf_2 : decode cX4_stepOf 2 = .ok (.bipush 6, 2) := by decide +kernel
theorem dX4_stepOf_4 : decode cX4_stepOf 4 = .ok (.invokestatic 43, 3) := by decide +kernel
theorem dX4_stepOf_7 : decode cX4_stepOf 7 = .ok (.istore_n 2, 1) := by decide +kernel
theorem dX4_stepOf_8 : decode cX4_stepOf 8 = .ok (.iload_n 2, 1) := by decide +kernel
theorem dX4_stepOf_9 : decode cX4_stepOf 9 = .ok (.bipush 15, 2) := by decide +kernel
theorem dX4_stepOf_11 : decode cX4_stepOf 11 = .ok (.if_icmp .ne 5, 3) := by decide +kernel
theorem dX4_stepOf_14 : decode cX4_stepOf 14 = .ok (.iconst 0, 1) := by decide +kernel
theorem dX4_stepOf_15 : decode cX4_stepOf 15 = .ok (.ireturn, 1) := by decide +kernel
theorem dX4_stepOf_16 : decode cX4_stepOf 16 = .ok (.aload_n 0, 1) := by decide +kernel
theorem dX4_stepOf_17 : decode cX4_stepOf 17 = .ok (.iload_n 2, 1) := by decide +kernel
theorem dX4_stepOf_18 : decode cX4_stepOf 18 = .ok (.iconst 1, 1) := by decide +kernel
theorem dX4_stepOf_19 : decode cX4_stepOf 19 = .ok (.iadd, 1) := by decide +kernel
theorem dX4_stepOf_20 : decode cX4_stepOf 20 = .ok (.invokestatic 59, 3) := by decide +kernel
theorem dX4_stepOf_23 : decode cX4_stepOf 23 = .ok (.aload_n 0, 1) := by decide +kernel
theorem dX4_stepOf_24 : decode cX4_stepOf 24 = .ok (.iload_n 1, 1) := by decide +kernel
theorem dX4_stepOf_25 : decode cX4_stepOf 25 = .ok (.invokestatic 51, 3) := by decide +kernel
theorem dX4_stepOf_28 : decode cX4_stepOf 28 = .ok (.iand, 1) := by decide +kernel
theorem dX4_stepOf_29 : decode cX4_stepOf 29 = .ok (.istore_n 3, 1) := by decide +kernel
theorem dX4_stepOf_30 : decode cX4_stepOf 30 = .ok (.iload_n 3, 1) := by decide +kernel
theorem dX4_stepOf_31 : decode cX4_stepOf 31 = .ok (.ifCond .ne 5, 3) := by decide +kernel
theorem dX4_stepOf_34 : decode cX4_stepOf 34 = .ok (.iconst 1, 1) := by decide +kernel
theorem dX4_stepOf_35 : decode cX4_stepOf 35 = .ok (.ireturn, 1) := by decide +kernel
theorem dX4_stepOf_36 : decode cX4_stepOf 36 = .ok (.aload_n 0, 1) := by decide +kernel
theorem dX4_stepOf_37 : decode cX4_stepOf 37 = .ok (.iload_n 1, 1) := by decide +kernel
theorem dX4_stepOf_38 : decode cX4_stepOf 38 = .ok (.iconst 3, 1) := by decide +kernel
theorem dX4_stepOf_39 : decode cX4_stepOf 39 = .ok (.invokestatic 43, 3) := by decide +kernel
theorem dX4_stepOf_42 : decode cX4_stepOf 42 = .ok (.istore 4, 2) := by decide +kernel
theorem dX4_stepOf_44 : decode cX4_stepOf 44 = .ok (.iload 4, 2) := by decide +kernel
theorem dX4_stepOf_46 : decode cX4_stepOf 46 = .ok (.aload_n 0, 1) := by decide +kernel
theorem dX4_stepOf_47 : decode cX4_stepOf 47 = .ok (.iload_n 1, 1) := by decide +kernel
theorem dX4_stepOf_48 : decode cX4_stepOf 48 = .ok (.iconst 0, 1) := by decide +kernel
theorem dX4_stepOf_49 : decode cX4_stepOf 49 = .ok (.invokestatic 43, 3) := by decide +kernel
theorem dX4_stepOf_52 : decode cX4_stepOf 52 = .ok (.iadd, 1) := by decide +kernel
theorem dX4_stepOf_53 : decode cX4_stepOf 53 = .ok (.iconst 1, 1) := by decide +kernel
theorem dX4_stepOf_54 : decode cX4_stepOf 54 = .ok (.isub, 1) := by decide +kernel
theorem dX4_stepOf_55 : decode cX4_stepOf 55 = .ok (.istore 5, 2) := by decide +kernel
theorem dX4_stepOf_57 : decode cX4_stepOf 57 = .ok (.iload 4, 2) := by decide +kernel
theorem dX4_stepOf_59 : decode cX4_stepOf 59 = .ok (.iload 5, 2) := by decide +kernel
theorem dX4_stepOf_61 : decode cX4_stepOf 61 = .ok (.iadd, 1) := by decide +kernel
theorem dX4_stepOf_62 : decode cX4_stepOf 62 = .ok (.iconst 2, 1) := by decide +kernel
theorem dX4_stepOf_63 : decode cX4_stepOf 63 = .ok (.iload_n 3, 1) := by decide +kernel
theorem dX4_stepOf_64 : decode cX4_stepOf 64 = .ok (.invokestatic 62, 3) := by decide +kernel
theorem dX4_stepOf_67 : decode cX4_stepOf 67 = .ok (.imul, 1) := by decide +kernel
theorem dX4_stepOf_68 : decode cX4_stepOf 68 = .ok (.if_icmp .ge 21, 3) := by decide +kernel
theorem dX4_stepOf_71 : decode cX4_stepOf 71 = .ok (.aload_n 0, 1) := by decide +kernel
theorem dX4_stepOf_72 : decode cX4_stepOf 72 = .ok (.iload_n 2, 1) := by decide +kernel
theorem dX4_stepOf_73 : decode cX4_stepOf 73 = .ok (.iload 4, 2) := by decide +kernel
theorem dX4_stepOf_75 : decode cX4_stepOf 75 = .ok (.iconst 1, 1) := by decide +kernel
theorem dX4_stepOf_76 : decode cX4_stepOf 76 = .ok (.isub, 1) := by decide +kernel
theorem dX4_stepOf_77 : decode cX4_stepOf 77 = .ok (.invokestatic 66, 3) := by decide +kernel
theorem dX4_stepOf_80 : decode cX4_stepOf 80 = .ok (.ifCond .eq 7, 3) := by decide +kernel
theorem dX4_stepOf_83 : decode cX4_stepOf 83 = .ok (.iconst 2, 1) := by decide +kernel
theorem dX4_stepOf_84 : decode cX4_stepOf 84 = .ok (.goto 4, 3) := by decide +kernel
theorem dX4_stepOf_87 : decode cX4_stepOf 87 = .ok (.iconst 0, 1) := by decide +kernel
theorem dX4_stepOf_88 : decode cX4_stepOf 88 = .ok (.ireturn, 1) := by decide +kernel
theorem dX4_stepOf_89 : decode cX4_stepOf 89 = .ok (.iload 4, 2) := by decide +kernel
theorem dX4_stepOf_91 : decode cX4_stepOf 91 = .ok (.iload 5, 2) := by decide +kernel
theorem dX4_stepOf_93 : decode cX4_stepOf 93 = .ok (.iadd, 1) := by decide +kernel
theorem dX4_stepOf_94 : decode cX4_stepOf 94 = .ok (.iconst 2, 1) := by decide +kernel
theorem dX4_stepOf_95 : decode cX4_stepOf 95 = .ok (.iload_n 3, 1) := by decide +kernel
theorem dX4_stepOf_96 : decode cX4_stepOf 96 = .ok (.invokestatic 70, 3) := by decide +kernel
theorem dX4_stepOf_99 : decode cX4_stepOf 99 = .ok (.imul, 1) := by decide +kernel
theorem dX4_stepOf_100 : decode cX4_stepOf 100 = .ok (.if_icmp .le 19, 3) := by decide +kernel
theorem dX4_stepOf_103 : decode cX4_stepOf 103 = .ok (.aload_n 0, 1) := by decide +kernel
theorem dX4_stepOf_104 : decode cX4_stepOf 104 = .ok (.iload_n 2, 1) := by decide +kernel
theorem dX4_stepOf_105 : decode cX4_stepOf 105 = .ok (.iload 5, 2) := by decide +kernel
theorem dX4_stepOf_107 : decode cX4_stepOf 107 = .ok (.iconst 1, 1) := by decide +kernel
theorem dX4_stepOf_108 : decode cX4_stepOf 108 = .ok (.iadd, 1) := by decide +kernel
theorem dX4_stepOf_109 : decode cX4_stepOf 109 = .ok (.invokestatic 66, 3) := by decide +kernel
theorem dX4_stepOf_112 : decode cX4_stepOf 112 = .ok (.ifCond .eq 7, 3) := by decide +kernel
theorem dX4_stepOf_115 : decode cX4_stepOf 115 = .ok (.iconst 3, 1) := by decide +kernel
theorem dX4_stepOf_116 : decode cX4_stepOf 116 = .ok (.goto 4, 3) := by decide +kernel
theorem dX4_stepOf_119 : decode cX4_stepOf 119 = .ok (.iconst 0, 1) := by decide +kernel
theorem dX4_stepOf_120 : decode cX4_stepOf 120 = .ok (.ireturn, 1) := by decide +kernel
theorem dX4_isAtRest_0 : decode cX4_isAtRest 0 = .ok (.aload_n 0, 1) := by decide +kernel
theorem dX4_isAtRest_1 : decode cX4_isAtRest 1 = .ok (.iload_n 1, 1) := by decide +kernel
theorem dX4_isAtRest_2 : decode cX4_isAtRest 2 = .ok (.invokestatic 47, 3) := by decide +kernel
theorem dX4_isAtRest_5 : decode cX4_isAtRest 5 = .ok (.ifCond .eq 15, 3) := by decide +kernel
theorem dX4_isAtRest_8 : decode cX4_isAtRest 8 = .ok (.aload_n 0, 1) := by decide +kernel
theorem dX4_isAtRest_9 : decode cX4_isAtRest 9 = .ok (.iload_n 1, 1) := by decide +kernel
theorem dX4_isAtRest_10 : decode cX4_isAtRest 10 = .ok (.invokestatic 73, 3) := by decide +kernel
theorem dX4_isAtRest_13 : decode cX4_isAtRest 13 = .ok (.ifCond .ne 7, 3) := by decide +kernel
theorem dX4_isAtRest_16 : decode cX4_isAtRest 16 = .ok (.iconst 1, 1) := by decide +kernel
theorem dX4_isAtRest_17 : decode cX4_isAtRest 17 = .ok (.goto 4, 3) := by decide +kernel
theorem dX4_isAtRest_20 : decode cX4_isAtRest 20 = .ok (.iconst 0, 1) := by decide +kernel
theorem dX4_isAtRest_21 : decode cX4_isAtRest 21 = .ok (.ireturn, 1) := by decide +kernel
theorem dX4_isAbove_0 : decode cX4_isAbove 0 = .ok (.aload_n 0, 1) := by decide +kernel
theorem dX4_isAbove_1 : decode cX4_isAbove 1 = .ok (.iload_n 1, 1) := by decide +kernel
theorem dX4_isAbove_2 : decode cX4_isAbove 2 = .ok (.invokestatic 47, 3) := by decide +kernel
theorem dX4_isAbove_5 : decode cX4_isAbove 5 = .ok (.ifCond .eq 48, 3) := by decide +kernel
theorem dX4_isAbove_8 : decode cX4_isAbove 8 = .ok (.aload_n 0, 1) := by decide +kernel
theorem dX4_isAbove_9 : decode cX4_isAbove 9 = .ok (.iload_n 2, 1) := by decide +kernel
theorem dX4_isAbove_10 : decode cX4_isAbove 10 = .ok (.invokestatic 47, 3) := by decide +kernel
theorem dX4_isAbove_13 : decode cX4_isAbove 13 = .ok (.ifCond .eq 40, 3) := by decide +kernel
theorem dX4_isAbove_16 : decode cX4_isAbove 16 = .ok (.aload_n 0, 1) := by decide +kernel
theorem dX4_isAbove_17 : decode cX4_isAbove 17 = .ok (.iload_n 2, 1) := by decide +kernel
theorem dX4_isAbove_18 : decode cX4_isAbove 18 = .ok (.bipush 6, 2) := by decide +kernel
theorem dX4_isAbove_20 : decode cX4_isAbove 20 = .ok (.invokestatic 43, 3) := by decide +kernel
theorem dX4_isAbove_23 : decode cX4_isAbove 23 = .ok (.aload_n 0, 1) := by decide +kernel
theorem dX4_isAbove_24 : decode cX4_isAbove 24 = .ok (.iload_n 1, 1) := by decide +kernel
theorem dX4_isAbove_25 : decode cX4_isAbove 25 = .ok (.bipush 6, 2) := by decide +kernel
theorem dX4_isAbove_27 : decode cX4_isAbove 27 = .ok (.invokestatic 43, 3) := by decide +kernel
theorem dX4_isAbove_30 : decode cX4_isAbove 30 = .ok (.iconst 1, 1) := by decide +kernel
theorem dX4_isAbove_31 : decode cX4_isAbove 31 = .ok (.isub, 1) := by decide +kernel
theorem dX4_isAbove_32 : decode cX4_isAbove 32 = .ok (.if_icmp .ne 21, 3) := by decide +kernel
theorem dX4_isAbove_35 : decode cX4_isAbove 35 = .ok (.aload_n 0, 1) := by decide +kernel
theorem dX4_isAbove_36 : decode cX4_isAbove 36 = .ok (.iload_n 2, 1) := by decide +kernel
theorem dX4_isAbove_37 : decode cX4_isAbove 37 = .ok (.invokestatic 51, 3) := by decide +kernel
theorem dX4_isAbove_40 : decode cX4_isAbove 40 = .ok (.aload_n 0, 1) := by decide +kernel
theorem dX4_isAbove_41 : decode cX4_isAbove 41 = .ok (.iload_n 1, 1) := by decide +kernel
theorem dX4_isAbove_42 : decode cX4_isAbove 42 = .ok (.invokestatic 51, 3) := by decide +kernel
theorem dX4_isAbove_45 : decode cX4_isAbove 45 = .ok (.iand, 1) := by decide +kernel
theorem dX4_isAbove_46 : decode cX4_isAbove 46 = .ok (.ifCond .eq 7, 3) := by decide +kernel
theorem dX4_isAbove_49 : decode cX4_isAbove 49 = .ok (.iconst 1, 1) := by decide +kernel
theorem dX4_isAbove_50 : decode cX4_isAbove 50 = .ok (.goto 4, 3) := by decide +kernel
theorem dX4_isAbove_53 : decode cX4_isAbove 53 = .ok (.iconst 0, 1) := by decide +kernel
theorem dX4_isAbove_54 : decode cX4_isAbove 54 = .ok (.ireturn, 1) := by decide +kernel
theorem dX4_load_0 : decode cX4_load 0 = .ok (.iconst 0, 1) := by decide +kernel
theorem dX4_load_1 : decode cX4_load 1 = .ok (.istore_n 2, 1) := by decide +kernel
theorem dX4_load_2 : decode cX4_load 2 = .ok (.iconst 0, 1) := by decide +kernel
theorem dX4_load_3 : decode cX4_load 3 = .ok (.istore_n 3, 1) := by decide +kernel
theorem dX4_load_4 : decode cX4_load 4 = .ok (.iload_n 3, 1) := by decide +kernel
theorem dX4_load_5 : decode cX4_load 5 = .ok (.aload_n 0, 1) := by decide +kernel
theorem dX4_load_6 : decode cX4_load 6 = .ok (.iconst 0, 1) := by decide +kernel
theorem dX4_load_7 : decode cX4_load 7 = .ok (.iaload, 1) := by decide +kernel
theorem dX4_load_8 : decode cX4_load 8 = .ok (.if_icmp .ge 31, 3) := by decide +kernel
theorem dX4_load_11 : decode cX4_load 11 = .ok (.iload_n 2, 1) := by decide +kernel
theorem dX4_load_12 : decode cX4_load 12 = .ok (.aload_n 0, 1) := by decide +kernel
theorem dX4_load_13 : decode cX4_load 13 = .ok (.iload_n 1, 1) := by decide +kernel
theorem dX4_load_14 : decode cX4_load 14 = .ok (.iload_n 3, 1) := by decide +kernel
theorem dX4_load_15 : decode cX4_load 15 = .ok (.invokestatic 76, 3) := by decide +kernel
theorem dX4_load_18 : decode cX4_load 18 = .ok (.ifCond .eq 12, 3) := by decide +kernel
theorem dX4_load_21 : decode cX4_load 21 = .ok (.aload_n 0, 1) := by decide +kernel
theorem dX4_load_22 : decode cX4_load 22 = .ok (.iload_n 3, 1) := by decide +kernel
theorem dX4_load_23 : decode cX4_load 23 = .ok (.iconst 1, 1) := by decide +kernel
theorem dX4_load_24 : decode cX4_load 24 = .ok (.invokestatic 43, 3) := by decide +kernel
theorem dX4_load_27 : decode cX4_load 27 = .ok (.goto 4, 3) := by decide +kernel
theorem dX4_load_30 : decode cX4_load 30 = .ok (.iconst 0, 1) := by decide +kernel
theorem dX4_load_31 : decode cX4_load 31 = .ok (.iadd, 1) := by decide +kernel
theorem dX4_load_32 : decode cX4_load 32 = .ok (.istore_n 2, 1) := by decide +kernel
theorem dX4_load_33 : decode cX4_load 33 = .ok (.iinc 3 1, 3) := by decide +kernel
theorem dX4_load_36 : decode cX4_load 36 = .ok (.goto (-32), 3) := by decide +kernel
theorem dX4_load_39 : decode cX4_load 39 = .ok (.iload_n 2, 1) := by decide +kernel
theorem dX4_load_40 : decode cX4_load 40 = .ok (.ireturn, 1) := by decide +kernel
theorem dX4_strength_0 : decode cX4_strength 0 = .ok (.aload_n 0, 1) := by decide +kernel
theorem dX4_strength_1 : decode cX4_strength 1 = .ok (.iconst 2, 1) := by decide +kernel
theorem dX4_strength_2 : decode cX4_strength 2 = .ok (.iaload, 1) := by decide +kernel
theorem dX4_strength_3 : decode cX4_strength 3 = .ok (.aload_n 0, 1) := by decide +kernel
theorem dX4_strength_4 : decode cX4_strength 4 = .ok (.iload_n 1, 1) := by decide +kernel
theorem dX4_strength_5 : decode cX4_strength 5 = .ok (.iconst 0, 1) := by decide +kernel
theorem dX4_strength_6 : decode cX4_strength 6 = .ok (.invokestatic 43, 3) := by decide +kernel
theorem dX4_strength_9 : decode cX4_strength 9 = .ok (.imul, 1) := by decide +kernel
theorem dX4_strength_10 : decode cX4_strength 10 = .ok (.ireturn, 1) := by decide +kernel
theorem dX4_isAllAtRest_0 : decode cX4_isAllAtRest 0 = .ok (.iconst 1, 1) := by decide +kernel
theorem dX4_isAllAtRest_1 : decode cX4_isAllAtRest 1 = .ok (.istore_n 1, 1) := by decide +kernel
theorem dX4_isAllAtRest_2 : decode cX4_isAllAtRest 2 = .ok (.iconst 0, 1) := by decide +kernel
theorem dX4_isAllAtRest_3 : decode cX4_isAllAtRest 3 = .ok (.istore_n 2, 1) := by decide +kernel
theorem dX4_isAllAtRest_4 : decode cX4_isAllAtRest 4 = .ok (.iload_n 2, 1) := by decide +kernel
theorem dX4_isAllAtRest_5 : decode cX4_isAllAtRest 5 = .ok (.aload_n 0, 1) := by decide +kernel
theorem dX4_isAllAtRest_6 : decode cX4_isAllAtRest 6 = .ok (.iconst 0, 1) := by decide +kernel
theorem dX4_isAllAtRest_7 : decode cX4_isAllAtRest 7 = .ok (.iaload, 1) := by decide +kernel
theorem dX4_isAllAtRest_8 : decode cX4_isAllAtRest 8 = .ok (.if_icmp .ge 80, 3) := by decide +kernel
theorem dX4_isAllAtRest_11 : decode cX4_isAllAtRest 11 = .ok (.aload_n 0, 1) := by decide +kernel
theorem dX4_isAllAtRest_12 : decode cX4_isAllAtRest 12 = .ok (.iload_n 2, 1) := by decide +kernel
theorem dX4_isAllAtRest_13 : decode cX4_isAllAtRest 13 = .ok (.iconst 5, 1) := by decide +kernel
theorem dX4_isAllAtRest_14 : decode cX4_isAllAtRest 14 = .ok (.invokestatic 43, 3) := by decide +kernel
theorem dX4_isAllAtRest_17 : decode cX4_isAllAtRest 17 = .ok (.istore_n 3, 1) := by decide +kernel
theorem dX4_isAllAtRest_18 : decode cX4_isAllAtRest 18 = .ok (.iload_n 3, 1) := by decide +kernel
theorem dX4_isAllAtRest_19 : decode cX4_isAllAtRest 19 = .ok (.iconst 3, 1) := by decide +kernel
theorem dX4_isAllAtRest_20 : decode cX4_isAllAtRest 20 = .ok (.if_icmp .eq 40, 3) := by decide +kernel
theorem dX4_isAllAtRest_23 : decode cX4_isAllAtRest 23 = .ok (.iload_n 3, 1) := by decide +kernel
theorem dX4_isAllAtRest_24 : decode cX4_isAllAtRest 24 = .ok (.ifCond .ne 15, 3) := by decide +kernel
theorem dX4_isAllAtRest_27 : decode cX4_isAllAtRest 27 = .ok (.aload_n 0, 1) := by decide +kernel
theorem dX4_isAllAtRest_28 : decode cX4_isAllAtRest 28 = .ok (.iload_n 2, 1) := by decide +kernel
theorem dX4_isAllAtRest_29 : decode cX4_isAllAtRest 29 = .ok (.iconst 4, 1) := by decide +kernel
theorem dX4_isAllAtRest_30 : decode cX4_isAllAtRest 30 = .ok (.invokestatic 43, 3) := by decide +kernel
theorem dX4_isAllAtRest_33 : decode cX4_isAllAtRest 33 = .ok (.aload_n 0, 1) := by decide +kernel
theorem dX4_isAllAtRest_34 : decode cX4_isAllAtRest 34 = .ok (.iconst 1, 1) := by decide +kernel
theorem dX4_isAllAtRest_35 : decode cX4_isAllAtRest 35 = .ok (.iaload, 1) := by decide +kernel
theorem dX4_isAllAtRest_36 : decode cX4_isAllAtRest 36 = .ok (.if_icmp .gt 24, 3) := by decide +kernel
theorem dX4_isAllAtRest_39 : decode cX4_isAllAtRest 39 = .ok (.aload_n 0, 1) := by decide +kernel
theorem dX4_isAllAtRest_40 : decode cX4_isAllAtRest 40 = .ok (.iload_n 2, 1) := by decide +kernel
theorem dX4_isAllAtRest_41 : decode cX4_isAllAtRest 41 = .ok (.invokestatic 79, 3) := by decide +kernel
theorem dX4_isAllAtRest_44 : decode cX4_isAllAtRest 44 = .ok (.ifCond .eq 20, 3) := by decide +kernel
theorem dX4_isAllAtRest_47 : decode cX4_isAllAtRest 47 = .ok (.aload_n 0, 1) := by decide +kernel
theorem dX4_isAllAtRest_48 : decode cX4_isAllAtRest 48 = .ok (.iload_n 2, 1) := by decide +kernel
theorem dX4_isAllAtRest_49 : decode cX4_isAllAtRest 49 = .ok (.invokestatic 82, 3) := by decide +kernel
theorem dX4_isAllAtRest_52 : decode cX4_isAllAtRest 52 = .ok (.aload_n 0, 1) := by decide +kernel
theorem dX4_isAllAtRest_53 : decode cX4_isAllAtRest 53 = .ok (.iload_n 2, 1) := by decide +kernel
theorem dX4_isAllAtRest_54 : decode cX4_isAllAtRest 54 = .ok (.invokestatic 85, 3) := by decide +kernel
theorem dX4_isAllAtRest_57 : decode cX4_isAllAtRest 57 = .ok (.if_icmp .gt 7, 3) := by decide +kernel
theorem dX4_isAllAtRest_60 : decode cX4_isAllAtRest 60 = .ok (.iconst 1, 1) := by decide +kernel
theorem dX4_isAllAtRest_61 : decode cX4_isAllAtRest 61 = .ok (.goto 4, 3) := by decide +kernel
theorem dX4_isAllAtRest_64 : decode cX4_isAllAtRest 64 = .ok (.iconst 0, 1) := by decide +kernel
theorem dX4_isAllAtRest_65 : decode cX4_isAllAtRest 65 = .ok (.istore 4, 2) := by decide +kernel
theorem dX4_isAllAtRest_67 : decode cX4_isAllAtRest 67 = .ok (.iload_n 1, 1) := by decide +kernel
theorem dX4_isAllAtRest_68 : decode cX4_isAllAtRest 68 = .ok (.ifCond .eq 12, 3) := by decide +kernel
theorem dX4_isAllAtRest_71 : decode cX4_isAllAtRest 71 = .ok (.iload 4, 2) := by decide +kernel
theorem dX4_isAllAtRest_73 : decode cX4_isAllAtRest 73 = .ok (.ifCond .eq 7, 3) := by decide +kernel
theorem dX4_isAllAtRest_76 : decode cX4_isAllAtRest 76 = .ok (.iconst 1, 1) := by decide +kernel
theorem dX4_isAllAtRest_77 : decode cX4_isAllAtRest 77 = .ok (.goto 4, 3) := by decide +kernel
theorem dX4_isAllAtRest_80 : decode cX4_isAllAtRest 80 = .ok (.iconst 0, 1) := by decide +kernel
theorem dX4_isAllAtRest_81 : decode cX4_isAllAtRest 81 = .ok (.istore_n 1, 1) := by decide +kernel
theorem dX4_isAllAtRest_82 : decode cX4_isAllAtRest 82 = .ok (.iinc 2 1, 3) := by decide +kernel
theorem dX4_isAllAtRest_85 : decode cX4_isAllAtRest 85 = .ok (.goto (-81), 3) := by decide +kernel
theorem dX4_isAllAtRest_88 : decode cX4_isAllAtRest 88 = .ok (.iload_n 1, 1) := by decide +kernel
theorem dX4_isAllAtRest_89 : decode cX4_isAllAtRest 89 = .ok (.ireturn, 1) := by decide +kernel
theorem dX4_next_0 : decode cX4_next 0 = .ok (.iconst (-1), 1) := by decide +kernel
theorem dX4_next_1 : decode cX4_next 1 = .ok (.istore_n 2, 1) := by decide +kernel
theorem dX4_next_2 : decode cX4_next 2 = .ok (.iconst 0, 1) := by decide +kernel
theorem dX4_next_3 : decode cX4_next 3 = .ok (.istore_n 3, 1) := by decide +kernel
theorem dX4_next_4 : decode cX4_next 4 = .ok (.iload_n 3, 1) := by decide +kernel
theorem dX4_next_5 : decode cX4_next 5 = .ok (.aload_n 1, 1) := by decide +kernel
theorem dX4_next_6 : decode cX4_next 6 = .ok (.iconst 0, 1) := by decide +kernel
theorem dX4_next_7 : decode cX4_next 7 = .ok (.iaload, 1) := by decide +kernel
theorem dX4_next_8 : decode cX4_next 8 = .ok (.if_icmp .ge 44, 3) := by decide +kernel
theorem dX4_next_11 : decode cX4_next 11 = .ok (.aload_n 0, 1) := by decide +kernel
theorem dX4_next_12 : decode cX4_next 12 = .ok (.getfield 22, 3) := by decide +kernel
theorem dX4_next_15 : decode cX4_next 15 = .ok (.iload_n 3, 1) := by decide +kernel
theorem dX4_next_16 : decode cX4_next 16 = .ok (.iaload, 1) := by decide +kernel
theorem dX4_next_17 : decode cX4_next 17 = .ok (.ifCond .lt 27, 3) := by decide +kernel
theorem dX4_next_20 : decode cX4_next 20 = .ok (.iload_n 2, 1) := by decide +kernel
theorem dX4_next_21 : decode cX4_next 21 = .ok (.iconst (-1), 1) := by decide +kernel
theorem dX4_next_22 : decode cX4_next 22 = .ok (.if_icmp .eq 18, 3) := by decide +kernel
theorem dX4_next_25 : decode cX4_next 25 = .ok (.aload_n 0, 1) := by decide +kernel
theorem dX4_next_26 : decode cX4_next 26 = .ok (.getfield 22, 3) := by decide +kernel
theorem dX4_next_29 : decode cX4_next 29 = .ok (.iload_n 3, 1) := by decide +kernel
theorem dX4_next_30 : decode cX4_next 30 = .ok (.iaload, 1) := by decide +kernel
theorem dX4_next_31 : decode cX4_next 31 = .ok (.aload_n 0, 1) := by decide +kernel
theorem dX4_next_32 : decode cX4_next 32 = .ok (.getfield 22, 3) := by decide +kernel
theorem dX4_next_35 : decode cX4_next 35 = .ok (.iload_n 2, 1) := by decide +kernel
theorem dX4_next_36 : decode cX4_next 36 = .ok (.iaload, 1) := by decide +kernel
theorem dX4_next_37 : decode cX4_next 37 = .ok (.if_icmp .le 7, 3) := by decide +kernel
theorem dX4_next_40 : decode cX4_next 40 = .ok (.iload_n 3, 1) := by decide +kernel
theorem dX4_next_41 : decode cX4_next 41 = .ok (.goto 4, 3) := by decide +kernel
theorem dX4_next_44 : decode cX4_next 44 = .ok (.iload_n 2, 1) := by decide +kernel
theorem dX4_next_45 : decode cX4_next 45 = .ok (.istore_n 2, 1) := by decide +kernel
theorem dX4_next_46 : decode cX4_next 46 = .ok (.iinc 3 1, 3) := by decide +kernel
theorem dX4_next_49 : decode cX4_next 49 = .ok (.goto (-45), 3) := by decide +kernel
theorem dX4_next_52 : decode cX4_next 52 = .ok (.iload_n 2, 1) := by decide +kernel
theorem dX4_next_53 : decode cX4_next 53 = .ok (.iconst (-1), 1) := by decide +kernel
theorem dX4_next_54 : decode cX4_next 54 = .ok (.if_icmp .eq 10, 3) := by decide +kernel
theorem dX4_next_57 : decode cX4_next 57 = .ok (.aload_n 0, 1) := by decide +kernel
theorem dX4_next_58 : decode cX4_next 58 = .ok (.getfield 22, 3) := by decide +kernel
theorem dX4_next_61 : decode cX4_next 61 = .ok (.iload_n 2, 1) := by decide +kernel
theorem dX4_next_62 : decode cX4_next 62 = .ok (.iconst (-1), 1) := by decide +kernel
theorem dX4_next_63 : decode cX4_next 63 = .ok (.iastore, 1) := by decide +kernel
theorem dX4_next_64 : decode cX4_next 64 = .ok (.iload_n 2, 1) := by decide +kernel
theorem dX4_next_65 : decode cX4_next 65 = .ok (.ireturn, 1) := by decide +kernel
theorem dX4_keyOf_0 : decode cX4_keyOf 0 = .ok (.sipush 10000, 3) := by decide +kernel
theorem dX4_keyOf_3 : decode cX4_keyOf 3 = .ok (.iload_n 2, 1) := by decide +kernel
theorem dX4_keyOf_4 : decode cX4_keyOf 4 = .ok (.imul, 1) := by decide +kernel
theorem dX4_keyOf_5 : decode cX4_keyOf 5 = .ok (.bipush 100, 2) := by decide +kernel
theorem dX4_keyOf_7 : decode cX4_keyOf 7 = .ok (.aload_n 0, 1) := by decide +kernel
theorem dX4_keyOf_8 : decode cX4_keyOf 8 = .ok (.iload_n 1, 1) := by decide +kernel
theorem dX4_keyOf_9 : decode cX4_keyOf 9 = .ok (.iconst 1, 1) := by decide +kernel
theorem dX4_keyOf_10 : decode cX4_keyOf 10 = .ok (.invokestatic 43, 3) := by decide +kernel
theorem dX4_keyOf_13 : decode cX4_keyOf 13 = .ok (.imul, 1) := by decide +kernel
theorem dX4_keyOf_14 : decode cX4_keyOf 14 = .ok (.iadd, 1) := by decide +kernel
theorem dX4_keyOf_15 : decode cX4_keyOf 15 = .ok (.bipush 99, 2) := by decide +kernel
theorem dX4_keyOf_17 : decode cX4_keyOf 17 = .ok (.iadd, 1) := by decide +kernel
theorem dX4_keyOf_18 : decode cX4_keyOf 18 = .ok (.iload_n 1, 1) := by decide +kernel
theorem dX4_keyOf_19 : decode cX4_keyOf 19 = .ok (.isub, 1) := by decide +kernel
theorem dX4_keyOf_20 : decode cX4_keyOf 20 = .ok (.ireturn, 1) := by decide +kernel
theorem dX4_come_0 : decode cX4_come 0 = .ok (.iconst 0, 1) := by decide +kernel
theorem dX4_come_1 : decode cX4_come 1 = .ok (.istore_n 2, 1) := by decide +kernel
theorem dX4_come_2 : decode cX4_come 2 = .ok (.iload_n 2, 1) := by decide +kernel
theorem dX4_come_3 : decode cX4_come 3 = .ok (.aload_n 1, 1) := by decide +kernel
theorem dX4_come_4 : decode cX4_come 4 = .ok (.iconst 0, 1) := by decide +kernel
theorem dX4_come_5 : decode cX4_come 5 = .ok (.iaload, 1) := by decide +kernel
theorem dX4_come_6 : decode cX4_come 6 = .ok (.if_icmp .ge 46, 3) := by decide +kernel
theorem dX4_come_9 : decode cX4_come 9 = .ok (.aload_n 0, 1) := by decide +kernel
theorem dX4_come_10 : decode cX4_come 10 = .ok (.getfield 22, 3) := by decide +kernel
theorem dX4_come_13 : decode cX4_come 13 = .ok (.iload_n 2, 1) := by decide +kernel
theorem dX4_come_14 : decode cX4_come 14 = .ok (.aload_n 1, 1) := by decide +kernel
theorem dX4_come_15 : decode cX4_come 15 = .ok (.iload_n 2, 1) := by decide +kernel
theorem dX4_come_16 : decode cX4_come 16 = .ok (.iconst 5, 1) := by decide +kernel
theorem dX4_come_17 : decode cX4_come 17 = .ok (.invokestatic 43, 3) := by decide +kernel
theorem dX4_come_20 : decode cX4_come 20 = .ok (.ifCond .ne 24, 3) := by decide +kernel
theorem dX4_come_23 : decode cX4_come 23 = .ok (.aload_n 1, 1) := by decide +kernel
theorem dX4_come_24 : decode cX4_come 24 = .ok (.iload_n 2, 1) := by decide +kernel
theorem dX4_come_25 : decode cX4_come 25 = .ok (.iconst 4, 1) := by decide +kernel
theorem dX4_come_26 : decode cX4_come 26 = .ok (.invokestatic 43, 3) := by decide +kernel
theorem dX4_come_29 : decode cX4_come 29 = .ok (.aload_n 1, 1) := by decide +kernel
theorem dX4_come_30 : decode cX4_come 30 = .ok (.iconst 1, 1) := by decide +kernel
theorem dX4_come_31 : decode cX4_come 31 = .ok (.iaload, 1) := by decide +kernel
theorem dX4_come_32 : decode cX4_come 32 = .ok (.if_icmp .gt 12, 3) := by decide +kernel
theorem dX4_come_35 : decode cX4_come 35 = .ok (.aload_n 1, 1) := by decide +kernel
theorem dX4_come_36 : decode cX4_come 36 = .ok (.iload_n 2, 1) := by decide +kernel
theorem dX4_come_37 : decode cX4_come 37 = .ok (.iconst 0, 1) := by decide +kernel
theorem dX4_come_38 : decode cX4_come 38 = .ok (.invokestatic 88, 3) := by decide +kernel
theorem dX4_come_41 : decode cX4_come 41 = .ok (.goto 4, 3) := by decide +kernel
theorem dX4_come_44 : decode cX4_come 44 = .ok (.iconst (-1), 1) := by decide +kernel
theorem dX4_come_45 : decode cX4_come 45 = .ok (.iastore, 1) := by decide +kernel
theorem dX4_come_46 : decode cX4_come 46 = .ok (.iinc 2 1, 3) := by decide +kernel
theorem dX4_come_49 : decode cX4_come 49 = .ok (.goto (-47), 3) := by decide +kernel
theorem dX4_come_52 : decode cX4_come 52 = .ok (.aload_n 0, 1) := by decide +kernel
theorem dX4_come_53 : decode cX4_come 53 = .ok (.aload_n 1, 1) := by decide +kernel
theorem dX4_come_54 : decode cX4_come 54 = .ok (.invokevirtual 91, 3) := by decide +kernel
theorem dX4_come_57 : decode cX4_come 57 = .ok (.istore_n 2, 1) := by decide +kernel
theorem dX4_come_58 : decode cX4_come 58 = .ok (.iload_n 2, 1) := by decide +kernel
theorem dX4_come_59 : decode cX4_come 59 = .ok (.iconst (-1), 1) := by decide +kernel
theorem dX4_come_60 : decode cX4_come 60 = .ok (.if_icmp .eq 41, 3) := by decide +kernel
theorem dX4_come_63 : decode cX4_come 63 = .ok (.aload_n 1, 1) := by decide +kernel
theorem dX4_come_64 : decode cX4_come 64 = .ok (.iconst 0, 1) := by decide +kernel
theorem dX4_come_65 : decode cX4_come 65 = .ok (.invokestatic 59, 3) := by decide +kernel
theorem dX4_come_68 : decode cX4_come 68 = .ok (.aload_n 1, 1) := by decide +kernel
theorem dX4_come_69 : decode cX4_come 69 = .ok (.iload_n 2, 1) := by decide +kernel
theorem dX4_come_70 : decode cX4_come 70 = .ok (.invokestatic 51, 3) := by decide +kernel
theorem dX4_come_73 : decode cX4_come 73 = .ok (.iand, 1) := by decide +kernel
theorem dX4_come_74 : decode cX4_come 74 = .ok (.ifCond .ne 18, 3) := by decide +kernel
theorem dX4_come_77 : decode cX4_come 77 = .ok (.aload_n 1, 1) := by decide +kernel
theorem dX4_come_78 : decode cX4_come 78 = .ok (.iload_n 2, 1) := by decide +kernel
theorem dX4_come_79 : decode cX4_come 79 = .ok (.iconst 5, 1) := by decide +kernel
theorem dX4_come_80 : decode cX4_come 80 = .ok (.iconst 1, 1) := by decide +kernel
theorem dX4_come_81 : decode cX4_come 81 = .ok (.invokestatic 95, 3) := by decide +kernel
theorem dX4_come_84 : decode cX4_come 84 = .ok (.aload_n 1, 1) := by decide +kernel
theorem dX4_come_85 : decode cX4_come 85 = .ok (.iload_n 2, 1) := by decide +kernel
theorem dX4_come_86 : decode cX4_come 86 = .ok (.bipush 6, 2) := by decide +kernel
theorem dX4_come_88 : decode cX4_come 88 = .ok (.iconst 0, 1) := by decide +kernel
theorem dX4_come_89 : decode cX4_come 89 = .ok (.invokestatic 95, 3) := by decide +kernel
theorem dX4_come_92 : decode cX4_come 92 = .ok (.aload_n 0, 1) := by decide +kernel
theorem dX4_come_93 : decode cX4_come 93 = .ok (.aload_n 1, 1) := by decide +kernel
theorem dX4_come_94 : decode cX4_come 94 = .ok (.invokevirtual 91, 3) := by decide +kernel
theorem dX4_come_97 : decode cX4_come 97 = .ok (.istore_n 2, 1) := by decide +kernel
theorem dX4_come_98 : decode cX4_come 98 = .ok (.goto (-40), 3) := by decide +kernel
theorem dX4_come_101 : decode cX4_come 101 = .ok (.return_, 1) := by decide +kernel
theorem dX4_moves_0 : decode cX4_moves 0 = .ok (.iconst 1, 1) := by decide +kernel
theorem dX4_moves_1 : decode cX4_moves 1 = .ok (.aload_n 0, 1) := by decide +kernel
theorem dX4_moves_2 : decode cX4_moves 2 = .ok (.iload_n 1, 1) := by decide +kernel
theorem dX4_moves_3 : decode cX4_moves 3 = .ok (.iconst 1, 1) := by decide +kernel
theorem dX4_moves_4 : decode cX4_moves 4 = .ok (.invokestatic 43, 3) := by decide +kernel
theorem dX4_moves_7 : decode cX4_moves 7 = .ok (.iconst 4, 1) := by decide +kernel
theorem dX4_moves_8 : decode cX4_moves 8 = .ok (.idiv, 1) := by decide +kernel
theorem dX4_moves_9 : decode cX4_moves 9 = .ok (.iadd, 1) := by decide +kernel
theorem dX4_moves_10 : decode cX4_moves 10 = .ok (.istore_n 2, 1) := by decide +kernel
theorem dX4_moves_11 : decode cX4_moves 11 = .ok (.aload_n 0, 1) := by decide +kernel
theorem dX4_moves_12 : decode cX4_moves 12 = .ok (.iload_n 1, 1) := by decide +kernel
theorem dX4_moves_13 : decode cX4_moves 13 = .ok (.invokestatic 73, 3) := by decide +kernel
theorem dX4_moves_16 : decode cX4_moves 16 = .ok (.istore_n 3, 1) := by decide +kernel
theorem dX4_moves_17 : decode cX4_moves 17 = .ok (.iload_n 2, 1) := by decide +kernel
theorem dX4_moves_18 : decode cX4_moves 18 = .ok (.ifCond .le 76, 3) := by decide +kernel
theorem dX4_moves_21 : decode cX4_moves 21 = .ok (.iload_n 3, 1) := by decide +kernel
theorem dX4_moves_22 : decode cX4_moves 22 = .ok (.ifCond .eq 72, 3) := by decide +kernel
theorem dX4_moves_25 : decode cX4_moves 25 = .ok (.aload_n 0, 1) := by decide +kernel
theorem dX4_moves_26 : decode cX4_moves 26 = .ok (.iload_n 1, 1) := by decide +kernel
theorem dX4_moves_27 : decode cX4_moves 27 = .ok (.bipush 6, 2) := by decide +kernel
theorem dX4_moves_29 : decode cX4_moves 29 = .ok (.aload_n 0, 1) := by decide +kernel
theorem dX4_moves_30 : decode cX4_moves 30 = .ok (.iload_n 1, 1) := by decide +kernel
theorem dX4_moves_31 : decode cX4_moves 31 = .ok (.bipush 6, 2) := by decide +kernel
theorem dX4_moves_33 : decode cX4_moves 33 = .ok (.invokestatic 43, 3) := by decide +kernel
theorem dX4_moves_36 : decode cX4_moves 36 = .ok (.iload_n 3, 1) := by decide +kernel
theorem dX4_moves_37 : decode cX4_moves 37 = .ok (.iconst 1, 1) := by decide +kernel
theorem dX4_moves_38 : decode cX4_moves 38 = .ok (.if_icmp .ne 7, 3) := by decide +kernel
theorem dX4_moves_41 : decode cX4_moves 41 = .ok (.iconst 1, 1) := by decide +kernel
theorem dX4_moves_42 : decode cX4_moves 42 = .ok (.goto 4, 3) := by decide +kernel
theorem dX4_moves_45 : decode cX4_moves 45 = .ok (.iconst 0, 1) := by decide +kernel
theorem dX4_moves_46 : decode cX4_moves 46 = .ok (.iadd, 1) := by decide +kernel
theorem dX4_moves_47 : decode cX4_moves 47 = .ok (.invokestatic 95, 3) := by decide +kernel
theorem dX4_moves_50 : decode cX4_moves 50 = .ok (.aload_n 0, 1) := by decide +kernel
theorem dX4_moves_51 : decode cX4_moves 51 = .ok (.iload_n 1, 1) := by decide +kernel
theorem dX4_moves_52 : decode cX4_moves 52 = .ok (.iconst 3, 1) := by decide +kernel
theorem dX4_moves_53 : decode cX4_moves 53 = .ok (.aload_n 0, 1) := by decide +kernel
theorem dX4_moves_54 : decode cX4_moves 54 = .ok (.iload_n 1, 1) := by decide +kernel
theorem dX4_moves_55 : decode cX4_moves 55 = .ok (.iconst 3, 1) := by decide +kernel
theorem dX4_moves_56 : decode cX4_moves 56 = .ok (.invokestatic 43, 3) := by decide +kernel
theorem dX4_moves_59 : decode cX4_moves 59 = .ok (.iload_n 3, 1) := by decide +kernel
theorem dX4_moves_60 : decode cX4_moves 60 = .ok (.iconst 2, 1) := by decide +kernel
theorem dX4_moves_61 : decode cX4_moves 61 = .ok (.if_icmp .ne 7, 3) := by decide +kernel
theorem dX4_moves_64 : decode cX4_moves 64 = .ok (.iconst (-1), 1) := by decide +kernel
theorem dX4_moves_65 : decode cX4_moves 65 = .ok (.goto 13, 3) := by decide +kernel
theorem dX4_moves_68 : decode cX4_moves 68 = .ok (.iload_n 3, 1) := by decide +kernel
theorem dX4_moves_69 : decode cX4_moves 69 = .ok (.iconst 3, 1) := by decide +kernel
theorem dX4_moves_70 : decode cX4_moves 70 = .ok (.if_icmp .ne 7, 3) := by decide +kernel
theorem dX4_moves_73 : decode cX4_moves 73 = .ok (.iconst 1, 1) := by decide +kernel
theorem dX4_moves_74 : decode cX4_moves 74 = .ok (.goto 4, 3) := by decide +kernel
theorem dX4_moves_77 : decode cX4_moves 77 = .ok (.iconst 0, 1) := by decide +kernel
theorem dX4_moves_78 : decode cX4_moves 78 = .ok (.iadd, 1) := by decide +kernel
theorem dX4_moves_79 : decode cX4_moves 79 = .ok (.invokestatic 95, 3) := by decide +kernel
theorem dX4_moves_82 : decode cX4_moves 82 = .ok (.iinc 2 (-1), 3) := by decide +kernel
theorem dX4_moves_85 : decode cX4_moves 85 = .ok (.aload_n 0, 1) := by decide +kernel
theorem dX4_moves_86 : decode cX4_moves 86 = .ok (.iload_n 1, 1) := by decide +kernel
theorem dX4_moves_87 : decode cX4_moves 87 = .ok (.invokestatic 73, 3) := by decide +kernel
theorem dX4_moves_90 : decode cX4_moves 90 = .ok (.istore_n 3, 1) := by decide +kernel
theorem dX4_moves_91 : decode cX4_moves 91 = .ok (.goto (-74), 3) := by decide +kernel
theorem dX4_moves_94 : decode cX4_moves 94 = .ok (.return_, 1) := by decide +kernel
theorem dX4_moveAll_0 : decode cX4_moveAll 0 = .ok (.iconst 0, 1) := by decide +kernel
theorem dX4_moveAll_1 : decode cX4_moveAll 1 = .ok (.istore_n 2, 1) := by decide +kernel
theorem dX4_moveAll_2 : decode cX4_moveAll 2 = .ok (.iload_n 2, 1) := by decide +kernel
theorem dX4_moveAll_3 : decode cX4_moveAll 3 = .ok (.aload_n 1, 1) := by decide +kernel
theorem dX4_moveAll_4 : decode cX4_moveAll 4 = .ok (.iconst 0, 1) := by decide +kernel
theorem dX4_moveAll_5 : decode cX4_moveAll 5 = .ok (.iaload, 1) := by decide +kernel
theorem dX4_moveAll_6 : decode cX4_moveAll 6 = .ok (.if_icmp .ge 39, 3) := by decide +kernel
theorem dX4_moveAll_9 : decode cX4_moveAll 9 = .ok (.aload_n 0, 1) := by decide +kernel
theorem dX4_moveAll_10 : decode cX4_moveAll 10 = .ok (.getfield 22, 3) := by decide +kernel
theorem dX4_moveAll_13 : decode cX4_moveAll 13 = .ok (.iload_n 2, 1) := by decide +kernel
theorem dX4_moveAll_14 : decode cX4_moveAll 14 = .ok (.aload_n 1, 1) := by decide +kernel
theorem dX4_moveAll_15 : decode cX4_moveAll 15 = .ok (.iload_n 2, 1) := by decide +kernel
theorem dX4_moveAll_16 : decode cX4_moveAll 16 = .ok (.invokestatic 47, 3) := by decide +kernel
theorem dX4_moveAll_19 : decode cX4_moveAll 19 = .ok (.ifCond .eq 18, 3) := by decide +kernel
theorem dX4_moveAll_22 : decode cX4_moveAll 22 = .ok (.aload_n 1, 1) := by decide +kernel
theorem dX4_moveAll_23 : decode cX4_moveAll 23 = .ok (.iload_n 2, 1) := by decide +kernel
theorem dX4_moveAll_24 : decode cX4_moveAll 24 = .ok (.aload_n 1, 1) := by decide +kernel
theorem dX4_moveAll_25 : decode cX4_moveAll 25 = .ok (.iload_n 2, 1) := by decide +kernel
theorem dX4_moveAll_26 : decode cX4_moveAll 26 = .ok (.bipush 6, 2) := by decide +kernel
theorem dX4_moveAll_28 : decode cX4_moveAll 28 = .ok (.invokestatic 43, 3) := by decide +kernel
theorem dX4_moveAll_31 : decode cX4_moveAll 31 = .ok (.invokestatic 88, 3) := by decide +kernel
theorem dX4_moveAll_34 : decode cX4_moveAll 34 = .ok (.goto 4, 3) := by decide +kernel
theorem dX4_moveAll_37 : decode cX4_moveAll 37 = .ok (.iconst (-1), 1) := by decide +kernel
theorem dX4_moveAll_38 : decode cX4_moveAll 38 = .ok (.iastore, 1) := by decide +kernel
theorem dX4_moveAll_39 : decode cX4_moveAll 39 = .ok (.iinc 2 1, 3) := by decide +kernel
theorem dX4_moveAll_42 : decode cX4_moveAll 42 = .ok (.goto (-40), 3) := by decide +kernel
theorem dX4_moveAll_45 : decode cX4_moveAll 45 = .ok (.aload_n 0, 1) := by decide +kernel
theorem dX4_moveAll_46 : decode cX4_moveAll 46 = .ok (.aload_n 1, 1) := by decide +kernel
theorem dX4_moveAll_47 : decode cX4_moveAll 47 = .ok (.invokevirtual 91, 3) := by decide +kernel
theorem dX4_moveAll_50 : decode cX4_moveAll 50 = .ok (.istore_n 2, 1) := by decide +kernel
theorem dX4_moveAll_51 : decode cX4_moveAll 51 = .ok (.iload_n 2, 1) := by decide +kernel
theorem dX4_moveAll_52 : decode cX4_moveAll 52 = .ok (.iconst (-1), 1) := by decide +kernel
theorem dX4_moveAll_53 : decode cX4_moveAll 53 = .ok (.if_icmp .eq 17, 3) := by decide +kernel
theorem dX4_moveAll_56 : decode cX4_moveAll 56 = .ok (.aload_n 1, 1) := by decide +kernel
theorem dX4_moveAll_57 : decode cX4_moveAll 57 = .ok (.iload_n 2, 1) := by decide +kernel
theorem dX4_moveAll_58 : decode cX4_moveAll 58 = .ok (.invokestatic 99, 3) := by decide +kernel
theorem dX4_moveAll_61 : decode cX4_moveAll 61 = .ok (.aload_n 0, 1) := by decide +kernel
theorem dX4_moveAll_62 : decode cX4_moveAll 62 = .ok (.aload_n 1, 1) := by decide +kernel
theorem dX4_moveAll_63 : decode cX4_moveAll 63 = .ok (.invokevirtual 91, 3) := by decide +kernel
theorem dX4_moveAll_66 : decode cX4_moveAll 66 = .ok (.istore_n 2, 1) := by decide +kernel
theorem dX4_moveAll_67 : decode cX4_moveAll 67 = .ok (.goto (-16), 3) := by decide +kernel
theorem dX4_moveAll_70 : decode cX4_moveAll 70 = .ok (.return_, 1) := by decide +kernel
theorem dX4_breaks_0 : decode cX4_breaks 0 = .ok (.iconst 0, 1) := by decide +kernel
theorem dX4_breaks_1 : decode cX4_breaks 1 = .ok (.istore_n 1, 1) := by decide +kernel
theorem dX4_breaks_2 : decode cX4_breaks 2 = .ok (.iconst 0, 1) := by decide +kernel
theorem dX4_breaks_3 : decode cX4_breaks 3 = .ok (.istore_n 2, 1) := by decide +kernel
theorem dX4_breaks_4 : decode cX4_breaks 4 = .ok (.iconst 0, 1) := by decide +kernel
theorem dX4_breaks_5 : decode cX4_breaks 5 = .ok (.istore_n 3, 1) := by decide +kernel
theorem dX4_breaks_6 : decode cX4_breaks 6 = .ok (.iload_n 3, 1) := by decide +kernel
theorem dX4_breaks_7 : decode cX4_breaks 7 = .ok (.aload_n 0, 1) := by decide +kernel
theorem dX4_breaks_8 : decode cX4_breaks 8 = .ok (.iconst 0, 1) := by decide +kernel
theorem dX4_breaks_9 : decode cX4_breaks 9 = .ok (.iaload, 1) := by decide +kernel
theorem dX4_breaks_10 : decode cX4_breaks 10 = .ok (.if_icmp .ge 40, 3) := by decide +kernel
theorem dX4_breaks_13 : decode cX4_breaks 13 = .ok (.iload_n 1, 1) := by decide +kernel
theorem dX4_breaks_14 : decode cX4_breaks 14 = .ok (.aload_n 0, 1) := by decide +kernel
theorem dX4_breaks_15 : decode cX4_breaks 15 = .ok (.iload_n 3, 1) := by decide +kernel
theorem dX4_breaks_16 : decode cX4_breaks 16 = .ok (.invokestatic 47, 3) := by decide +kernel
theorem dX4_breaks_19 : decode cX4_breaks 19 = .ok (.ifCond .eq 22, 3) := by decide +kernel
theorem dX4_breaks_22 : decode cX4_breaks 22 = .ok (.aload_n 0, 1) := by decide +kernel
theorem dX4_breaks_23 : decode cX4_breaks 23 = .ok (.iload_n 3, 1) := by decide +kernel
theorem dX4_breaks_24 : decode cX4_breaks 24 = .ok (.invokestatic 82, 3) := by decide +kernel
theorem dX4_breaks_27 : decode cX4_breaks 27 = .ok (.aload_n 0, 1) := by decide +kernel
theorem dX4_breaks_28 : decode cX4_breaks 28 = .ok (.iload_n 3, 1) := by decide +kernel
theorem dX4_breaks_29 : decode cX4_breaks 29 = .ok (.invokestatic 85, 3) := by decide +kernel
theorem dX4_breaks_32 : decode cX4_breaks 32 = .ok (.if_icmp .le 9, 3) := by decide +kernel
theorem dX4_breaks_35 : decode cX4_breaks 35 = .ok (.iconst 1, 1) := by decide +kernel
theorem dX4_breaks_36 : decode cX4_breaks 36 = .ok (.iload_n 3, 1) := by decide +kernel
theorem dX4_breaks_37 : decode cX4_breaks 37 = .ok (.ishl, 1) := by decide +kernel
theorem dX4_breaks_38 : decode cX4_breaks 38 = .ok (.goto 4, 3) := by decide +kernel
theorem dX4_breaks_41 : decode cX4_breaks 41 = .ok (.iconst 0, 1) := by decide +kernel
theorem dX4_breaks_42 : decode cX4_breaks 42 = .ok (.ior, 1) := by decide +kernel
theorem dX4_breaks_43 : decode cX4_breaks 43 = .ok (.istore_n 1, 1) := by decide +kernel
theorem dX4_breaks_44 : decode cX4_breaks 44 = .ok (.iinc 3 1, 3) := by decide +kernel
theorem dX4_breaks_47 : decode cX4_breaks 47 = .ok (.goto (-41), 3) := by decide +kernel
theorem dX4_breaks_50 : decode cX4_breaks 50 = .ok (.iconst 0, 1) := by decide +kernel
theorem dX4_breaks_51 : decode cX4_breaks 51 = .ok (.istore_n 3, 1) := by decide +kernel
theorem dX4_breaks_52 : decode cX4_breaks 52 = .ok (.iload_n 3, 1) := by decide +kernel
theorem dX4_breaks_53 : decode cX4_breaks 53 = .ok (.aload_n 0, 1) := by decide +kernel
theorem dX4_breaks_54 : decode cX4_breaks 54 = .ok (.iconst 0, 1) := by decide +kernel
theorem dX4_breaks_55 : decode cX4_breaks 55 = .ok (.iaload, 1) := by decide +kernel
theorem dX4_breaks_56 : decode cX4_breaks 56 = .ok (.if_icmp .ge 28, 3) := by decide +kernel
theorem dX4_breaks_59 : decode cX4_breaks 59 = .ok (.iload_n 1, 1) := by decide +kernel
theorem dX4_breaks_60 : decode cX4_breaks 60 = .ok (.iload_n 3, 1) := by decide +kernel
theorem dX4_breaks_61 : decode cX4_breaks 61 = .ok (.ishr, 1) := by decide +kernel
theorem dX4_breaks_62 : decode cX4_breaks 62 = .ok (.iconst 1, 1) := by decide +kernel
theorem dX4_breaks_63 : decode cX4_breaks 63 = .ok (.iand, 1) := by decide +kernel
theorem dX4_breaks_64 : decode cX4_breaks 64 = .ok (.iconst 1, 1) := by decide +kernel
theorem dX4_breaks_65 : decode cX4_breaks 65 = .ok (.if_icmp .ne 13, 3) := by decide +kernel
theorem dX4_breaks_68 : decode cX4_breaks 68 = .ok (.aload_n 0, 1) := by decide +kernel
theorem dX4_breaks_69 : decode cX4_breaks 69 = .ok (.iload_n 3, 1) := by decide +kernel
theorem dX4_breaks_70 : decode cX4_breaks 70 = .ok (.iconst 5, 1) := by decide +kernel
theorem dX4_breaks_71 : decode cX4_breaks 71 = .ok (.iconst 3, 1) := by decide +kernel
theorem dX4_breaks_72 : decode cX4_breaks 72 = .ok (.invokestatic 95, 3) := by decide +kernel
theorem dX4_breaks_75 : decode cX4_breaks 75 = .ok (.iinc 2 1, 3) := by decide +kernel
theorem dX4_breaks_78 : decode cX4_breaks 78 = .ok (.iinc 3 1, 3) := by decide +kernel
theorem dX4_breaks_81 : decode cX4_breaks 81 = .ok (.goto (-29), 3) := by decide +kernel
theorem dX4_breaks_84 : decode cX4_breaks 84 = .ok (.iload_n 2, 1) := by decide +kernel
theorem dX4_breaks_85 : decode cX4_breaks 85 = .ok (.ireturn, 1) := by decide +kernel
theorem dX4_beat_0 : decode cX4_beat 0 = .ok (.aload_n 0, 1) := by decide +kernel
theorem dX4_beat_1 : decode cX4_beat 1 = .ok (.aload_n 1, 1) := by decide +kernel
theorem dX4_beat_2 : decode cX4_beat 2 = .ok (.invokevirtual 103, 3) := by decide +kernel
theorem dX4_beat_5 : decode cX4_beat 5 = .ok (.aload_n 0, 1) := by decide +kernel
theorem dX4_beat_6 : decode cX4_beat 6 = .ok (.aload_n 1, 1) := by decide +kernel
theorem dX4_beat_7 : decode cX4_beat 7 = .ok (.invokevirtual 107, 3) := by decide +kernel
theorem dX4_beat_10 : decode cX4_beat 10 = .ok (.aload_n 1, 1) := by decide +kernel
theorem dX4_beat_11 : decode cX4_beat 11 = .ok (.invokestatic 110, 3) := by decide +kernel
theorem dX4_beat_14 : decode cX4_beat 14 = .ok (.istore_n 2, 1) := by decide +kernel
theorem dX4_beat_15 : decode cX4_beat 15 = .ok (.aload_n 1, 1) := by decide +kernel
theorem dX4_beat_16 : decode cX4_beat 16 = .ok (.iconst 3, 1) := by decide +kernel
theorem dX4_beat_17 : decode cX4_beat 17 = .ok (.dup2, 1) := by decide +kernel
theorem dX4_beat_18 : decode cX4_beat 18 = .ok (.iaload, 1) := by decide +kernel
theorem dX4_beat_19 : decode cX4_beat 19 = .ok (.iload_n 2, 1) := by decide +kernel
theorem dX4_beat_20 : decode cX4_beat 20 = .ok (.iadd, 1) := by decide +kernel
theorem dX4_beat_21 : decode cX4_beat 21 = .ok (.iastore, 1) := by decide +kernel
theorem dX4_beat_22 : decode cX4_beat 22 = .ok (.aload_n 1, 1) := by decide +kernel
theorem dX4_beat_23 : decode cX4_beat 23 = .ok (.iconst 1, 1) := by decide +kernel
theorem dX4_beat_24 : decode cX4_beat 24 = .ok (.dup2, 1) := by decide +kernel
theorem dX4_beat_25 : decode cX4_beat 25 = .ok (.iaload, 1) := by decide +kernel
theorem dX4_beat_26 : decode cX4_beat 26 = .ok (.iconst 1, 1) := by decide +kernel
theorem dX4_beat_27 : decode cX4_beat 27 = .ok (.iadd, 1) := by decide +kernel
theorem dX4_beat_28 : decode cX4_beat 28 = .ok (.iastore, 1) := by decide +kernel
theorem dX4_beat_29 : decode cX4_beat 29 = .ok (.iload_n 2, 1) := by decide +kernel
theorem dX4_beat_30 : decode cX4_beat 30 = .ok (.ireturn, 1) := by decide +kernel
theorem dX4_rests_0 : decode cX4_rests 0 = .ok (.iconst 0, 1) := by decide +kernel
theorem dX4_rests_1 : decode cX4_rests 1 = .ok (.istore_n 2, 1) := by decide +kernel
theorem dX4_rests_2 : decode cX4_rests 2 = .ok (.iload_n 2, 1) := by decide +kernel
theorem dX4_rests_3 : decode cX4_rests 3 = .ok (.sipush 200, 3) := by decide +kernel
theorem dX4_rests_6 : decode cX4_rests 6 = .ok (.if_icmp .ge 31, 3) := by decide +kernel
theorem dX4_rests_9 : decode cX4_rests 9 = .ok (.aload_n 1, 1) := by decide +kernel
theorem dX4_rests_10 : decode cX4_rests 10 = .ok (.invokestatic 113, 3) := by decide +kernel
theorem dX4_rests_13 : decode cX4_rests 13 = .ok (.ifCond .ne 24, 3) := by decide +kernel
theorem dX4_rests_16 : decode cX4_rests 16 = .ok (.aload_n 0, 1) := by decide +kernel
theorem dX4_rests_17 : decode cX4_rests 17 = .ok (.aload_n 1, 1) := by decide +kernel
theorem dX4_rests_18 : decode cX4_rests 18 = .ok (.invokevirtual 117, 3) := by decide +kernel
theorem dX4_rests_21 : decode cX4_rests 21 = .ok (.istore_n 3, 1) := by decide +kernel
theorem dX4_rests_22 : decode cX4_rests 22 = .ok (.iload_n 2, 1) := by decide +kernel
theorem dX4_rests_23 : decode cX4_rests 23 = .ok (.iload_n 3, 1) := by decide +kernel
theorem dX4_rests_24 : decode cX4_rests 24 = .ok (.ifCond .ge 7, 3) := by decide +kernel
theorem dX4_rests_27 : decode cX4_rests 27 = .ok (.iconst 0, 1) := by decide +kernel
theorem dX4_rests_28 : decode cX4_rests 28 = .ok (.goto 4, 3) := by decide +kernel
theorem dX4_rests_31 : decode cX4_rests 31 = .ok (.iconst 1, 1) := by decide +kernel
theorem dX4_rests_32 : decode cX4_rests 32 = .ok (.iadd, 1) := by decide +kernel
theorem dX4_rests_33 : decode cX4_rests 33 = .ok (.istore_n 2, 1) := by decide +kernel
theorem dX4_rests_34 : decode cX4_rests 34 = .ok (.goto (-32), 3) := by decide +kernel
theorem dX4_rests_37 : decode cX4_rests 37 = .ok (.aload_n 1, 1) := by decide +kernel
theorem dX4_rests_38 : decode cX4_rests 38 = .ok (.invokestatic 113, 3) := by decide +kernel
theorem dX4_rests_41 : decode cX4_rests 41 = .ok (.ifCond .eq 7, 3) := by decide +kernel
theorem dX4_rests_44 : decode cX4_rests 44 = .ok (.iload_n 2, 1) := by decide +kernel
theorem dX4_rests_45 : decode cX4_rests 45 = .ok (.goto 4, 3) := by decide +kernel
theorem dX4_rests_48 : decode cX4_rests 48 = .ok (.iconst (-1), 1) := by decide +kernel
theorem dX4_rests_49 : decode cX4_rests 49 = .ok (.ireturn, 1) := by decide +kernel
theorem dX4_isLine_0 : decode cX4_isLine 0 = .ok (.iload_n 0, 1) := by decide +kernel
theorem dX4_isLine_1 : decode cX4_isLine 1 = .ok (.iconst 1, 1) := by decide +kernel
theorem dX4_isLine_2 : decode cX4_isLine 2 = .ok (.bipush 12, 2) := by decide +kernel
theorem dX4_isLine_4 : decode cX4_isLine 4 = .ok (.invokestatic 55, 3) := by decide +kernel
theorem dX4_isLine_7 : decode cX4_isLine 7 = .ok (.ifCond .eq 29, 3) := by decide +kernel
theorem dX4_isLine_10 : decode cX4_isLine 10 = .ok (.iload_n 1, 1) := by decide +kernel
theorem dX4_isLine_11 : decode cX4_isLine 11 = .ok (.iconst 1, 1) := by decide +kernel
theorem dX4_isLine_12 : decode cX4_isLine 12 = .ok (.bipush 9, 2) := by decide +kernel
theorem dX4_isLine_14 : decode cX4_isLine 14 = .ok (.invokestatic 55, 3) := by decide +kernel
theorem dX4_isLine_17 : decode cX4_isLine 17 = .ok (.ifCond .eq 19, 3) := by decide +kernel
theorem dX4_isLine_20 : decode cX4_isLine 20 = .ok (.iload_n 2, 1) := by decide +kernel
theorem dX4_isLine_21 : decode cX4_isLine 21 = .ok (.iconst 0, 1) := by decide +kernel
theorem dX4_isLine_22 : decode cX4_isLine 22 = .ok (.bipush 24, 2) := by decide +kernel
theorem dX4_isLine_24 : decode cX4_isLine 24 = .ok (.iload_n 0, 1) := by decide +kernel
theorem dX4_isLine_25 : decode cX4_isLine 25 = .ok (.isub, 1) := by decide +kernel
theorem dX4_isLine_26 : decode cX4_isLine 26 = .ok (.invokestatic 55, 3) := by decide +kernel
theorem dX4_isLine_29 : decode cX4_isLine 29 = .ok (.ifCond .eq 7, 3) := by decide +kernel
theorem dX4_isLine_32 : decode cX4_isLine 32 = .ok (.iconst 1, 1) := by decide +kernel
theorem dX4_isLine_33 : decode cX4_isLine 33 = .ok (.goto 4, 3) := by decide +kernel
theorem dX4_isLine_36 : decode cX4_isLine 36 = .ok (.iconst 0, 1) := by decide +kernel
theorem dX4_isLine_37 : decode cX4_isLine 37 = .ok (.ireturn, 1) := by decide +kernel
theorem dX4_isLet_0 : decode cX4_isLet 0 = .ok (.iload_n 0, 1) := by decide +kernel
theorem dX4_isLet_1 : decode cX4_isLet 1 = .ok (.iconst 0, 1) := by decide +kernel
theorem dX4_isLet_2 : decode cX4_isLet 2 = .ok (.iconst 3, 1) := by decide +kernel
theorem dX4_isLet_3 : decode cX4_isLet 3 = .ok (.invokestatic 55, 3) := by decide +kernel
theorem dX4_isLet_6 : decode cX4_isLet 6 = .ok (.ifCond .eq 17, 3) := by decide +kernel
theorem dX4_isLet_9 : decode cX4_isLet 9 = .ok (.iload_n 1, 1) := by decide +kernel
theorem dX4_isLet_10 : decode cX4_isLet 10 = .ok (.iconst 0, 1) := by decide +kernel
theorem dX4_isLet_11 : decode cX4_isLet 11 = .ok (.bipush 99, 2) := by decide +kernel
theorem dX4_isLet_13 : decode cX4_isLet 13 = .ok (.invokestatic 55, 3) := by decide +kernel
theorem dX4_isLet_16 : decode cX4_isLet 16 = .ok (.ifCond .eq 7, 3) := by decide +kernel
theorem dX4_isLet_19 : decode cX4_isLet 19 = .ok (.iconst 1, 1) := by decide +kernel
theorem dX4_isLet_20 : decode cX4_isLet 20 = .ok (.goto 4, 3) := by decide +kernel
theorem dX4_isLet_23 : decode cX4_isLet 23 = .ok (.iconst 0, 1) := by decide +kernel
theorem dX4_isLet_24 : decode cX4_isLet 24 = .ok (.ireturn, 1) := by decide +kernel
theorem dX4_comes_0 : decode cX4_comes 0 = .ok (.iconst 4, 1) := by decide +kernel
theorem dX4_comes_1 : decode cX4_comes 1 = .ok (.bipush 7, 2) := by decide +kernel
theorem dX4_comes_3 : decode cX4_comes 3 = .ok (.aload_n 0, 1) := by decide +kernel
theorem dX4_comes_4 : decode cX4_comes 4 = .ok (.iconst 0, 1) := by decide +kernel
theorem dX4_comes_5 : decode cX4_comes 5 = .ok (.iaload, 1) := by decide +kernel
theorem dX4_comes_6 : decode cX4_comes 6 = .ok (.imul, 1) := by decide +kernel
theorem dX4_comes_7 : decode cX4_comes 7 = .ok (.iadd, 1) := by decide +kernel
theorem dX4_comes_8 : decode cX4_comes 8 = .ok (.istore 6, 2) := by decide +kernel
theorem dX4_comes_10 : decode cX4_comes 10 = .ok (.aload_n 0, 1) := by decide +kernel
theorem dX4_comes_11 : decode cX4_comes 11 = .ok (.iload 6, 2) := by decide +kernel
theorem dX4_comes_13 : decode cX4_comes 13 = .ok (.iconst 0, 1) := by decide +kernel
theorem dX4_comes_14 : decode cX4_comes 14 = .ok (.iadd, 1) := by decide +kernel
theorem dX4_comes_15 : decode cX4_comes 15 = .ok (.iload_n 1, 1) := by decide +kernel
theorem dX4_comes_16 : decode cX4_comes 16 = .ok (.iastore, 1) := by decide +kernel
theorem dX4_comes_17 : decode cX4_comes 17 = .ok (.aload_n 0, 1) := by decide +kernel
theorem dX4_comes_18 : decode cX4_comes 18 = .ok (.iload 6, 2) := by decide +kernel
theorem dX4_comes_20 : decode cX4_comes 20 = .ok (.iconst 1, 1) := by decide +kernel
theorem dX4_comes_21 : decode cX4_comes 21 = .ok (.iadd, 1) := by decide +kernel
theorem dX4_comes_22 : decode cX4_comes 22 = .ok (.iload_n 2, 1) := by decide +kernel
theorem dX4_comes_23 : decode cX4_comes 23 = .ok (.iastore, 1) := by decide +kernel
theorem dX4_comes_24 : decode cX4_comes 24 = .ok (.aload_n 0, 1) := by decide +kernel
theorem dX4_comes_25 : decode cX4_comes 25 = .ok (.iload 6, 2) := by decide +kernel
theorem dX4_comes_27 : decode cX4_comes 27 = .ok (.iconst 2, 1) := by decide +kernel
theorem dX4_comes_28 : decode cX4_comes 28 = .ok (.iadd, 1) := by decide +kernel
theorem dX4_comes_29 : decode cX4_comes 29 = .ok (.iload 4, 2) := by decide +kernel
theorem dX4_comes_31 : decode cX4_comes 31 = .ok (.iastore, 1) := by decide +kernel
theorem dX4_comes_32 : decode cX4_comes 32 = .ok (.aload_n 0, 1) := by decide +kernel
theorem dX4_comes_33 : decode cX4_comes 33 = .ok (.iload 6, 2) := by decide +kernel
theorem dX4_comes_35 : decode cX4_comes 35 = .ok (.iconst 3, 1) := by decide +kernel
theorem dX4_comes_36 : decode cX4_comes 36 = .ok (.iadd, 1) := by decide +kernel
theorem dX4_comes_37 : decode cX4_comes 37 = .ok (.iload_n 3, 1) := by decide +kernel
theorem dX4_comes_38 : decode cX4_comes 38 = .ok (.iastore, 1) := by decide +kernel
theorem dX4_comes_39 : decode cX4_comes 39 = .ok (.aload_n 0, 1) := by decide +kernel
theorem dX4_comes_40 : decode cX4_comes 40 = .ok (.iload 6, 2) := by decide +kernel
theorem dX4_comes_42 : decode cX4_comes 42 = .ok (.iconst 4, 1) := by decide +kernel
theorem dX4_comes_43 : decode cX4_comes 43 = .ok (.iadd, 1) := by decide +kernel
theorem dX4_comes_44 : decode cX4_comes 44 = .ok (.iload 5, 2) := by decide +kernel
theorem dX4_comes_46 : decode cX4_comes 46 = .ok (.iastore, 1) := by decide +kernel
theorem dX4_comes_47 : decode cX4_comes 47 = .ok (.aload_n 0, 1) := by decide +kernel
theorem dX4_comes_48 : decode cX4_comes 48 = .ok (.iload 6, 2) := by decide +kernel
theorem dX4_comes_50 : decode cX4_comes 50 = .ok (.iconst 5, 1) := by decide +kernel
theorem dX4_comes_51 : decode cX4_comes 51 = .ok (.iadd, 1) := by decide +kernel
theorem dX4_comes_52 : decode cX4_comes 52 = .ok (.iconst 0, 1) := by decide +kernel
theorem dX4_comes_53 : decode cX4_comes 53 = .ok (.iastore, 1) := by decide +kernel
theorem dX4_comes_54 : decode cX4_comes 54 = .ok (.aload_n 0, 1) := by decide +kernel
theorem dX4_comes_55 : decode cX4_comes 55 = .ok (.iload 6, 2) := by decide +kernel
theorem dX4_comes_57 : decode cX4_comes 57 = .ok (.bipush 6, 2) := by decide +kernel
theorem dX4_comes_59 : decode cX4_comes 59 = .ok (.iadd, 1) := by decide +kernel
theorem dX4_comes_60 : decode cX4_comes 60 = .ok (.iconst 0, 1) := by decide +kernel
theorem dX4_comes_61 : decode cX4_comes 61 = .ok (.iastore, 1) := by decide +kernel
theorem dX4_comes_62 : decode cX4_comes 62 = .ok (.aload_n 0, 1) := by decide +kernel
theorem dX4_comes_63 : decode cX4_comes 63 = .ok (.iconst 0, 1) := by decide +kernel
theorem dX4_comes_64 : decode cX4_comes 64 = .ok (.dup2, 1) := by decide +kernel
theorem dX4_comes_65 : decode cX4_comes 65 = .ok (.iaload, 1) := by decide +kernel
theorem dX4_comes_66 : decode cX4_comes 66 = .ok (.iconst 1, 1) := by decide +kernel
theorem dX4_comes_67 : decode cX4_comes 67 = .ok (.iadd, 1) := by decide +kernel
theorem dX4_comes_68 : decode cX4_comes 68 = .ok (.iastore, 1) := by decide +kernel
theorem dX4_comes_69 : decode cX4_comes 69 = .ok (.return_, 1) := by decide +kernel
theorem dX4_line_0 : decode cX4_line 0 = .ok (.iload_n 1, 1) := by decide +kernel
theorem dX4_line_1 : decode cX4_line 1 = .ok (.iload_n 2, 1) := by decide +kernel
theorem dX4_line_2 : decode cX4_line 2 = .ok (.iload_n 3, 1) := by decide +kernel
theorem dX4_line_3 : decode cX4_line 3 = .ok (.invokestatic 120, 3) := by decide +kernel
theorem dX4_line_6 : decode cX4_line 6 = .ok (.ifCond .eq 17, 3) := by decide +kernel
theorem dX4_line_9 : decode cX4_line 9 = .ok (.iload 4, 2) := by decide +kernel
theorem dX4_line_11 : decode cX4_line 11 = .ok (.iload 5, 2) := by decide +kernel
theorem dX4_line_13 : decode cX4_line 13 = .ok (.invokestatic 123, 3) := by decide +kernel
theorem dX4_line_16 : decode cX4_line 16 = .ok (.ifCond .eq 7, 3) := by decide +kernel
theorem dX4_line_19 : decode cX4_line 19 = .ok (.iconst 1, 1) := by decide +kernel
theorem dX4_line_20 : decode cX4_line 20 = .ok (.goto 4, 3) := by decide +kernel
theorem dX4_line_23 : decode cX4_line 23 = .ok (.iconst 0, 1) := by decide +kernel
theorem dX4_line_24 : decode cX4_line 24 = .ok (.istore 6, 2) := by decide +kernel
theorem dX4_line_26 : decode cX4_line 26 = .ok (.aload_n 0, 1) := by decide +kernel
theorem dX4_line_27 : decode cX4_line 27 = .ok (.iload 6, 2) := by decide +kernel
theorem dX4_line_29 : decode cX4_line 29 = .ok (.ifCond .ne 7, 3) := by decide +kernel
theorem dX4_line_32 : decode cX4_line 32 = .ok (.iconst 1, 1) := by decide +kernel
theorem dX4_line_33 : decode cX4_line 33 = .ok (.goto 19, 3) := by decide +kernel
theorem dX4_line_36 : decode cX4_line 36 = .ok (.aload_n 0, 1) := by decide +kernel
theorem dX4_line_37 : decode cX4_line 37 = .ok (.getfield 7, 3) := by decide +kernel
theorem dX4_line_40 : decode cX4_line 40 = .ok (.iconst 0, 1) := by decide +kernel
theorem dX4_line_41 : decode cX4_line 41 = .ok (.iaload, 1) := by decide +kernel
theorem dX4_line_42 : decode cX4_line 42 = .ok (.bipush 10, 2) := by decide +kernel
theorem dX4_line_44 : decode cX4_line 44 = .ok (.if_icmp .ne 7, 3) := by decide +kernel
theorem dX4_line_47 : decode cX4_line 47 = .ok (.iconst 2, 1) := by decide +kernel
theorem dX4_line_48 : decode cX4_line 48 = .ok (.goto 4, 3) := by decide +kernel
theorem dX4_line_51 : decode cX4_line 51 = .ok (.iconst 0, 1) := by decide +kernel
theorem dX4_line_52 : decode cX4_line 52 = .ok (.invokevirtual 39, 3) := by decide +kernel
theorem dX4_line_55 : decode cX4_line 55 = .ok (.ifCond .eq 5, 3) := by decide +kernel
theorem dX4_line_58 : decode cX4_line 58 = .ok (.iconst 0, 1) := by decide +kernel
theorem dX4_line_59 : decode cX4_line 59 = .ok (.ireturn, 1) := by decide +kernel
theorem dX4_line_60 : decode cX4_line 60 = .ok (.aload_n 0, 1) := by decide +kernel
theorem dX4_line_61 : decode cX4_line 61 = .ok (.invokevirtual 127, 3) := by decide +kernel
theorem dX4_line_64 : decode cX4_line 64 = .ok (.aload_n 0, 1) := by decide +kernel
theorem dX4_line_65 : decode cX4_line 65 = .ok (.getfield 7, 3) := by decide +kernel
theorem dX4_line_68 : decode cX4_line 68 = .ok (.iload_n 1, 1) := by decide +kernel
theorem dX4_line_69 : decode cX4_line 69 = .ok (.iload_n 2, 1) := by decide +kernel
theorem dX4_line_70 : decode cX4_line 70 = .ok (.iload_n 3, 1) := by decide +kernel
theorem dX4_line_71 : decode cX4_line 71 = .ok (.iload 4, 2) := by decide +kernel
theorem dX4_line_73 : decode cX4_line 73 = .ok (.iload 5, 2) := by decide +kernel
theorem dX4_line_75 : decode cX4_line 75 = .ok (.invokestatic 130, 3) := by decide +kernel
theorem dX4_line_78 : decode cX4_line 78 = .ok (.aload_n 0, 1) := by decide +kernel
theorem dX4_line_79 : decode cX4_line 79 = .ok (.getfield 7, 3) := by decide +kernel
theorem dX4_line_82 : decode cX4_line 82 = .ok (.iconst 0, 1) := by decide +kernel
theorem dX4_line_83 : decode cX4_line 83 = .ok (.iaload, 1) := by decide +kernel
theorem dX4_line_84 : decode cX4_line 84 = .ok (.iconst 1, 1) := by decide +kernel
theorem dX4_line_85 : decode cX4_line 85 = .ok (.isub, 1) := by decide +kernel
theorem dX4_line_86 : decode cX4_line 86 = .ok (.ireturn, 1) := by decide +kernel
theorem dX4_run_0 : decode cX4_run 0 = .ok (.aload_n 0, 1) := by decide +kernel
theorem dX4_run_1 : decode cX4_run 1 = .ok (.iload_n 1, 1) := by decide +kernel
theorem dX4_run_2 : decode cX4_run 2 = .ok (.iconst 1, 1) := by decide +kernel
theorem dX4_run_3 : decode cX4_run 3 = .ok (.bipush 50, 2) := by decide +kernel
theorem dX4_run_5 : decode cX4_run 5 = .ok (.invokestatic 55, 3) := by decide +kernel
theorem dX4_run_8 : decode cX4_run 8 = .ok (.ifCond .ne 7, 3) := by decide +kernel
theorem dX4_run_11 : decode cX4_run 11 = .ok (.iconst 1, 1) := by decide +kernel
theorem dX4_run_12 : decode cX4_run 12 = .ok (.goto 22, 3) := by decide +kernel
theorem dX4_run_15 : decode cX4_run 15 = .ok (.aload_n 0, 1) := by decide +kernel
theorem dX4_run_16 : decode cX4_run 16 = .ok (.getfield 7, 3) := by decide +kernel
theorem dX4_run_19 : decode cX4_run 19 = .ok (.iconst 1, 1) := by decide +kernel
theorem dX4_run_20 : decode cX4_run 20 = .ok (.iaload, 1) := by decide +kernel
theorem dX4_run_21 : decode cX4_run 21 = .ok (.iload_n 1, 1) := by decide +kernel
theorem dX4_run_22 : decode cX4_run 22 = .ok (.iadd, 1) := by decide +kernel
theorem dX4_run_23 : decode cX4_run 23 = .ok (.sipush 999, 3) := by decide +kernel
theorem dX4_run_26 : decode cX4_run 26 = .ok (.if_icmp .le 7, 3) := by decide +kernel
theorem dX4_run_29 : decode cX4_run 29 = .ok (.iconst 2, 1) := by decide +kernel
theorem dX4_run_30 : decode cX4_run 30 = .ok (.goto 4, 3) := by decide +kernel
theorem dX4_run_33 : decode cX4_run 33 = .ok (.iconst 0, 1) := by decide +kernel
theorem dX4_run_34 : decode cX4_run 34 = .ok (.invokevirtual 39, 3) := by decide +kernel
theorem dX4_run_37 : decode cX4_run 37 = .ok (.ifCond .eq 5, 3) := by decide +kernel
theorem dX4_run_40 : decode cX4_run 40 = .ok (.iconst 0, 1) := by decide +kernel
theorem dX4_run_41 : decode cX4_run 41 = .ok (.ireturn, 1) := by decide +kernel
theorem dX4_run_42 : decode cX4_run 42 = .ok (.aload_n 0, 1) := by decide +kernel
theorem dX4_run_43 : decode cX4_run 43 = .ok (.invokevirtual 127, 3) := by decide +kernel
theorem dX4_run_46 : decode cX4_run 46 = .ok (.iconst 0, 1) := by decide +kernel
theorem dX4_run_47 : decode cX4_run 47 = .ok (.istore_n 2, 1) := by decide +kernel
theorem dX4_run_48 : decode cX4_run 48 = .ok (.iconst 0, 1) := by decide +kernel
theorem dX4_run_49 : decode cX4_run 49 = .ok (.istore_n 3, 1) := by decide +kernel
theorem dX4_run_50 : decode cX4_run 50 = .ok (.iload_n 3, 1) := by decide +kernel
theorem dX4_run_51 : decode cX4_run 51 = .ok (.iload_n 1, 1) := by decide +kernel
theorem dX4_run_52 : decode cX4_run 52 = .ok (.if_icmp .ge 20, 3) := by decide +kernel
theorem dX4_run_55 : decode cX4_run 55 = .ok (.iload_n 2, 1) := by decide +kernel
theorem dX4_run_56 : decode cX4_run 56 = .ok (.aload_n 0, 1) := by decide +kernel
theorem dX4_run_57 : decode cX4_run 57 = .ok (.aload_n 0, 1) := by decide +kernel
theorem dX4_run_58 : decode cX4_run 58 = .ok (.getfield 7, 3) := by decide +kernel
theorem dX4_run_61 : decode cX4_run 61 = .ok (.invokevirtual 117, 3) := by decide +kernel
theorem dX4_run_64 : decode cX4_run 64 = .ok (.iadd, 1) := by decide +kernel
theorem dX4_run_65 : decode cX4_run 65 = .ok (.istore_n 2, 1) := by decide +kernel
theorem dX4_run_66 : decode cX4_run 66 = .ok (.iinc 3 1, 3) := by decide +kernel
theorem dX4_run_69 : decode cX4_run 69 = .ok (.goto (-19), 3) := by decide +kernel
theorem dX4_run_72 : decode cX4_run 72 = .ok (.iload_n 2, 1) := by decide +kernel
theorem dX4_run_73 : decode cX4_run 73 = .ok (.ireturn, 1) := by decide +kernel
theorem dX4_takesAway_0 : decode cX4_takesAway 0 = .ok (.iconst 0, 1) := by decide +kernel
theorem dX4_takesAway_1 : decode cX4_takesAway 1 = .ok (.istore_n 2, 1) := by decide +kernel
theorem dX4_takesAway_2 : decode cX4_takesAway 2 = .ok (.iconst 0, 1) := by decide +kernel
theorem dX4_takesAway_3 : decode cX4_takesAway 3 = .ok (.istore_n 3, 1) := by decide +kernel
theorem dX4_takesAway_4 : decode cX4_takesAway 4 = .ok (.iload_n 3, 1) := by decide +kernel
theorem dX4_takesAway_5 : decode cX4_takesAway 5 = .ok (.aload_n 0, 1) := by decide +kernel
theorem dX4_takesAway_6 : decode cX4_takesAway 6 = .ok (.iconst 0, 1) := by decide +kernel
theorem dX4_takesAway_7 : decode cX4_takesAway 7 = .ok (.iaload, 1) := by decide +kernel
theorem dX4_takesAway_8 : decode cX4_takesAway 8 = .ok (.if_icmp .ge 39, 3) := by decide +kernel
theorem dX4_takesAway_11 : decode cX4_takesAway 11 = .ok (.aload_n 0, 1) := by decide +kernel
theorem dX4_takesAway_12 : decode cX4_takesAway 12 = .ok (.iload_n 3, 1) := by decide +kernel
theorem dX4_takesAway_13 : decode cX4_takesAway 13 = .ok (.iconst 2, 1) := by decide +kernel
theorem dX4_takesAway_14 : decode cX4_takesAway 14 = .ok (.invokestatic 43, 3) := by decide +kernel
theorem dX4_takesAway_17 : decode cX4_takesAway 17 = .ok (.iload_n 1, 1) := by decide +kernel
theorem dX4_takesAway_18 : decode cX4_takesAway 18 = .ok (.if_icmp .ne 23, 3) := by decide +kernel
theorem dX4_takesAway_21 : decode cX4_takesAway 21 = .ok (.aload_n 0, 1) := by decide +kernel
theorem dX4_takesAway_22 : decode cX4_takesAway 22 = .ok (.iload_n 3, 1) := by decide +kernel
theorem dX4_takesAway_23 : decode cX4_takesAway 23 = .ok (.iconst 5, 1) := by decide +kernel
theorem dX4_takesAway_24 : decode cX4_takesAway 24 = .ok (.invokestatic 43, 3) := by decide +kernel
theorem dX4_takesAway_27 : decode cX4_takesAway 27 = .ok (.iconst 3, 1) := by decide +kernel
theorem dX4_takesAway_28 : decode cX4_takesAway 28 = .ok (.if_icmp .eq 13, 3) := by decide +kernel
theorem dX4_takesAway_31 : decode cX4_takesAway 31 = .ok (.aload_n 0, 1) := by decide +kernel
theorem dX4_takesAway_32 : decode cX4_takesAway 32 = .ok (.iload_n 3, 1) := by decide +kernel
theorem dX4_takesAway_33 : decode cX4_takesAway 33 = .ok (.iconst 5, 1) := by decide +kernel
theorem dX4_takesAway_34 : decode cX4_takesAway 34 = .ok (.iconst 3, 1) := by decide +kernel
theorem dX4_takesAway_35 : decode cX4_takesAway 35 = .ok (.invokestatic 95, 3) := by decide +kernel
theorem dX4_takesAway_38 : decode cX4_takesAway 38 = .ok (.iinc 2 1, 3) := by decide +kernel
theorem dX4_takesAway_41 : decode cX4_takesAway 41 = .ok (.iinc 3 1, 3) := by decide +kernel
theorem dX4_takesAway_44 : decode cX4_takesAway 44 = .ok (.goto (-40), 3) := by decide +kernel
theorem dX4_takesAway_47 : decode cX4_takesAway 47 = .ok (.iload_n 2, 1) := by decide +kernel
theorem dX4_takesAway_48 : decode cX4_takesAway 48 = .ok (.ireturn, 1) := by decide +kernel
theorem dX4_isVerse_0 : decode cX4_isVerse 0 = .ok (.iload_n 0, 1) := by decide +kernel
theorem dX4_isVerse_1 : decode cX4_isVerse 1 = .ok (.iconst 0, 1) := by decide +kernel
theorem dX4_isVerse_2 : decode cX4_isVerse 2 = .ok (.iconst 3, 1) := by decide +kernel
theorem dX4_isVerse_3 : decode cX4_isVerse 3 = .ok (.invokestatic 55, 3) := by decide +kernel
theorem dX4_isVerse_6 : decode cX4_isVerse 6 = .ok (.ireturn, 1) := by decide +kernel
theorem dX4_reset_0 : decode cX4_reset 0 = .ok (.aload_n 0, 1) := by decide +kernel
theorem dX4_reset_1 : decode cX4_reset 1 = .ok (.iload_n 1, 1) := by decide +kernel
theorem dX4_reset_2 : decode cX4_reset 2 = .ok (.invokestatic 134, 3) := by decide +kernel
theorem dX4_reset_5 : decode cX4_reset 5 = .ok (.ifCond .eq 7, 3) := by decide +kernel
theorem dX4_reset_8 : decode cX4_reset 8 = .ok (.iconst 0, 1) := by decide +kernel
theorem dX4_reset_9 : decode cX4_reset 9 = .ok (.goto 4, 3) := by decide +kernel
theorem dX4_reset_12 : decode cX4_reset 12 = .ok (.iconst 1, 1) := by decide +kernel
theorem dX4_reset_13 : decode cX4_reset 13 = .ok (.invokevirtual 39, 3) := by decide +kernel
theorem dX4_reset_16 : decode cX4_reset 16 = .ok (.ifCond .eq 5, 3) := by decide +kernel
theorem dX4_reset_19 : decode cX4_reset 19 = .ok (.iconst 0, 1) := by decide +kernel
theorem dX4_reset_20 : decode cX4_reset 20 = .ok (.ireturn, 1) := by decide +kernel
theorem dX4_reset_21 : decode cX4_reset 21 = .ok (.aload_n 0, 1) := by decide +kernel
theorem dX4_reset_22 : decode cX4_reset 22 = .ok (.invokevirtual 127, 3) := by decide +kernel
theorem dX4_reset_25 : decode cX4_reset 25 = .ok (.aload_n 0, 1) := by decide +kernel
theorem dX4_reset_26 : decode cX4_reset 26 = .ok (.getfield 7, 3) := by decide +kernel
theorem dX4_reset_29 : decode cX4_reset 29 = .ok (.iload_n 1, 1) := by decide +kernel
theorem dX4_reset_30 : decode cX4_reset 30 = .ok (.invokestatic 137, 3) := by decide +kernel
theorem dX4_reset_33 : decode cX4_reset 33 = .ok (.ireturn, 1) := by decide +kernel
theorem dX4_isNumber_0 : decode cX4_isNumber 0 = .ok (.iload_n 1, 1) := by decide +kernel
theorem dX4_isNumber_1 : decode cX4_isNumber 1 = .ok (.iconst 0, 1) := by decide +kernel
theorem dX4_isNumber_2 : decode cX4_isNumber 2 = .ok (.aload_n 0, 1) := by decide +kernel
theorem dX4_isNumber_3 : decode cX4_isNumber 3 = .ok (.getfield 7, 3) := by decide +kernel
theorem dX4_isNumber_6 : decode cX4_isNumber 6 = .ok (.iconst 0, 1) := by decide +kernel
theorem dX4_isNumber_7 : decode cX4_isNumber 7 = .ok (.iaload, 1) := by decide +kernel
theorem dX4_isNumber_8 : decode cX4_isNumber 8 = .ok (.iconst 1, 1) := by decide +kernel
theorem dX4_isNumber_9 : decode cX4_isNumber 9 = .ok (.isub, 1) := by decide +kernel
theorem dX4_isNumber_10 : decode cX4_isNumber 10 = .ok (.invokestatic 55, 3) := by decide +kernel
theorem dX4_isNumber_13 : decode cX4_isNumber 13 = .ok (.ireturn, 1) := by decide +kernel
theorem dX4_canPush_0 : decode cX4_canPush 0 = .ok (.iload_n 2, 1) := by decide +kernel
theorem dX4_canPush_1 : decode cX4_canPush 1 = .ok (.ifCond .eq 25, 3) := by decide +kernel
theorem dX4_canPush_4 : decode cX4_canPush 4 = .ok (.aload_n 0, 1) := by decide +kernel
theorem dX4_canPush_5 : decode cX4_canPush 5 = .ok (.getfield 7, 3) := by decide +kernel
theorem dX4_canPush_8 : decode cX4_canPush 8 = .ok (.iload_n 1, 1) := by decide +kernel
theorem dX4_canPush_9 : decode cX4_canPush 9 = .ok (.iconst 3, 1) := by decide +kernel
theorem dX4_canPush_10 : decode cX4_canPush 10 = .ok (.invokestatic 43, 3) := by decide +kernel
theorem dX4_canPush_13 : decode cX4_canPush 13 = .ok (.aload_n 0, 1) := by decide +kernel
theorem dX4_canPush_14 : decode cX4_canPush 14 = .ok (.getfield 7, 3) := by decide +kernel
theorem dX4_canPush_17 : decode cX4_canPush 17 = .ok (.iload_n 1, 1) := by decide +kernel
theorem dX4_canPush_18 : decode cX4_canPush 18 = .ok (.iconst 0, 1) := by decide +kernel
theorem dX4_canPush_19 : decode cX4_canPush 19 = .ok (.invokestatic 43, 3) := by decide +kernel
theorem dX4_canPush_22 : decode cX4_canPush 22 = .ok (.iadd, 1) := by decide +kernel
theorem dX4_canPush_23 : decode cX4_canPush 23 = .ok (.goto 14, 3) := by decide +kernel
theorem dX4_canPush_26 : decode cX4_canPush 26 = .ok (.aload_n 0, 1) := by decide +kernel
theorem dX4_canPush_27 : decode cX4_canPush 27 = .ok (.getfield 7, 3) := by decide +kernel
theorem dX4_canPush_30 : decode cX4_canPush 30 = .ok (.iload_n 1, 1) := by decide +kernel
theorem dX4_canPush_31 : decode cX4_canPush 31 = .ok (.iconst 3, 1) := by decide +kernel
theorem dX4_canPush_32 : decode cX4_canPush 32 = .ok (.invokestatic 43, 3) := by decide +kernel
theorem dX4_canPush_35 : decode cX4_canPush 35 = .ok (.iconst 1, 1) := by decide +kernel
theorem dX4_canPush_36 : decode cX4_canPush 36 = .ok (.isub, 1) := by decide +kernel
theorem dX4_canPush_37 : decode cX4_canPush 37 = .ok (.istore_n 3, 1) := by decide +kernel
theorem dX4_canPush_38 : decode cX4_canPush 38 = .ok (.aload_n 0, 1) := by decide +kernel
theorem dX4_canPush_39 : decode cX4_canPush 39 = .ok (.getfield 7, 3) := by decide +kernel
theorem dX4_canPush_42 : decode cX4_canPush 42 = .ok (.iload_n 1, 1) := by decide +kernel
theorem dX4_canPush_43 : decode cX4_canPush 43 = .ok (.invokestatic 47, 3) := by decide +kernel
theorem dX4_canPush_46 : decode cX4_canPush 46 = .ok (.ifCond .eq 28, 3) := by decide +kernel
theorem dX4_canPush_49 : decode cX4_canPush 49 = .ok (.aload_n 0, 1) := by decide +kernel
theorem dX4_canPush_50 : decode cX4_canPush 50 = .ok (.getfield 7, 3) := by decide +kernel
theorem dX4_canPush_53 : decode cX4_canPush 53 = .ok (.aload_n 0, 1) := by decide +kernel
theorem dX4_canPush_54 : decode cX4_canPush 54 = .ok (.getfield 7, 3) := by decide +kernel
theorem dX4_canPush_57 : decode cX4_canPush 57 = .ok (.iload_n 1, 1) := by decide +kernel
theorem dX4_canPush_58 : decode cX4_canPush 58 = .ok (.bipush 6, 2) := by decide +kernel
theorem dX4_canPush_60 : decode cX4_canPush 60 = .ok (.invokestatic 43, 3) := by decide +kernel
theorem dX4_canPush_63 : decode cX4_canPush 63 = .ok (.iload_n 3, 1) := by decide +kernel
theorem dX4_canPush_64 : decode cX4_canPush 64 = .ok (.invokestatic 66, 3) := by decide +kernel
theorem dX4_canPush_67 : decode cX4_canPush 67 = .ok (.ifCond .eq 7, 3) := by decide +kernel
theorem dX4_canPush_70 : decode cX4_canPush 70 = .ok (.iconst 1, 1) := by decide +kernel
theorem dX4_canPush_71 : decode cX4_canPush 71 = .ok (.goto 4, 3) := by decide +kernel
theorem dX4_canPush_74 : decode cX4_canPush 74 = .ok (.iconst 0, 1) := by decide +kernel
theorem dX4_canPush_75 : decode cX4_canPush 75 = .ok (.ireturn, 1) := by decide +kernel
theorem dX4_push_0 : decode cX4_push 0 = .ok (.aload_n 0, 1) := by decide +kernel
theorem dX4_push_1 : decode cX4_push 1 = .ok (.iload_n 1, 1) := by decide +kernel
theorem dX4_push_2 : decode cX4_push 2 = .ok (.invokevirtual 140, 3) := by decide +kernel
theorem dX4_push_5 : decode cX4_push 5 = .ok (.istore_n 3, 1) := by decide +kernel
theorem dX4_push_6 : decode cX4_push 6 = .ok (.aload_n 0, 1) := by decide +kernel
theorem dX4_push_7 : decode cX4_push 7 = .ok (.iload_n 3, 1) := by decide +kernel
theorem dX4_push_8 : decode cX4_push 8 = .ok (.ifCond .ne 7, 3) := by decide +kernel
theorem dX4_push_11 : decode cX4_push 11 = .ok (.iconst 1, 1) := by decide +kernel
theorem dX4_push_12 : decode cX4_push 12 = .ok (.goto 17, 3) := by decide +kernel
theorem dX4_push_15 : decode cX4_push 15 = .ok (.aload_n 0, 1) := by decide +kernel
theorem dX4_push_16 : decode cX4_push 16 = .ok (.iload_n 1, 1) := by decide +kernel
theorem dX4_push_17 : decode cX4_push 17 = .ok (.iload_n 2, 1) := by decide +kernel
theorem dX4_push_18 : decode cX4_push 18 = .ok (.invokevirtual 143, 3) := by decide +kernel
theorem dX4_push_21 : decode cX4_push 21 = .ok (.ifCond .eq 7, 3) := by decide +kernel
theorem dX4_push_24 : decode cX4_push 24 = .ok (.iconst 0, 1) := by decide +kernel
theorem dX4_push_25 : decode cX4_push 25 = .ok (.goto 4, 3) := by decide +kernel
theorem dX4_push_28 : decode cX4_push 28 = .ok (.iconst 2, 1) := by decide +kernel
theorem dX4_push_29 : decode cX4_push 29 = .ok (.invokevirtual 39, 3) := by decide +kernel
theorem dX4_push_32 : decode cX4_push 32 = .ok (.ifCond .eq 5, 3) := by decide +kernel
theorem dX4_push_35 : decode cX4_push 35 = .ok (.iconst 0, 1) := by decide +kernel
theorem dX4_push_36 : decode cX4_push 36 = .ok (.ireturn, 1) := by decide +kernel
theorem dX4_push_37 : decode cX4_push 37 = .ok (.aload_n 0, 1) := by decide +kernel
theorem dX4_push_38 : decode cX4_push 38 = .ok (.invokevirtual 127, 3) := by decide +kernel
theorem dX4_push_41 : decode cX4_push 41 = .ok (.aload_n 0, 1) := by decide +kernel
theorem dX4_push_42 : decode cX4_push 42 = .ok (.getfield 7, 3) := by decide +kernel
theorem dX4_push_45 : decode cX4_push 45 = .ok (.iload_n 1, 1) := by decide +kernel
theorem dX4_push_46 : decode cX4_push 46 = .ok (.iconst 3, 1) := by decide +kernel
theorem dX4_push_47 : decode cX4_push 47 = .ok (.aload_n 0, 1) := by decide +kernel
theorem dX4_push_48 : decode cX4_push 48 = .ok (.getfield 7, 3) := by decide +kernel
theorem dX4_push_51 : decode cX4_push 51 = .ok (.iload_n 1, 1) := by decide +kernel
theorem dX4_push_52 : decode cX4_push 52 = .ok (.iconst 3, 1) := by decide +kernel
theorem dX4_push_53 : decode cX4_push 53 = .ok (.invokestatic 43, 3) := by decide +kernel
theorem dX4_push_56 : decode cX4_push 56 = .ok (.iload_n 2, 1) := by decide +kernel
theorem dX4_push_57 : decode cX4_push 57 = .ok (.ifCond .eq 7, 3) := by decide +kernel
theorem dX4_push_60 : decode cX4_push 60 = .ok (.iconst 1, 1) := by decide +kernel
theorem dX4_push_61 : decode cX4_push 61 = .ok (.goto 4, 3) := by decide +kernel
theorem dX4_push_64 : decode cX4_push 64 = .ok (.iconst (-1), 1) := by decide +kernel
theorem dX4_push_65 : decode cX4_push 65 = .ok (.iadd, 1) := by decide +kernel
theorem dX4_push_66 : decode cX4_push 66 = .ok (.invokestatic 95, 3) := by decide +kernel
theorem dX4_push_69 : decode cX4_push 69 = .ok (.aload_n 0, 1) := by decide +kernel
theorem dX4_push_70 : decode cX4_push 70 = .ok (.getfield 7, 3) := by decide +kernel
theorem dX4_push_73 : decode cX4_push 73 = .ok (.iload_n 1, 1) := by decide +kernel
theorem dX4_push_74 : decode cX4_push 74 = .ok (.iconst 3, 1) := by decide +kernel
theorem dX4_push_75 : decode cX4_push 75 = .ok (.invokestatic 43, 3) := by decide +kernel
theorem dX4_push_78 : decode cX4_push 78 = .ok (.ireturn, 1) := by decide +kernel
theorem dX4_set_0 : decode cX4_set 0 = .ok (.aload_n 0, 1) := by decide +kernel
theorem dX4_set_1 : decode cX4_set 1 = .ok (.iload_n 1, 1) := by decide +kernel
theorem dX4_set_2 : decode cX4_set 2 = .ok (.iconst 1, 1) := by decide +kernel
theorem dX4_set_3 : decode cX4_set 3 = .ok (.bipush 9, 2) := by decide +kernel
theorem dX4_set_5 : decode cX4_set 5 = .ok (.invokestatic 55, 3) := by decide +kernel
theorem dX4_set_8 : decode cX4_set 8 = .ok (.ifCond .eq 7, 3) := by decide +kernel
theorem dX4_set_11 : decode cX4_set 11 = .ok (.iconst 0, 1) := by decide +kernel
theorem dX4_set_12 : decode cX4_set 12 = .ok (.goto 4, 3) := by decide +kernel
theorem dX4_set_15 : decode cX4_set 15 = .ok (.iconst 1, 1) := by decide +kernel
theorem dX4_set_16 : decode cX4_set 16 = .ok (.invokevirtual 39, 3) := by decide +kernel
theorem dX4_set_19 : decode cX4_set 19 = .ok (.ifCond .eq 5, 3) := by decide +kernel
theorem dX4_set_22 : decode cX4_set 22 = .ok (.iconst 0, 1) := by decide +kernel
theorem dX4_set_23 : decode cX4_set 23 = .ok (.ireturn, 1) := by decide +kernel
theorem dX4_set_24 : decode cX4_set 24 = .ok (.aload_n 0, 1) := by decide +kernel
theorem dX4_set_25 : decode cX4_set 25 = .ok (.invokevirtual 127, 3) := by decide +kernel
theorem dX4_set_28 : decode cX4_set 28 = .ok (.aload_n 0, 1) := by decide +kernel
theorem dX4_set_29 : decode cX4_set 29 = .ok (.getfield 7, 3) := by decide +kernel
theorem dX4_set_32 : decode cX4_set 32 = .ok (.iconst 2, 1) := by decide +kernel
theorem dX4_set_33 : decode cX4_set 33 = .ok (.iaload, 1) := by decide +kernel
theorem dX4_set_34 : decode cX4_set 34 = .ok (.istore_n 2, 1) := by decide +kernel
theorem dX4_set_35 : decode cX4_set 35 = .ok (.aload_n 0, 1) := by decide +kernel
theorem dX4_set_36 : decode cX4_set 36 = .ok (.getfield 7, 3) := by decide +kernel
theorem dX4_set_39 : decode cX4_set 39 = .ok (.iconst 2, 1) := by decide +kernel
theorem dX4_set_40 : decode cX4_set 40 = .ok (.iload_n 1, 1) := by decide +kernel
theorem dX4_set_41 : decode cX4_set 41 = .ok (.iastore, 1) := by decide +kernel
theorem dX4_set_42 : decode cX4_set 42 = .ok (.iload_n 2, 1) := by decide +kernel
theorem dX4_set_43 : decode cX4_set 43 = .ok (.ireturn, 1) := by decide +kernel
theorem dX4_append_0 : decode cX4_append 0 = .ok (.aload_n 0, 1) := by decide +kernel
theorem dX4_append_1 : decode cX4_append 1 = .ok (.iload_n 1, 1) := by decide +kernel
theorem dX4_append_2 : decode cX4_append 2 = .ok (.bipush 33, 2) := by decide +kernel
theorem dX4_append_4 : decode cX4_append 4 = .ok (.bipush 126, 2) := by decide +kernel
theorem dX4_append_6 : decode cX4_append 6 = .ok (.invokestatic 55, 3) := by decide +kernel
theorem dX4_append_9 : decode cX4_append 9 = .ok (.ifCond .ne 7, 3) := by decide +kernel
theorem dX4_append_12 : decode cX4_append 12 = .ok (.iconst 1, 1) := by decide +kernel
theorem dX4_append_13 : decode cX4_append 13 = .ok (.goto 17, 3) := by decide +kernel
theorem dX4_append_16 : decode cX4_append 16 = .ok (.aload_n 0, 1) := by decide +kernel
theorem dX4_append_17 : decode cX4_append 17 = .ok (.getfield 147, 3) := by decide +kernel
theorem dX4_append_20 : decode cX4_append 20 = .ok (.bipush 60, 2) := by decide +kernel
theorem dX4_append_22 : decode cX4_append 22 = .ok (.if_icmp .ne 7, 3) := by decide +kernel
theorem dX4_append_25 : decode cX4_append 25 = .ok (.iconst 2, 1) := by decide +kernel
theorem dX4_append_26 : decode cX4_append 26 = .ok (.goto 4, 3) := by decide +kernel
theorem dX4_append_29 : decode cX4_append 29 = .ok (.iconst 0, 1) := by decide +kernel
theorem dX4_append_30 : decode cX4_append 30 = .ok (.invokevirtual 39, 3) := by decide +kernel
theorem dX4_append_33 : decode cX4_append 33 = .ok (.ifCond .eq 5, 3) := by decide +kernel
theorem dX4_append_36 : decode cX4_append 36 = .ok (.iconst 0, 1) := by decide +kernel
theorem dX4_append_37 : decode cX4_append 37 = .ok (.ireturn, 1) := by decide +kernel
theorem dX4_append_38 : decode cX4_append 38 = .ok (.aload_n 0, 1) := by decide +kernel
theorem dX4_append_39 : decode cX4_append 39 = .ok (.getfield 19, 3) := by decide +kernel
theorem dX4_append_42 : decode cX4_append 42 = .ok (.aload_n 0, 1) := by decide +kernel
theorem dX4_append_43 : decode cX4_append 43 = .ok (.getfield 147, 3) := by decide +kernel
theorem dX4_append_46 : decode cX4_append 46 = .ok (.iload_n 1, 1) := by decide +kernel
theorem dX4_append_47 : decode cX4_append 47 = .ok (.iastore, 1) := by decide +kernel
theorem dX4_append_48 : decode cX4_append 48 = .ok (.aload_n 0, 1) := by decide +kernel
theorem dX4_append_49 : decode cX4_append 49 = .ok (.dup, 1) := by decide +kernel
theorem dX4_append_50 : decode cX4_append 50 = .ok (.getfield 147, 3) := by decide +kernel
theorem dX4_append_53 : decode cX4_append 53 = .ok (.iconst 1, 1) := by decide +kernel
theorem dX4_append_54 : decode cX4_append 54 = .ok (.iadd, 1) := by decide +kernel
theorem dX4_append_55 : decode cX4_append 55 = .ok (.putfield 147, 3) := by decide +kernel
theorem dX4_append_58 : decode cX4_append 58 = .ok (.aload_n 0, 1) := by decide +kernel
theorem dX4_append_59 : decode cX4_append 59 = .ok (.getfield 147, 3) := by decide +kernel
theorem dX4_append_62 : decode cX4_append 62 = .ok (.ireturn, 1) := by decide +kernel
theorem dX4_clearBuffer_0 : decode cX4_clearBuffer 0 = .ok (.aload_n 0, 1) := by decide +kernel
theorem dX4_clearBuffer_1 : decode cX4_clearBuffer 1 = .ok (.iconst 0, 1) := by decide +kernel
theorem dX4_clearBuffer_2 : decode cX4_clearBuffer 2 = .ok (.putfield 28, 3) := by decide +kernel
theorem dX4_clearBuffer_5 : decode cX4_clearBuffer 5 = .ok (.aload_n 0, 1) := by decide +kernel
theorem dX4_clearBuffer_6 : decode cX4_clearBuffer 6 = .ok (.getfield 147, 3) := by decide +kernel
theorem dX4_clearBuffer_9 : decode cX4_clearBuffer 9 = .ok (.istore_n 1, 1) := by decide +kernel
theorem dX4_clearBuffer_10 : decode cX4_clearBuffer 10 = .ok (.aload_n 0, 1) := by decide +kernel
theorem dX4_clearBuffer_11 : decode cX4_clearBuffer 11 = .ok (.iconst 0, 1) := by decide +kernel
theorem dX4_clearBuffer_12 : decode cX4_clearBuffer 12 = .ok (.putfield 147, 3) := by decide +kernel
theorem dX4_clearBuffer_15 : decode cX4_clearBuffer 15 = .ok (.iload_n 1, 1) := by decide +kernel
theorem dX4_clearBuffer_16 : decode cX4_clearBuffer 16 = .ok (.ireturn, 1) := by decide +kernel
theorem dX4_sees_0 : decode cX4_sees 0 = .ok (.aload_n 0, 1) := by decide +kernel
theorem dX4_sees_1 : decode cX4_sees 1 = .ok (.getfield 150, 3) := by decide +kernel
theorem dX4_sees_4 : decode cX4_sees 4 = .ok (.aload_n 0, 1) := by decide +kernel
theorem dX4_sees_5 : decode cX4_sees 5 = .ok (.getfield 147, 3) := by decide +kernel
theorem dX4_sees_8 : decode cX4_sees 8 = .ok (.if_icmp .ge 24, 3) := by decide +kernel
theorem dX4_sees_11 : decode cX4_sees 11 = .ok (.aload_n 0, 1) := by decide +kernel
theorem dX4_sees_12 : decode cX4_sees 12 = .ok (.getfield 19, 3) := by decide +kernel
theorem dX4_sees_15 : decode cX4_sees 15 = .ok (.aload_n 0, 1) := by decide +kernel
theorem dX4_sees_16 : decode cX4_sees 16 = .ok (.getfield 150, 3) := by decide +kernel
theorem dX4_sees_19 : decode cX4_sees 19 = .ok (.iaload, 1) := by decide +kernel
theorem dX4_sees_20 : decode cX4_sees 20 = .ok (.iload_n 1, 1) := by decide +kernel
theorem dX4_sees_21 : decode cX4_sees 21 = .ok (.iload_n 2, 1) := by decide +kernel
theorem dX4_sees_22 : decode cX4_sees 22 = .ok (.invokestatic 55, 3) := by decide +kernel
theorem dX4_sees_25 : decode cX4_sees 25 = .ok (.ifCond .eq 7, 3) := by decide +kernel
theorem dX4_sees_28 : decode cX4_sees 28 = .ok (.iconst 1, 1) := by decide +kernel
theorem dX4_sees_29 : decode cX4_sees 29 = .ok (.goto 4, 3) := by decide +kernel
theorem dX4_sees_32 : decode cX4_sees 32 = .ok (.iconst 0, 1) := by decide +kernel
theorem dX4_sees_33 : decode cX4_sees 33 = .ok (.ireturn, 1) := by decide +kernel
theorem dX4_takes_0 : decode cX4_takes 0 = .ok (.aload_n 0, 1) := by decide +kernel
theorem dX4_takes_1 : decode cX4_takes 1 = .ok (.iload_n 1, 1) := by decide +kernel
theorem dX4_takes_2 : decode cX4_takes 2 = .ok (.iload_n 1, 1) := by decide +kernel
theorem dX4_takes_3 : decode cX4_takes 3 = .ok (.invokevirtual 153, 3) := by decide +kernel
theorem dX4_takes_6 : decode cX4_takes 6 = .ok (.istore_n 2, 1) := by decide +kernel
theorem dX4_takes_7 : decode cX4_takes 7 = .ok (.aload_n 0, 1) := by decide +kernel
theorem dX4_takes_8 : decode cX4_takes 8 = .ok (.dup, 1) := by decide +kernel
theorem dX4_takes_9 : decode cX4_takes 9 = .ok (.getfield 150, 3) := by decide +kernel
theorem dX4_takes_12 : decode cX4_takes 12 = .ok (.iload_n 2, 1) := by decide +kernel
theorem dX4_takes_13 : decode cX4_takes 13 = .ok (.ifCond .eq 7, 3) := by decide +kernel
theorem dX4_takes_16 : decode cX4_takes 16 = .ok (.iconst 1, 1) := by decide +kernel
theorem dX4_takes_17 : decode cX4_takes 17 = .ok (.goto 4, 3) := by decide +kernel
theorem dX4_takes_20 : decode cX4_takes 20 = .ok (.iconst 0, 1) := by decide +kernel
theorem dX4_takes_21 : decode cX4_takes 21 = .ok (.iadd, 1) := by decide +kernel
theorem dX4_takes_22 : decode cX4_takes 22 = .ok (.putfield 150, 3) := by decide +kernel
theorem dX4_takes_25 : decode cX4_takes 25 = .ok (.iload_n 2, 1) := by decide +kernel
theorem dX4_takes_26 : decode cX4_takes 26 = .ok (.ireturn, 1) := by decide +kernel
theorem dX4_isTold_0 : decode cX4_isTold 0 = .ok (.aload_n 0, 1) := by decide +kernel
theorem dX4_isTold_1 : decode cX4_isTold 1 = .ok (.bipush 48, 2) := by decide +kernel
theorem dX4_isTold_3 : decode cX4_isTold 3 = .ok (.iload_n 2, 1) := by decide +kernel
theorem dX4_isTold_4 : decode cX4_isTold 4 = .ok (.iadd, 1) := by decide +kernel
theorem dX4_isTold_5 : decode cX4_isTold 5 = .ok (.bipush 57, 2) := by decide +kernel
theorem dX4_isTold_7 : decode cX4_isTold 7 = .ok (.invokevirtual 153, 3) := by decide +kernel
theorem dX4_isTold_10 : decode cX4_isTold 10 = .ok (.ifCond .ne 5, 3) := by decide +kernel
theorem dX4_isTold_13 : decode cX4_isTold 13 = .ok (.iconst 0, 1) := by decide +kernel
theorem dX4_isTold_14 : decode cX4_isTold 14 = .ok (.ireturn, 1) := by decide +kernel
theorem dX4_isTold_15 : decode cX4_isTold 15 = .ok (.aload_n 0, 1) := by decide +kernel
theorem dX4_isTold_16 : decode cX4_isTold 16 = .ok (.getfield 19, 3) := by decide +kernel
theorem dX4_isTold_19 : decode cX4_isTold 19 = .ok (.aload_n 0, 1) := by decide +kernel
theorem dX4_isTold_20 : decode cX4_isTold 20 = .ok (.getfield 150, 3) := by decide +kernel
theorem dX4_isTold_23 : decode cX4_isTold 23 = .ok (.iaload, 1) := by decide +kernel
theorem dX4_isTold_24 : decode cX4_isTold 24 = .ok (.bipush 48, 2) := by decide +kernel
theorem dX4_isTold_26 : decode cX4_isTold 26 = .ok (.isub, 1) := by decide +kernel
theorem dX4_isTold_27 : decode cX4_isTold 27 = .ok (.istore 4, 2) := by decide +kernel
theorem dX4_isTold_29 : decode cX4_isTold 29 = .ok (.aload_n 0, 1) := by decide +kernel
theorem dX4_isTold_30 : decode cX4_isTold 30 = .ok (.dup, 1) := by decide +kernel
theorem dX4_isTold_31 : decode cX4_isTold 31 = .ok (.getfield 150, 3) := by decide +kernel
theorem dX4_isTold_34 : decode cX4_isTold 34 = .ok (.iconst 1, 1) := by decide +kernel
theorem dX4_isTold_35 : decode cX4_isTold 35 = .ok (.iadd, 1) := by decide +kernel
theorem dX4_isTold_36 : decode cX4_isTold 36 = .ok (.putfield 150, 3) := by decide +kernel
theorem dX4_isTold_39 : decode cX4_isTold 39 = .ok (.iload 4, 2) := by decide +kernel
theorem dX4_isTold_41 : decode cX4_isTold 41 = .ok (.ifCond .le 69, 3) := by decide +kernel
theorem dX4_isTold_44 : decode cX4_isTold 44 = .ok (.aload_n 0, 1) := by decide +kernel
theorem dX4_isTold_45 : decode cX4_isTold 45 = .ok (.bipush 48, 2) := by decide +kernel
theorem dX4_isTold_47 : decode cX4_isTold 47 = .ok (.bipush 57, 2) := by decide +kernel
theorem dX4_isTold_49 : decode cX4_isTold 49 = .ok (.invokevirtual 153, 3) := by decide +kernel
theorem dX4_isTold_52 : decode cX4_isTold 52 = .ok (.ifCond .eq 58, 3) := by decide +kernel
theorem dX4_isTold_55 : decode cX4_isTold 55 = .ok (.bipush 10, 2) := by decide +kernel
theorem dX4_isTold_57 : decode cX4_isTold 57 = .ok (.iload 4, 2) := by decide +kernel
theorem dX4_isTold_59 : decode cX4_isTold 59 = .ok (.imul, 1) := by decide +kernel
theorem dX4_isTold_60 : decode cX4_isTold 60 = .ok (.aload_n 0, 1) := by decide +kernel
theorem dX4_isTold_61 : decode cX4_isTold 61 = .ok (.getfield 19, 3) := by decide +kernel
theorem dX4_isTold_64 : decode cX4_isTold 64 = .ok (.aload_n 0, 1) := by decide +kernel
theorem dX4_isTold_65 : decode cX4_isTold 65 = .ok (.getfield 150, 3) := by decide +kernel
theorem dX4_isTold_68 : decode cX4_isTold 68 = .ok (.iaload, 1) := by decide +kernel
theorem dX4_isTold_69 : decode cX4_isTold 69 = .ok (.iadd, 1) := by decide +kernel
theorem dX4_isTold_70 : decode cX4_isTold 70 = .ok (.bipush 48, 2) := by decide +kernel
theorem dX4_isTold_72 : decode cX4_isTold 72 = .ok (.isub, 1) := by decide +kernel
theorem dX4_isTold_73 : decode cX4_isTold 73 = .ok (.iload_n 3, 1) := by decide +kernel
theorem dX4_isTold_74 : decode cX4_isTold 74 = .ok (.if_icmp .gt 36, 3) := by decide +kernel
theorem dX4_isTold_77 : decode cX4_isTold 77 = .ok (.bipush 10, 2) := by decide +kernel
theorem dX4_isTold_79 : decode cX4_isTold 79 = .ok (.iload 4, 2) := by decide +kernel
theorem dX4_isTold_81 : decode cX4_isTold 81 = .ok (.imul, 1) := by decide +kernel
theorem dX4_isTold_82 : decode cX4_isTold 82 = .ok (.aload_n 0, 1) := by decide +kernel
theorem dX4_isTold_83 : decode cX4_isTold 83 = .ok (.getfield 19, 3) := by decide +kernel
theorem dX4_isTold_86 : decode cX4_isTold 86 = .ok (.aload_n 0, 1) := by decide +kernel
theorem dX4_isTold_87 : decode cX4_isTold 87 = .ok (.getfield 150, 3) := by decide +kernel
theorem dX4_isTold_90 : decode cX4_isTold 90 = .ok (.iaload, 1) := by decide +kernel
theorem dX4_isTold_91 : decode cX4_isTold 91 = .ok (.iadd, 1) := by decide +kernel
theorem dX4_isTold_92 : decode cX4_isTold 92 = .ok (.bipush 48, 2) := by decide +kernel
theorem dX4_isTold_94 : decode cX4_isTold 94 = .ok (.isub, 1) := by decide +kernel
theorem dX4_isTold_95 : decode cX4_isTold 95 = .ok (.istore 4, 2) := by decide +kernel
theorem dX4_isTold_97 : decode cX4_isTold 97 = .ok (.aload_n 0, 1) := by decide +kernel
theorem dX4_isTold_98 : decode cX4_isTold 98 = .ok (.dup, 1) := by decide +kernel
theorem dX4_isTold_99 : decode cX4_isTold 99 = .ok (.getfield 150, 3) := by decide +kernel
theorem dX4_isTold_102 : decode cX4_isTold 102 = .ok (.iconst 1, 1) := by decide +kernel
theorem dX4_isTold_103 : decode cX4_isTold 103 = .ok (.iadd, 1) := by decide +kernel
theorem dX4_isTold_104 : decode cX4_isTold 104 = .ok (.putfield 150, 3) := by decide +kernel
theorem dX4_isTold_107 : decode cX4_isTold 107 = .ok (.goto (-68), 3) := by decide +kernel
theorem dX4_isTold_110 : decode cX4_isTold 110 = .ok (.aload_n 0, 1) := by decide +kernel
theorem dX4_isTold_111 : decode cX4_isTold 111 = .ok (.getfield 25, 3) := by decide +kernel
theorem dX4_isTold_114 : decode cX4_isTold 114 = .ok (.iconst 4, 1) := by decide +kernel
theorem dX4_isTold_115 : decode cX4_isTold 115 = .ok (.aload_n 0, 1) := by decide +kernel
theorem dX4_isTold_116 : decode cX4_isTold 116 = .ok (.getfield 156, 3) := by decide +kernel
theorem dX4_isTold_119 : decode cX4_isTold 119 = .ok (.imul, 1) := by decide +kernel
theorem dX4_isTold_120 : decode cX4_isTold 120 = .ok (.iload_n 1, 1) := by decide +kernel
theorem dX4_isTold_121 : decode cX4_isTold 121 = .ok (.iadd, 1) := by decide +kernel
theorem dX4_isTold_122 : decode cX4_isTold 122 = .ok (.iload 4, 2) := by decide +kernel
theorem dX4_isTold_124 : decode cX4_isTold 124 = .ok (.iastore, 1) := by decide +kernel
theorem dX4_isTold_125 : decode cX4_isTold 125 = .ok (.iconst 1, 1) := by decide +kernel
theorem dX4_isTold_126 : decode cX4_isTold 126 = .ok (.ireturn, 1) := by decide +kernel
theorem dX4_isPart_0 : decode cX4_isPart 0 = .ok (.aload_n 0, 1) := by decide +kernel
theorem dX4_isPart_1 : decode cX4_isPart 1 = .ok (.iconst 0, 1) := by decide +kernel
theorem dX4_isPart_2 : decode cX4_isPart 2 = .ok (.iconst 1, 1) := by decide +kernel
theorem dX4_isPart_3 : decode cX4_isPart 3 = .ok (.bipush 12, 2) := by decide +kernel
theorem dX4_isPart_5 : decode cX4_isPart 5 = .ok (.invokevirtual 159, 3) := by decide +kernel
theorem dX4_isPart_8 : decode cX4_isPart 8 = .ok (.ifCond .eq 47, 3) := by decide +kernel
theorem dX4_isPart_11 : decode cX4_isPart 11 = .ok (.aload_n 0, 1) := by decide +kernel
theorem dX4_isPart_12 : decode cX4_isPart 12 = .ok (.bipush 119, 2) := by decide +kernel
theorem dX4_isPart_14 : decode cX4_isPart 14 = .ok (.invokevirtual 162, 3) := by decide +kernel
theorem dX4_isPart_17 : decode cX4_isPart 17 = .ok (.ifCond .eq 38, 3) := by decide +kernel
theorem dX4_isPart_20 : decode cX4_isPart 20 = .ok (.aload_n 0, 1) := by decide +kernel
theorem dX4_isPart_21 : decode cX4_isPart 21 = .ok (.iconst 1, 1) := by decide +kernel
theorem dX4_isPart_22 : decode cX4_isPart 22 = .ok (.iconst 1, 1) := by decide +kernel
theorem dX4_isPart_23 : decode cX4_isPart 23 = .ok (.bipush 9, 2) := by decide +kernel
theorem dX4_isPart_25 : decode cX4_isPart 25 = .ok (.invokevirtual 159, 3) := by decide +kernel
theorem dX4_isPart_28 : decode cX4_isPart 28 = .ok (.ifCond .eq 27, 3) := by decide +kernel
theorem dX4_isPart_31 : decode cX4_isPart 31 = .ok (.aload_n 0, 1) := by decide +kernel
theorem dX4_isPart_32 : decode cX4_isPart 32 = .ok (.bipush 64, 2) := by decide +kernel
theorem dX4_isPart_34 : decode cX4_isPart 34 = .ok (.invokevirtual 162, 3) := by decide +kernel
theorem dX4_isPart_37 : decode cX4_isPart 37 = .ok (.ifCond .eq 18, 3) := by decide +kernel
theorem dX4_isPart_40 : decode cX4_isPart 40 = .ok (.aload_n 0, 1) := by decide +kernel
theorem dX4_isPart_41 : decode cX4_isPart 41 = .ok (.iconst 2, 1) := by decide +kernel
theorem dX4_isPart_42 : decode cX4_isPart 42 = .ok (.iconst 0, 1) := by decide +kernel
theorem dX4_isPart_43 : decode cX4_isPart 43 = .ok (.bipush 23, 2) := by decide +kernel
theorem dX4_isPart_45 : decode cX4_isPart 45 = .ok (.invokevirtual 159, 3) := by decide +kernel
theorem dX4_isPart_48 : decode cX4_isPart 48 = .ok (.ifCond .eq 7, 3) := by decide +kernel
theorem dX4_isPart_51 : decode cX4_isPart 51 = .ok (.iconst 1, 1) := by decide +kernel
theorem dX4_isPart_52 : decode cX4_isPart 52 = .ok (.goto 4, 3) := by decide +kernel
theorem dX4_isPart_55 : decode cX4_isPart 55 = .ok (.iconst 0, 1) := by decide +kernel
theorem dX4_isPart_56 : decode cX4_isPart 56 = .ok (.istore_n 1, 1) := by decide +kernel
theorem dX4_isPart_57 : decode cX4_isPart 57 = .ok (.aload_n 0, 1) := by decide +kernel
theorem dX4_isPart_58 : decode cX4_isPart 58 = .ok (.getfield 25, 3) := by decide +kernel
theorem dX4_isPart_61 : decode cX4_isPart 61 = .ok (.iconst 4, 1) := by decide +kernel
theorem dX4_isPart_62 : decode cX4_isPart 62 = .ok (.aload_n 0, 1) := by decide +kernel
theorem dX4_isPart_63 : decode cX4_isPart 63 = .ok (.getfield 156, 3) := by decide +kernel
theorem dX4_isPart_66 : decode cX4_isPart 66 = .ok (.imul, 1) := by decide +kernel
theorem dX4_isPart_67 : decode cX4_isPart 67 = .ok (.iconst 3, 1) := by decide +kernel
theorem dX4_isPart_68 : decode cX4_isPart 68 = .ok (.iadd, 1) := by decide +kernel
theorem dX4_isPart_69 : decode cX4_isPart 69 = .ok (.iconst 0, 1) := by decide +kernel
theorem dX4_isPart_70 : decode cX4_isPart 70 = .ok (.iastore, 1) := by decide +kernel
theorem dX4_isPart_71 : decode cX4_isPart 71 = .ok (.iload_n 1, 1) := by decide +kernel
theorem dX4_isPart_72 : decode cX4_isPart 72 = .ok (.ifCond .eq 27, 3) := by decide +kernel
theorem dX4_isPart_75 : decode cX4_isPart 75 = .ok (.aload_n 0, 1) := by decide +kernel
theorem dX4_isPart_76 : decode cX4_isPart 76 = .ok (.bipush 43, 2) := by decide +kernel
theorem dX4_isPart_78 : decode cX4_isPart 78 = .ok (.invokevirtual 162, 3) := by decide +kernel
theorem dX4_isPart_81 : decode cX4_isPart 81 = .ok (.ifCond .eq 14, 3) := by decide +kernel
theorem dX4_isPart_84 : decode cX4_isPart 84 = .ok (.aload_n 0, 1) := by decide +kernel
theorem dX4_isPart_85 : decode cX4_isPart 85 = .ok (.iconst 3, 1) := by decide +kernel
theorem dX4_isPart_86 : decode cX4_isPart 86 = .ok (.iconst 0, 1) := by decide +kernel
theorem dX4_isPart_87 : decode cX4_isPart 87 = .ok (.bipush 50, 2) := by decide +kernel
theorem dX4_isPart_89 : decode cX4_isPart 89 = .ok (.invokevirtual 159, 3) := by decide +kernel
theorem dX4_isPart_92 : decode cX4_isPart 92 = .ok (.ifCond .eq 7, 3) := by decide +kernel
theorem dX4_isPart_95 : decode cX4_isPart 95 = .ok (.iconst 1, 1) := by decide +kernel
theorem dX4_isPart_96 : decode cX4_isPart 96 = .ok (.goto 4, 3) := by decide +kernel
theorem dX4_isPart_99 : decode cX4_isPart 99 = .ok (.iconst 0, 1) := by decide +kernel
theorem dX4_isPart_100 : decode cX4_isPart 100 = .ok (.ireturn, 1) := by decide +kernel
theorem dX4_isPoem_0 : decode cX4_isPoem 0 = .ok (.aload_n 0, 1) := by decide +kernel
theorem dX4_isPoem_1 : decode cX4_isPoem 1 = .ok (.iconst 0, 1) := by decide +kernel
theorem dX4_isPoem_2 : decode cX4_isPoem 2 = .ok (.putfield 150, 3) := by decide +kernel
theorem dX4_isPoem_5 : decode cX4_isPoem 5 = .ok (.aload_n 0, 1) := by decide +kernel
theorem dX4_isPoem_6 : decode cX4_isPoem 6 = .ok (.iconst 0, 1) := by decide +kernel
theorem dX4_isPoem_7 : decode cX4_isPoem 7 = .ok (.putfield 156, 3) := by decide +kernel
theorem dX4_isPoem_10 : decode cX4_isPoem 10 = .ok (.iconst 1, 1) := by decide +kernel
theorem dX4_isPoem_11 : decode cX4_isPoem 11 = .ok (.istore_n 1, 1) := by decide +kernel
theorem dX4_isPoem_12 : decode cX4_isPoem 12 = .ok (.iload_n 1, 1) := by decide +kernel
theorem dX4_isPoem_13 : decode cX4_isPoem 13 = .ok (.ifCond .eq 32, 3) := by decide +kernel
theorem dX4_isPoem_16 : decode cX4_isPoem 16 = .ok (.aload_n 0, 1) := by decide +kernel
theorem dX4_isPoem_17 : decode cX4_isPoem 17 = .ok (.invokevirtual 165, 3) := by decide +kernel
theorem dX4_isPoem_20 : decode cX4_isPoem 20 = .ok (.ifCond .ne 5, 3) := by decide +kernel
theorem dX4_isPoem_23 : decode cX4_isPoem 23 = .ok (.iconst 0, 1) := by decide +kernel
theorem dX4_isPoem_24 : decode cX4_isPoem 24 = .ok (.ireturn, 1) := by decide +kernel
theorem dX4_isPoem_25 : decode cX4_isPoem 25 = .ok (.aload_n 0, 1) := by decide +kernel
theorem dX4_isPoem_26 : decode cX4_isPoem 26 = .ok (.dup, 1) := by decide +kernel
theorem dX4_isPoem_27 : decode cX4_isPoem 27 = .ok (.getfield 156, 3) := by decide +kernel
theorem dX4_isPoem_30 : decode cX4_isPoem 30 = .ok (.iconst 1, 1) := by decide +kernel
theorem dX4_isPoem_31 : decode cX4_isPoem 31 = .ok (.iadd, 1) := by decide +kernel
theorem dX4_isPoem_32 : decode cX4_isPoem 32 = .ok (.putfield 156, 3) := by decide +kernel
theorem dX4_isPoem_35 : decode cX4_isPoem 35 = .ok (.aload_n 0, 1) := by decide +kernel
theorem dX4_isPoem_36 : decode cX4_isPoem 36 = .ok (.bipush 59, 2) := by decide +kernel
theorem dX4_isPoem_38 : decode cX4_isPoem 38 = .ok (.invokevirtual 162, 3) := by decide +kernel
theorem dX4_isPoem_41 : decode cX4_isPoem 41 = .ok (.istore_n 1, 1) := by decide +kernel
theorem dX4_isPoem_42 : decode cX4_isPoem 42 = .ok (.goto (-30), 3) := by decide +kernel
theorem dX4_isPoem_45 : decode cX4_isPoem 45 = .ok (.aload_n 0, 1) := by decide +kernel
theorem dX4_isPoem_46 : decode cX4_isPoem 46 = .ok (.getfield 150, 3) := by decide +kernel
theorem dX4_isPoem_49 : decode cX4_isPoem 49 = .ok (.aload_n 0, 1) := by decide +kernel
theorem dX4_isPoem_50 : decode cX4_isPoem 50 = .ok (.getfield 147, 3) := by decide +kernel
theorem dX4_isPoem_53 : decode cX4_isPoem 53 = .ok (.if_icmp .ne 7, 3) := by decide +kernel
theorem dX4_isPoem_56 : decode cX4_isPoem 56 = .ok (.iconst 1, 1) := by decide +kernel
theorem dX4_isPoem_57 : decode cX4_isPoem 57 = .ok (.goto 4, 3) := by decide +kernel
theorem dX4_isPoem_60 : decode cX4_isPoem 60 = .ok (.iconst 0, 1) := by decide +kernel
theorem dX4_isPoem_61 : decode cX4_isPoem 61 = .ok (.ireturn, 1) := by decide +kernel
theorem dX4_firstError_0 : decode cX4_firstError 0 = .ok (.aload_n 0, 1) := by decide +kernel
theorem dX4_firstError_1 : decode cX4_firstError 1 = .ok (.iconst 0, 1) := by decide +kernel
theorem dX4_firstError_2 : decode cX4_firstError 2 = .ok (.putfield 28, 3) := by decide +kernel
theorem dX4_firstError_5 : decode cX4_firstError 5 = .ok (.aload_n 0, 1) := by decide +kernel
theorem dX4_firstError_6 : decode cX4_firstError 6 = .ok (.invokevirtual 169, 3) := by decide +kernel
theorem dX4_firstError_9 : decode cX4_firstError 9 = .ok (.ifCond .eq 10, 3) := by decide +kernel
theorem dX4_firstError_12 : decode cX4_firstError 12 = .ok (.aload_n 0, 1) := by decide +kernel
theorem dX4_firstError_13 : decode cX4_firstError 13 = .ok (.getfield 147, 3) := by decide +kernel
theorem dX4_firstError_16 : decode cX4_firstError 16 = .ok (.goto 7, 3) := by decide +kernel
theorem dX4_firstError_19 : decode cX4_firstError 19 = .ok (.aload_n 0, 1) := by decide +kernel
theorem dX4_firstError_20 : decode cX4_firstError 20 = .ok (.getfield 150, 3) := by decide +kernel
theorem dX4_firstError_23 : decode cX4_firstError 23 = .ok (.ireturn, 1) := by decide +kernel
theorem dX4_isAdded_0 : decode cX4_isAdded 0 = .ok (.aload_n 0, 1) := by decide +kernel
theorem dX4_isAdded_1 : decode cX4_isAdded 1 = .ok (.getfield 7, 3) := by decide +kernel
theorem dX4_isAdded_4 : decode cX4_isAdded 4 = .ok (.iconst 1, 1) := by decide +kernel
theorem dX4_isAdded_5 : decode cX4_isAdded 5 = .ok (.iaload, 1) := by decide +kernel
theorem dX4_isAdded_6 : decode cX4_isAdded 6 = .ok (.aload_n 0, 1) := by decide +kernel
theorem dX4_isAdded_7 : decode cX4_isAdded 7 = .ok (.getfield 25, 3) := by decide +kernel
theorem dX4_isAdded_10 : decode cX4_isAdded 10 = .ok (.iconst 4, 1) := by decide +kernel
theorem dX4_isAdded_11 : decode cX4_isAdded 11 = .ok (.iload_n 1, 1) := by decide +kernel
theorem dX4_isAdded_12 : decode cX4_isAdded 12 = .ok (.imul, 1) := by decide +kernel
theorem dX4_isAdded_13 : decode cX4_isAdded 13 = .ok (.iconst 3, 1) := by decide +kernel
theorem dX4_isAdded_14 : decode cX4_isAdded 14 = .ok (.iadd, 1) := by decide +kernel
theorem dX4_isAdded_15 : decode cX4_isAdded 15 = .ok (.iaload, 1) := by decide +kernel
theorem dX4_isAdded_16 : decode cX4_isAdded 16 = .ok (.iadd, 1) := by decide +kernel
theorem dX4_isAdded_17 : decode cX4_isAdded 17 = .ok (.istore_n 2, 1) := by decide +kernel
theorem dX4_isAdded_18 : decode cX4_isAdded 18 = .ok (.aload_n 0, 1) := by decide +kernel
theorem dX4_isAdded_19 : decode cX4_isAdded 19 = .ok (.getfield 7, 3) := by decide +kernel
theorem dX4_isAdded_22 : decode cX4_isAdded 22 = .ok (.iconst 0, 1) := by decide +kernel
theorem dX4_isAdded_23 : decode cX4_isAdded 23 = .ok (.iaload, 1) := by decide +kernel
theorem dX4_isAdded_24 : decode cX4_isAdded 24 = .ok (.bipush 10, 2) := by decide +kernel
theorem dX4_isAdded_26 : decode cX4_isAdded 26 = .ok (.if_icmp .ge 49, 3) := by decide +kernel
theorem dX4_isAdded_29 : decode cX4_isAdded 29 = .ok (.aload_n 0, 1) := by decide +kernel
theorem dX4_isAdded_30 : decode cX4_isAdded 30 = .ok (.getfield 25, 3) := by decide +kernel
theorem dX4_isAdded_33 : decode cX4_isAdded 33 = .ok (.iconst 4, 1) := by decide +kernel
theorem dX4_isAdded_34 : decode cX4_isAdded 34 = .ok (.iload_n 1, 1) := by decide +kernel
theorem dX4_isAdded_35 : decode cX4_isAdded 35 = .ok (.imul, 1) := by decide +kernel
theorem dX4_isAdded_36 : decode cX4_isAdded 36 = .ok (.iaload, 1) := by decide +kernel
theorem dX4_isAdded_37 : decode cX4_isAdded 37 = .ok (.aload_n 0, 1) := by decide +kernel
theorem dX4_isAdded_38 : decode cX4_isAdded 38 = .ok (.getfield 25, 3) := by decide +kernel
theorem dX4_isAdded_41 : decode cX4_isAdded 41 = .ok (.iconst 4, 1) := by decide +kernel
theorem dX4_isAdded_42 : decode cX4_isAdded 42 = .ok (.iload_n 1, 1) := by decide +kernel
theorem dX4_isAdded_43 : decode cX4_isAdded 43 = .ok (.imul, 1) := by decide +kernel
theorem dX4_isAdded_44 : decode cX4_isAdded 44 = .ok (.iconst 1, 1) := by decide +kernel
theorem dX4_isAdded_45 : decode cX4_isAdded 45 = .ok (.iadd, 1) := by decide +kernel
theorem dX4_isAdded_46 : decode cX4_isAdded 46 = .ok (.iaload, 1) := by decide +kernel
theorem dX4_isAdded_47 : decode cX4_isAdded 47 = .ok (.aload_n 0, 1) := by decide +kernel
theorem dX4_isAdded_48 : decode cX4_isAdded 48 = .ok (.getfield 25, 3) := by decide +kernel
theorem dX4_isAdded_51 : decode cX4_isAdded 51 = .ok (.iconst 4, 1) := by decide +kernel
theorem dX4_isAdded_52 : decode cX4_isAdded 52 = .ok (.iload_n 1, 1) := by decide +kernel
theorem dX4_isAdded_53 : decode cX4_isAdded 53 = .ok (.imul, 1) := by decide +kernel
theorem dX4_isAdded_54 : decode cX4_isAdded 54 = .ok (.iconst 2, 1) := by decide +kernel
theorem dX4_isAdded_55 : decode cX4_isAdded 55 = .ok (.iadd, 1) := by decide +kernel
theorem dX4_isAdded_56 : decode cX4_isAdded 56 = .ok (.iaload, 1) := by decide +kernel
theorem dX4_isAdded_57 : decode cX4_isAdded 57 = .ok (.invokestatic 120, 3) := by decide +kernel
theorem dX4_isAdded_60 : decode cX4_isAdded 60 = .ok (.ifCond .eq 15, 3) := by decide +kernel
theorem dX4_isAdded_63 : decode cX4_isAdded 63 = .ok (.iconst 0, 1) := by decide +kernel
theorem dX4_isAdded_64 : decode cX4_isAdded 64 = .ok (.iload_n 2, 1) := by decide +kernel
theorem dX4_isAdded_65 : decode cX4_isAdded 65 = .ok (.invokestatic 123, 3) := by decide +kernel
theorem dX4_isAdded_68 : decode cX4_isAdded 68 = .ok (.ifCond .eq 7, 3) := by decide +kernel
theorem dX4_isAdded_71 : decode cX4_isAdded 71 = .ok (.iconst 1, 1) := by decide +kernel
theorem dX4_isAdded_72 : decode cX4_isAdded 72 = .ok (.goto 4, 3) := by decide +kernel
theorem dX4_isAdded_75 : decode cX4_isAdded 75 = .ok (.iconst 0, 1) := by decide +kernel
theorem dX4_isAdded_76 : decode cX4_isAdded 76 = .ok (.istore_n 3, 1) := by decide +kernel
theorem dX4_isAdded_77 : decode cX4_isAdded 77 = .ok (.iload_n 3, 1) := by decide +kernel
theorem dX4_isAdded_78 : decode cX4_isAdded 78 = .ok (.ifCond .eq 40, 3) := by decide +kernel
theorem dX4_isAdded_81 : decode cX4_isAdded 81 = .ok (.aload_n 0, 1) := by decide +kernel
theorem dX4_isAdded_82 : decode cX4_isAdded 82 = .ok (.getfield 7, 3) := by decide +kernel
theorem dX4_isAdded_85 : decode cX4_isAdded 85 = .ok (.aload_n 0, 1) := by decide +kernel
theorem dX4_isAdded_86 : decode cX4_isAdded 86 = .ok (.getfield 25, 3) := by decide +kernel
theorem dX4_isAdded_89 : decode cX4_isAdded 89 = .ok (.iconst 4, 1) := by decide +kernel
theorem dX4_isAdded_90 : decode cX4_isAdded 90 = .ok (.iload_n 1, 1) := by decide +kernel
theorem dX4_isAdded_91 : decode cX4_isAdded 91 = .ok (.imul, 1) := by decide +kernel
theorem dX4_isAdded_92 : decode cX4_isAdded 92 = .ok (.iaload, 1) := by decide +kernel
theorem dX4_isAdded_93 : decode cX4_isAdded 93 = .ok (.aload_n 0, 1) := by decide +kernel
theorem dX4_isAdded_94 : decode cX4_isAdded 94 = .ok (.getfield 25, 3) := by decide +kernel
theorem dX4_isAdded_97 : decode cX4_isAdded 97 = .ok (.iconst 4, 1) := by decide +kernel
theorem dX4_isAdded_98 : decode cX4_isAdded 98 = .ok (.iload_n 1, 1) := by decide +kernel
theorem dX4_isAdded_99 : decode cX4_isAdded 99 = .ok (.imul, 1) := by decide +kernel
theorem dX4_isAdded_100 : decode cX4_isAdded 100 = .ok (.iconst 1, 1) := by decide +kernel
theorem dX4_isAdded_101 : decode cX4_isAdded 101 = .ok (.iadd, 1) := by decide +kernel
theorem dX4_isAdded_102 : decode cX4_isAdded 102 = .ok (.iaload, 1) := by decide +kernel
theorem dX4_isAdded_103 : decode cX4_isAdded 103 = .ok (.aload_n 0, 1) := by decide +kernel
theorem dX4_isAdded_104 : decode cX4_isAdded 104 = .ok (.getfield 25, 3) := by decide +kernel
theorem dX4_isAdded_107 : decode cX4_isAdded 107 = .ok (.iconst 4, 1) := by decide +kernel
theorem dX4_isAdded_108 : decode cX4_isAdded 108 = .ok (.iload_n 1, 1) := by decide +kernel
theorem dX4_isAdded_109 : decode cX4_isAdded 109 = .ok (.imul, 1) := by decide +kernel
theorem dX4_isAdded_110 : decode cX4_isAdded 110 = .ok (.iconst 2, 1) := by decide +kernel
theorem dX4_isAdded_111 : decode cX4_isAdded 111 = .ok (.iadd, 1) := by decide +kernel
theorem dX4_isAdded_112 : decode cX4_isAdded 112 = .ok (.iaload, 1) := by decide +kernel
theorem dX4_isAdded_113 : decode cX4_isAdded 113 = .ok (.iconst 0, 1) := by decide +kernel
theorem dX4_isAdded_114 : decode cX4_isAdded 114 = .ok (.iload_n 2, 1) := by decide +kernel
theorem dX4_isAdded_115 : decode cX4_isAdded 115 = .ok (.invokestatic 130, 3) := by decide +kernel
theorem dX4_isAdded_118 : decode cX4_isAdded 118 = .ok (.iload_n 3, 1) := by decide +kernel
theorem dX4_isAdded_119 : decode cX4_isAdded 119 = .ok (.ireturn, 1) := by decide +kernel
theorem dX4_read_0 : decode cX4_read 0 = .ok (.aload_n 0, 1) := by decide +kernel
theorem dX4_read_1 : decode cX4_read 1 = .ok (.aload_n 0, 1) := by decide +kernel
theorem dX4_read_2 : decode cX4_read 2 = .ok (.invokevirtual 169, 3) := by decide +kernel
theorem dX4_read_5 : decode cX4_read 5 = .ok (.ifCond .eq 7, 3) := by decide +kernel
theorem dX4_read_8 : decode cX4_read 8 = .ok (.iconst 0, 1) := by decide +kernel
theorem dX4_read_9 : decode cX4_read 9 = .ok (.goto 4, 3) := by decide +kernel
theorem dX4_read_12 : decode cX4_read 12 = .ok (.iconst 1, 1) := by decide +kernel
theorem dX4_read_13 : decode cX4_read 13 = .ok (.invokevirtual 39, 3) := by decide +kernel
theorem dX4_read_16 : decode cX4_read 16 = .ok (.ifCond .eq 5, 3) := by decide +kernel
theorem dX4_read_19 : decode cX4_read 19 = .ok (.iconst 0, 1) := by decide +kernel
theorem dX4_read_20 : decode cX4_read 20 = .ok (.ireturn, 1) := by decide +kernel
theorem dX4_read_21 : decode cX4_read 21 = .ok (.aload_n 0, 1) := by decide +kernel
theorem dX4_read_22 : decode cX4_read 22 = .ok (.invokevirtual 127, 3) := by decide +kernel
theorem dX4_read_25 : decode cX4_read 25 = .ok (.aload_n 0, 1) := by decide +kernel
theorem dX4_read_26 : decode cX4_read 26 = .ok (.iconst 0, 1) := by decide +kernel
