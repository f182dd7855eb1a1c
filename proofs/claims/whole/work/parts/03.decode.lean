theorem dX0_init_0 : decode cX0_init 0 = .ok (.aload_n 0, 1) := by decide +kernel
theorem dX0_init_1 : decode cX0_init 1 = .ok (.invokespecial 3, 3) := by decide +kernel
theorem dX0_init_4 : decode cX0_init 4 = .ok (.aload_n 0, 1) := by decide +kernel
theorem dX0_init_5 : decode cX0_init 5 = .ok (.iconst 0, 1) := by decide +kernel
theorem dX0_init_6 : decode cX0_init 6 = .ok (.putfield 9, 3) := by decide +kernel
theorem dX0_init_9 : decode cX0_init 9 = .ok (.aload_n 0, 1) := by decide +kernel
theorem dX0_init_10 : decode cX0_init 10 = .ok (.bipush 6, 2) := by decide +kernel
theorem dX0_init_12 : decode cX0_init 12 = .ok (.anewarray 15, 3) := by decide +kernel
theorem dX0_init_15 : decode cX0_init 15 = .ok (.putfield 17, 3) := by decide +kernel
theorem dX0_init_18 : decode cX0_init 18 = .ok (.iconst 0, 1) := by decide +kernel
theorem dX0_init_19 : decode cX0_init 19 = .ok (.istore_n 1, 1) := by decide +kernel
theorem dX0_init_20 : decode cX0_init 20 = .ok (.iload_n 1, 1) := by decide +kernel
theorem dX0_init_21 : decode cX0_init 21 = .ok (.bipush 6, 2) := by decide +kernel
theorem dX0_init_23 : decode cX0_init 23 = .ok (.if_icmp .ge 22, 3) := by decide +kernel
theorem dX0_init_26 : decode cX0_init 26 = .ok (.aload_n 0, 1) := by decide +kernel
theorem dX0_init_27 : decode cX0_init 27 = .ok (.getfield 17, 3) := by decide +kernel
theorem dX0_init_30 : decode cX0_init 30 = .ok (.iload_n 1, 1) := by decide +kernel
theorem dX0_init_31 : decode cX0_init 31 = .ok (.new 15, 3) := by decide +kernel
theorem dX0_init_34 : decode cX0_init 34 = .ok (.dup, 1) := by decide +kernel
theorem dX0_init_35 : decode cX0_init 35 = .ok (.invokespecial 21, 3) := by decide +kernel
theorem dX0_init_38 : decode cX0_init 38 = .ok (.aastore, 1) := by decide +kernel
theorem dX0_init_39 : decode cX0_init 39 = .ok (.iinc 1 1, 3) := by decide +kernel
theorem dX0_init_42 : decode cX0_init 42 = .ok (.goto (-22), 3) := by decide +kernel
theorem dX0_init_45 : decode cX0_init 45 = .ok (.return_, 1) := by decide +kernel
theorem dX0_keep_0 : decode cX0_keep 0 = .ok (.aload_n 0, 1) := by decide +kernel
theorem dX0_keep_1 : decode cX0_keep 1 = .ok (.getfield 9, 3) := by decide +kernel
theorem dX0_keep_4 : decode cX0_keep 4 = .ok (.bipush 6, 2) := by decide +kernel
theorem dX0_keep_6 : decode cX0_keep 6 = .ok (.if_icmp .lt 7, 3) := by decide +kernel
theorem dX0_keep_9 : decode cX0_keep 9 = .ok (.aload_n 0, 1) := by decide +kernel
theorem dX0_keep_10 : decode cX0_keep 10 = .ok (.invokevirtual 22, 3) := by decide +kernel
theorem dX0_keep_13 : decode cX0_keep 13 = .ok (.aload_n 0, 1) := by decide +kernel
theorem dX0_keep_14 : decode cX0_keep 14 = .ok (.getfield 17, 3) := by decide +kernel
theorem dX0_keep_17 : decode cX0_keep 17 = .ok (.aload_n 0, 1) := by decide +kernel
theorem dX0_keep_18 : decode cX0_keep 18 = .ok (.getfield 9, 3) := by decide +kernel
theorem dX0_keep_21 : decode cX0_keep 21 = .ok (.aaload, 1) := by decide +kernel
theorem dX0_keep_22 : decode cX0_keep 22 = .ok (.aload_n 1, 1) := by decide +kernel
theorem dX0_keep_23 : decode cX0_keep 23 = .ok (.invokevirtual 25, 3) := by decide +kernel
theorem dX0_keep_26 : decode cX0_keep 26 = .ok (.aload_n 0, 1) := by decide +kernel
theorem dX0_keep_27 : decode cX0_keep 27 = .ok (.dup, 1) := by decide +kernel
theorem dX0_keep_28 : decode cX0_keep 28 = .ok (.getfield 9, 3) := by decide +kernel
theorem dX0_keep_31 : decode cX0_keep 31 = .ok (.iconst 1, 1) := by decide +kernel
theorem dX0_keep_32 : decode cX0_keep 32 = .ok (.iadd, 1) := by decide +kernel
theorem dX0_keep_33 : decode cX0_keep 33 = .ok (.putfield 9, 3) := by decide +kernel
theorem dX0_keep_36 : decode cX0_keep 36 = .ok (.return_, 1) := by decide +kernel
theorem dX0_giveBackTo_0 : decode cX0_giveBackTo 0 = .ok (.aload_n 0, 1) := by decide +kernel
theorem dX0_giveBackTo_1 : decode cX0_giveBackTo 1 = .ok (.getfield 9, 3) := by decide +kernel
theorem dX0_giveBackTo_4 : decode cX0_giveBackTo 4 = .ok (.iconst 1, 1) := by decide +kernel
theorem dX0_giveBackTo_5 : decode cX0_giveBackTo 5 = .ok (.if_icmp .ge 4, 3) := by decide +kernel
theorem dX0_giveBackTo_8 : decode cX0_giveBackTo 8 = .ok (.return_, 1) := by decide +kernel
theorem dX0_giveBackTo_9 : decode cX0_giveBackTo 9 = .ok (.aload_n 0, 1) := by decide +kernel
theorem dX0_giveBackTo_10 : decode cX0_giveBackTo 10 = .ok (.dup, 1) := by decide +kernel
theorem dX0_giveBackTo_11 : decode cX0_giveBackTo 11 = .ok (.getfield 9, 3) := by decide +kernel
theorem dX0_giveBackTo_14 : decode cX0_giveBackTo 14 = .ok (.iconst 1, 1) := by decide +kernel
theorem dX0_giveBackTo_15 : decode cX0_giveBackTo 15 = .ok (.isub, 1) := by decide +kernel
theorem dX0_giveBackTo_16 : decode cX0_giveBackTo 16 = .ok (.putfield 9, 3) := by decide +kernel
theorem dX0_giveBackTo_19 : decode cX0_giveBackTo 19 = .ok (.aload_n 1, 1) := by decide +kernel
theorem dX0_giveBackTo_20 : decode cX0_giveBackTo 20 = .ok (.aload_n 0, 1) := by decide +kernel
theorem dX0_giveBackTo_21 : decode cX0_giveBackTo 21 = .ok (.getfield 17, 3) := by decide +kernel
theorem dX0_giveBackTo_24 : decode cX0_giveBackTo 24 = .ok (.aload_n 0, 1) := by decide +kernel
theorem dX0_giveBackTo_25 : decode cX0_giveBackTo 25 = .ok (.getfield 9, 3) := by decide +kernel
theorem dX0_giveBackTo_28 : decode cX0_giveBackTo 28 = .ok (.aaload, 1) := by decide +kernel
theorem dX0_giveBackTo_29 : decode cX0_giveBackTo 29 = .ok (.invokevirtual 25, 3) := by decide +kernel
theorem dX0_giveBackTo_32 : decode cX0_giveBackTo 32 = .ok (.return_, 1) := by decide +kernel
theorem dX0_dropOldest_0 : decode cX0_dropOldest 0 = .ok (.aload_n 0, 1) := by decide +kernel
theorem dX0_dropOldest_1 : decode cX0_dropOldest 1 = .ok (.getfield 17, 3) := by decide +kernel
theorem dX0_dropOldest_4 : decode cX0_dropOldest 4 = .ok (.iconst 0, 1) := by decide +kernel
theorem dX0_dropOldest_5 : decode cX0_dropOldest 5 = .ok (.aaload, 1) := by decide +kernel
theorem dX0_dropOldest_6 : decode cX0_dropOldest 6 = .ok (.astore_n 1, 1) := by decide +kernel
theorem dX0_dropOldest_7 : decode cX0_dropOldest 7 = .ok (.iconst 1, 1) := by decide +kernel
theorem dX0_dropOldest_8 : decode cX0_dropOldest 8 = .ok (.istore_n 2, 1) := by decide +kernel
theorem dX0_dropOldest_9 : decode cX0_dropOldest 9 = .ok (.iload_n 2, 1) := by decide +kernel
theorem dX0_dropOldest_10 : decode cX0_dropOldest 10 = .ok (.bipush 6, 2) := by decide +kernel
theorem dX0_dropOldest_12 : decode cX0_dropOldest 12 = .ok (.if_icmp .ge 23, 3) := by decide +kernel
theorem dX0_dropOldest_15 : decode cX0_dropOldest 15 = .ok (.aload_n 0, 1) := by decide +kernel
theorem dX0_dropOldest_16 : decode cX0_dropOldest 16 = .ok (.getfield 17, 3) := by decide +kernel
theorem dX0_dropOldest_19 : decode cX0_dropOldest 19 = .ok (.iload_n 2, 1) := by decide +kernel
theorem dX0_dropOldest_20 : decode cX0_dropOldest 20 = .ok (.iconst 1, 1) := by decide +kernel
theorem dX0_dropOldest_21 : decode cX0_dropOldest 21 = .ok (.isub, 1) := by decide +kernel
theorem dX0_dropOldest_22 : decode cX0_dropOldest 22 = .ok (.aload_n 0, 1) := by decide +kernel
theorem dX0_dropOldest_23 : decode cX0_dropOldest 23 = .ok (.getfield 17, 3) := by decide +kernel
theorem dX0_dropOldest_26 : decode cX0_dropOldest 26 = .ok (.iload_n 2, 1) := by decide +kernel
theorem dX0_dropOldest_27 : decode cX0_dropOldest 27 = .ok (.aaload, 1) := by decide +kernel
theorem dX0_dropOldest_28 : decode cX0_dropOldest 28 = .ok (.aastore, 1) := by decide +kernel
theorem dX0_dropOldest_29 : decode cX0_dropOldest 29 = .ok (.iinc 2 1, 3) := by decide +kernel
theorem dX0_dropOldest_32 : decode cX0_dropOldest 32 = .ok (.goto (-23), 3) := by decide +kernel
theorem dX0_dropOldest_35 : decode cX0_dropOldest 35 = .ok (.aload_n 0, 1) := by decide +kernel
theorem dX0_dropOldest_36 : decode cX0_dropOldest 36 = .ok (.getfield 17, 3) := by decide +kernel
theorem dX0_dropOldest_39 : decode cX0_dropOldest 39 = .ok (.iconst 5, 1) := by decide +kernel
theorem dX0_dropOldest_40 : decode cX0_dropOldest 40 = .ok (.aload_n 1, 1) := by decide +kernel
theorem dX0_dropOldest_41 : decode cX0_dropOldest 41 = .ok (.aastore, 1) := by decide +kernel
theorem dX0_dropOldest_42 : decode cX0_dropOldest 42 = .ok (.aload_n 0, 1) := by decide +kernel
theorem dX0_dropOldest_43 : decode cX0_dropOldest 43 = .ok (.iconst 5, 1) := by decide +kernel
theorem dX0_dropOldest_44 : decode cX0_dropOldest 44 = .ok (.putfield 9, 3) := by decide +kernel
theorem dX0_dropOldest_47 : decode cX0_dropOldest 47 = .ok (.return_, 1) := by decide +kernel
theorem dX1_init_0 : decode cX1_init 0 = .ok (.aload_n 0, 1) := by decide +kernel
theorem dX1_init_1 : decode cX1_init 1 = .ok (.invokespecial 3, 3) := by decide +kernel
theorem dX1_init_4 : decode cX1_init 4 = .ok (.aload_n 0, 1) := by decide +kernel
theorem dX1_init_5 : decode cX1_init 5 = .ok (.iconst 0, 1) := by decide +kernel
theorem dX1_init_6 : decode cX1_init 6 = .ok (.putfield 9, 3) := by decide +kernel
theorem dX1_init_9 : decode cX1_init 9 = .ok (.aload_n 0, 1) := by decide +kernel
theorem dX1_init_10 : decode cX1_init 10 = .ok (.iconst 2, 1) := by decide +kernel
theorem dX1_init_11 : decode cX1_init 11 = .ok (.putfield 15, 3) := by decide +kernel
theorem dX1_init_14 : decode cX1_init 14 = .ok (.aload_n 0, 1) := by decide +kernel
theorem dX1_init_15 : decode cX1_init 15 = .ok (.iconst 0, 1) := by decide +kernel
theorem dX1_init_16 : decode cX1_init 16 = .ok (.putfield 18, 3) := by decide +kernel
theorem dX1_init_19 : decode cX1_init 19 = .ok (.aload_n 0, 1) := by decide +kernel
theorem dX1_init_20 : decode cX1_init 20 = .ok (.iconst 0, 1) := by decide +kernel
theorem dX1_init_21 : decode cX1_init 21 = .ok (.putfield 21, 3) := by decide +kernel
theorem dX1_init_24 : decode cX1_init 24 = .ok (.aload_n 0, 1) := by decide +kernel
theorem dX1_init_25 : decode cX1_init 25 = .ok (.bipush 11, 2) := by decide +kernel
theorem dX1_init_27 : decode cX1_init 27 = .ok (.newarray .int, 2) := by decide +kernel
theorem dX1_init_29 : decode cX1_init 29 = .ok (.putfield 24, 3) := by decide +kernel
theorem dX1_init_32 : decode cX1_init 32 = .ok (.aload_n 0, 1) := by decide +kernel
theorem dX1_init_33 : decode cX1_init 33 = .ok (.bipush 11, 2) := by decide +kernel
theorem dX1_init_35 : decode cX1_init 35 = .ok (.newarray .int, 2) := by decide +kernel
theorem dX1_init_37 : decode cX1_init 37 = .ok (.putfield 28, 3) := by decide +kernel
theorem dX1_init_40 : decode cX1_init 40 = .ok (.aload_n 0, 1) := by decide +kernel
theorem dX1_init_41 : decode cX1_init 41 = .ok (.bipush 11, 2) := by decide +kernel
theorem dX1_init_43 : decode cX1_init 43 = .ok (.newarray .int, 2) := by decide +kernel
theorem dX1_init_45 : decode cX1_init 45 = .ok (.putfield 31, 3) := by decide +kernel
theorem dX1_init_48 : decode cX1_init 48 = .ok (.aload_n 0, 1) := by decide +kernel
theorem dX1_init_49 : decode cX1_init 49 = .ok (.bipush 11, 2) := by decide +kernel
theorem dX1_init_51 : decode cX1_init 51 = .ok (.newarray .int, 2) := by decide +kernel
theorem dX1_init_53 : decode cX1_init 53 = .ok (.putfield 34, 3) := by decide +kernel
theorem dX1_init_56 : decode cX1_init 56 = .ok (.aload_n 0, 1) := by decide +kernel
theorem dX1_init_57 : decode cX1_init 57 = .ok (.bipush 11, 2) := by decide +kernel
theorem dX1_init_59 : decode cX1_init 59 = .ok (.newarray .int, 2) := by decide +kernel
theorem dX1_init_61 : decode cX1_init 61 = .ok (.putfield 37, 3) := by decide +kernel
theorem dX1_init_64 : decode cX1_init 64 = .ok (.aload_n 0, 1) := by decide +kernel
theorem dX1_init_65 : decode cX1_init 65 = .ok (.bipush 11, 2) := by decide +kernel
theorem dX1_init_67 : decode cX1_init 67 = .ok (.newarray .int, 2) := by decide +kernel
theorem dX1_init_69 : decode cX1_init 69 = .ok (.putfield 40, 3) := by decide +kernel
theorem dX1_init_72 : decode cX1_init 72 = .ok (.aload_n 0, 1) := by decide +kernel
theorem dX1_init_73 : decode cX1_init 73 = .ok (.bipush 11, 2) := by decide +kernel
theorem dX1_init_75 : decode cX1_init 75 = .ok (.newarray .int, 2) := by decide +kernel
theorem dX1_init_77 : decode cX1_init 77 = .ok (.putfield 43, 3) := by decide +kernel
theorem dX1_init_80 : decode cX1_init 80 = .ok (.aload_n 0, 1) := by decide +kernel
theorem dX1_init_81 : decode cX1_init 81 = .ok (.bipush 16, 2) := by decide +kernel
theorem dX1_init_83 : decode cX1_init 83 = .ok (.newarray .int, 2) := by decide +kernel
theorem dX1_init_85 : decode cX1_init 85 = .ok (.putfield 46, 3) := by decide +kernel
theorem dX1_init_88 : decode cX1_init 88 = .ok (.aload_n 0, 1) := by decide +kernel
theorem dX1_init_89 : decode cX1_init 89 = .ok (.bipush 11, 2) := by decide +kernel
theorem dX1_init_91 : decode cX1_init 91 = .ok (.newarray .int, 2) := by decide +kernel
theorem dX1_init_93 : decode cX1_init 93 = .ok (.putfield 49, 3) := by decide +kernel
theorem dX1_init_96 : decode cX1_init 96 = .ok (.return_, 1) := by decide +kernel
theorem dX1_copyFrom_0 : decode cX1_copyFrom 0 = .ok (.aload_n 0, 1) := by decide +kernel
theorem dX1_copyFrom_1 : decode cX1_copyFrom 1 = .ok (.aload_n 1, 1) := by decide +kernel
theorem dX1_copyFrom_2 : decode cX1_copyFrom 2 = .ok (.getfield 9, 3) := by decide +kernel
theorem dX1_copyFrom_5 : decode cX1_copyFrom 5 = .ok (.putfield 9, 3) := by decide +kernel
theorem dX1_copyFrom_8 : decode cX1_copyFrom 8 = .ok (.aload_n 0, 1) := by decide +kernel
theorem dX1_copyFrom_9 : decode cX1_copyFrom 9 = .ok (.aload_n 1, 1) := by decide +kernel
theorem dX1_copyFrom_10 : decode cX1_copyFrom 10 = .ok (.getfield 15, 3) := by decide +kernel
theorem dX1_copyFrom_13 : decode cX1_copyFrom 13 = .ok (.putfield 15, 3) := by decide +kernel
theorem dX1_copyFrom_16 : decode cX1_copyFrom 16 = .ok (.aload_n 0, 1) := by decide +kernel
theorem dX1_copyFrom_17 : decode cX1_copyFrom 17 = .ok (.aload_n 1, 1) := by decide +kernel
theorem dX1_copyFrom_18 : decode cX1_copyFrom 18 = .ok (.getfield 18, 3) := by decide +kernel
theorem dX1_copyFrom_21 : decode cX1_copyFrom 21 = .ok (.putfield 18, 3) := by decide +kernel
theorem dX1_copyFrom_24 : decode cX1_copyFrom 24 = .ok (.aload_n 0, 1) := by decide +kernel
theorem dX1_copyFrom_25 : decode cX1_copyFrom 25 = .ok (.aload_n 1, 1) := by decide +kernel
theorem dX1_copyFrom_26 : decode cX1_copyFrom 26 = .ok (.getfield 21, 3) := by decide +kernel
theorem dX1_copyFrom_29 : decode cX1_copyFrom 29 = .ok (.putfield 21, 3) := by decide +kernel
theorem dX1_copyFrom_32 : decode cX1_copyFrom 32 = .ok (.aload_n 1, 1) := by decide +kernel
theorem dX1_copyFrom_33 : decode cX1_copyFrom 33 = .ok (.getfield 24, 3) := by decide +kernel
theorem dX1_copyFrom_36 : decode cX1_copyFrom 36 = .ok (.iconst 0, 1) := by decide +kernel
theorem dX1_copyFrom_37 : decode cX1_copyFrom 37 = .ok (.aload_n 0, 1) := by decide +kernel
theorem dX1_copyFrom_38 : decode cX1_copyFrom 38 = .ok (.getfield 24, 3) := by decide +kernel
theorem dX1_copyFrom_41 : decode cX1_copyFrom 41 = .ok (.iconst 0, 1) := by decide +kernel
theorem dX1_copyFrom_42 : decode cX1_copyFrom 42 = .ok (.bipush 11, 2) := by decide +kernel
theorem dX1_copyFrom_44 : decode cX1_copyFrom 44 = .ok (.invokestatic 52, 3) := by decide +kernel
theorem dX1_copyFrom_47 : decode cX1_copyFrom 47 = .ok (.aload_n 1, 1) := by decide +kernel
theorem dX1_copyFrom_48 : decode cX1_copyFrom 48 = .ok (.getfield 28, 3) := by decide +kernel
theorem dX1_copyFrom_51 : decode cX1_copyFrom 51 = .ok (.iconst 0, 1) := by decide +kernel
theorem dX1_copyFrom_52 : decode cX1_copyFrom 52 = .ok (.aload_n 0, 1) := by decide +kernel
theorem dX1_copyFrom_53 : decode cX1_copyFrom 53 = .ok (.getfield 28, 3) := by decide +kernel
theorem dX1_copyFrom_56 : decode cX1_copyFrom 56 = .ok (.iconst 0, 1) := by decide +kernel
theorem dX1_copyFrom_57 : decode cX1_copyFrom 57 = .ok (.bipush 11, 2) := by decide +kernel
theorem dX1_copyFrom_59 : decode cX1_copyFrom 59 = .ok (.invokestatic 52, 3) := by decide +kernel
theorem dX1_copyFrom_62 : decode cX1_copyFrom 62 = .ok (.aload_n 1, 1) := by decide +kernel
theorem dX1_copyFrom_63 : decode cX1_copyFrom 63 = .ok (.getfield 31, 3) := by decide +kernel
theorem dX1_copyFrom_66 : decode cX1_copyFrom 66 = .ok (.iconst 0, 1) := by decide +kernel
theorem dX1_copyFrom_67 : decode cX1_copyFrom 67 = .ok (.aload_n 0, 1) := by decide +kernel
theorem dX1_copyFrom_68 : decode cX1_copyFrom 68 = .ok (.getfield 31, 3) := by decide +kernel
theorem dX1_copyFrom_71 : decode cX1_copyFrom 71 = .ok (.iconst 0, 1) := by decide +kernel
theorem dX1_copyFrom_72 : decode cX1_copyFrom 72 = .ok (.bipush 11, 2) := by decide +kernel
theorem dX1_copyFrom_74 : decode cX1_copyFrom 74 = .ok (.invokestatic 52, 3) := by decide +kernel
theorem dX1_copyFrom_77 : decode cX1_copyFrom 77 = .ok (.aload_n 1, 1) := by decide +kernel
theorem dX1_copyFrom_78 : decode cX1_copyFrom 78 = .ok (.getfield 34, 3) := by decide +kernel
theorem dX1_copyFrom_81 : decode cX1_copyFrom 81 = .ok (.iconst 0, 1) := by decide +kernel
theorem dX1_copyFrom_82 : decode cX1_copyFrom 82 = .ok (.aload_n 0, 1) := by decide +kernel
theorem dX1_copyFrom_83 : decode cX1_copyFrom 83 = .ok (.getfield 34, 3) := by decide +kernel
theorem dX1_copyFrom_86 : decode cX1_copyFrom 86 = .ok (.iconst 0, 1) := by decide +kernel
theorem dX1_copyFrom_87 : decode cX1_copyFrom 87 = .ok (.bipush 11, 2) := by decide +kernel
theorem dX1_copyFrom_89 : decode cX1_copyFrom 89 = .ok (.invokestatic 52, 3) := by decide +kernel
theorem dX1_copyFrom_92 : decode cX1_copyFrom 92 = .ok (.aload_n 1, 1) := by decide +kernel
theorem dX1_copyFrom_93 : decode cX1_copyFrom 93 = .ok (.getfield 37, 3) := by decide +kernel
theorem dX1_copyFrom_96 : decode cX1_copyFrom 96 = .ok (.iconst 0, 1) := by decide +kernel
theorem dX1_copyFrom_97 : decode cX1_copyFrom 97 = .ok (.aload_n 0, 1) := by decide +kernel
theorem dX1_copyFrom_98 : decode cX1_copyFrom 98 = .ok (.getfield 37, 3) := by decide +kernel
theorem dX1_copyFrom_101 : decode cX1_copyFrom 101 = .ok (.iconst 0, 1) := by decide +kernel
theorem dX1_copyFrom_102 : decode cX1_copyFrom 102 = .ok (.bipush 11, 2) := by decide +kernel
theorem dX1_copyFrom_104 : decode cX1_copyFrom 104 = .ok (.invokestatic 52, 3) := by decide +kernel
theorem dX1_copyFrom_107 : decode cX1_copyFrom 107 = .ok (.aload_n 1, 1) := by decide +kernel
theorem dX1_copyFrom_108 : decode cX1_copyFrom 108 = .ok (.getfield 40, 3) := by decide +kernel
theorem dX1_copyFrom_111 : decode cX1_copyFrom 111 = .ok (.iconst 0, 1) := by decide +kernel
theorem dX1_copyFrom_112 : decode cX1_copyFrom 112 = .ok (.aload_n 0, 1) := by decide +kernel
theorem dX1_copyFrom_113 : decode cX1_copyFrom 113 = .ok (.getfield 40, 3) := by decide +kernel
theorem dX1_copyFrom_116 : decode cX1_copyFrom 116 = .ok (.iconst 0, 1) := by decide +kernel
theorem dX1_copyFrom_117 : decode cX1_copyFrom 117 = .ok (.bipush 11, 2) := by decide +kernel
theorem dX1_copyFrom_119 : decode cX1_copyFrom 119 = .ok (.invokestatic 52, 3) := by decide +kernel
theorem dX1_copyFrom_122 : decode cX1_copyFrom 122 = .ok (.aload_n 1, 1) := by decide +kernel
theorem dX1_copyFrom_123 : decode cX1_copyFrom 123 = .ok (.getfield 43, 3) := by decide +kernel
theorem dX1_copyFrom_126 : decode cX1_copyFrom 126 = .ok (.iconst 0, 1) := by decide +kernel
theorem dX1_copyFrom_127 : decode cX1_copyFrom 127 = .ok (.aload_n 0, 1) := by decide +kernel
theorem dX1_copyFrom_128 : decode cX1_copyFrom 128 = .ok (.getfield 43, 3) := by decide +kernel
theorem dX1_copyFrom_131 : decode cX1_copyFrom 131 = .ok (.iconst 0, 1) := by decide +kernel
theorem dX1_copyFrom_132 : decode cX1_copyFrom 132 = .ok (.bipush 11, 2) := by decide +kernel
theorem dX1_copyFrom_134 : decode cX1_copyFrom 134 = .ok (.invokestatic 52, 3) := by decide +kernel
theorem dX1_copyFrom_137 : decode cX1_copyFrom 137 = .ok (.aload_n 1, 1) := by decide +kernel
theorem dX1_copyFrom_138 : decode cX1_copyFrom 138 = .ok (.getfield 46, 3) := by decide +kernel
theorem dX1_copyFrom_141 : decode cX1_copyFrom 141 = .ok (.iconst 0, 1) := by decide +kernel
theorem dX1_copyFrom_142 : decode cX1_copyFrom 142 = .ok (.aload_n 0, 1) := by decide +kernel
theorem dX1_copyFrom_143 : decode cX1_copyFrom 143 = .ok (.getfield 46, 3) := by decide +kernel
theorem dX1_copyFrom_146 : decode cX1_copyFrom 146 = .ok (.iconst 0, 1) := by decide +kernel
theorem dX1_copyFrom_147 : decode cX1_copyFrom 147 = .ok (.bipush 16, 2) := by decide +kernel
theorem dX1_copyFrom_149 : decode cX1_copyFrom 149 = .ok (.invokestatic 52, 3) := by decide +kernel
theorem dX1_copyFrom_152 : decode cX1_copyFrom 152 = .ok (.return_, 1) := by decide +kernel
theorem dX1_join_0 : decode cX1_join 0 = .ok (.aload_n 0, 1) := by decide +kernel
theorem dX1_join_1 : decode cX1_join 1 = .ok (.getfield 21, 3) := by decide +kernel
theorem dX1_join_4 : decode cX1_join 4 = .ok (.bipush 11, 2) := by decide +kernel
theorem dX1_join_6 : decode cX1_join 6 = .ok (.if_icmp .lt 5, 3) := by decide +kernel
theorem dX1_join_9 : decode cX1_join 9 = .ok (.iconst (-1), 1) := by decide +kernel
theorem dX1_join_10 : decode cX1_join 10 = .ok (.ireturn, 1) := by decide +kernel
theorem dX1_join_11 : decode cX1_join 11 = .ok (.aload_n 0, 1) := by decide +kernel
theorem dX1_join_12 : decode cX1_join 12 = .ok (.getfield 21, 3) := by decide +kernel
theorem dX1_join_15 : decode cX1_join 15 = .ok (.istore 6, 2) := by decide +kernel
theorem dX1_join_17 : decode cX1_join 17 = .ok (.aload_n 0, 1) := by decide +kernel
theorem dX1_join_18 : decode cX1_join 18 = .ok (.dup, 1) := by decide +kernel
theorem dX1_join_19 : decode cX1_join 19 = .ok (.getfield 21, 3) := by decide +kernel
theorem dX1_join_22 : decode cX1_join 22 = .ok (.iconst 1, 1) := by decide +kernel
theorem dX1_join_23 : decode cX1_join 23 = .ok (.iadd, 1) := by decide +kernel
theorem dX1_join_24 : decode cX1_join 24 = .ok (.putfield 21, 3) := by decide +kernel
theorem dX1_join_27 : decode cX1_join 27 = .ok (.aload_n 0, 1) := by decide +kernel
theorem dX1_join_28 : decode cX1_join 28 = .ok (.getfield 24, 3) := by decide +kernel
theorem dX1_join_31 : decode cX1_join 31 = .ok (.iload 6, 2) := by decide +kernel
theorem dX1_join_33 : decode cX1_join 33 = .ok (.iload_n 1, 1) := by decide +kernel
theorem dX1_join_34 : decode cX1_join 34 = .ok (.iastore, 1) := by decide +kernel
theorem dX1_join_35 : decode cX1_join 35 = .ok (.aload_n 0, 1) := by decide +kernel
theorem dX1_join_36 : decode cX1_join 36 = .ok (.getfield 28, 3) := by decide +kernel
theorem dX1_join_39 : decode cX1_join 39 = .ok (.iload 6, 2) := by decide +kernel
theorem dX1_join_41 : decode cX1_join 41 = .ok (.iload_n 2, 1) := by decide +kernel
theorem dX1_join_42 : decode cX1_join 42 = .ok (.iastore, 1) := by decide +kernel
theorem dX1_join_43 : decode cX1_join 43 = .ok (.aload_n 0, 1) := by decide +kernel
theorem dX1_join_44 : decode cX1_join 44 = .ok (.getfield 31, 3) := by decide +kernel
theorem dX1_join_47 : decode cX1_join 47 = .ok (.iload 6, 2) := by decide +kernel
theorem dX1_join_49 : decode cX1_join 49 = .ok (.iload 4, 2) := by decide +kernel
theorem dX1_join_51 : decode cX1_join 51 = .ok (.iastore, 1) := by decide +kernel
theorem dX1_join_52 : decode cX1_join 52 = .ok (.aload_n 0, 1) := by decide +kernel
theorem dX1_join_53 : decode cX1_join 53 = .ok (.getfield 34, 3) := by decide +kernel
theorem dX1_join_56 : decode cX1_join 56 = .ok (.iload 6, 2) := by decide +kernel
theorem dX1_join_58 : decode cX1_join 58 = .ok (.iload_n 3, 1) := by decide +kernel
theorem dX1_join_59 : decode cX1_join 59 = .ok (.iastore, 1) := by decide +kernel
theorem dX1_join_60 : decode cX1_join 60 = .ok (.aload_n 0, 1) := by decide +kernel
theorem dX1_join_61 : decode cX1_join 61 = .ok (.getfield 37, 3) := by decide +kernel
theorem dX1_join_64 : decode cX1_join 64 = .ok (.iload 6, 2) := by decide +kernel
theorem dX1_join_66 : decode cX1_join 66 = .ok (.iload 5, 2) := by decide +kernel
theorem dX1_join_68 : decode cX1_join 68 = .ok (.iastore, 1) := by decide +kernel
theorem dX1_join_69 : decode cX1_join 69 = .ok (.aload_n 0, 1) := by decide +kernel
theorem dX1_join_70 : decode cX1_join 70 = .ok (.getfield 40, 3) := by decide +kernel
theorem dX1_join_73 : decode cX1_join 73 = .ok (.iload 6, 2) := by decide +kernel
theorem dX1_join_75 : decode cX1_join 75 = .ok (.iconst (-1), 1) := by decide +kernel
theorem dX1_join_76 : decode cX1_join 76 = .ok (.iastore, 1) := by decide +kernel
theorem dX1_join_77 : decode cX1_join 77 = .ok (.aload_n 0, 1) := by decide +kernel
theorem dX1_join_78 : decode cX1_join 78 = .ok (.getfield 43, 3) := by decide +kernel
theorem dX1_join_81 : decode cX1_join 81 = .ok (.iload 6, 2) := by decide +kernel
theorem dX1_join_83 : decode cX1_join 83 = .ok (.iconst 1, 1) := by decide +kernel
theorem dX1_join_84 : decode cX1_join 84 = .ok (.iload_n 1, 1) := by decide +kernel
theorem dX1_join_85 : decode cX1_join 85 = .ok (.ishl, 1) := by decide +kernel
theorem dX1_join_86 : decode cX1_join 86 = .ok (.iconst 1, 1) := by decide +kernel
theorem dX1_join_87 : decode cX1_join 87 = .ok (.isub, 1) := by decide +kernel
theorem dX1_join_88 : decode cX1_join 88 = .ok (.iload_n 3, 1) := by decide +kernel
theorem dX1_join_89 : decode cX1_join 89 = .ok (.ishl, 1) := by decide +kernel
theorem dX1_join_90 : decode cX1_join 90 = .ok (.iastore, 1) := by decide +kernel
theorem dX1_join_91 : decode cX1_join 91 = .ok (.iload 6, 2) := by decide +kernel
theorem dX1_join_93 : decode cX1_join 93 = .ok (.ireturn, 1) := by decide +kernel
theorem dX1_takeVerseAway_0 : decode cX1_takeVerseAway 0 = .ok (.iconst 0, 1) := by decide +kernel
theorem dX1_takeVerseAway_1 : decode cX1_takeVerseAway 1 = .ok (.istore_n 2, 1) := by decide +kernel
theorem dX1_takeVerseAway_2 : decode cX1_takeVerseAway 2 = .ok (.iconst 0, 1) := by decide +kernel
theorem dX1_takeVerseAway_3 : decode cX1_takeVerseAway 3 = .ok (.istore_n 3, 1) := by decide +kernel
theorem dX1_takeVerseAway_4 : decode cX1_takeVerseAway 4 = .ok (.iload_n 3, 1) := by decide +kernel
theorem dX1_takeVerseAway_5 : decode cX1_takeVerseAway 5 = .ok (.aload_n 0, 1) := by decide +kernel
theorem dX1_takeVerseAway_6 : decode cX1_takeVerseAway 6 = .ok (.getfield 21, 3) := by decide +kernel
theorem dX1_takeVerseAway_9 : decode cX1_takeVerseAway 9 = .ok (.if_icmp .ge 38, 3) := by decide +kernel
theorem dX1_takeVerseAway_12 : decode cX1_takeVerseAway 12 = .ok (.aload_n 0, 1) := by decide +kernel
theorem dX1_takeVerseAway_13 : decode cX1_takeVerseAway 13 = .ok (.getfield 31, 3) := by decide +kernel
theorem dX1_takeVerseAway_16 : decode cX1_takeVerseAway 16 = .ok (.iload_n 3, 1) := by decide +kernel
theorem dX1_takeVerseAway_17 : decode cX1_takeVerseAway 17 = .ok (.iaload, 1) := by decide +kernel
theorem dX1_takeVerseAway_18 : decode cX1_takeVerseAway 18 = .ok (.iload_n 1, 1) := by decide +kernel
theorem dX1_takeVerseAway_19 : decode cX1_takeVerseAway 19 = .ok (.if_icmp .ne 22, 3) := by decide +kernel
theorem dX1_takeVerseAway_22 : decode cX1_takeVerseAway 22 = .ok (.aload_n 0, 1) := by decide +kernel
theorem dX1_takeVerseAway_23 : decode cX1_takeVerseAway 23 = .ok (.getfield 40, 3) := by decide +kernel
theorem dX1_takeVerseAway_26 : decode cX1_takeVerseAway 26 = .ok (.iload_n 3, 1) := by decide +kernel
theorem dX1_takeVerseAway_27 : decode cX1_takeVerseAway 27 = .ok (.iaload, 1) := by decide +kernel
theorem dX1_takeVerseAway_28 : decode cX1_takeVerseAway 28 = .ok (.bipush (-2), 2) := by decide +kernel
theorem dX1_takeVerseAway_30 : decode cX1_takeVerseAway 30 = .ok (.if_icmp .eq 11, 3) := by decide +kernel
theorem dX1_takeVerseAway_33 : decode cX1_takeVerseAway 33 = .ok (.aload_n 0, 1) := by decide +kernel
theorem dX1_takeVerseAway_34 : decode cX1_takeVerseAway 34 = .ok (.iload_n 3, 1) := by decide +kernel
theorem dX1_takeVerseAway_35 : decode cX1_takeVerseAway 35 = .ok (.invokevirtual 58, 3) := by decide +kernel
theorem dX1_takeVerseAway_38 : decode cX1_takeVerseAway 38 = .ok (.iinc 2 1, 3) := by decide +kernel
theorem dX1_takeVerseAway_41 : decode cX1_takeVerseAway 41 = .ok (.iinc 3 1, 3) := by decide +kernel
theorem dX1_takeVerseAway_44 : decode cX1_takeVerseAway 44 = .ok (.goto (-40), 3) := by decide +kernel
theorem dX1_takeVerseAway_47 : decode cX1_takeVerseAway 47 = .ok (.iload_n 2, 1) := by decide +kernel
theorem dX1_takeVerseAway_48 : decode cX1_takeVerseAway 48 = .ok (.ireturn, 1) := by decide +kernel
theorem dX1_isOnScreen_0 : decode cX1_isOnScreen 0 = .ok (.iload_n 1, 1) := by decide +kernel
theorem dX1_isOnScreen_1 : decode cX1_isOnScreen 1 = .ok (.ifCond .lt 35, 3) := by decide +kernel
theorem dX1_isOnScreen_4 : decode cX1_isOnScreen 4 = .ok (.iload_n 1, 1) := by decide +kernel
theorem dX1_isOnScreen_5 : decode cX1_isOnScreen 5 = .ok (.aload_n 0, 1) := by decide +kernel
theorem dX1_isOnScreen_6 : decode cX1_isOnScreen 6 = .ok (.getfield 21, 3) := by decide +kernel
theorem dX1_isOnScreen_9 : decode cX1_isOnScreen 9 = .ok (.if_icmp .ge 27, 3) := by decide +kernel
theorem dX1_isOnScreen_12 : decode cX1_isOnScreen 12 = .ok (.aload_n 0, 1) := by decide +kernel
theorem dX1_isOnScreen_13 : decode cX1_isOnScreen 13 = .ok (.getfield 40, 3) := by decide +kernel
theorem dX1_isOnScreen_16 : decode cX1_isOnScreen 16 = .ok (.iload_n 1, 1) := by decide +kernel
theorem dX1_isOnScreen_17 : decode cX1_isOnScreen 17 = .ok (.iaload, 1) := by decide +kernel
theorem dX1_isOnScreen_18 : decode cX1_isOnScreen 18 = .ok (.ifCond .lt 18, 3) := by decide +kernel
theorem dX1_isOnScreen_21 : decode cX1_isOnScreen 21 = .ok (.aload_n 0, 1) := by decide +kernel
theorem dX1_isOnScreen_22 : decode cX1_isOnScreen 22 = .ok (.getfield 40, 3) := by decide +kernel
theorem dX1_isOnScreen_25 : decode cX1_isOnScreen 25 = .ok (.iload_n 1, 1) := by decide +kernel
theorem dX1_isOnScreen_26 : decode cX1_isOnScreen 26 = .ok (.iaload, 1) := by decide +kernel
theorem dX1_isOnScreen_27 : decode cX1_isOnScreen 27 = .ok (.bipush 16, 2) := by decide +kernel
theorem dX1_isOnScreen_29 : decode cX1_isOnScreen 29 = .ok (.if_icmp .ge 7, 3) := by decide +kernel
theorem dX1_isOnScreen_32 : decode cX1_isOnScreen 32 = .ok (.iconst 1, 1) := by decide +kernel
theorem dX1_isOnScreen_33 : decode cX1_isOnScreen 33 = .ok (.goto 4, 3) := by decide +kernel
theorem dX1_isOnScreen_36 : decode cX1_isOnScreen 36 = .ok (.iconst 0, 1) := by decide +kernel
theorem dX1_isOnScreen_37 : decode cX1_isOnScreen 37 = .ok (.ireturn, 1) := by decide +kernel
theorem dX1_passBeat_0 : decode cX1_passBeat 0 = .ok (.aload_n 0, 1) := by decide +kernel
theorem dX1_passBeat_1 : decode cX1_passBeat 1 = .ok (.invokevirtual 62, 3) := by decide +kernel
theorem dX1_passBeat_4 : decode cX1_passBeat 4 = .ok (.aload_n 0, 1) := by decide +kernel
theorem dX1_passBeat_5 : decode cX1_passBeat 5 = .ok (.invokevirtual 65, 3) := by decide +kernel
theorem dX1_passBeat_8 : decode cX1_passBeat 8 = .ok (.aload_n 0, 1) := by decide +kernel
theorem dX1_passBeat_9 : decode cX1_passBeat 9 = .ok (.invokevirtual 68, 3) := by decide +kernel
theorem dX1_passBeat_12 : decode cX1_passBeat 12 = .ok (.aload_n 0, 1) := by decide +kernel
theorem dX1_passBeat_13 : decode cX1_passBeat 13 = .ok (.dup, 1) := by decide +kernel
theorem dX1_passBeat_14 : decode cX1_passBeat 14 = .ok (.getfield 9, 3) := by decide +kernel
theorem dX1_passBeat_17 : decode cX1_passBeat 17 = .ok (.iconst 1, 1) := by decide +kernel
theorem dX1_passBeat_18 : decode cX1_passBeat 18 = .ok (.iadd, 1) := by decide +kernel
theorem dX1_passBeat_19 : decode cX1_passBeat 19 = .ok (.putfield 9, 3) := by decide +kernel
theorem dX1_passBeat_22 : decode cX1_passBeat 22 = .ok (.return_, 1) := by decide +kernel
theorem dX1_settle_0 : decode cX1_settle 0 = .ok (.iconst 0, 1) := by decide +kernel
theorem dX1_settle_1 : decode cX1_settle 1 = .ok (.istore_n 1, 1) := by decide +kernel
theorem dX1_settle_2 : decode cX1_settle 2 = .ok (.iload_n 1, 1) := by decide +kernel
theorem dX1_settle_3 : decode cX1_settle 3 = .ok (.sipush 200, 3) := by decide +kernel
theorem dX1_settle_6 : decode cX1_settle 6 = .ok (.if_icmp .ge 22, 3) := by decide +kernel
theorem dX1_settle_9 : decode cX1_settle 9 = .ok (.aload_n 0, 1) := by decide +kernel
theorem dX1_settle_10 : decode cX1_settle 10 = .ok (.invokevirtual 71, 3) := by decide +kernel
theorem dX1_settle_13 : decode cX1_settle 13 = .ok (.ifCond .eq 5, 3) := by decide +kernel
theorem dX1_settle_16 : decode cX1_settle 16 = .ok (.iload_n 1, 1) := by decide +kernel
theorem dX1_settle_17 : decode cX1_settle 17 = .ok (.ireturn, 1) := by decide +kernel
theorem dX1_settle_18 : decode cX1_settle 18 = .ok (.aload_n 0, 1) := by decide +kernel
theorem dX1_settle_19 : decode cX1_settle 19 = .ok (.invokevirtual 75, 3) := by decide +kernel
theorem dX1_settle_22 : decode cX1_settle 22 = .ok (.iinc 1 1, 3) := by decide +kernel
theorem dX1_settle_25 : decode cX1_settle 25 = .ok (.goto (-23), 3) := by decide +kernel
theorem dX1_settle_28 : decode cX1_settle 28 = .ok (.aload_n 0, 1) := by decide +kernel
theorem dX1_settle_29 : decode cX1_settle 29 = .ok (.invokevirtual 71, 3) := by decide +kernel
theorem dX1_settle_32 : decode cX1_settle 32 = .ok (.ifCond .eq 9, 3) := by decide +kernel
theorem dX1_settle_35 : decode cX1_settle 35 = .ok (.sipush 200, 3) := by decide +kernel
theorem dX1_settle_38 : decode cX1_settle 38 = .ok (.goto 4, 3) := by decide +kernel
theorem dX1_settle_41 : decode cX1_settle 41 = .ok (.iconst (-1), 1) := by decide +kernel
theorem dX1_settle_42 : decode cX1_settle 42 = .ok (.ireturn, 1) := by decide +kernel
theorem dX1_letGo_0 : decode cX1_letGo 0 = .ok (.iconst 0, 1) := by decide +kernel
theorem dX1_letGo_1 : decode cX1_letGo 1 = .ok (.istore_n 1, 1) := by decide +kernel
theorem dX1_letGo_2 : decode cX1_letGo 2 = .ok (.iconst 0, 1) := by decide +kernel
theorem dX1_letGo_3 : decode cX1_letGo 3 = .ok (.istore_n 2, 1) := by decide +kernel
theorem dX1_letGo_4 : decode cX1_letGo 4 = .ok (.iload_n 2, 1) := by decide +kernel
theorem dX1_letGo_5 : decode cX1_letGo 5 = .ok (.aload_n 0, 1) := by decide +kernel
theorem dX1_letGo_6 : decode cX1_letGo 6 = .ok (.getfield 21, 3) := by decide +kernel
theorem dX1_letGo_9 : decode cX1_letGo 9 = .ok (.if_icmp .ge 32, 3) := by decide +kernel
theorem dX1_letGo_12 : decode cX1_letGo 12 = .ok (.aload_n 0, 1) := by decide +kernel
theorem dX1_letGo_13 : decode cX1_letGo 13 = .ok (.iload_n 2, 1) := by decide +kernel
theorem dX1_letGo_14 : decode cX1_letGo 14 = .ok (.invokevirtual 78, 3) := by decide +kernel
theorem dX1_letGo_17 : decode cX1_letGo 17 = .ok (.ifCond .eq 18, 3) := by decide +kernel
theorem dX1_letGo_20 : decode cX1_letGo 20 = .ok (.aload_n 0, 1) := by decide +kernel
theorem dX1_letGo_21 : decode cX1_letGo 21 = .ok (.getfield 49, 3) := by decide +kernel
theorem dX1_letGo_24 : decode cX1_letGo 24 = .ok (.iload_n 1, 1) := by decide +kernel
theorem dX1_letGo_25 : decode cX1_letGo 25 = .ok (.aload_n 0, 1) := by decide +kernel
theorem dX1_letGo_26 : decode cX1_letGo 26 = .ok (.iconst 0, 1) := by decide +kernel
theorem dX1_letGo_27 : decode cX1_letGo 27 = .ok (.iload_n 2, 1) := by decide +kernel
theorem dX1_letGo_28 : decode cX1_letGo 28 = .ok (.invokevirtual 82, 3) := by decide +kernel
theorem dX1_letGo_31 : decode cX1_letGo 31 = .ok (.iastore, 1) := by decide +kernel
theorem dX1_letGo_32 : decode cX1_letGo 32 = .ok (.iinc 1 1, 3) := by decide +kernel
theorem dX1_letGo_35 : decode cX1_letGo 35 = .ok (.iinc 2 1, 3) := by decide +kernel
theorem dX1_letGo_38 : decode cX1_letGo 38 = .ok (.goto (-34), 3) := by decide +kernel
theorem dX1_letGo_41 : decode cX1_letGo 41 = .ok (.aload_n 0, 1) := by decide +kernel
theorem dX1_letGo_42 : decode cX1_letGo 42 = .ok (.iload_n 1, 1) := by decide +kernel
theorem dX1_letGo_43 : decode cX1_letGo 43 = .ok (.invokevirtual 86, 3) := by decide +kernel
theorem dX1_letGo_46 : decode cX1_letGo 46 = .ok (.iconst 0, 1) := by decide +kernel
theorem dX1_letGo_47 : decode cX1_letGo 47 = .ok (.istore_n 2, 1) := by decide +kernel
theorem dX1_letGo_48 : decode cX1_letGo 48 = .ok (.iload_n 2, 1) := by decide +kernel
theorem dX1_letGo_49 : decode cX1_letGo 49 = .ok (.iload_n 1, 1) := by decide +kernel
theorem dX1_letGo_50 : decode cX1_letGo 50 = .ok (.if_icmp .ge 57, 3) := by decide +kernel
theorem dX1_letGo_53 : decode cX1_letGo 53 = .ok (.aload_n 0, 1) := by decide +kernel
theorem dX1_letGo_54 : decode cX1_letGo 54 = .ok (.getfield 49, 3) := by decide +kernel
theorem dX1_letGo_57 : decode cX1_letGo 57 = .ok (.iload_n 2, 1) := by decide +kernel
theorem dX1_letGo_58 : decode cX1_letGo 58 = .ok (.iaload, 1) := by decide +kernel
theorem dX1_letGo_59 : decode cX1_letGo 59 = .ok (.invokestatic 89, 3) := by decide +kernel
theorem dX1_letGo_62 : decode cX1_letGo 62 = .ok (.istore_n 3, 1) := by decide +kernel
theorem dX1_letGo_63 : decode cX1_letGo 63 = .ok (.aload_n 0, 1) := by decide +kernel
theorem dX1_letGo_64 : decode cX1_letGo 64 = .ok (.getfield 46, 3) := by decide +kernel
theorem dX1_letGo_67 : decode cX1_letGo 67 = .ok (.iconst 0, 1) := by decide +kernel
theorem dX1_letGo_68 : decode cX1_letGo 68 = .ok (.iaload, 1) := by decide +kernel
theorem dX1_letGo_69 : decode cX1_letGo 69 = .ok (.aload_n 0, 1) := by decide +kernel
theorem dX1_letGo_70 : decode cX1_letGo 70 = .ok (.getfield 43, 3) := by decide +kernel
theorem dX1_letGo_73 : decode cX1_letGo 73 = .ok (.iload_n 3, 1) := by decide +kernel
theorem dX1_letGo_74 : decode cX1_letGo 74 = .ok (.iaload, 1) := by decide +kernel
theorem dX1_letGo_75 : decode cX1_letGo 75 = .ok (.iand, 1) := by decide +kernel
theorem dX1_letGo_76 : decode cX1_letGo 76 = .ok (.ifCond .ne 25, 3) := by decide +kernel
theorem dX1_letGo_79 : decode cX1_letGo 79 = .ok (.aload_n 0, 1) := by decide +kernel
theorem dX1_letGo_80 : decode cX1_letGo 80 = .ok (.getfield 40, 3) := by decide +kernel
theorem dX1_letGo_83 : decode cX1_letGo 83 = .ok (.iload_n 3, 1) := by decide +kernel
theorem dX1_letGo_84 : decode cX1_letGo 84 = .ok (.iconst 0, 1) := by decide +kernel
theorem dX1_letGo_85 : decode cX1_letGo 85 = .ok (.iastore, 1) := by decide +kernel
theorem dX1_letGo_86 : decode cX1_letGo 86 = .ok (.aload_n 0, 1) := by decide +kernel
theorem dX1_letGo_87 : decode cX1_letGo 87 = .ok (.getfield 46, 3) := by decide +kernel
theorem dX1_letGo_90 : decode cX1_letGo 90 = .ok (.iconst 0, 1) := by decide +kernel
theorem dX1_letGo_91 : decode cX1_letGo 91 = .ok (.dup2, 1) := by decide +kernel
theorem dX1_letGo_92 : decode cX1_letGo 92 = .ok (.iaload, 1) := by decide +kernel
theorem dX1_letGo_93 : decode cX1_letGo 93 = .ok (.aload_n 0, 1) := by decide +kernel
theorem dX1_letGo_94 : decode cX1_letGo 94 = .ok (.getfield 43, 3) := by decide +kernel
theorem dX1_letGo_97 : decode cX1_letGo 97 = .ok (.iload_n 3, 1) := by decide +kernel
theorem dX1_letGo_98 : decode cX1_letGo 98 = .ok (.iaload, 1) := by decide +kernel
theorem dX1_letGo_99 : decode cX1_letGo 99 = .ok (.ior, 1) := by decide +kernel
theorem dX1_letGo_100 : decode cX1_letGo 100 = .ok (.iastore, 1) := by decide +kernel
theorem dX1_letGo_101 : decode cX1_letGo 101 = .ok (.iinc 2 1, 3) := by decide +kernel
theorem dX1_letGo_104 : decode cX1_letGo 104 = .ok (.goto (-56), 3) := by decide +kernel
theorem dX1_letGo_107 : decode cX1_letGo 107 = .ok (.return_, 1) := by decide +kernel
theorem dX1_moveLines_0 : decode cX1_moveLines 0 = .ok (.iconst 0, 1) := by decide +kernel
theorem dX1_moveLines_1 : decode cX1_moveLines 1 = .ok (.istore_n 1, 1) := by decide +kernel
theorem dX1_moveLines_2 : decode cX1_moveLines 2 = .ok (.iconst 0, 1) := by decide +kernel
theorem dX1_moveLines_3 : decode cX1_moveLines 3 = .ok (.istore_n 2, 1) := by decide +kernel
theorem dX1_moveLines_4 : decode cX1_moveLines 4 = .ok (.iload_n 2, 1) := by decide +kernel
theorem dX1_moveLines_5 : decode cX1_moveLines 5 = .ok (.aload_n 0, 1) := by decide +kernel
theorem dX1_moveLines_6 : decode cX1_moveLines 6 = .ok (.getfield 21, 3) := by decide +kernel
theorem dX1_moveLines_9 : decode cX1_moveLines 9 = .ok (.if_icmp .ge 37, 3) := by decide +kernel
theorem dX1_moveLines_12 : decode cX1_moveLines 12 = .ok (.aload_n 0, 1) := by decide +kernel
theorem dX1_moveLines_13 : decode cX1_moveLines 13 = .ok (.iload_n 2, 1) := by decide +kernel
theorem dX1_moveLines_14 : decode cX1_moveLines 14 = .ok (.invokevirtual 93, 3) := by decide +kernel
theorem dX1_moveLines_17 : decode cX1_moveLines 17 = .ok (.ifCond .eq 23, 3) := by decide +kernel
theorem dX1_moveLines_20 : decode cX1_moveLines 20 = .ok (.aload_n 0, 1) := by decide +kernel
theorem dX1_moveLines_21 : decode cX1_moveLines 21 = .ok (.getfield 49, 3) := by decide +kernel
theorem dX1_moveLines_24 : decode cX1_moveLines 24 = .ok (.iload_n 1, 1) := by decide +kernel
theorem dX1_moveLines_25 : decode cX1_moveLines 25 = .ok (.aload_n 0, 1) := by decide +kernel
theorem dX1_moveLines_26 : decode cX1_moveLines 26 = .ok (.aload_n 0, 1) := by decide +kernel
theorem dX1_moveLines_27 : decode cX1_moveLines 27 = .ok (.getfield 40, 3) := by decide +kernel
theorem dX1_moveLines_30 : decode cX1_moveLines 30 = .ok (.iload_n 2, 1) := by decide +kernel
theorem dX1_moveLines_31 : decode cX1_moveLines 31 = .ok (.iaload, 1) := by decide +kernel
theorem dX1_moveLines_32 : decode cX1_moveLines 32 = .ok (.iload_n 2, 1) := by decide +kernel
theorem dX1_moveLines_33 : decode cX1_moveLines 33 = .ok (.invokevirtual 82, 3) := by decide +kernel
theorem dX1_moveLines_36 : decode cX1_moveLines 36 = .ok (.iastore, 1) := by decide +kernel
theorem dX1_moveLines_37 : decode cX1_moveLines 37 = .ok (.iinc 1 1, 3) := by decide +kernel
theorem dX1_moveLines_40 : decode cX1_moveLines 40 = .ok (.iinc 2 1, 3) := by decide +kernel
theorem dX1_moveLines_43 : decode cX1_moveLines 43 = .ok (.goto (-39), 3) := by decide +kernel
theorem dX1_moveLines_46 : decode cX1_moveLines 46 = .ok (.aload_n 0, 1) := by decide +kernel
theorem dX1_moveLines_47 : decode cX1_moveLines 47 = .ok (.iload_n 1, 1) := by decide +kernel
theorem dX1_moveLines_48 : decode cX1_moveLines 48 = .ok (.invokevirtual 86, 3) := by decide +kernel
theorem dX1_moveLines_51 : decode cX1_moveLines 51 = .ok (.iconst 0, 1) := by decide +kernel
theorem dX1_moveLines_52 : decode cX1_moveLines 52 = .ok (.istore_n 2, 1) := by decide +kernel
theorem dX1_moveLines_53 : decode cX1_moveLines 53 = .ok (.iload_n 2, 1) := by decide +kernel
theorem dX1_moveLines_54 : decode cX1_moveLines 54 = .ok (.iload_n 1, 1) := by decide +kernel
theorem dX1_moveLines_55 : decode cX1_moveLines 55 = .ok (.if_icmp .ge 69, 3) := by decide +kernel
theorem dX1_moveLines_58 : decode cX1_moveLines 58 = .ok (.aload_n 0, 1) := by decide +kernel
theorem dX1_moveLines_59 : decode cX1_moveLines 59 = .ok (.getfield 49, 3) := by decide +kernel
theorem dX1_moveLines_62 : decode cX1_moveLines 62 = .ok (.iload_n 2, 1) := by decide +kernel
theorem dX1_moveLines_63 : decode cX1_moveLines 63 = .ok (.iaload, 1) := by decide +kernel
theorem dX1_moveLines_64 : decode cX1_moveLines 64 = .ok (.invokestatic 89, 3) := by decide +kernel
theorem dX1_moveLines_67 : decode cX1_moveLines 67 = .ok (.istore_n 3, 1) := by decide +kernel
theorem dX1_moveLines_68 : decode cX1_moveLines 68 = .ok (.iconst 1, 1) := by decide +kernel
theorem dX1_moveLines_69 : decode cX1_moveLines 69 = .ok (.aload_n 0, 1) := by decide +kernel
theorem dX1_moveLines_70 : decode cX1_moveLines 70 = .ok (.getfield 28, 3) := by decide +kernel
theorem dX1_moveLines_73 : decode cX1_moveLines 73 = .ok (.iload_n 3, 1) := by decide +kernel
theorem dX1_moveLines_74 : decode cX1_moveLines 74 = .ok (.iaload, 1) := by decide +kernel
theorem dX1_moveLines_75 : decode cX1_moveLines 75 = .ok (.iconst 4, 1) := by decide +kernel
theorem dX1_moveLines_76 : decode cX1_moveLines 76 = .ok (.idiv, 1) := by decide +kernel
theorem dX1_moveLines_77 : decode cX1_moveLines 77 = .ok (.iadd, 1) := by decide +kernel
theorem dX1_moveLines_78 : decode cX1_moveLines 78 = .ok (.istore 4, 2) := by decide +kernel
theorem dX1_moveLines_80 : decode cX1_moveLines 80 = .ok (.iconst 0, 1) := by decide +kernel
theorem dX1_moveLines_81 : decode cX1_moveLines 81 = .ok (.istore 5, 2) := by decide +kernel
theorem dX1_moveLines_83 : decode cX1_moveLines 83 = .ok (.iload 5, 2) := by decide +kernel
theorem dX1_moveLines_85 : decode cX1_moveLines 85 = .ok (.iload 4, 2) := by decide +kernel
theorem dX1_moveLines_87 : decode cX1_moveLines 87 = .ok (.if_icmp .ge 31, 3) := by decide +kernel
theorem dX1_moveLines_90 : decode cX1_moveLines 90 = .ok (.aload_n 0, 1) := by decide +kernel
theorem dX1_moveLines_91 : decode cX1_moveLines 91 = .ok (.iload_n 3, 1) := by decide +kernel
theorem dX1_moveLines_92 : decode cX1_moveLines 92 = .ok (.invokevirtual 96, 3) := by decide +kernel
theorem dX1_moveLines_95 : decode cX1_moveLines 95 = .ok (.istore 6, 2) := by decide +kernel
theorem dX1_moveLines_97 : decode cX1_moveLines 97 = .ok (.iload 6, 2) := by decide +kernel
theorem dX1_moveLines_99 : decode cX1_moveLines 99 = .ok (.ifCond .ne 6, 3) := by decide +kernel
theorem dX1_moveLines_102 : decode cX1_moveLines 102 = .ok (.goto 16, 3) := by decide +kernel
theorem dX1_moveLines_105 : decode cX1_moveLines 105 = .ok (.aload_n 0, 1) := by decide +kernel
theorem dX1_moveLines_106 : decode cX1_moveLines 106 = .ok (.iload_n 3, 1) := by decide +kernel
theorem dX1_moveLines_107 : decode cX1_moveLines 107 = .ok (.iload 6, 2) := by decide +kernel
theorem dX1_moveLines_109 : decode cX1_moveLines 109 = .ok (.invokevirtual 99, 3) := by decide +kernel
theorem dX1_moveLines_112 : decode cX1_moveLines 112 = .ok (.iinc 5 1, 3) := by decide +kernel
theorem dX1_moveLines_115 : decode cX1_moveLines 115 = .ok (.goto (-32), 3) := by decide +kernel
theorem dX1_moveLines_118 : decode cX1_moveLines 118 = .ok (.iinc 2 1, 3) := by decide +kernel
theorem dX1_moveLines_121 : decode cX1_moveLines 121 = .ok (.goto (-68), 3) := by decide +kernel
theorem dX1_moveLines_124 : decode cX1_moveLines 124 = .ok (.return_, 1) := by decide +kernel
theorem dX1_breakLines_0 : decode cX1_breakLines 0 = .ok (.iconst 0, 1) := by decide +kernel
theorem dX1_breakLines_1 : decode cX1_breakLines 1 = .ok (.istore_n 1, 1) := by decide +kernel
theorem dX1_breakLines_2 : decode cX1_breakLines 2 = .ok (.iconst 0, 1) := by decide +kernel
theorem dX1_breakLines_3 : decode cX1_breakLines 3 = .ok (.istore_n 2, 1) := by decide +kernel
theorem dX1_breakLines_4 : decode cX1_breakLines 4 = .ok (.iload_n 2, 1) := by decide +kernel
theorem dX1_breakLines_5 : decode cX1_breakLines 5 = .ok (.aload_n 0, 1) := by decide +kernel
theorem dX1_breakLines_6 : decode cX1_breakLines 6 = .ok (.getfield 21, 3) := by decide +kernel
theorem dX1_breakLines_9 : decode cX1_breakLines 9 = .ok (.if_icmp .ge 28, 3) := by decide +kernel
theorem dX1_breakLines_12 : decode cX1_breakLines 12 = .ok (.aload_n 0, 1) := by decide +kernel
theorem dX1_breakLines_13 : decode cX1_breakLines 13 = .ok (.iload_n 2, 1) := by decide +kernel
theorem dX1_breakLines_14 : decode cX1_breakLines 14 = .ok (.invokevirtual 103, 3) := by decide +kernel
theorem dX1_breakLines_17 : decode cX1_breakLines 17 = .ok (.aload_n 0, 1) := by decide +kernel
theorem dX1_breakLines_18 : decode cX1_breakLines 18 = .ok (.iload_n 2, 1) := by decide +kernel
theorem dX1_breakLines_19 : decode cX1_breakLines 19 = .ok (.invokevirtual 106, 3) := by decide +kernel
theorem dX1_breakLines_22 : decode cX1_breakLines 22 = .ok (.if_icmp .le 9, 3) := by decide +kernel
theorem dX1_breakLines_25 : decode cX1_breakLines 25 = .ok (.iload_n 1, 1) := by decide +kernel
theorem dX1_breakLines_26 : decode cX1_breakLines 26 = .ok (.iconst 1, 1) := by decide +kernel
theorem dX1_breakLines_27 : decode cX1_breakLines 27 = .ok (.iload_n 2, 1) := by decide +kernel
theorem dX1_breakLines_28 : decode cX1_breakLines 28 = .ok (.ishl, 1) := by decide +kernel
theorem dX1_breakLines_29 : decode cX1_breakLines 29 = .ok (.ior, 1) := by decide +kernel
theorem dX1_breakLines_30 : decode cX1_breakLines 30 = .ok (.istore_n 1, 1) := by decide +kernel
theorem dX1_breakLines_31 : decode cX1_breakLines 31 = .ok (.iinc 2 1, 3) := by decide +kernel
theorem dX1_breakLines_34 : decode cX1_breakLines 34 = .ok (.goto (-30), 3) := by decide +kernel
theorem dX1_breakLines_37 : decode cX1_breakLines 37 = .ok (.iconst 0, 1) := by decide +kernel
theorem dX1_breakLines_38 : decode cX1_breakLines 38 = .ok (.istore_n 2, 1) := by decide +kernel
theorem dX1_breakLines_39 : decode cX1_breakLines 39 = .ok (.iload_n 2, 1) := by decide +kernel
theorem dX1_breakLines_40 : decode cX1_breakLines 40 = .ok (.aload_n 0, 1) := by decide +kernel
theorem dX1_breakLines_41 : decode cX1_breakLines 41 = .ok (.getfield 21, 3) := by decide +kernel
theorem dX1_breakLines_44 : decode cX1_breakLines 44 = .ok (.if_icmp .ge 32, 3) := by decide +kernel
theorem dX1_breakLines_47 : decode cX1_breakLines 47 = .ok (.iload_n 1, 1) := by decide +kernel
theorem dX1_breakLines_48 : decode cX1_breakLines 48 = .ok (.iload_n 2, 1) := by decide +kernel
theorem dX1_breakLines_49 : decode cX1_breakLines 49 = .ok (.ishr, 1) := by decide +kernel
theorem dX1_breakLines_50 : decode cX1_breakLines 50 = .ok (.iconst 1, 1) := by decide +kernel
theorem dX1_breakLines_51 : decode cX1_breakLines 51 = .ok (.iand, 1) := by decide +kernel
theorem dX1_breakLines_52 : decode cX1_breakLines 52 = .ok (.ifCond .eq 18, 3) := by decide +kernel
theorem dX1_breakLines_55 : decode cX1_breakLines 55 = .ok (.aload_n 0, 1) := by decide +kernel
theorem dX1_breakLines_56 : decode cX1_breakLines 56 = .ok (.iload_n 2, 1) := by decide +kernel
theorem dX1_breakLines_57 : decode cX1_breakLines 57 = .ok (.invokevirtual 58, 3) := by decide +kernel
theorem dX1_breakLines_60 : decode cX1_breakLines 60 = .ok (.aload_n 0, 1) := by decide +kernel
theorem dX1_breakLines_61 : decode cX1_breakLines 61 = .ok (.dup, 1) := by decide +kernel
theorem dX1_breakLines_62 : decode cX1_breakLines 62 = .ok (.getfield 18, 3) := by decide +kernel
theorem dX1_breakLines_65 : decode cX1_breakLines 65 = .ok (.iconst 1, 1) := by decide +kernel
theorem dX1_breakLines_66 : decode cX1_breakLines 66 = .ok (.iadd, 1) := by decide +kernel
theorem dX1_breakLines_67 : decode cX1_breakLines 67 = .ok (.putfield 18, 3) := by decide +kernel
theorem dX1_breakLines_70 : decode cX1_breakLines 70 = .ok (.iinc 2 1, 3) := by decide +kernel
theorem dX1_breakLines_73 : decode cX1_breakLines 73 = .ok (.goto (-34), 3) := by decide +kernel
theorem dX1_breakLines_76 : decode cX1_breakLines 76 = .ok (.return_, 1) := by decide +kernel
theorem dX1_isDue_0 : decode cX1_isDue 0 = .ok (.aload_n 0, 1) := by decide +kernel
theorem dX1_isDue_1 : decode cX1_isDue 1 = .ok (.getfield 40, 3) := by decide +kernel
theorem dX1_isDue_4 : decode cX1_isDue 4 = .ok (.iload_n 1, 1) := by decide +kernel
theorem dX1_isDue_5 : decode cX1_isDue 5 = .ok (.iaload, 1) := by decide +kernel
theorem dX1_isDue_6 : decode cX1_isDue 6 = .ok (.iconst (-1), 1) := by decide +kernel
theorem dX1_isDue_7 : decode cX1_isDue 7 = .ok (.if_icmp .ne 20, 3) := by decide +kernel
theorem dX1_isDue_10 : decode cX1_isDue 10 = .ok (.aload_n 0, 1) := by decide +kernel
theorem dX1_isDue_11 : decode cX1_isDue 11 = .ok (.getfield 37, 3) := by decide +kernel
theorem dX1_isDue_14 : decode cX1_isDue 14 = .ok (.iload_n 1, 1) := by decide +kernel
theorem dX1_isDue_15 : decode cX1_isDue 15 = .ok (.iaload, 1) := by decide +kernel
theorem dX1_isDue_16 : decode cX1_isDue 16 = .ok (.aload_n 0, 1) := by decide +kernel
theorem dX1_isDue_17 : decode cX1_isDue 17 = .ok (.getfield 9, 3) := by decide +kernel
theorem dX1_isDue_20 : decode cX1_isDue 20 = .ok (.if_icmp .gt 7, 3) := by decide +kernel
theorem dX1_isDue_23 : decode cX1_isDue 23 = .ok (.iconst 1, 1) := by decide +kernel
theorem dX1_isDue_24 : decode cX1_isDue 24 = .ok (.goto 4, 3) := by decide +kernel
theorem dX1_isDue_27 : decode cX1_isDue 27 = .ok (.iconst 0, 1) := by decide +kernel
theorem dX1_isDue_28 : decode cX1_isDue 28 = .ok (.ireturn, 1) := by decide +kernel
theorem dX1_keyOf_0 : decode cX1_keyOf 0 = .ok (.iload_n 1, 1) := by decide +kernel
theorem dX1_keyOf_1 : decode cX1_keyOf 1 = .ok (.bipush 10, 2) := by decide +kernel
theorem dX1_keyOf_3 : decode cX1_keyOf 3 = .ok (.imul, 1) := by decide +kernel
theorem dX1_keyOf_4 : decode cX1_keyOf 4 = .ok (.aload_n 0, 1) := by decide +kernel
theorem dX1_keyOf_5 : decode cX1_keyOf 5 = .ok (.getfield 28, 3) := by decide +kernel
theorem dX1_keyOf_8 : decode cX1_keyOf 8 = .ok (.iload_n 2, 1) := by decide +kernel
theorem dX1_keyOf_9 : decode cX1_keyOf 9 = .ok (.iaload, 1) := by decide +kernel
theorem dX1_keyOf_10 : decode cX1_keyOf 10 = .ok (.iadd, 1) := by decide +kernel
theorem dX1_keyOf_11 : decode cX1_keyOf 11 = .ok (.bipush 16, 2) := by decide +kernel
theorem dX1_keyOf_13 : decode cX1_keyOf 13 = .ok (.imul, 1) := by decide +kernel
theorem dX1_keyOf_14 : decode cX1_keyOf 14 = .ok (.bipush 10, 2) := by decide +kernel
theorem dX1_keyOf_16 : decode cX1_keyOf 16 = .ok (.iload_n 2, 1) := by decide +kernel
theorem dX1_keyOf_17 : decode cX1_keyOf 17 = .ok (.isub, 1) := by decide +kernel
theorem dX1_keyOf_18 : decode cX1_keyOf 18 = .ok (.iadd, 1) := by decide +kernel
theorem dX1_keyOf_19 : decode cX1_keyOf 19 = .ok (.ireturn, 1) := by decide +kernel
theorem dX1_numberOf_0 : decode cX1_numberOf 0 = .ok (.iconst 0, 1) := by decide +kernel
theorem dX1_numberOf_1 : decode cX1_numberOf 1 = .ok (.bipush 10, 2) := by decide +kernel
theorem dX1_numberOf_3 : decode cX1_numberOf 3 = .ok (.iload_n 0, 1) := by decide +kernel
theorem dX1_numberOf_4 : decode cX1_numberOf 4 = .ok (.bipush 15, 2) := by decide +kernel
theorem dX1_numberOf_6 : decode cX1_numberOf 6 = .ok (.iand, 1) := by decide +kernel
theorem dX1_numberOf_7 : decode cX1_numberOf 7 = .ok (.isub, 1) := by decide +kernel
theorem dX1_numberOf_8 : decode cX1_numberOf 8 = .ok (.invokestatic 109, 3) := by decide +kernel
theorem dX1_numberOf_11 : decode cX1_numberOf 11 = .ok (.ireturn, 1) := by decide +kernel
theorem dX1_sortKeys_0 : decode cX1_sortKeys 0 = .ok (.iconst 1, 1) := by decide +kernel
theorem dX1_sortKeys_1 : decode cX1_sortKeys 1 = .ok (.istore_n 2, 1) := by decide +kernel
theorem dX1_sortKeys_2 : decode cX1_sortKeys 2 = .ok (.iload_n 2, 1) := by decide +kernel
theorem dX1_sortKeys_3 : decode cX1_sortKeys 3 = .ok (.iload_n 1, 1) := by decide +kernel
theorem dX1_sortKeys_4 : decode cX1_sortKeys 4 = .ok (.if_icmp .ge 67, 3) := by decide +kernel
theorem dX1_sortKeys_7 : decode cX1_sortKeys 7 = .ok (.aload_n 0, 1) := by decide +kernel
theorem dX1_sortKeys_8 : decode cX1_sortKeys 8 = .ok (.getfield 49, 3) := by decide +kernel
theorem dX1_sortKeys_11 : decode cX1_sortKeys 11 = .ok (.iload_n 2, 1) := by decide +kernel
theorem dX1_sortKeys_12 : decode cX1_sortKeys 12 = .ok (.iaload, 1) := by decide +kernel
theorem dX1_sortKeys_13 : decode cX1_sortKeys 13 = .ok (.istore_n 3, 1) := by decide +kernel
theorem dX1_sortKeys_14 : decode cX1_sortKeys 14 = .ok (.iload_n 2, 1) := by decide +kernel
theorem dX1_sortKeys_15 : decode cX1_sortKeys 15 = .ok (.istore 4, 2) := by decide +kernel
theorem dX1_sortKeys_17 : decode cX1_sortKeys 17 = .ok (.iload 4, 2) := by decide +kernel
theorem dX1_sortKeys_19 : decode cX1_sortKeys 19 = .ok (.ifCond .le 38, 3) := by decide +kernel
theorem dX1_sortKeys_22 : decode cX1_sortKeys 22 = .ok (.aload_n 0, 1) := by decide +kernel
theorem dX1_sortKeys_23 : decode cX1_sortKeys 23 = .ok (.getfield 49, 3) := by decide +kernel
theorem dX1_sortKeys_26 : decode cX1_sortKeys 26 = .ok (.iload 4, 2) := by decide +kernel
theorem dX1_sortKeys_28 : decode cX1_sortKeys 28 = .ok (.iconst 1, 1) := by decide +kernel
theorem dX1_sortKeys_29 : decode cX1_sortKeys 29 = .ok (.isub, 1) := by decide +kernel
theorem dX1_sortKeys_30 : decode cX1_sortKeys 30 = .ok (.iaload, 1) := by decide +kernel
theorem dX1_sortKeys_31 : decode cX1_sortKeys 31 = .ok (.iload_n 3, 1) := by decide +kernel
theorem dX1_sortKeys_32 : decode cX1_sortKeys 32 = .ok (.if_icmp .ge 25, 3) := by decide +kernel
theorem dX1_sortKeys_35 : decode cX1_sortKeys 35 = .ok (.aload_n 0, 1) := by decide +kernel
theorem dX1_sortKeys_36 : decode cX1_sortKeys 36 = .ok (.getfield 49, 3) := by decide +kernel
theorem dX1_sortKeys_39 : decode cX1_sortKeys 39 = .ok (.iload 4, 2) := by decide +kernel
theorem dX1_sortKeys_41 : decode cX1_sortKeys 41 = .ok (.aload_n 0, 1) := by decide +kernel
theorem dX1_sortKeys_42 : decode cX1_sortKeys 42 = .ok (.getfield 49, 3) := by decide +kernel
theorem dX1_sortKeys_45 : decode cX1_sortKeys 45 = .ok (.iload 4, 2) := by decide +kernel
theorem dX1_sortKeys_47 : decode cX1_sortKeys 47 = .ok (.iconst 1, 1) := by decide +kernel
theorem dX1_sortKeys_48 : decode cX1_sortKeys 48 = .ok (.isub, 1) := by decide +kernel
theorem dX1_sortKeys_49 : decode cX1_sortKeys 49 = .ok (.iaload, 1) := by decide +kernel
theorem dX1_sortKeys_50 : decode cX1_sortKeys 50 = .ok (.iastore, 1) := by decide +kernel
theorem dX1_sortKeys_51 : decode cX1_sortKeys 51 = .ok (.iinc 4 (-1), 3) := by decide +kernel
theorem dX1_sortKeys_54 : decode cX1_sortKeys 54 = .ok (.goto (-37), 3) := by decide +kernel
theorem dX1_sortKeys_57 : decode cX1_sortKeys 57 = .ok (.aload_n 0, 1) := by decide +kernel
theorem dX1_sortKeys_58 : decode cX1_sortKeys 58 = .ok (.getfield 49, 3) := by decide +kernel
theorem dX1_sortKeys_61 : decode cX1_sortKeys 61 = .ok (.iload 4, 2) := by decide +kernel
theorem dX1_sortKeys_63 : decode cX1_sortKeys 63 = .ok (.iload_n 3, 1) := by decide +kernel
theorem dX1_sortKeys_64 : decode cX1_sortKeys 64 = .ok (.iastore, 1) := by decide +kernel
theorem dX1_sortKeys_65 : decode cX1_sortKeys 65 = .ok (.iinc 2 1, 3) := by decide +kernel
theorem dX1_sortKeys_68 : decode cX1_sortKeys 68 = .ok (.goto (-66), 3) := by decide +kernel
theorem dX1_sortKeys_71 : decode cX1_sortKeys 71 = .ok (.return_, 1) := by decide +kernel
theorem dX1_stepOf_0 : decode cX1_stepOf 0 = .ok (.aload_n 0, 1) := by decide +kernel
theorem dX1_stepOf_1 : decode cX1_stepOf 1 = .ok (.getfield 40, 3) := by decide +kernel
theorem dX1_stepOf_4 : decode cX1_stepOf 4 = .ok (.iload_n 1, 1) := by decide +kernel
theorem dX1_stepOf_5 : decode cX1_stepOf 5 = .ok (.iaload, 1) := by decide +kernel
theorem dX1_stepOf_6 : decode cX1_stepOf 6 = .ok (.istore_n 2, 1) := by decide +kernel
theorem dX1_stepOf_7 : decode cX1_stepOf 7 = .ok (.iload_n 2, 1) := by decide +kernel
theorem dX1_stepOf_8 : decode cX1_stepOf 8 = .ok (.ifCond .lt 9, 3) := by decide +kernel
theorem dX1_stepOf_11 : decode cX1_stepOf 11 = .ok (.iload_n 2, 1) := by decide +kernel
theorem dX1_stepOf_12 : decode cX1_stepOf 12 = .ok (.bipush 15, 2) := by decide +kernel
theorem dX1_stepOf_14 : decode cX1_stepOf 14 = .ok (.if_icmp .lt 5, 3) := by decide +kernel
theorem dX1_stepOf_17 : decode cX1_stepOf 17 = .ok (.iconst 0, 1) := by decide +kernel
theorem dX1_stepOf_18 : decode cX1_stepOf 18 = .ok (.ireturn, 1) := by decide +kernel
theorem dX1_stepOf_19 : decode cX1_stepOf 19 = .ok (.aload_n 0, 1) := by decide +kernel
theorem dX1_stepOf_20 : decode cX1_stepOf 20 = .ok (.getfield 46, 3) := by decide +kernel
theorem dX1_stepOf_23 : decode cX1_stepOf 23 = .ok (.iload_n 2, 1) := by decide +kernel
theorem dX1_stepOf_24 : decode cX1_stepOf 24 = .ok (.iconst 1, 1) := by decide +kernel
theorem dX1_stepOf_25 : decode cX1_stepOf 25 = .ok (.iadd, 1) := by decide +kernel
theorem dX1_stepOf_26 : decode cX1_stepOf 26 = .ok (.iaload, 1) := by decide +kernel
theorem dX1_stepOf_27 : decode cX1_stepOf 27 = .ok (.aload_n 0, 1) := by decide +kernel
theorem dX1_stepOf_28 : decode cX1_stepOf 28 = .ok (.getfield 43, 3) := by decide +kernel
theorem dX1_stepOf_31 : decode cX1_stepOf 31 = .ok (.iload_n 1, 1) := by decide +kernel
theorem dX1_stepOf_32 : decode cX1_stepOf 32 = .ok (.iaload, 1) := by decide +kernel
theorem dX1_stepOf_33 : decode cX1_stepOf 33 = .ok (.iand, 1) := by decide +kernel
theorem dX1_stepOf_34 : decode cX1_stepOf 34 = .ok (.istore_n 3, 1) := by decide +kernel
theorem dX1_stepOf_35 : decode cX1_stepOf 35 = .ok (.iload_n 3, 1) := by decide +kernel
theorem dX1_stepOf_36 : decode cX1_stepOf 36 = .ok (.ifCond .ne 5, 3) := by decide +kernel
theorem dX1_stepOf_39 : decode cX1_stepOf 39 = .ok (.iconst 1, 1) := by decide +kernel
theorem dX1_stepOf_40 : decode cX1_stepOf 40 = .ok (.ireturn, 1) := by decide +kernel
theorem dX1_stepOf_41 : decode cX1_stepOf 41 = .ok (.iconst 2, 1) := by decide +kernel
theorem dX1_stepOf_42 : decode cX1_stepOf 42 = .ok (.aload_n 0, 1) := by decide +kernel
theorem dX1_stepOf_43 : decode cX1_stepOf 43 = .ok (.getfield 34, 3) := by decide +kernel
theorem dX1_stepOf_46 : decode cX1_stepOf 46 = .ok (.iload_n 1, 1) := by decide +kernel
theorem dX1_stepOf_47 : decode cX1_stepOf 47 = .ok (.iaload, 1) := by decide +kernel
theorem dX1_stepOf_48 : decode cX1_stepOf 48 = .ok (.imul, 1) := by decide +kernel
theorem dX1_stepOf_49 : decode cX1_stepOf 49 = .ok (.aload_n 0, 1) := by decide +kernel
theorem dX1_stepOf_50 : decode cX1_stepOf 50 = .ok (.getfield 24, 3) := by decide +kernel
theorem dX1_stepOf_53 : decode cX1_stepOf 53 = .ok (.iload_n 1, 1) := by decide +kernel
theorem dX1_stepOf_54 : decode cX1_stepOf 54 = .ok (.iaload, 1) := by decide +kernel
theorem dX1_stepOf_55 : decode cX1_stepOf 55 = .ok (.iadd, 1) := by decide +kernel
theorem dX1_stepOf_56 : decode cX1_stepOf 56 = .ok (.iconst 1, 1) := by decide +kernel
theorem dX1_stepOf_57 : decode cX1_stepOf 57 = .ok (.isub, 1) := by decide +kernel
theorem dX1_stepOf_58 : decode cX1_stepOf 58 = .ok (.istore 4, 2) := by decide +kernel
theorem dX1_stepOf_60 : decode cX1_stepOf 60 = .ok (.iconst 2, 1) := by decide +kernel
theorem dX1_stepOf_61 : decode cX1_stepOf 61 = .ok (.iload 4, 2) := by decide +kernel
theorem dX1_stepOf_63 : decode cX1_stepOf 63 = .ok (.iconst 2, 1) := by decide +kernel
theorem dX1_stepOf_64 : decode cX1_stepOf 64 = .ok (.idiv, 1) := by decide +kernel
theorem dX1_stepOf_65 : decode cX1_stepOf 65 = .ok (.ishl, 1) := by decide +kernel
theorem dX1_stepOf_66 : decode cX1_stepOf 66 = .ok (.iconst 1, 1) := by decide +kernel
theorem dX1_stepOf_67 : decode cX1_stepOf 67 = .ok (.isub, 1) := by decide +kernel
theorem dX1_stepOf_68 : decode cX1_stepOf 68 = .ok (.istore 5, 2) := by decide +kernel
theorem dX1_stepOf_70 : decode cX1_stepOf 70 = .ok (.iload_n 3, 1) := by decide +kernel
theorem dX1_stepOf_71 : decode cX1_stepOf 71 = .ok (.iload 5, 2) := by decide +kernel
theorem dX1_stepOf_73 : decode cX1_stepOf 73 = .ok (.iand, 1) := by decide +kernel
theorem dX1_stepOf_74 : decode cX1_stepOf 74 = .ok (.ifCond .ne 18, 3) := by decide +kernel
theorem dX1_stepOf_77 : decode cX1_stepOf 77 = .ok (.aload_n 0, 1) := by decide +kernel
theorem dX1_stepOf_78 : decode cX1_stepOf 78 = .ok (.iload_n 1, 1) := by decide +kernel
theorem dX1_stepOf_79 : decode cX1_stepOf 79 = .ok (.iconst 0, 1) := by decide +kernel
theorem dX1_stepOf_80 : decode cX1_stepOf 80 = .ok (.invokevirtual 114, 3) := by decide +kernel
theorem dX1_stepOf_83 : decode cX1_stepOf 83 = .ok (.ifCond .eq 7, 3) := by decide +kernel
theorem dX1_stepOf_86 : decode cX1_stepOf 86 = .ok (.iconst 2, 1) := by decide +kernel
theorem dX1_stepOf_87 : decode cX1_stepOf 87 = .ok (.goto 4, 3) := by decide +kernel
theorem dX1_stepOf_90 : decode cX1_stepOf 90 = .ok (.iconst 0, 1) := by decide +kernel
theorem dX1_stepOf_91 : decode cX1_stepOf 91 = .ok (.ireturn, 1) := by decide +kernel
theorem dX1_stepOf_92 : decode cX1_stepOf 92 = .ok (.iload_n 3, 1) := by decide +kernel
theorem dX1_stepOf_93 : decode cX1_stepOf 93 = .ok (.iload 4, 2) := by decide +kernel
theorem dX1_stepOf_95 : decode cX1_stepOf 95 = .ok (.iconst 1, 1) := by decide +kernel
theorem dX1_stepOf_96 : decode cX1_stepOf 96 = .ok (.iadd, 1) := by decide +kernel
theorem dX1_stepOf_97 : decode cX1_stepOf 97 = .ok (.iconst 2, 1) := by decide +kernel
theorem dX1_stepOf_98 : decode cX1_stepOf 98 = .ok (.idiv, 1) := by decide +kernel
theorem dX1_stepOf_99 : decode cX1_stepOf 99 = .ok (.ishr, 1) := by decide +kernel
theorem dX1_stepOf_100 : decode cX1_stepOf 100 = .ok (.istore 6, 2) := by decide +kernel
theorem dX1_stepOf_102 : decode cX1_stepOf 102 = .ok (.iload 6, 2) := by decide +kernel
theorem dX1_stepOf_104 : decode cX1_stepOf 104 = .ok (.ifCond .ne 18, 3) := by decide +kernel
theorem dX1_stepOf_107 : decode cX1_stepOf 107 = .ok (.aload_n 0, 1) := by decide +kernel
theorem dX1_stepOf_108 : decode cX1_stepOf 108 = .ok (.iload_n 1, 1) := by decide +kernel
theorem dX1_stepOf_109 : decode cX1_stepOf 109 = .ok (.iconst 1, 1) := by decide +kernel
theorem dX1_stepOf_110 : decode cX1_stepOf 110 = .ok (.invokevirtual 114, 3) := by decide +kernel
theorem dX1_stepOf_113 : decode cX1_stepOf 113 = .ok (.ifCond .eq 7, 3) := by decide +kernel
theorem dX1_stepOf_116 : decode cX1_stepOf 116 = .ok (.iconst 3, 1) := by decide +kernel
theorem dX1_stepOf_117 : decode cX1_stepOf 117 = .ok (.goto 4, 3) := by decide +kernel
theorem dX1_stepOf_120 : decode cX1_stepOf 120 = .ok (.iconst 0, 1) := by decide +kernel
theorem dX1_stepOf_121 : decode cX1_stepOf 121 = .ok (.ireturn, 1) := by decide +kernel
theorem dX1_stepOf_122 : decode cX1_stepOf 122 = .ok (.iconst 0, 1) := by decide +kernel
theorem dX1_stepOf_123 : decode cX1_stepOf 123 = .ok (.ireturn, 1) := by decide +kernel
theorem dX1_takeStep_0 : decode cX1_takeStep 0 = .ok (.iload_n 2, 1) := by decide +kernel
theorem dX1_takeStep_1 : decode cX1_takeStep 1 = .ok (.iconst 1, 1) := by decide +kernel
theorem dX1_takeStep_2 : decode cX1_takeStep 2 = .ok (.if_icmp .ne 11, 3) := by decide +kernel
theorem dX1_takeStep_5 : decode cX1_takeStep 5 = .ok (.aload_n 0, 1) := by decide +kernel
theorem dX1_takeStep_6 : decode cX1_takeStep 6 = .ok (.iload_n 1, 1) := by decide +kernel
theorem dX1_takeStep_7 : decode cX1_takeStep 7 = .ok (.invokevirtual 118, 3) := by decide +kernel
theorem dX1_takeStep_10 : decode cX1_takeStep 10 = .ok (.goto 18, 3) := by decide +kernel
theorem dX1_takeStep_13 : decode cX1_takeStep 13 = .ok (.aload_n 0, 1) := by decide +kernel
theorem dX1_takeStep_14 : decode cX1_takeStep 14 = .ok (.iload_n 1, 1) := by decide +kernel
theorem dX1_takeStep_15 : decode cX1_takeStep 15 = .ok (.iload_n 2, 1) := by decide +kernel
theorem dX1_takeStep_16 : decode cX1_takeStep 16 = .ok (.iconst 3, 1) := by decide +kernel
theorem dX1_takeStep_17 : decode cX1_takeStep 17 = .ok (.if_icmp .ne 7, 3) := by decide +kernel
theorem dX1_takeStep_20 : decode cX1_takeStep 20 = .ok (.iconst 1, 1) := by decide +kernel
theorem dX1_takeStep_21 : decode cX1_takeStep 21 = .ok (.goto 4, 3) := by decide +kernel
theorem dX1_takeStep_24 : decode cX1_takeStep 24 = .ok (.iconst 0, 1) := by decide +kernel
theorem dX1_takeStep_25 : decode cX1_takeStep 25 = .ok (.invokevirtual 121, 3) := by decide +kernel
theorem dX1_takeStep_28 : decode cX1_takeStep 28 = .ok (.return_, 1) := by decide +kernel
theorem dX1_fall_0 : decode cX1_fall 0 = .ok (.aload_n 0, 1) := by decide +kernel
theorem dX1_fall_1 : decode cX1_fall 1 = .ok (.getfield 40, 3) := by decide +kernel
theorem dX1_fall_4 : decode cX1_fall 4 = .ok (.iload_n 1, 1) := by decide +kernel
theorem dX1_fall_5 : decode cX1_fall 5 = .ok (.iaload, 1) := by decide +kernel
theorem dX1_fall_6 : decode cX1_fall 6 = .ok (.istore_n 2, 1) := by decide +kernel
theorem dX1_fall_7 : decode cX1_fall 7 = .ok (.iload_n 2, 1) := by decide +kernel
theorem dX1_fall_8 : decode cX1_fall 8 = .ok (.ifCond .lt 9, 3) := by decide +kernel
theorem dX1_fall_11 : decode cX1_fall 11 = .ok (.iload_n 2, 1) := by decide +kernel
theorem dX1_fall_12 : decode cX1_fall 12 = .ok (.bipush 15, 2) := by decide +kernel
theorem dX1_fall_14 : decode cX1_fall 14 = .ok (.if_icmp .lt 4, 3) := by decide +kernel
theorem dX1_fall_17 : decode cX1_fall 17 = .ok (.return_, 1) := by decide +kernel
theorem dX1_fall_18 : decode cX1_fall 18 = .ok (.aload_n 0, 1) := by decide +kernel
theorem dX1_fall_19 : decode cX1_fall 19 = .ok (.getfield 46, 3) := by decide +kernel
theorem dX1_fall_22 : decode cX1_fall 22 = .ok (.iload_n 2, 1) := by decide +kernel
theorem dX1_fall_23 : decode cX1_fall 23 = .ok (.dup2, 1) := by decide +kernel
theorem dX1_fall_24 : decode cX1_fall 24 = .ok (.iaload, 1) := by decide +kernel
theorem dX1_fall_25 : decode cX1_fall 25 = .ok (.aload_n 0, 1) := by decide +kernel
theorem dX1_fall_26 : decode cX1_fall 26 = .ok (.getfield 43, 3) := by decide +kernel
theorem dX1_fall_29 : decode cX1_fall 29 = .ok (.iload_n 1, 1) := by decide +kernel
theorem dX1_fall_30 : decode cX1_fall 30 = .ok (.iaload, 1) := by decide +kernel
theorem dX1_fall_31 : decode cX1_fall 31 = .ok (.iconst (-1), 1) := by decide +kernel
theorem dX1_fall_32 : decode cX1_fall 32 = .ok (.ixor, 1) := by decide +kernel
theorem dX1_fall_33 : decode cX1_fall 33 = .ok (.iand, 1) := by decide +kernel
theorem dX1_fall_34 : decode cX1_fall 34 = .ok (.iastore, 1) := by decide +kernel
theorem dX1_fall_35 : decode cX1_fall 35 = .ok (.aload_n 0, 1) := by decide +kernel
theorem dX1_fall_36 : decode cX1_fall 36 = .ok (.getfield 46, 3) := by decide +kernel
theorem dX1_fall_39 : decode cX1_fall 39 = .ok (.iload_n 2, 1) := by decide +kernel
theorem dX1_fall_40 : decode cX1_fall 40 = .ok (.iconst 1, 1) := by decide +kernel
theorem dX1_fall_41 : decode cX1_fall 41 = .ok (.iadd, 1) := by decide +kernel
theorem dX1_fall_42 : decode cX1_fall 42 = .ok (.dup2, 1) := by decide +kernel
theorem dX1_fall_43 : decode cX1_fall 43 = .ok (.iaload, 1) := by decide +kernel
theorem dX1_fall_44 : decode cX1_fall 44 = .ok (.aload_n 0, 1) := by decide +kernel
theorem dX1_fall_45 : decode cX1_fall 45 = .ok (.getfield 43, 3) := by decide +kernel
theorem dX1_fall_48 : decode cX1_fall 48 = .ok (.iload_n 1, 1) := by decide +kernel
theorem dX1_fall_49 : decode cX1_fall 49 = .ok (.iaload, 1) := by decide +kernel
theorem dX1_fall_50 : decode cX1_fall 50 = .ok (.ior, 1) := by decide +kernel
theorem dX1_fall_51 : decode cX1_fall 51 = .ok (.iastore, 1) := by decide +kernel
theorem dX1_fall_52 : decode cX1_fall 52 = .ok (.aload_n 0, 1) := by decide +kernel
theorem dX1_fall_53 : decode cX1_fall 53 = .ok (.getfield 40, 3) := by decide +kernel
theorem dX1_fall_56 : decode cX1_fall 56 = .ok (.iload_n 1, 1) := by decide +kernel
theorem dX1_fall_57 : decode cX1_fall 57 = .ok (.iload_n 2, 1) := by decide +kernel
theorem dX1_fall_58 : decode cX1_fall 58 = .ok (.iconst 1, 1) := by decide +kernel
theorem dX1_fall_59 : decode cX1_fall 59 = .ok (.iadd, 1) := by decide +kernel
theorem dX1_fall_60 : decode cX1_fall 60 = .ok (.iastore, 1) := by decide +kernel
theorem dX1_fall_61 : decode cX1_fall 61 = .ok (.return_, 1) := by decide +kernel
theorem dX1_isFreeBeside_0 : decode cX1_isFreeBeside 0 = .ok (.aload_n 0, 1) := by decide +kernel
theorem dX1_isFreeBeside_1 : decode cX1_isFreeBeside 1 = .ok (.getfield 40, 3) := by decide +kernel
theorem dX1_isFreeBeside_4 : decode cX1_isFreeBeside 4 = .ok (.iload_n 1, 1) := by decide +kernel
theorem dX1_isFreeBeside_5 : decode cX1_isFreeBeside 5 = .ok (.iaload, 1) := by decide +kernel
theorem dX1_isFreeBeside_6 : decode cX1_isFreeBeside 6 = .ok (.istore_n 3, 1) := by decide +kernel
theorem dX1_isFreeBeside_7 : decode cX1_isFreeBeside 7 = .ok (.iload_n 2, 1) := by decide +kernel
theorem dX1_isFreeBeside_8 : decode cX1_isFreeBeside 8 = .ok (.ifCond .eq 19, 3) := by decide +kernel
theorem dX1_isFreeBeside_11 : decode cX1_isFreeBeside 11 = .ok (.aload_n 0, 1) := by decide +kernel
theorem dX1_isFreeBeside_12 : decode cX1_isFreeBeside 12 = .ok (.getfield 34, 3) := by decide +kernel
theorem dX1_isFreeBeside_15 : decode cX1_isFreeBeside 15 = .ok (.iload_n 1, 1) := by decide +kernel
theorem dX1_isFreeBeside_16 : decode cX1_isFreeBeside 16 = .ok (.iaload, 1) := by decide +kernel
theorem dX1_isFreeBeside_17 : decode cX1_isFreeBeside 17 = .ok (.aload_n 0, 1) := by decide +kernel
theorem dX1_isFreeBeside_18 : decode cX1_isFreeBeside 18 = .ok (.getfield 24, 3) := by decide +kernel
theorem dX1_isFreeBeside_21 : decode cX1_isFreeBeside 21 = .ok (.iload_n 1, 1) := by decide +kernel
theorem dX1_isFreeBeside_22 : decode cX1_isFreeBeside 22 = .ok (.iaload, 1) := by decide +kernel
theorem dX1_isFreeBeside_23 : decode cX1_isFreeBeside 23 = .ok (.iadd, 1) := by decide +kernel
theorem dX1_isFreeBeside_24 : decode cX1_isFreeBeside 24 = .ok (.goto 11, 3) := by decide +kernel
theorem dX1_isFreeBeside_27 : decode cX1_isFreeBeside 27 = .ok (.aload_n 0, 1) := by decide +kernel
theorem dX1_isFreeBeside_28 : decode cX1_isFreeBeside 28 = .ok (.getfield 34, 3) := by decide +kernel
theorem dX1_isFreeBeside_31 : decode cX1_isFreeBeside 31 = .ok (.iload_n 1, 1) := by decide +kernel
theorem dX1_isFreeBeside_32 : decode cX1_isFreeBeside 32 = .ok (.iaload, 1) := by decide +kernel
theorem dX1_isFreeBeside_33 : decode cX1_isFreeBeside 33 = .ok (.iconst 1, 1) := by decide +kernel
theorem dX1_isFreeBeside_34 : decode cX1_isFreeBeside 34 = .ok (.isub, 1) := by decide +kernel
theorem dX1_isFreeBeside_35 : decode cX1_isFreeBeside 35 = .ok (.istore 4, 2) := by decide +kernel
theorem dX1_isFreeBeside_37 : decode cX1_isFreeBeside 37 = .ok (.iload_n 3, 1) := by decide +kernel
theorem dX1_isFreeBeside_38 : decode cX1_isFreeBeside 38 = .ok (.ifCond .lt 25, 3) := by decide +kernel
theorem dX1_isFreeBeside_41 : decode cX1_isFreeBeside 41 = .ok (.iload_n 3, 1) := by decide +kernel
theorem dX1_isFreeBeside_42 : decode cX1_isFreeBeside 42 = .ok (.bipush 16, 2) := by decide +kernel
theorem dX1_isFreeBeside_44 : decode cX1_isFreeBeside 44 = .ok (.if_icmp .ge 19, 3) := by decide +kernel
theorem dX1_isFreeBeside_47 : decode cX1_isFreeBeside 47 = .ok (.iload 4, 2) := by decide +kernel
theorem dX1_isFreeBeside_49 : decode cX1_isFreeBeside 49 = .ok (.ifCond .lt 14, 3) := by decide +kernel
theorem dX1_isFreeBeside_52 : decode cX1_isFreeBeside 52 = .ok (.iload 4, 2) := by decide +kernel
theorem dX1_isFreeBeside_54 : decode cX1_isFreeBeside 54 = .ok (.bipush 24, 2) := by decide +kernel
theorem dX1_isFreeBeside_56 : decode cX1_isFreeBeside 56 = .ok (.if_icmp .ge 7, 3) := by decide +kernel
theorem dX1_isFreeBeside_59 : decode cX1_isFreeBeside 59 = .ok (.iconst 1, 1) := by decide +kernel
theorem dX1_isFreeBeside_60 : decode cX1_isFreeBeside 60 = .ok (.goto 4, 3) := by decide +kernel
theorem dX1_isFreeBeside_63 : decode cX1_isFreeBeside 63 = .ok (.iconst 0, 1) := by decide +kernel
theorem dX1_isFreeBeside_64 : decode cX1_isFreeBeside 64 = .ok (.istore 5, 2) := by decide +kernel
theorem dX1_isFreeBeside_66 : decode cX1_isFreeBeside 66 = .ok (.iload 5, 2) := by decide +kernel
theorem dX1_isFreeBeside_68 : decode cX1_isFreeBeside 68 = .ok (.ifCond .eq 21, 3) := by decide +kernel
theorem dX1_isFreeBeside_71 : decode cX1_isFreeBeside 71 = .ok (.aload_n 0, 1) := by decide +kernel
theorem dX1_isFreeBeside_72 : decode cX1_isFreeBeside 72 = .ok (.getfield 46, 3) := by decide +kernel
theorem dX1_isFreeBeside_75 : decode cX1_isFreeBeside 75 = .ok (.iload_n 3, 1) := by decide +kernel
theorem dX1_isFreeBeside_76 : decode cX1_isFreeBeside 76 = .ok (.iaload, 1) := by decide +kernel
theorem dX1_isFreeBeside_77 : decode cX1_isFreeBeside 77 = .ok (.iload 4, 2) := by decide +kernel
theorem dX1_isFreeBeside_79 : decode cX1_isFreeBeside 79 = .ok (.ishr, 1) := by decide +kernel
theorem dX1_isFreeBeside_80 : decode cX1_isFreeBeside 80 = .ok (.iconst 1, 1) := by decide +kernel
theorem dX1_isFreeBeside_81 : decode cX1_isFreeBeside 81 = .ok (.iand, 1) := by decide +kernel
theorem dX1_isFreeBeside_82 : decode cX1_isFreeBeside 82 = .ok (.ifCond .ne 7, 3) := by decide +kernel
theorem dX1_isFreeBeside_85 : decode cX1_isFreeBeside 85 = .ok (.iconst 1, 1) := by decide +kernel
theorem dX1_isFreeBeside_86 : decode cX1_isFreeBeside 86 = .ok (.goto 4, 3) := by decide +kernel
theorem dX1_isFreeBeside_89 : decode cX1_isFreeBeside 89 = .ok (.iconst 0, 1) := by decide +kernel
theorem dX1_isFreeBeside_90 : decode cX1_isFreeBeside 90 = .ok (.ireturn, 1) := by decide +kernel
theorem dX1_slide_0 : decode cX1_slide 0 = .ok (.aload_n 0, 1) := by decide +kernel
theorem dX1_slide_1 : decode cX1_slide 1 = .ok (.getfield 40, 3) := by decide +kernel
theorem dX1_slide_4 : decode cX1_slide 4 = .ok (.iload_n 1, 1) := by decide +kernel
theorem dX1_slide_5 : decode cX1_slide 5 = .ok (.iaload, 1) := by decide +kernel
theorem dX1_slide_6 : decode cX1_slide 6 = .ok (.istore_n 3, 1) := by decide +kernel
theorem dX1_slide_7 : decode cX1_slide 7 = .ok (.iload_n 3, 1) := by decide +kernel
theorem dX1_slide_8 : decode cX1_slide 8 = .ok (.ifCond .lt 9, 3) := by decide +kernel
theorem dX1_slide_11 : decode cX1_slide 11 = .ok (.iload_n 3, 1) := by decide +kernel
theorem dX1_slide_12 : decode cX1_slide 12 = .ok (.bipush 16, 2) := by decide +kernel
theorem dX1_slide_14 : decode cX1_slide 14 = .ok (.if_icmp .lt 4, 3) := by decide +kernel
theorem dX1_slide_17 : decode cX1_slide 17 = .ok (.return_, 1) := by decide +kernel
theorem dX1_slide_18 : decode cX1_slide 18 = .ok (.aload_n 0, 1) := by decide +kernel
theorem dX1_slide_19 : decode cX1_slide 19 = .ok (.getfield 46, 3) := by decide +kernel
theorem dX1_slide_22 : decode cX1_slide 22 = .ok (.iload_n 3, 1) := by decide +kernel
theorem dX1_slide_23 : decode cX1_slide 23 = .ok (.dup2, 1) := by decide +kernel
theorem dX1_slide_24 : decode cX1_slide 24 = .ok (.iaload, 1) := by decide +kernel
theorem dX1_slide_25 : decode cX1_slide 25 = .ok (.aload_n 0, 1) := by decide +kernel
theorem dX1_slide_26 : decode cX1_slide 26 = .ok (.getfield 43, 3) := by decide +kernel
theorem dX1_slide_29 : decode cX1_slide 29 = .ok (.iload_n 1, 1) := by decide +kernel
theorem dX1_slide_30 : decode cX1_slide 30 = .ok (.iaload, 1) := by decide +kernel
theorem dX1_slide_31 : decode cX1_slide 31 = .ok (.iconst (-1), 1) := by decide +kernel
theorem dX1_slide_32 : decode cX1_slide 32 = .ok (.ixor, 1) := by decide +kernel
theorem dX1_slide_33 : decode cX1_slide 33 = .ok (.iand, 1) := by decide +kernel
theorem dX1_slide_34 : decode cX1_slide 34 = .ok (.iastore, 1) := by decide +kernel
theorem dX1_slide_35 : decode cX1_slide 35 = .ok (.aload_n 0, 1) := by decide +kernel
theorem dX1_slide_36 : decode cX1_slide 36 = .ok (.getfield 43, 3) := by decide +kernel
theorem dX1_slide_39 : decode cX1_slide 39 = .ok (.iload_n 1, 1) := by decide +kernel
theorem dX1_slide_40 : decode cX1_slide 40 = .ok (.iload_n 2, 1) := by decide +kernel
theorem dX1_slide_41 : decode cX1_slide 41 = .ok (.ifCond .eq 14, 3) := by decide +kernel
theorem dX1_slide_44 : decode cX1_slide 44 = .ok (.aload_n 0, 1) := by decide +kernel
theorem dX1_slide_45 : decode cX1_slide 45 = .ok (.getfield 43, 3) := by decide +kernel
theorem dX1_slide_48 : decode cX1_slide 48 = .ok (.iload_n 1, 1) := by decide +kernel
theorem dX1_slide_49 : decode cX1_slide 49 = .ok (.iaload, 1) := by decide +kernel
theorem dX1_slide_50 : decode cX1_slide 50 = .ok (.iconst 1, 1) := by decide +kernel
theorem dX1_slide_51 : decode cX1_slide 51 = .ok (.ishl, 1) := by decide +kernel
theorem dX1_slide_52 : decode cX1_slide 52 = .ok (.goto 11, 3) := by decide +kernel
theorem dX1_slide_55 : decode cX1_slide 55 = .ok (.aload_n 0, 1) := by decide +kernel
theorem dX1_slide_56 : decode cX1_slide 56 = .ok (.getfield 43, 3) := by decide +kernel
theorem dX1_slide_59 : decode cX1_slide 59 = .ok (.iload_n 1, 1) := by decide +kernel
theorem dX1_slide_60 : decode cX1_slide 60 = .ok (.iaload, 1) := by decide +kernel
theorem dX1_slide_61 : decode cX1_slide 61 = .ok (.iconst 1, 1) := by decide +kernel
theorem dX1_slide_62 : decode cX1_slide 62 = .ok (.ishr, 1) := by decide +kernel
theorem dX1_slide_63 : decode cX1_slide 63 = .ok (.iastore, 1) := by decide +kernel
theorem dX1_slide_64 : decode cX1_slide 64 = .ok (.aload_n 0, 1) := by decide +kernel
theorem dX1_slide_65 : decode cX1_slide 65 = .ok (.getfield 34, 3) := by decide +kernel
theorem dX1_slide_68 : decode cX1_slide 68 = .ok (.iload_n 1, 1) := by decide +kernel
theorem dX1_slide_69 : decode cX1_slide 69 = .ok (.dup2, 1) := by decide +kernel
theorem dX1_slide_70 : decode cX1_slide 70 = .ok (.iaload, 1) := by decide +kernel
theorem dX1_slide_71 : decode cX1_slide 71 = .ok (.iload_n 2, 1) := by decide +kernel
theorem dX1_slide_72 : decode cX1_slide 72 = .ok (.ifCond .eq 7, 3) := by decide +kernel
theorem dX1_slide_75 : decode cX1_slide 75 = .ok (.iconst 1, 1) := by decide +kernel
theorem dX1_slide_76 : decode cX1_slide 76 = .ok (.goto 4, 3) := by decide +kernel
theorem dX1_slide_79 : decode cX1_slide 79 = .ok (.iconst (-1), 1) := by decide +kernel
theorem dX1_slide_80 : decode cX1_slide 80 = .ok (.iadd, 1) := by decide +kernel
theorem dX1_slide_81 : decode cX1_slide 81 = .ok (.iastore, 1) := by decide +kernel
theorem dX1_slide_82 : decode cX1_slide 82 = .ok (.aload_n 0, 1) := by decide +kernel
theorem dX1_slide_83 : decode cX1_slide 83 = .ok (.getfield 46, 3) := by decide +kernel
theorem dX1_slide_86 : decode cX1_slide 86 = .ok (.iload_n 3, 1) := by decide +kernel
theorem dX1_slide_87 : decode cX1_slide 87 = .ok (.dup2, 1) := by decide +kernel
theorem dX1_slide_88 : decode cX1_slide 88 = .ok (.iaload, 1) := by decide +kernel
theorem dX1_slide_89 : decode cX1_slide 89 = .ok (.aload_n 0, 1) := by decide +kernel
theorem dX1_slide_90 : decode cX1_slide 90 = .ok (.getfield 43, 3) := by decide +kernel
theorem dX1_slide_93 : decode cX1_slide 93 = .ok (.iload_n 1, 1) := by decide +kernel
theorem dX1_slide_94 : decode cX1_slide 94 = .ok (.iaload, 1) := by decide +kernel
theorem dX1_slide_95 : decode cX1_slide 95 = .ok (.ior, 1) := by decide +kernel
theorem dX1_slide_96 : decode cX1_slide 96 = .ok (.iastore, 1) := by decide +kernel
theorem dX1_slide_97 : decode cX1_slide 97 = .ok (.return_, 1) := by decide +kernel
theorem dX1_takeAway_0 : decode cX1_takeAway 0 = .ok (.aload_n 0, 1) := by decide +kernel
theorem dX1_takeAway_1 : decode cX1_takeAway 1 = .ok (.iload_n 1, 1) := by decide +kernel
theorem dX1_takeAway_2 : decode cX1_takeAway 2 = .ok (.invokevirtual 93, 3) := by decide +kernel
theorem dX1_takeAway_5 : decode cX1_takeAway 5 = .ok (.ifCond .eq 25, 3) := by decide +kernel
theorem dX1_takeAway_8 : decode cX1_takeAway 8 = .ok (.aload_n 0, 1) := by decide +kernel
theorem dX1_takeAway_9 : decode cX1_takeAway 9 = .ok (.getfield 46, 3) := by decide +kernel
theorem dX1_takeAway_12 : decode cX1_takeAway 12 = .ok (.aload_n 0, 1) := by decide +kernel
theorem dX1_takeAway_13 : decode cX1_takeAway 13 = .ok (.getfield 40, 3) := by decide +kernel
theorem dX1_takeAway_16 : decode cX1_takeAway 16 = .ok (.iload_n 1, 1) := by decide +kernel
theorem dX1_takeAway_17 : decode cX1_takeAway 17 = .ok (.iaload, 1) := by decide +kernel
theorem dX1_takeAway_18 : decode cX1_takeAway 18 = .ok (.dup2, 1) := by decide +kernel
theorem dX1_takeAway_19 : decode cX1_takeAway 19 = .ok (.iaload, 1) := by decide +kernel
theorem dX1_takeAway_20 : decode cX1_takeAway 20 = .ok (.aload_n 0, 1) := by decide +kernel
theorem dX1_takeAway_21 : decode cX1_takeAway 21 = .ok (.getfield 43, 3) := by decide +kernel
theorem dX1_takeAway_24 : decode cX1_takeAway 24 = .ok (.iload_n 1, 1) := by decide +kernel
theorem dX1_takeAway_25 : decode cX1_takeAway 25 = .ok (.iaload, 1) := by decide +kernel
theorem dX1_takeAway_26 : decode cX1_takeAway 26 = .ok (.iconst (-1), 1) := by decide +kernel
theorem dX1_takeAway_27 : decode cX1_takeAway 27 = .ok (.ixor, 1) := by decide +kernel
theorem dX1_takeAway_28 : decode cX1_takeAway 28 = .ok (.iand, 1) := by decide +kernel
theorem dX1_takeAway_29 : decode cX1_takeAway 29 = .ok (.iastore, 1) := by decide +kernel
theorem dX1_takeAway_30 : decode cX1_takeAway 30 = .ok (.aload_n 0, 1) := by decide +kernel
theorem dX1_takeAway_31 : decode cX1_takeAway 31 = .ok (.getfield 40, 3) := by decide +kernel
theorem dX1_takeAway_34 : decode cX1_takeAway 34 = .ok (.iload_n 1, 1) := by decide +kernel
theorem dX1_takeAway_35 : decode cX1_takeAway 35 = .ok (.bipush (-2), 2) := by decide +kernel
theorem dX1_takeAway_37 : decode cX1_takeAway 37 = .ok (.iastore, 1) := by decide +kernel
theorem dX1_takeAway_38 : decode cX1_takeAway 38 = .ok (.return_, 1) := by decide +kernel
theorem dX1_linesNear_0 : decode cX1_linesNear 0 = .ok (.aload_n 0, 1) := by decide +kernel
theorem dX1_linesNear_1 : decode cX1_linesNear 1 = .ok (.getfield 40, 3) := by decide +kernel
theorem dX1_linesNear_4 : decode cX1_linesNear 4 = .ok (.iload_n 1, 1) := by decide +kernel
theorem dX1_linesNear_5 : decode cX1_linesNear 5 = .ok (.iaload, 1) := by decide +kernel
theorem dX1_linesNear_6 : decode cX1_linesNear 6 = .ok (.ifCond .lt 13, 3) := by decide +kernel
theorem dX1_linesNear_9 : decode cX1_linesNear 9 = .ok (.iload_n 2, 1) := by decide +kernel
theorem dX1_linesNear_10 : decode cX1_linesNear 10 = .ok (.ifCond .lt 9, 3) := by decide +kernel
theorem dX1_linesNear_13 : decode cX1_linesNear 13 = .ok (.iload_n 2, 1) := by decide +kernel
theorem dX1_linesNear_14 : decode cX1_linesNear 14 = .ok (.bipush 16, 2) := by decide +kernel
theorem dX1_linesNear_16 : decode cX1_linesNear 16 = .ok (.if_icmp .lt 5, 3) := by decide +kernel
theorem dX1_linesNear_19 : decode cX1_linesNear 19 = .ok (.iconst 0, 1) := by decide +kernel
theorem dX1_linesNear_20 : decode cX1_linesNear 20 = .ok (.ireturn, 1) := by decide +kernel
theorem dX1_linesNear_21 : decode cX1_linesNear 21 = .ok (.aload_n 0, 1) := by decide +kernel
theorem dX1_linesNear_22 : decode cX1_linesNear 22 = .ok (.getfield 46, 3) := by decide +kernel
theorem dX1_linesNear_25 : decode cX1_linesNear 25 = .ok (.iload_n 2, 1) := by decide +kernel
theorem dX1_linesNear_26 : decode cX1_linesNear 26 = .ok (.iaload, 1) := by decide +kernel
theorem dX1_linesNear_27 : decode cX1_linesNear 27 = .ok (.aload_n 0, 1) := by decide +kernel
theorem dX1_linesNear_28 : decode cX1_linesNear 28 = .ok (.getfield 43, 3) := by decide +kernel
theorem dX1_linesNear_31 : decode cX1_linesNear 31 = .ok (.iload_n 1, 1) := by decide +kernel
theorem dX1_linesNear_32 : decode cX1_linesNear 32 = .ok (.iaload, 1) := by decide +kernel
theorem dX1_linesNear_33 : decode cX1_linesNear 33 = .ok (.iand, 1) := by decide +kernel
theorem dX1_linesNear_34 : decode cX1_linesNear 34 = .ok (.ifCond .ne 5, 3) := by decide +kernel
theorem dX1_linesNear_37 : decode cX1_linesNear 37 = .ok (.iconst 0, 1) := by decide +kernel
theorem dX1_linesNear_38 : decode cX1_linesNear 38 = .ok (.ireturn, 1) := by decide +kernel
theorem dX1_linesNear_39 : decode cX1_linesNear 39 = .ok (.iconst 0, 1) := by decide +kernel
theorem dX1_linesNear_40 : decode cX1_linesNear 40 = .ok (.istore_n 3, 1) := by decide +kernel
theorem dX1_linesNear_41 : decode cX1_linesNear 41 = .ok (.iconst 0, 1) := by decide +kernel
theorem dX1_linesNear_42 : decode cX1_linesNear 42 = .ok (.istore 4, 2) := by decide +kernel
theorem dX1_linesNear_44 : decode cX1_linesNear 44 = .ok (.iload 4, 2) := by decide +kernel
theorem dX1_linesNear_46 : decode cX1_linesNear 46 = .ok (.aload_n 0, 1) := by decide +kernel
theorem dX1_linesNear_47 : decode cX1_linesNear 47 = .ok (.getfield 21, 3) := by decide +kernel
theorem dX1_linesNear_50 : decode cX1_linesNear 50 = .ok (.if_icmp .ge 44, 3) := by decide +kernel
theorem dX1_linesNear_53 : decode cX1_linesNear 53 = .ok (.aload_n 0, 1) := by decide +kernel
theorem dX1_linesNear_54 : decode cX1_linesNear 54 = .ok (.getfield 40, 3) := by decide +kernel
theorem dX1_linesNear_57 : decode cX1_linesNear 57 = .ok (.iload 4, 2) := by decide +kernel
theorem dX1_linesNear_59 : decode cX1_linesNear 59 = .ok (.iaload, 1) := by decide +kernel
theorem dX1_linesNear_60 : decode cX1_linesNear 60 = .ok (.iload_n 2, 1) := by decide +kernel
theorem dX1_linesNear_61 : decode cX1_linesNear 61 = .ok (.if_icmp .ne 27, 3) := by decide +kernel
theorem dX1_linesNear_64 : decode cX1_linesNear 64 = .ok (.aload_n 0, 1) := by decide +kernel
theorem dX1_linesNear_65 : decode cX1_linesNear 65 = .ok (.getfield 43, 3) := by decide +kernel
theorem dX1_linesNear_68 : decode cX1_linesNear 68 = .ok (.iload 4, 2) := by decide +kernel
theorem dX1_linesNear_70 : decode cX1_linesNear 70 = .ok (.iaload, 1) := by decide +kernel
theorem dX1_linesNear_71 : decode cX1_linesNear 71 = .ok (.aload_n 0, 1) := by decide +kernel
theorem dX1_linesNear_72 : decode cX1_linesNear 72 = .ok (.getfield 43, 3) := by decide +kernel
theorem dX1_linesNear_75 : decode cX1_linesNear 75 = .ok (.iload_n 1, 1) := by decide +kernel
theorem dX1_linesNear_76 : decode cX1_linesNear 76 = .ok (.iaload, 1) := by decide +kernel
theorem dX1_linesNear_77 : decode cX1_linesNear 77 = .ok (.iand, 1) := by decide +kernel
theorem dX1_linesNear_78 : decode cX1_linesNear 78 = .ok (.ifCond .eq 10, 3) := by decide +kernel
theorem dX1_linesNear_81 : decode cX1_linesNear 81 = .ok (.iload_n 3, 1) := by decide +kernel
theorem dX1_linesNear_82 : decode cX1_linesNear 82 = .ok (.iconst 1, 1) := by decide +kernel
theorem dX1_linesNear_83 : decode cX1_linesNear 83 = .ok (.iload 4, 2) := by decide +kernel
theorem dX1_linesNear_85 : decode cX1_linesNear 85 = .ok (.ishl, 1) := by decide +kernel
theorem dX1_linesNear_86 : decode cX1_linesNear 86 = .ok (.ior, 1) := by decide +kernel
theorem dX1_linesNear_87 : decode cX1_linesNear 87 = .ok (.istore_n 3, 1) := by decide +kernel
theorem dX1_linesNear_88 : decode cX1_linesNear 88 = .ok (.iinc 4 1, 3) := by decide +kernel
theorem dX1_linesNear_91 : decode cX1_linesNear 91 = .ok (.goto (-47), 3) := by decide +kernel
theorem dX1_linesNear_94 : decode cX1_linesNear 94 = .ok (.iload_n 3, 1) := by decide +kernel
theorem dX1_linesNear_95 : decode cX1_linesNear 95 = .ok (.ireturn, 1) := by decide +kernel
theorem dX1_loadOf_0 : decode cX1_loadOf 0 = .ok (.aload_n 0, 1) := by decide +kernel
theorem dX1_loadOf_1 : decode cX1_loadOf 1 = .ok (.iload_n 1, 1) := by decide +kernel
theorem dX1_loadOf_2 : decode cX1_loadOf 2 = .ok (.aload_n 0, 1) := by decide +kernel
theorem dX1_loadOf_3 : decode cX1_loadOf 3 = .ok (.getfield 40, 3) := by decide +kernel
theorem dX1_loadOf_6 : decode cX1_loadOf 6 = .ok (.iload_n 1, 1) := by decide +kernel
theorem dX1_loadOf_7 : decode cX1_loadOf 7 = .ok (.iaload, 1) := by decide +kernel
theorem dX1_loadOf_8 : decode cX1_loadOf 8 = .ok (.iconst 1, 1) := by decide +kernel
theorem dX1_loadOf_9 : decode cX1_loadOf 9 = .ok (.isub, 1) := by decide +kernel
theorem dX1_loadOf_10 : decode cX1_loadOf 10 = .ok (.invokevirtual 125, 3) := by decide +kernel
theorem dX1_loadOf_13 : decode cX1_loadOf 13 = .ok (.istore_n 2, 1) := by decide +kernel
theorem dX1_loadOf_14 : decode cX1_loadOf 14 = .ok (.iload_n 2, 1) := by decide +kernel
theorem dX1_loadOf_15 : decode cX1_loadOf 15 = .ok (.ifCond .ne 5, 3) := by decide +kernel
theorem dX1_loadOf_18 : decode cX1_loadOf 18 = .ok (.iconst 0, 1) := by decide +kernel
theorem dX1_loadOf_19 : decode cX1_loadOf 19 = .ok (.ireturn, 1) := by decide +kernel
theorem dX1_loadOf_20 : decode cX1_loadOf 20 = .ok (.iconst 0, 1) := by decide +kernel
theorem dX1_loadOf_21 : decode cX1_loadOf 21 = .ok (.istore_n 3, 1) := by decide +kernel
theorem dX1_loadOf_22 : decode cX1_loadOf 22 = .ok (.iconst 0, 1) := by decide +kernel
theorem dX1_loadOf_23 : decode cX1_loadOf 23 = .ok (.istore 4, 2) := by decide +kernel
theorem dX1_loadOf_25 : decode cX1_loadOf 25 = .ok (.iload 4, 2) := by decide +kernel
theorem dX1_loadOf_27 : decode cX1_loadOf 27 = .ok (.aload_n 0, 1) := by decide +kernel
theorem dX1_loadOf_28 : decode cX1_loadOf 28 = .ok (.getfield 21, 3) := by decide +kernel
theorem dX1_loadOf_31 : decode cX1_loadOf 31 = .ok (.if_icmp .ge 28, 3) := by decide +kernel
theorem dX1_loadOf_34 : decode cX1_loadOf 34 = .ok (.iload_n 2, 1) := by decide +kernel
theorem dX1_loadOf_35 : decode cX1_loadOf 35 = .ok (.iload 4, 2) := by decide +kernel
theorem dX1_loadOf_37 : decode cX1_loadOf 37 = .ok (.ishr, 1) := by decide +kernel
theorem dX1_loadOf_38 : decode cX1_loadOf 38 = .ok (.iconst 1, 1) := by decide +kernel
theorem dX1_loadOf_39 : decode cX1_loadOf 39 = .ok (.iand, 1) := by decide +kernel
theorem dX1_loadOf_40 : decode cX1_loadOf 40 = .ok (.ifCond .eq 13, 3) := by decide +kernel
theorem dX1_loadOf_43 : decode cX1_loadOf 43 = .ok (.iload_n 3, 1) := by decide +kernel
theorem dX1_loadOf_44 : decode cX1_loadOf 44 = .ok (.aload_n 0, 1) := by decide +kernel
theorem dX1_loadOf_45 : decode cX1_loadOf 45 = .ok (.getfield 28, 3) := by decide +kernel
theorem dX1_loadOf_48 : decode cX1_loadOf 48 = .ok (.iload 4, 2) := by decide +kernel
theorem dX1_loadOf_50 : decode cX1_loadOf 50 = .ok (.iaload, 1) := by decide +kernel
theorem dX1_loadOf_51 : decode cX1_loadOf 51 = .ok (.iadd, 1) := by decide +kernel
theorem dX1_loadOf_52 : decode cX1_loadOf 52 = .ok (.istore_n 3, 1) := by decide +kernel
theorem dX1_loadOf_53 : decode cX1_loadOf 53 = .ok (.iinc 4 1, 3) := by decide +kernel
theorem dX1_loadOf_56 : decode cX1_loadOf 56 = .ok (.goto (-31), 3) := by decide +kernel
theorem dX1_loadOf_59 : decode cX1_loadOf 59 = .ok (.iload_n 3, 1) := by decide +kernel
theorem dX1_loadOf_60 : decode cX1_loadOf 60 = .ok (.ireturn, 1) := by decide +kernel
theorem dX1_strengthOf_0 : decode cX1_strengthOf 0 = .ok (.aload_n 0, 1) := by decide +kernel
theorem dX1_strengthOf_1 : decode cX1_strengthOf 1 = .ok (.getfield 15, 3) := by decide +kernel
theorem dX1_strengthOf_4 : decode cX1_strengthOf 4 = .ok (.aload_n 0, 1) := by decide +kernel
theorem dX1_strengthOf_5 : decode cX1_strengthOf 5 = .ok (.getfield 24, 3) := by decide +kernel
theorem dX1_strengthOf_8 : decode cX1_strengthOf 8 = .ok (.iload_n 1, 1) := by decide +kernel
theorem dX1_strengthOf_9 : decode cX1_strengthOf 9 = .ok (.iaload, 1) := by decide +kernel
theorem dX1_strengthOf_10 : decode cX1_strengthOf 10 = .ok (.imul, 1) := by decide +kernel
theorem dX1_strengthOf_11 : decode cX1_strengthOf 11 = .ok (.ireturn, 1) := by decide +kernel
theorem dX1_isAtRest_0 : decode cX1_isAtRest 0 = .ok (.aload_n 0, 1) := by decide +kernel
theorem dX1_isAtRest_1 : decode cX1_isAtRest 1 = .ok (.iload_n 1, 1) := by decide +kernel
theorem dX1_isAtRest_2 : decode cX1_isAtRest 2 = .ok (.invokevirtual 93, 3) := by decide +kernel
theorem dX1_isAtRest_5 : decode cX1_isAtRest 5 = .ok (.ifCond .eq 15, 3) := by decide +kernel
theorem dX1_isAtRest_8 : decode cX1_isAtRest 8 = .ok (.aload_n 0, 1) := by decide +kernel
theorem dX1_isAtRest_9 : decode cX1_isAtRest 9 = .ok (.iload_n 1, 1) := by decide +kernel
theorem dX1_isAtRest_10 : decode cX1_isAtRest 10 = .ok (.invokevirtual 96, 3) := by decide +kernel
theorem dX1_isAtRest_13 : decode cX1_isAtRest 13 = .ok (.ifCond .ne 7, 3) := by decide +kernel
theorem dX1_isAtRest_16 : decode cX1_isAtRest 16 = .ok (.iconst 1, 1) := by decide +kernel
theorem dX1_isAtRest_17 : decode cX1_isAtRest 17 = .ok (.goto 4, 3) := by decide +kernel
theorem dX1_isAtRest_20 : decode cX1_isAtRest 20 = .ok (.iconst 0, 1) := by decide +kernel
theorem dX1_isAtRest_21 : decode cX1_isAtRest 21 = .ok (.ireturn, 1) := by decide +kernel
theorem dX1_isAllAtRest_0 : decode cX1_isAllAtRest 0 = .ok (.iconst 0, 1) := by decide +kernel
theorem dX1_isAllAtRest_1 : decode cX1_isAllAtRest 1 = .ok (.istore_n 1, 1) := by decide +kernel
theorem dX1_isAllAtRest_2 : decode cX1_isAllAtRest 2 = .ok (.iload_n 1, 1) := by decide +kernel
theorem dX1_isAllAtRest_3 : decode cX1_isAllAtRest 3 = .ok (.aload_n 0, 1) := by decide +kernel
theorem dX1_isAllAtRest_4 : decode cX1_isAllAtRest 4 = .ok (.getfield 21, 3) := by decide +kernel
theorem dX1_isAllAtRest_7 : decode cX1_isAllAtRest 7 = .ok (.if_icmp .ge 58, 3) := by decide +kernel
theorem dX1_isAllAtRest_10 : decode cX1_isAllAtRest 10 = .ok (.aload_n 0, 1) := by decide +kernel
theorem dX1_isAllAtRest_11 : decode cX1_isAllAtRest 11 = .ok (.iload_n 1, 1) := by decide +kernel
theorem dX1_isAllAtRest_12 : decode cX1_isAllAtRest 12 = .ok (.invokevirtual 93, 3) := by decide +kernel
theorem dX1_isAllAtRest_15 : decode cX1_isAllAtRest 15 = .ok (.ifCond .eq 15, 3) := by decide +kernel
theorem dX1_isAllAtRest_18 : decode cX1_isAllAtRest 18 = .ok (.aload_n 0, 1) := by decide +kernel
theorem dX1_isAllAtRest_19 : decode cX1_isAllAtRest 19 = .ok (.iload_n 1, 1) := by decide +kernel
theorem dX1_isAllAtRest_20 : decode cX1_isAllAtRest 20 = .ok (.invokevirtual 128, 3) := by decide +kernel
theorem dX1_isAllAtRest_23 : decode cX1_isAllAtRest 23 = .ok (.ifCond .ne 7, 3) := by decide +kernel
theorem dX1_isAllAtRest_26 : decode cX1_isAllAtRest 26 = .ok (.iconst 1, 1) := by decide +kernel
theorem dX1_isAllAtRest_27 : decode cX1_isAllAtRest 27 = .ok (.goto 4, 3) := by decide +kernel
theorem dX1_isAllAtRest_30 : decode cX1_isAllAtRest 30 = .ok (.iconst 0, 1) := by decide +kernel
theorem dX1_isAllAtRest_31 : decode cX1_isAllAtRest 31 = .ok (.istore_n 2, 1) := by decide +kernel
theorem dX1_isAllAtRest_32 : decode cX1_isAllAtRest 32 = .ok (.iload_n 2, 1) := by decide +kernel
theorem dX1_isAllAtRest_33 : decode cX1_isAllAtRest 33 = .ok (.ifCond .ne 24, 3) := by decide +kernel
theorem dX1_isAllAtRest_36 : decode cX1_isAllAtRest 36 = .ok (.aload_n 0, 1) := by decide +kernel
theorem dX1_isAllAtRest_37 : decode cX1_isAllAtRest 37 = .ok (.iload_n 1, 1) := by decide +kernel
theorem dX1_isAllAtRest_38 : decode cX1_isAllAtRest 38 = .ok (.invokevirtual 78, 3) := by decide +kernel
theorem dX1_isAllAtRest_41 : decode cX1_isAllAtRest 41 = .ok (.ifCond .ne 16, 3) := by decide +kernel
theorem dX1_isAllAtRest_44 : decode cX1_isAllAtRest 44 = .ok (.aload_n 0, 1) := by decide +kernel
theorem dX1_isAllAtRest_45 : decode cX1_isAllAtRest 45 = .ok (.iload_n 1, 1) := by decide +kernel
theorem dX1_isAllAtRest_46 : decode cX1_isAllAtRest 46 = .ok (.invokevirtual 103, 3) := by decide +kernel
theorem dX1_isAllAtRest_49 : decode cX1_isAllAtRest 49 = .ok (.aload_n 0, 1) := by decide +kernel
theorem dX1_isAllAtRest_50 : decode cX1_isAllAtRest 50 = .ok (.iload_n 1, 1) := by decide +kernel
theorem dX1_isAllAtRest_51 : decode cX1_isAllAtRest 51 = .ok (.invokevirtual 106, 3) := by decide +kernel
theorem dX1_isAllAtRest_54 : decode cX1_isAllAtRest 54 = .ok (.if_icmp .le 5, 3) := by decide +kernel
theorem dX1_isAllAtRest_57 : decode cX1_isAllAtRest 57 = .ok (.iconst 0, 1) := by decide +kernel
theorem dX1_isAllAtRest_58 : decode cX1_isAllAtRest 58 = .ok (.ireturn, 1) := by decide +kernel
theorem dX1_isAllAtRest_59 : decode cX1_isAllAtRest 59 = .ok (.iinc 1 1, 3) := by decide +kernel
theorem dX1_isAllAtRest_62 : decode cX1_isAllAtRest 62 = .ok (.goto (-60), 3) := by decide +kernel
theorem dX1_isAllAtRest_65 : decode cX1_isAllAtRest 65 = .ok (.iconst 1, 1) := by decide +kernel
theorem dX1_isAllAtRest_66 : decode cX1_isAllAtRest 66 = .ok (.ireturn, 1) := by decide +kernel
theorem dX1_stateOf_0 : decode cX1_stateOf 0 = .ok (.aload_n 0, 1) := by decide +kernel
theorem dX1_stateOf_1 : decode cX1_stateOf 1 = .ok (.getfield 40, 3) := by decide +kernel
theorem dX1_stateOf_4 : decode cX1_stateOf 4 = .ok (.iload_n 1, 1) := by decide +kernel
theorem dX1_stateOf_5 : decode cX1_stateOf 5 = .ok (.iaload, 1) := by decide +kernel
theorem dX1_stateOf_6 : decode cX1_stateOf 6 = .ok (.bipush (-2), 2) := by decide +kernel
theorem dX1_stateOf_8 : decode cX1_stateOf 8 = .ok (.if_icmp .ne 5, 3) := by decide +kernel
theorem dX1_stateOf_11 : decode cX1_stateOf 11 = .ok (.iconst 3, 1) := by decide +kernel
theorem dX1_stateOf_12 : decode cX1_stateOf 12 = .ok (.ireturn, 1) := by decide +kernel
theorem dX1_stateOf_13 : decode cX1_stateOf 13 = .ok (.aload_n 0, 1) := by decide +kernel
theorem dX1_stateOf_14 : decode cX1_stateOf 14 = .ok (.getfield 40, 3) := by decide +kernel
theorem dX1_stateOf_17 : decode cX1_stateOf 17 = .ok (.iload_n 1, 1) := by decide +kernel
theorem dX1_stateOf_18 : decode cX1_stateOf 18 = .ok (.iaload, 1) := by decide +kernel
theorem dX1_stateOf_19 : decode cX1_stateOf 19 = .ok (.iconst (-1), 1) := by decide +kernel
theorem dX1_stateOf_20 : decode cX1_stateOf 20 = .ok (.if_icmp .ne 5, 3) := by decide +kernel
theorem dX1_stateOf_23 : decode cX1_stateOf 23 = .ok (.iconst 0, 1) := by decide +kernel
theorem dX1_stateOf_24 : decode cX1_stateOf 24 = .ok (.ireturn, 1) := by decide +kernel
theorem dX1_stateOf_25 : decode cX1_stateOf 25 = .ok (.aload_n 0, 1) := by decide +kernel
theorem dX1_stateOf_26 : decode cX1_stateOf 26 = .ok (.iload_n 1, 1) := by decide +kernel
theorem dX1_stateOf_27 : decode cX1_stateOf 27 = .ok (.invokevirtual 128, 3) := by decide +kernel
theorem dX1_stateOf_30 : decode cX1_stateOf 30 = .ok (.ifCond .eq 7, 3) := by decide +kernel
theorem dX1_stateOf_33 : decode cX1_stateOf 33 = .ok (.iconst 2, 1) := by decide +kernel
theorem dX1_stateOf_34 : decode cX1_stateOf 34 = .ok (.goto 4, 3) := by decide +kernel
theorem dX1_stateOf_37 : decode cX1_stateOf 37 = .ok (.iconst 1, 1) := by decide +kernel
theorem dX1_stateOf_38 : decode cX1_stateOf 38 = .ok (.ireturn, 1) := by decide +kernel
theorem dX1_placeOf_0 : decode cX1_placeOf 0 = .ok (.aload_n 0, 1) := by decide +kernel
theorem dX1_placeOf_1 : decode cX1_placeOf 1 = .ok (.iload_n 1, 1) := by decide +kernel
theorem dX1_placeOf_2 : decode cX1_placeOf 2 = .ok (.invokevirtual 93, 3) := by decide +kernel
theorem dX1_placeOf_5 : decode cX1_placeOf 5 = .ok (.ifCond .ne 5, 3) := by decide +kernel
theorem dX1_placeOf_8 : decode cX1_placeOf 8 = .ok (.iconst (-1), 1) := by decide +kernel
theorem dX1_placeOf_9 : decode cX1_placeOf 9 = .ok (.ireturn, 1) := by decide +kernel
theorem dX1_placeOf_10 : decode cX1_placeOf 10 = .ok (.iconst 0, 1) := by decide +kernel
theorem dX1_placeOf_11 : decode cX1_placeOf 11 = .ok (.istore_n 2, 1) := by decide +kernel
theorem dX1_placeOf_12 : decode cX1_placeOf 12 = .ok (.iconst 0, 1) := by decide +kernel
theorem dX1_placeOf_13 : decode cX1_placeOf 13 = .ok (.istore_n 3, 1) := by decide +kernel
theorem dX1_placeOf_14 : decode cX1_placeOf 14 = .ok (.iload_n 3, 1) := by decide +kernel
theorem dX1_placeOf_15 : decode cX1_placeOf 15 = .ok (.aload_n 0, 1) := by decide +kernel
theorem dX1_placeOf_16 : decode cX1_placeOf 16 = .ok (.getfield 21, 3) := by decide +kernel
theorem dX1_placeOf_19 : decode cX1_placeOf 19 = .ok (.if_icmp .ge 77, 3) := by decide +kernel
theorem dX1_placeOf_22 : decode cX1_placeOf 22 = .ok (.aload_n 0, 1) := by decide +kernel
theorem dX1_placeOf_23 : decode cX1_placeOf 23 = .ok (.getfield 40, 3) := by decide +kernel
theorem dX1_placeOf_26 : decode cX1_placeOf 26 = .ok (.iload_n 3, 1) := by decide +kernel
theorem dX1_placeOf_27 : decode cX1_placeOf 27 = .ok (.iaload, 1) := by decide +kernel
theorem dX1_placeOf_28 : decode cX1_placeOf 28 = .ok (.aload_n 0, 1) := by decide +kernel
theorem dX1_placeOf_29 : decode cX1_placeOf 29 = .ok (.getfield 40, 3) := by decide +kernel
theorem dX1_placeOf_32 : decode cX1_placeOf 32 = .ok (.iload_n 1, 1) := by decide +kernel
theorem dX1_placeOf_33 : decode cX1_placeOf 33 = .ok (.iaload, 1) := by decide +kernel
theorem dX1_placeOf_34 : decode cX1_placeOf 34 = .ok (.if_icmp .ne 22, 3) := by decide +kernel
theorem dX1_placeOf_37 : decode cX1_placeOf 37 = .ok (.aload_n 0, 1) := by decide +kernel
theorem dX1_placeOf_38 : decode cX1_placeOf 38 = .ok (.getfield 34, 3) := by decide +kernel
theorem dX1_placeOf_41 : decode cX1_placeOf 41 = .ok (.iload_n 3, 1) := by decide +kernel
theorem dX1_placeOf_42 : decode cX1_placeOf 42 = .ok (.iaload, 1) := by decide +kernel
theorem dX1_placeOf_43 : decode cX1_placeOf 43 = .ok (.aload_n 0, 1) := by decide +kernel
theorem dX1_placeOf_44 : decode cX1_placeOf 44 = .ok (.getfield 34, 3) := by decide +kernel
theorem dX1_placeOf_47 : decode cX1_placeOf 47 = .ok (.iload_n 1, 1) := by decide +kernel
theorem dX1_placeOf_48 : decode cX1_placeOf 48 = .ok (.iaload, 1) := by decide +kernel
theorem dX1_placeOf_49 : decode cX1_placeOf 49 = .ok (.if_icmp .ge 7, 3) := by decide +kernel
theorem dX1_placeOf_52 : decode cX1_placeOf 52 = .ok (.iconst 1, 1) := by decide +kernel
theorem dX1_placeOf_53 : decode cX1_placeOf 53 = .ok (.goto 4, 3) := by decide +kernel
theorem dX1_placeOf_56 : decode cX1_placeOf 56 = .ok (.iconst 0, 1) := by decide +kernel
theorem dX1_placeOf_57 : decode cX1_placeOf 57 = .ok (.istore 4, 2) := by decide +kernel
theorem dX1_placeOf_59 : decode cX1_placeOf 59 = .ok (.aload_n 0, 1) := by decide +kernel
theorem dX1_placeOf_60 : decode cX1_placeOf 60 = .ok (.iload_n 3, 1) := by decide +kernel
theorem dX1_placeOf_61 : decode cX1_placeOf 61 = .ok (.invokevirtual 93, 3) := by decide +kernel
theorem dX1_placeOf_64 : decode cX1_placeOf 64 = .ok (.ifCond .eq 26, 3) := by decide +kernel
theorem dX1_placeOf_67 : decode cX1_placeOf 67 = .ok (.aload_n 0, 1) := by decide +kernel
theorem dX1_placeOf_68 : decode cX1_placeOf 68 = .ok (.getfield 40, 3) := by decide +kernel
theorem dX1_placeOf_71 : decode cX1_placeOf 71 = .ok (.iload_n 3, 1) := by decide +kernel
theorem dX1_placeOf_72 : decode cX1_placeOf 72 = .ok (.iaload, 1) := by decide +kernel
theorem dX1_placeOf_73 : decode cX1_placeOf 73 = .ok (.aload_n 0, 1) := by decide +kernel
theorem dX1_placeOf_74 : decode cX1_placeOf 74 = .ok (.getfield 40, 3) := by decide +kernel
theorem dX1_placeOf_77 : decode cX1_placeOf 77 = .ok (.iload_n 1, 1) := by decide +kernel
theorem dX1_placeOf_78 : decode cX1_placeOf 78 = .ok (.iaload, 1) := by decide +kernel
theorem dX1_placeOf_79 : decode cX1_placeOf 79 = .ok (.if_icmp .lt 8, 3) := by decide +kernel
theorem dX1_placeOf_82 : decode cX1_placeOf 82 = .ok (.iload 4, 2) := by decide +kernel
theorem dX1_placeOf_84 : decode cX1_placeOf 84 = .ok (.ifCond .eq 6, 3) := by decide +kernel
theorem dX1_placeOf_87 : decode cX1_placeOf 87 = .ok (.iinc 2 1, 3) := by decide +kernel
theorem dX1_placeOf_90 : decode cX1_placeOf 90 = .ok (.iinc 3 1, 3) := by decide +kernel
theorem dX1_placeOf_93 : decode cX1_placeOf 93 = .ok (.goto (-79), 3) := by decide +kernel
theorem dX1_placeOf_96 : decode cX1_placeOf 96 = .ok (.iload_n 2, 1) := by decide +kernel
theorem dX1_placeOf_97 : decode cX1_placeOf 97 = .ok (.ireturn, 1) := by decide +kernel
theorem dX1_readAt_0 : decode cX1_readAt 0 = .ok (.iconst 0, 1) := by decide +kernel
theorem dX1_readAt_1 : decode cX1_readAt 1 = .ok (.istore_n 2, 1) := by decide +kernel
theorem dX1_readAt_2 : decode cX1_readAt 2 = .ok (.iload_n 2, 1) := by decide +kernel
theorem dX1_readAt_3 : decode cX1_readAt 3 = .ok (.aload_n 0, 1) := by decide +kernel
theorem dX1_readAt_4 : decode cX1_readAt 4 = .ok (.getfield 21, 3) := by decide +kernel
theorem dX1_readAt_7 : decode cX1_readAt 7 = .ok (.if_icmp .ge 28, 3) := by decide +kernel
theorem dX1_readAt_10 : decode cX1_readAt 10 = .ok (.aload_n 0, 1) := by decide +kernel
theorem dX1_readAt_11 : decode cX1_readAt 11 = .ok (.iload_n 2, 1) := by decide +kernel
theorem dX1_readAt_12 : decode cX1_readAt 12 = .ok (.invokevirtual 93, 3) := by decide +kernel
theorem dX1_readAt_15 : decode cX1_readAt 15 = .ok (.ifCond .eq 14, 3) := by decide +kernel
theorem dX1_readAt_18 : decode cX1_readAt 18 = .ok (.aload_n 0, 1) := by decide +kernel
theorem dX1_readAt_19 : decode cX1_readAt 19 = .ok (.iload_n 2, 1) := by decide +kernel
theorem dX1_readAt_20 : decode cX1_readAt 20 = .ok (.invokevirtual 131, 3) := by decide +kernel
theorem dX1_readAt_23 : decode cX1_readAt 23 = .ok (.iload_n 1, 1) := by decide +kernel
theorem dX1_readAt_24 : decode cX1_readAt 24 = .ok (.if_icmp .ne 5, 3) := by decide +kernel
theorem dX1_readAt_27 : decode cX1_readAt 27 = .ok (.iload_n 2, 1) := by decide +kernel
theorem dX1_readAt_28 : decode cX1_readAt 28 = .ok (.ireturn, 1) := by decide +kernel
theorem dX1_readAt_29 : decode cX1_readAt 29 = .ok (.iinc 2 1, 3) := by decide +kernel
theorem dX1_readAt_32 : decode cX1_readAt 32 = .ok (.goto (-30), 3) := by decide +kernel
theorem dX1_readAt_35 : decode cX1_readAt 35 = .ok (.iconst (-1), 1) := by decide +kernel
theorem dX1_readAt_36 : decode cX1_readAt 36 = .ok (.ireturn, 1) := by decide +kernel
theorem dX1_lineOn_0 : decode cX1_lineOn 0 = .ok (.iload_n 1, 1) := by decide +kernel
theorem dX1_lineOn_1 : decode cX1_lineOn 1 = .ok (.ifCond .lt 22, 3) := by decide +kernel
theorem dX1_lineOn_4 : decode cX1_lineOn 4 = .ok (.iload_n 1, 1) := by decide +kernel
theorem dX1_lineOn_5 : decode cX1_lineOn 5 = .ok (.bipush 16, 2) := by decide +kernel
theorem dX1_lineOn_7 : decode cX1_lineOn 7 = .ok (.if_icmp .ge 16, 3) := by decide +kernel
theorem dX1_lineOn_10 : decode cX1_lineOn 10 = .ok (.aload_n 0, 1) := by decide +kernel
theorem dX1_lineOn_11 : decode cX1_lineOn 11 = .ok (.getfield 46, 3) := by decide +kernel
theorem dX1_lineOn_14 : decode cX1_lineOn 14 = .ok (.iload_n 1, 1) := by decide +kernel
theorem dX1_lineOn_15 : decode cX1_lineOn 15 = .ok (.iaload, 1) := by decide +kernel
theorem dX1_lineOn_16 : decode cX1_lineOn 16 = .ok (.iload_n 2, 1) := by decide +kernel
theorem dX1_lineOn_17 : decode cX1_lineOn 17 = .ok (.ishr, 1) := by decide +kernel
theorem dX1_lineOn_18 : decode cX1_lineOn 18 = .ok (.iconst 1, 1) := by decide +kernel
theorem dX1_lineOn_19 : decode cX1_lineOn 19 = .ok (.iand, 1) := by decide +kernel
theorem dX1_lineOn_20 : decode cX1_lineOn 20 = .ok (.ifCond .ne 5, 3) := by decide +kernel
theorem dX1_lineOn_23 : decode cX1_lineOn 23 = .ok (.iconst (-1), 1) := by decide +kernel
theorem dX1_lineOn_24 : decode cX1_lineOn 24 = .ok (.ireturn, 1) := by decide +kernel
theorem dX1_lineOn_25 : decode cX1_lineOn 25 = .ok (.iconst 0, 1) := by decide +kernel
theorem dX1_lineOn_26 : decode cX1_lineOn 26 = .ok (.istore_n 3, 1) := by decide +kernel
theorem dX1_lineOn_27 : decode cX1_lineOn 27 = .ok (.iload_n 3, 1) := by decide +kernel
theorem dX1_lineOn_28 : decode cX1_lineOn 28 = .ok (.aload_n 0, 1) := by decide +kernel
theorem dX1_lineOn_29 : decode cX1_lineOn 29 = .ok (.getfield 21, 3) := by decide +kernel
theorem dX1_lineOn_32 : decode cX1_lineOn 32 = .ok (.if_icmp .ge 34, 3) := by decide +kernel
theorem dX1_lineOn_35 : decode cX1_lineOn 35 = .ok (.aload_n 0, 1) := by decide +kernel
theorem dX1_lineOn_36 : decode cX1_lineOn 36 = .ok (.getfield 40, 3) := by decide +kernel
theorem dX1_lineOn_39 : decode cX1_lineOn 39 = .ok (.iload_n 3, 1) := by decide +kernel
theorem dX1_lineOn_40 : decode cX1_lineOn 40 = .ok (.iaload, 1) := by decide +kernel
theorem dX1_lineOn_41 : decode cX1_lineOn 41 = .ok (.iload_n 1, 1) := by decide +kernel
theorem dX1_lineOn_42 : decode cX1_lineOn 42 = .ok (.if_icmp .ne 18, 3) := by decide +kernel
theorem dX1_lineOn_45 : decode cX1_lineOn 45 = .ok (.aload_n 0, 1) := by decide +kernel
theorem dX1_lineOn_46 : decode cX1_lineOn 46 = .ok (.getfield 43, 3) := by decide +kernel
theorem dX1_lineOn_49 : decode cX1_lineOn 49 = .ok (.iload_n 3, 1) := by decide +kernel
theorem dX1_lineOn_50 : decode cX1_lineOn 50 = .ok (.iaload, 1) := by decide +kernel
theorem dX1_lineOn_51 : decode cX1_lineOn 51 = .ok (.iload_n 2, 1) := by decide +kernel
theorem dX1_lineOn_52 : decode cX1_lineOn 52 = .ok (.ishr, 1) := by decide +kernel
theorem dX1_lineOn_53 : decode cX1_lineOn 53 = .ok (.iconst 1, 1) := by decide +kernel
theorem dX1_lineOn_54 : decode cX1_lineOn 54 = .ok (.iand, 1) := by decide +kernel
theorem dX1_lineOn_55 : decode cX1_lineOn 55 = .ok (.ifCond .eq 5, 3) := by decide +kernel
theorem dX1_lineOn_58 : decode cX1_lineOn 58 = .ok (.iload_n 3, 1) := by decide +kernel
theorem dX1_lineOn_59 : decode cX1_lineOn 59 = .ok (.ireturn, 1) := by decide +kernel
theorem dX1_lineOn_60 : decode cX1_lineOn 60 = .ok (.iinc 3 1, 3) := by decide +kernel
theorem dX1_lineOn_63 : decode cX1_lineOn 63 = .ok (.goto (-36), 3) := by decide +kernel
theorem dX1_lineOn_66 : decode cX1_lineOn 66 = .ok (.iconst (-1), 1) := by decide +kernel
theorem dX1_lineOn_67 : decode cX1_lineOn 67 = .ok (.ireturn, 1) := by decide +kernel
theorem dX1_property_0 : decode cX1_property 0 = .ok (.iload_n 2, 1) := by decide +kernel
theorem dX1_property_1 : decode cX1_property 1 = .ok (.tableswitch 159 0 10 #[59, 66, 73, 80, 87, 94, 100, 119, 125, 131, 145], 59) := by decide +kernel
theorem dX1_property_60 : decode cX1_property 60 = .ok (.aload_n 0, 1) := by decide +kernel
theorem dX1_property_61 : decode cX1_property 61 = .ok (.getfield 24, 3) := by decide +kernel
theorem dX1_property_64 : decode cX1_property 64 = .ok (.iload_n 1, 1) := by decide +kernel
theorem dX1_property_65 : decode cX1_property 65 = .ok (.iaload, 1) := by decide +kernel
theorem dX1_property_66 : decode cX1_property 66 = .ok (.ireturn, 1) := by decide +kernel
theorem dX1_property_67 : decode cX1_property 67 = .ok (.aload_n 0, 1) := by decide +kernel
theorem dX1_property_68 : decode cX1_property 68 = .ok (.getfield 28, 3) := by decide +kernel
theorem dX1_property_71 : decode cX1_property 71 = .ok (.iload_n 1, 1) := by decide +kernel
theorem dX1_property_72 : decode cX1_property 72 = .ok (.iaload, 1) := by decide +kernel
theorem dX1_property_73 : decode cX1_property 73 = .ok (.ireturn, 1) := by decide +kernel
theorem dX1_property_74 : decode cX1_property 74 = .ok (.aload_n 0, 1) := by decide +kernel
theorem dX1_property_75 : decode cX1_property 75 = .ok (.getfield 31, 3) := by decide +kernel
theorem dX1_property_78 : decode cX1_property 78 = .ok (.iload_n 1, 1) := by decide +kernel
theorem dX1_property_79 : decode cX1_property 79 = .ok (.iaload, 1) := by decide +kernel
theorem dX1_property_80 : decode cX1_property 80 = .ok (.ireturn, 1) := by decide +kernel
theorem dX1_property_81 : decode cX1_property 81 = .ok (.aload_n 0, 1) := by decide +kernel
theorem dX1_property_82 : decode cX1_property 82 = .ok (.getfield 34, 3) := by decide +kernel
theorem dX1_property_85 : decode cX1_property 85 = .ok (.iload_n 1, 1) := by decide +kernel
theorem dX1_property_86 : decode cX1_property 86 = .ok (.iaload, 1) := by decide +kernel
theorem dX1_property_87 : decode cX1_property 87 = .ok (.ireturn, 1) := by decide +kernel
theorem dX1_property_88 : decode cX1_property 88 = .ok (.aload_n 0, 1) := by decide +kernel
theorem dX1_property_89 : decode cX1_property 89 = .ok (.getfield 37, 3) := by decide +kernel
theorem dX1_property_92 : decode cX1_property 92 = .ok (.iload_n 1, 1) := by decide +kernel
theorem dX1_property_93 : decode cX1_property 93 = .ok (.iaload, 1) := by decide +kernel
theorem dX1_property_94 : decode cX1_property 94 = .ok (.ireturn, 1) := by decide +kernel
theorem dX1_property_95 : decode cX1_property 95 = .ok (.aload_n 0, 1) := by decide +kernel
theorem dX1_property_96 : decode cX1_property 96 = .ok (.iload_n 1, 1) := by decide +kernel
theorem dX1_property_97 : decode cX1_property 97 = .ok (.invokevirtual 134, 3) := by decide +kernel
theorem dX1_property_100 : decode cX1_property 100 = .ok (.ireturn, 1) := by decide +kernel
theorem dX1_property_101 : decode cX1_property 101 = .ok (.aload_n 0, 1) := by decide +kernel
theorem dX1_property_102 : decode cX1_property 102 = .ok (.iload_n 1, 1) := by decide +kernel
theorem dX1_property_103 : decode cX1_property 103 = .ok (.invokevirtual 93, 3) := by decide +kernel
theorem dX1_property_106 : decode cX1_property 106 = .ok (.ifCond .eq 12, 3) := by decide +kernel
theorem dX1_property_109 : decode cX1_property 109 = .ok (.aload_n 0, 1) := by decide +kernel
theorem dX1_property_110 : decode cX1_property 110 = .ok (.getfield 40, 3) := by decide +kernel
theorem dX1_property_113 : decode cX1_property 113 = .ok (.iload_n 1, 1) := by decide +kernel
theorem dX1_property_114 : decode cX1_property 114 = .ok (.iaload, 1) := by decide +kernel
theorem dX1_property_115 : decode cX1_property 115 = .ok (.goto 4, 3) := by decide +kernel
theorem dX1_property_118 : decode cX1_property 118 = .ok (.iconst (-1), 1) := by decide +kernel
theorem dX1_property_119 : decode cX1_property 119 = .ok (.ireturn, 1) := by decide +kernel
theorem dX1_property_120 : decode cX1_property 120 = .ok (.aload_n 0, 1) := by decide +kernel
theorem dX1_property_121 : decode cX1_property 121 = .ok (.iload_n 1, 1) := by decide +kernel
theorem dX1_property_122 : decode cX1_property 122 = .ok (.invokevirtual 103, 3) := by decide +kernel
theorem dX1_property_125 : decode cX1_property 125 = .ok (.ireturn, 1) := by decide +kernel
theorem dX1_property_126 : decode cX1_property 126 = .ok (.aload_n 0, 1) := by decide +kernel
theorem dX1_property_127 : decode cX1_property 127 = .ok (.iload_n 1, 1) := by decide +kernel
theorem dX1_property_128 : decode cX1_property 128 = .ok (.invokevirtual 106, 3) := by decide +kernel
theorem dX1_property_131 : decode cX1_property 131 = .ok (.ireturn, 1) := by decide +kernel
theorem dX1_property_132 : decode cX1_property 132 = .ok (.aload_n 0, 1) := by decide +kernel
theorem dX1_property_133 : decode cX1_property 133 = .ok (.iload_n 1, 1) := by decide +kernel
theorem dX1_property_134 : decode cX1_property 134 = .ok (.aload_n 0, 1) := by decide +kernel
theorem dX1_property_135 : decode cX1_property 135 = .ok (.getfield 40, 3) := by decide +kernel
theorem dX1_property_138 : decode cX1_property 138 = .ok (.iload_n 1, 1) := by decide +kernel
theorem dX1_property_139 : decode cX1_property 139 = .ok (.iaload, 1) := by decide +kernel
theorem dX1_property_140 : decode cX1_property 140 = .ok (.iconst 1, 1) := by decide +kernel
theorem dX1_property_141 : decode cX1_property 141 = .ok (.iadd, 1) := by decide +kernel
theorem dX1_property_142 : decode cX1_property 142 = .ok (.invokevirtual 125, 3) := by decide +kernel
theorem dX1_property_145 : decode cX1_property 145 = .ok (.ireturn, 1) := by decide +kernel
theorem dX1_property_146 : decode cX1_property 146 = .ok (.aload_n 0, 1) := by decide +kernel
theorem dX1_property_147 : decode cX1_property 147 = .ok (.iload_n 1, 1) := by decide +kernel
theorem dX1_property_148 : decode cX1_property 148 = .ok (.aload_n 0, 1) := by decide +kernel
theorem dX1_property_149 : decode cX1_property 149 = .ok (.getfield 40, 3) := by decide +kernel
theorem dX1_property_152 : decode cX1_property 152 = .ok (.iload_n 1, 1) := by decide +kernel
theorem dX1_property_153 : decode cX1_property 153 = .ok (.iaload, 1) := by decide +kernel
theorem dX1_property_154 : decode cX1_property 154 = .ok (.iconst 1, 1) := by decide +kernel
theorem dX1_property_155 : decode cX1_property 155 = .ok (.isub, 1) := by decide +kernel
theorem dX1_property_156 : decode cX1_property 156 = .ok (.invokevirtual 125, 3) := by decide +kernel
theorem dX1_property_159 : decode cX1_property 159 = .ok (.ireturn, 1) := by decide +kernel
theorem dX1_property_160 : decode cX1_property 160 = .ok (.aload_n 0, 1) := by decide +kernel
theorem dX1_property_161 : decode cX1_property 161 = .ok (.iload_n 1, 1) := by decide +kernel
theorem dX1_property_162 : decode cX1_property 162 = .ok (.invokevirtual 131, 3) := by decide +kernel
theorem dX1_property_165 : decode cX1_property 165 = .ok (.ireturn, 1) := by decide +kernel
theorem dX1_tally_0 : decode cX1_tally 0 = .ok (.iload_n 1, 1) := by decide +kernel
theorem dX1_tally_1 : decode cX1_tally 1 = .ok (.tableswitch 123 0 9 #[55, 60, 65, 80, 85, 90, 95, 100, 105, 110], 55) := by decide +kernel
theorem dX1_tally_56 : decode cX1_tally 56 = .ok (.aload_n 0, 1) := by decide +kernel
theorem dX1_tally_57 : decode cX1_tally 57 = .ok (.getfield 9, 3) := by decide +kernel
theorem dX1_tally_60 : decode cX1_tally 60 = .ok (.ireturn, 1) := by decide +kernel
theorem dX1_tally_61 : decode cX1_tally 61 = .ok (.aload_n 0, 1) := by decide +kernel
theorem dX1_tally_62 : decode cX1_tally 62 = .ok (.getfield 21, 3) := by decide +kernel
theorem dX1_tally_65 : decode cX1_tally 65 = .ok (.ireturn, 1) := by decide +kernel
theorem dX1_tally_66 : decode cX1_tally 66 = .ok (.aload_n 0, 1) := by decide +kernel
theorem dX1_tally_67 : decode cX1_tally 67 = .ok (.getfield 21, 3) := by decide +kernel
theorem dX1_tally_70 : decode cX1_tally 70 = .ok (.aload_n 0, 1) := by decide +kernel
theorem dX1_tally_71 : decode cX1_tally 71 = .ok (.invokevirtual 137, 3) := by decide +kernel
theorem dX1_tally_74 : decode cX1_tally 74 = .ok (.isub, 1) := by decide +kernel
theorem dX1_tally_75 : decode cX1_tally 75 = .ok (.aload_n 0, 1) := by decide +kernel
theorem dX1_tally_76 : decode cX1_tally 76 = .ok (.invokevirtual 141, 3) := by decide +kernel
theorem dX1_tally_79 : decode cX1_tally 79 = .ok (.isub, 1) := by decide +kernel
theorem dX1_tally_80 : decode cX1_tally 80 = .ok (.ireturn, 1) := by decide +kernel
theorem dX1_tally_81 : decode cX1_tally 81 = .ok (.aload_n 0, 1) := by decide +kernel
theorem dX1_tally_82 : decode cX1_tally 82 = .ok (.invokevirtual 141, 3) := by decide +kernel
theorem dX1_tally_85 : decode cX1_tally 85 = .ok (.ireturn, 1) := by decide +kernel
theorem dX1_tally_86 : decode cX1_tally 86 = .ok (.aload_n 0, 1) := by decide +kernel
theorem dX1_tally_87 : decode cX1_tally 87 = .ok (.invokevirtual 144, 3) := by decide +kernel
theorem dX1_tally_90 : decode cX1_tally 90 = .ok (.ireturn, 1) := by decide +kernel
theorem dX1_tally_91 : decode cX1_tally 91 = .ok (.aload_n 0, 1) := by decide +kernel
theorem dX1_tally_92 : decode cX1_tally 92 = .ok (.invokevirtual 137, 3) := by decide +kernel
theorem dX1_tally_95 : decode cX1_tally 95 = .ok (.ireturn, 1) := by decide +kernel
theorem dX1_tally_96 : decode cX1_tally 96 = .ok (.aload_n 0, 1) := by decide +kernel
theorem dX1_tally_97 : decode cX1_tally 97 = .ok (.getfield 18, 3) := by decide +kernel
theorem dX1_tally_100 : decode cX1_tally 100 = .ok (.ireturn, 1) := by decide +kernel
theorem dX1_tally_101 : decode cX1_tally 101 = .ok (.aload_n 0, 1) := by decide +kernel
theorem dX1_tally_102 : decode cX1_tally 102 = .ok (.invokevirtual 147, 3) := by decide +kernel
theorem dX1_tally_105 : decode cX1_tally 105 = .ok (.ireturn, 1) := by decide +kernel
theorem dX1_tally_106 : decode cX1_tally 106 = .ok (.aload_n 0, 1) := by decide +kernel
theorem dX1_tally_107 : decode cX1_tally 107 = .ok (.invokevirtual 150, 3) := by decide +kernel
theorem dX1_tally_110 : decode cX1_tally 110 = .ok (.ireturn, 1) := by decide +kernel
theorem dX1_tally_111 : decode cX1_tally 111 = .ok (.aload_n 0, 1) := by decide +kernel
theorem dX1_tally_112 : decode cX1_tally 112 = .ok (.invokevirtual 71, 3) := by decide +kernel
theorem dX1_tally_115 : decode cX1_tally 115 = .ok (.ifCond .eq 7, 3) := by decide +kernel
theorem dX1_tally_118 : decode cX1_tally 118 = .ok (.iconst 1, 1) := by decide +kernel
theorem dX1_tally_119 : decode cX1_tally 119 = .ok (.goto 4, 3) := by decide +kernel
theorem dX1_tally_122 : decode cX1_tally 122 = .ok (.iconst 0, 1) := by decide +kernel
theorem dX1_tally_123 : decode cX1_tally 123 = .ok (.ireturn, 1) := by decide +kernel
theorem dX1_tally_124 : decode cX1_tally 124 = .ok (.aload_n 0, 1) := by decide +kernel
theorem dX1_tally_125 : decode cX1_tally 125 = .ok (.invokevirtual 153, 3) := by decide +kernel
theorem dX1_tally_128 : decode cX1_tally 128 = .ok (.ireturn, 1) := by decide +kernel
theorem dX1_linesOnScreen_0 : decode cX1_linesOnScreen 0 = .ok (.iconst 0, 1) := by decide +kernel
theorem dX1_linesOnScreen_1 : decode cX1_linesOnScreen 1 = .ok (.istore_n 1, 1) := by decide +kernel
theorem dX1_linesOnScreen_2 : decode cX1_linesOnScreen 2 = .ok (.iconst 0, 1) := by decide +kernel
theorem dX1_linesOnScreen_3 : decode cX1_linesOnScreen 3 = .ok (.istore_n 2, 1) := by decide +kernel
theorem dX1_linesOnScreen_4 : decode cX1_linesOnScreen 4 = .ok (.iload_n 2, 1) := by decide +kernel
theorem dX1_linesOnScreen_5 : decode cX1_linesOnScreen 5 = .ok (.aload_n 0, 1) := by decide +kernel
theorem dX1_linesOnScreen_6 : decode cX1_linesOnScreen 6 = .ok (.getfield 21, 3) := by decide +kernel
theorem dX1_linesOnScreen_9 : decode cX1_linesOnScreen 9 = .ok (.if_icmp .ge 25, 3) := by decide +kernel
theorem dX1_linesOnScreen_12 : decode cX1_linesOnScreen 12 = .ok (.iload_n 1, 1) := by decide +kernel
theorem dX1_linesOnScreen_13 : decode cX1_linesOnScreen 13 = .ok (.aload_n 0, 1) := by decide +kernel
theorem dX1_linesOnScreen_14 : decode cX1_linesOnScreen 14 = .ok (.iload_n 2, 1) := by decide +kernel
theorem dX1_linesOnScreen_15 : decode cX1_linesOnScreen 15 = .ok (.invokevirtual 93, 3) := by decide +kernel
theorem dX1_linesOnScreen_18 : decode cX1_linesOnScreen 18 = .ok (.ifCond .eq 7, 3) := by decide +kernel
theorem dX1_linesOnScreen_21 : decode cX1_linesOnScreen 21 = .ok (.iconst 1, 1) := by decide +kernel
theorem dX1_linesOnScreen_22 : decode cX1_linesOnScreen 22 = .ok (.goto 4, 3) := by decide +kernel
theorem dX1_linesOnScreen_25 : decode cX1_linesOnScreen 25 = .ok (.iconst 0, 1) := by decide +kernel
theorem dX1_linesOnScreen_26 : decode cX1_linesOnScreen 26 = .ok (.iadd, 1) := by decide +kernel
theorem dX1_linesOnScreen_27 : decode cX1_linesOnScreen 27 = .ok (.istore_n 1, 1) := by decide +kernel
theorem dX1_linesOnScreen_28 : decode cX1_linesOnScreen 28 = .ok (.iinc 2 1, 3) := by decide +kernel
theorem dX1_linesOnScreen_31 : decode cX1_linesOnScreen 31 = .ok (.goto (-27), 3) := by decide +kernel
theorem dX1_linesOnScreen_34 : decode cX1_linesOnScreen 34 = .ok (.iload_n 1, 1) := by decide +kernel
theorem dX1_linesOnScreen_35 : decode cX1_linesOnScreen 35 = .ok (.ireturn, 1) := by decide +kernel
theorem dX1_linesAtRest_0 : decode cX1_linesAtRest 0 = .ok (.iconst 0, 1) := by decide +kernel
theorem dX1_linesAtRest_1 : decode cX1_linesAtRest 1 = .ok (.istore_n 1, 1) := by decide +kernel
theorem dX1_linesAtRest_2 : decode cX1_linesAtRest 2 = .ok (.iconst 0, 1) := by decide +kernel
theorem dX1_linesAtRest_3 : decode cX1_linesAtRest 3 = .ok (.istore_n 2, 1) := by decide +kernel
theorem dX1_linesAtRest_4 : decode cX1_linesAtRest 4 = .ok (.iload_n 2, 1) := by decide +kernel
theorem dX1_linesAtRest_5 : decode cX1_linesAtRest 5 = .ok (.aload_n 0, 1) := by decide +kernel
theorem dX1_linesAtRest_6 : decode cX1_linesAtRest 6 = .ok (.getfield 21, 3) := by decide +kernel
theorem dX1_linesAtRest_9 : decode cX1_linesAtRest 9 = .ok (.if_icmp .ge 25, 3) := by decide +kernel
theorem dX1_linesAtRest_12 : decode cX1_linesAtRest 12 = .ok (.iload_n 1, 1) := by decide +kernel
theorem dX1_linesAtRest_13 : decode cX1_linesAtRest 13 = .ok (.aload_n 0, 1) := by decide +kernel
theorem dX1_linesAtRest_14 : decode cX1_linesAtRest 14 = .ok (.iload_n 2, 1) := by decide +kernel
theorem dX1_linesAtRest_15 : decode cX1_linesAtRest 15 = .ok (.invokevirtual 128, 3) := by decide +kernel
theorem dX1_linesAtRest_18 : decode cX1_linesAtRest 18 = .ok (.ifCond .eq 7, 3) := by decide +kernel
theorem dX1_linesAtRest_21 : decode cX1_linesAtRest 21 = .ok (.iconst 1, 1) := by decide +kernel
theorem dX1_linesAtRest_22 : decode cX1_linesAtRest 22 = .ok (.goto 4, 3) := by decide +kernel
theorem dX1_linesAtRest_25 : decode cX1_linesAtRest 25 = .ok (.iconst 0, 1) := by decide +kernel
theorem dX1_linesAtRest_26 : decode cX1_linesAtRest 26 = .ok (.iadd, 1) := by decide +kernel
theorem dX1_linesAtRest_27 : decode cX1_linesAtRest 27 = .ok (.istore_n 1, 1) := by decide +kernel
theorem dX1_linesAtRest_28 : decode cX1_linesAtRest 28 = .ok (.iinc 2 1, 3) := by decide +kernel
theorem dX1_linesAtRest_31 : decode cX1_linesAtRest 31 = .ok (.goto (-27), 3) := by decide +kernel
theorem dX1_linesAtRest_34 : decode cX1_linesAtRest 34 = .ok (.iload_n 1, 1) := by decide +kernel
theorem dX1_linesAtRest_35 : decode cX1_linesAtRest 35 = .ok (.ireturn, 1) := by decide +kernel
theorem dX1_linesGone_0 : decode cX1_linesGone 0 = .ok (.iconst 0, 1) := by decide +kernel
theorem dX1_linesGone_1 : decode cX1_linesGone 1 = .ok (.istore_n 1, 1) := by decide +kernel
theorem dX1_linesGone_2 : decode cX1_linesGone 2 = .ok (.iconst 0, 1) := by decide +kernel
theorem dX1_linesGone_3 : decode cX1_linesGone 3 = .ok (.istore_n 2, 1) := by decide +kernel
theorem dX1_linesGone_4 : decode cX1_linesGone 4 = .ok (.iload_n 2, 1) := by decide +kernel
theorem dX1_linesGone_5 : decode cX1_linesGone 5 = .ok (.aload_n 0, 1) := by decide +kernel
theorem dX1_linesGone_6 : decode cX1_linesGone 6 = .ok (.getfield 21, 3) := by decide +kernel
theorem dX1_linesGone_9 : decode cX1_linesGone 9 = .ok (.if_icmp .ge 28, 3) := by decide +kernel
theorem dX1_linesGone_12 : decode cX1_linesGone 12 = .ok (.iload_n 1, 1) := by decide +kernel
theorem dX1_linesGone_13 : decode cX1_linesGone 13 = .ok (.aload_n 0, 1) := by decide +kernel
theorem dX1_linesGone_14 : decode cX1_linesGone 14 = .ok (.getfield 40, 3) := by decide +kernel
theorem dX1_linesGone_17 : decode cX1_linesGone 17 = .ok (.iload_n 2, 1) := by decide +kernel
theorem dX1_linesGone_18 : decode cX1_linesGone 18 = .ok (.iaload, 1) := by decide +kernel
theorem dX1_linesGone_19 : decode cX1_linesGone 19 = .ok (.bipush (-2), 2) := by decide +kernel
theorem dX1_linesGone_21 : decode cX1_linesGone 21 = .ok (.if_icmp .ne 7, 3) := by decide +kernel
theorem dX1_linesGone_24 : decode cX1_linesGone 24 = .ok (.iconst 1, 1) := by decide +kernel
theorem dX1_linesGone_25 : decode cX1_linesGone 25 = .ok (.goto 4, 3) := by decide +kernel
theorem dX1_linesGone_28 : decode cX1_linesGone 28 = .ok (.iconst 0, 1) := by decide +kernel
theorem dX1_linesGone_29 : decode cX1_linesGone 29 = .ok (.iadd, 1) := by decide +kernel
theorem dX1_linesGone_30 : decode cX1_linesGone 30 = .ok (.istore_n 1, 1) := by decide +kernel
theorem dX1_linesGone_31 : decode cX1_linesGone 31 = .ok (.iinc 2 1, 3) := by decide +kernel
theorem dX1_linesGone_34 : decode cX1_linesGone 34 = .ok (.goto (-30), 3) := by decide +kernel
theorem dX1_linesGone_37 : decode cX1_linesGone 37 = .ok (.iload_n 1, 1) := by decide +kernel
theorem dX1_linesGone_38 : decode cX1_linesGone 38 = .ok (.ireturn, 1) := by decide +kernel
theorem dX1_topmostRow_0 : decode cX1_topmostRow 0 = .ok (.iconst 0, 1) := by decide +kernel
theorem dX1_topmostRow_1 : decode cX1_topmostRow 1 = .ok (.istore_n 1, 1) := by decide +kernel
theorem dX1_topmostRow_2 : decode cX1_topmostRow 2 = .ok (.iload_n 1, 1) := by decide +kernel
theorem dX1_topmostRow_3 : decode cX1_topmostRow 3 = .ok (.bipush 16, 2) := by decide +kernel
theorem dX1_topmostRow_5 : decode cX1_topmostRow 5 = .ok (.if_icmp .ge 20, 3) := by decide +kernel
theorem dX1_topmostRow_8 : decode cX1_topmostRow 8 = .ok (.aload_n 0, 1) := by decide +kernel
theorem dX1_topmostRow_9 : decode cX1_topmostRow 9 = .ok (.getfield 46, 3) := by decide +kernel
theorem dX1_topmostRow_12 : decode cX1_topmostRow 12 = .ok (.iload_n 1, 1) := by decide +kernel
theorem dX1_topmostRow_13 : decode cX1_topmostRow 13 = .ok (.iaload, 1) := by decide +kernel
theorem dX1_topmostRow_14 : decode cX1_topmostRow 14 = .ok (.ifCond .eq 5, 3) := by decide +kernel
theorem dX1_topmostRow_17 : decode cX1_topmostRow 17 = .ok (.iload_n 1, 1) := by decide +kernel
theorem dX1_topmostRow_18 : decode cX1_topmostRow 18 = .ok (.ireturn, 1) := by decide +kernel
theorem dX1_topmostRow_19 : decode cX1_topmostRow 19 = .ok (.iinc 1 1, 3) := by decide +kernel
theorem dX1_topmostRow_22 : decode cX1_topmostRow 22 = .ok (.goto (-20), 3) := by decide +kernel
theorem dX1_topmostRow_25 : decode cX1_topmostRow 25 = .ok (.iconst (-1), 1) := by decide +kernel
theorem dX1_topmostRow_26 : decode cX1_topmostRow 26 = .ok (.ireturn, 1) := by decide +kernel
theorem dX1_squares_0 : decode cX1_squares 0 = .ok (.iconst 0, 1) := by decide +kernel
theorem dX1_squares_1 : decode cX1_squares 1 = .ok (.istore_n 1, 1) := by decide +kernel
theorem dX1_squares_2 : decode cX1_squares 2 = .ok (.iconst 0, 1) := by decide +kernel
theorem dX1_squares_3 : decode cX1_squares 3 = .ok (.istore_n 2, 1) := by decide +kernel
theorem dX1_squares_4 : decode cX1_squares 4 = .ok (.iload_n 2, 1) := by decide +kernel
theorem dX1_squares_5 : decode cX1_squares 5 = .ok (.aload_n 0, 1) := by decide +kernel
theorem dX1_squares_6 : decode cX1_squares 6 = .ok (.getfield 21, 3) := by decide +kernel
theorem dX1_squares_9 : decode cX1_squares 9 = .ok (.if_icmp .ge 30, 3) := by decide +kernel
theorem dX1_squares_12 : decode cX1_squares 12 = .ok (.iload_n 1, 1) := by decide +kernel
theorem dX1_squares_13 : decode cX1_squares 13 = .ok (.aload_n 0, 1) := by decide +kernel
theorem dX1_squares_14 : decode cX1_squares 14 = .ok (.iload_n 2, 1) := by decide +kernel
theorem dX1_squares_15 : decode cX1_squares 15 = .ok (.invokevirtual 93, 3) := by decide +kernel
theorem dX1_squares_18 : decode cX1_squares 18 = .ok (.ifCond .eq 12, 3) := by decide +kernel
theorem dX1_squares_21 : decode cX1_squares 21 = .ok (.aload_n 0, 1) := by decide +kernel
theorem dX1_squares_22 : decode cX1_squares 22 = .ok (.getfield 24, 3) := by decide +kernel
theorem dX1_squares_25 : decode cX1_squares 25 = .ok (.iload_n 2, 1) := by decide +kernel
theorem dX1_squares_26 : decode cX1_squares 26 = .ok (.iaload, 1) := by decide +kernel
theorem dX1_squares_27 : decode cX1_squares 27 = .ok (.goto 4, 3) := by decide +kernel
theorem dX1_squares_30 : decode cX1_squares 30 = .ok (.iconst 0, 1) := by decide +kernel
theorem dX1_squares_31 : decode cX1_squares 31 = .ok (.iadd, 1) := by decide +kernel
theorem dX1_squares_32 : decode cX1_squares 32 = .ok (.istore_n 1, 1) := by decide +kernel
theorem dX1_squares_33 : decode cX1_squares 33 = .ok (.iinc 2 1, 3) := by decide +kernel
theorem dX1_squares_36 : decode cX1_squares 36 = .ok (.goto (-32), 3) := by decide +kernel
theorem dX1_squares_39 : decode cX1_squares 39 = .ok (.iload_n 1, 1) := by decide +kernel
theorem dX1_squares_40 : decode cX1_squares 40 = .ok (.ireturn, 1) := by decide +kernel
theorem dX1_greatestLoad_0 : decode cX1_greatestLoad 0 = .ok (.iconst 0, 1) := by decide +kernel
theorem dX1_greatestLoad_1 : decode cX1_greatestLoad 1 = .ok (.istore_n 1, 1) := by decide +kernel
theorem dX1_greatestLoad_2 : decode cX1_greatestLoad 2 = .ok (.iconst 0, 1) := by decide +kernel
theorem dX1_greatestLoad_3 : decode cX1_greatestLoad 3 = .ok (.istore_n 2, 1) := by decide +kernel
theorem dX1_greatestLoad_4 : decode cX1_greatestLoad 4 = .ok (.iload_n 2, 1) := by decide +kernel
theorem dX1_greatestLoad_5 : decode cX1_greatestLoad 5 = .ok (.aload_n 0, 1) := by decide +kernel
theorem dX1_greatestLoad_6 : decode cX1_greatestLoad 6 = .ok (.getfield 21, 3) := by decide +kernel
theorem dX1_greatestLoad_9 : decode cX1_greatestLoad 9 = .ok (.if_icmp .ge 19, 3) := by decide +kernel
theorem dX1_greatestLoad_12 : decode cX1_greatestLoad 12 = .ok (.iload_n 1, 1) := by decide +kernel
theorem dX1_greatestLoad_13 : decode cX1_greatestLoad 13 = .ok (.aload_n 0, 1) := by decide +kernel
theorem dX1_greatestLoad_14 : decode cX1_greatestLoad 14 = .ok (.iload_n 2, 1) := by decide +kernel
theorem dX1_greatestLoad_15 : decode cX1_greatestLoad 15 = .ok (.invokevirtual 103, 3) := by decide +kernel
theorem dX1_greatestLoad_18 : decode cX1_greatestLoad 18 = .ok (.invokestatic 109, 3) := by decide +kernel
theorem dX1_greatestLoad_21 : decode cX1_greatestLoad 21 = .ok (.istore_n 1, 1) := by decide +kernel
theorem dX1_greatestLoad_22 : decode cX1_greatestLoad 22 = .ok (.iinc 2 1, 3) := by decide +kernel
theorem dX1_greatestLoad_25 : decode cX1_greatestLoad 25 = .ok (.goto (-21), 3) := by decide +kernel
theorem dX1_greatestLoad_28 : decode cX1_greatestLoad 28 = .ok (.iload_n 1, 1) := by decide +kernel
theorem dX1_greatestLoad_29 : decode cX1_greatestLoad 29 = .ok (.ireturn, 1) := by decide +kernel
theorem dX2_init_0 : decode cX2_init 0 = .ok (.aload_n 0, 1) := by decide +kernel
theorem dX2_init_1 : decode cX2_init 1 = .ok (.invokespecial 3, 3) := by decide +kernel
theorem dX2_init_4 : decode cX2_init 4 = .ok (.aload_n 0, 1) := by decide +kernel
theorem dX2_init_5 : decode cX2_init 5 = .ok (.iconst 0, 1) := by decide +kernel
theorem dX2_init_6 : decode cX2_init 6 = .ok (.putfield 9, 3) := by decide +kernel
theorem dX2_init_9 : decode cX2_init 9 = .ok (.aload_n 0, 1) := by decide +kernel
theorem dX2_init_10 : decode cX2_init 10 = .ok (.bipush 60, 2) := by decide +kernel
theorem dX2_init_12 : decode cX2_init 12 = .ok (.newarray .int, 2) := by decide +kernel
theorem dX2_init_14 : decode cX2_init 14 = .ok (.putfield 15, 3) := by decide +kernel
theorem dX2_init_17 : decode cX2_init 17 = .ok (.aload_n 0, 1) := by decide +kernel
theorem dX2_init_18 : decode cX2_init 18 = .ok (.iconst 4, 1) := by decide +kernel
theorem dX2_init_19 : decode cX2_init 19 = .ok (.newarray .int, 2) := by decide +kernel
theorem dX2_init_21 : decode cX2_init 21 = .ok (.putfield 19, 3) := by decide +kernel
theorem dX2_init_24 : decode cX2_init 24 = .ok (.aload_n 0, 1) := by decide +kernel
theorem dX2_init_25 : decode cX2_init 25 = .ok (.iconst 0, 1) := by decide +kernel
theorem dX2_init_26 : decode cX2_init 26 = .ok (.putfield 22, 3) := by decide +kernel
theorem dX2_init_29 : decode cX2_init 29 = .ok (.return_, 1) := by decide +kernel
theorem dX2_add_0 : decode cX2_add 0 = .ok (.aload_n 0, 1) := by decide +kernel
theorem dX2_add_1 : decode cX2_add 1 = .ok (.getfield 9, 3) := by decide +kernel
theorem dX2_add_4 : decode cX2_add 4 = .ok (.bipush 60, 2) := by decide +kernel
theorem dX2_add_6 : decode cX2_add 6 = .ok (.if_icmp .ge 23, 3) := by decide +kernel
theorem dX2_add_9 : decode cX2_add 9 = .ok (.aload_n 0, 1) := by decide +kernel
theorem dX2_add_10 : decode cX2_add 10 = .ok (.getfield 15, 3) := by decide +kernel
theorem dX2_add_13 : decode cX2_add 13 = .ok (.aload_n 0, 1) := by decide +kernel
theorem dX2_add_14 : decode cX2_add 14 = .ok (.getfield 9, 3) := by decide +kernel
theorem dX2_add_17 : decode cX2_add 17 = .ok (.iload_n 1, 1) := by decide +kernel
theorem dX2_add_18 : decode cX2_add 18 = .ok (.iastore, 1) := by decide +kernel
theorem dX2_add_19 : decode cX2_add 19 = .ok (.aload_n 0, 1) := by decide +kernel
theorem dX2_add_20 : decode cX2_add 20 = .ok (.dup, 1) := by decide +kernel
theorem dX2_add_21 : decode cX2_add 21 = .ok (.getfield 9, 3) := by decide +kernel
theorem dX2_add_24 : decode cX2_add 24 = .ok (.iconst 1, 1) := by decide +kernel
theorem dX2_add_25 : decode cX2_add 25 = .ok (.iadd, 1) := by decide +kernel
theorem dX2_add_26 : decode cX2_add 26 = .ok (.putfield 9, 3) := by decide +kernel
theorem dX2_add_29 : decode cX2_add 29 = .ok (.return_, 1) := by decide +kernel
theorem dX2_scan_0 : decode cX2_scan 0 = .ok (.aload_n 0, 1) := by decide +kernel
theorem dX2_scan_1 : decode cX2_scan 1 = .ok (.invokevirtual 25, 3) := by decide +kernel
theorem dX2_scan_4 : decode cX2_scan 4 = .ok (.iconst 0, 1) := by decide +kernel
theorem dX2_scan_5 : decode cX2_scan 5 = .ok (.istore_n 1, 1) := by decide +kernel
theorem dX2_scan_6 : decode cX2_scan 6 = .ok (.iload_n 1, 1) := by decide +kernel
theorem dX2_scan_7 : decode cX2_scan 7 = .ok (.aload_n 0, 1) := by decide +kernel
theorem dX2_scan_8 : decode cX2_scan 8 = .ok (.getfield 9, 3) := by decide +kernel
theorem dX2_scan_11 : decode cX2_scan 11 = .ok (.if_icmp .ge 24, 3) := by decide +kernel
theorem dX2_scan_14 : decode cX2_scan 14 = .ok (.aload_n 0, 1) := by decide +kernel
theorem dX2_scan_15 : decode cX2_scan 15 = .ok (.aload_n 0, 1) := by decide +kernel
theorem dX2_scan_16 : decode cX2_scan 16 = .ok (.getfield 15, 3) := by decide +kernel
theorem dX2_scan_19 : decode cX2_scan 19 = .ok (.iload_n 1, 1) := by decide +kernel
theorem dX2_scan_20 : decode cX2_scan 20 = .ok (.iaload, 1) := by decide +kernel
theorem dX2_scan_21 : decode cX2_scan 21 = .ok (.invokevirtual 28, 3) := by decide +kernel
theorem dX2_scan_24 : decode cX2_scan 24 = .ok (.ifCond .ne 5, 3) := by decide +kernel
theorem dX2_scan_27 : decode cX2_scan 27 = .ok (.iload_n 1, 1) := by decide +kernel
theorem dX2_scan_28 : decode cX2_scan 28 = .ok (.ireturn, 1) := by decide +kernel
theorem dX2_scan_29 : decode cX2_scan 29 = .ok (.iinc 1 1, 3) := by decide +kernel
theorem dX2_scan_32 : decode cX2_scan 32 = .ok (.goto (-26), 3) := by decide +kernel
theorem dX2_scan_35 : decode cX2_scan 35 = .ok (.aload_n 0, 1) := by decide +kernel
theorem dX2_scan_36 : decode cX2_scan 36 = .ok (.getfield 9, 3) := by decide +kernel
theorem dX2_scan_39 : decode cX2_scan 39 = .ok (.ireturn, 1) := by decide +kernel
theorem dX2_tellsPoem_0 : decode cX2_tellsPoem 0 = .ok (.aload_n 0, 1) := by decide +kernel
theorem dX2_tellsPoem_1 : decode cX2_tellsPoem 1 = .ok (.invokevirtual 32, 3) := by decide +kernel
theorem dX2_tellsPoem_4 : decode cX2_tellsPoem 4 = .ok (.aload_n 0, 1) := by decide +kernel
theorem dX2_tellsPoem_5 : decode cX2_tellsPoem 5 = .ok (.getfield 9, 3) := by decide +kernel
theorem dX2_tellsPoem_8 : decode cX2_tellsPoem 8 = .ok (.if_icmp .ne 28, 3) := by decide +kernel
theorem dX2_tellsPoem_11 : decode cX2_tellsPoem 11 = .ok (.aload_n 0, 1) := by decide +kernel
theorem dX2_tellsPoem_12 : decode cX2_tellsPoem 12 = .ok (.getfield 22, 3) := by decide +kernel
theorem dX2_tellsPoem_15 : decode cX2_tellsPoem 15 = .ok (.iconst 2, 1) := by decide +kernel
theorem dX2_tellsPoem_16 : decode cX2_tellsPoem 16 = .ok (.if_icmp .lt 20, 3) := by decide +kernel
theorem dX2_tellsPoem_19 : decode cX2_tellsPoem 19 = .ok (.aload_n 0, 1) := by decide +kernel
theorem dX2_tellsPoem_20 : decode cX2_tellsPoem 20 = .ok (.getfield 19, 3) := by decide +kernel
theorem dX2_tellsPoem_23 : decode cX2_tellsPoem 23 = .ok (.aload_n 0, 1) := by decide +kernel
theorem dX2_tellsPoem_24 : decode cX2_tellsPoem 24 = .ok (.getfield 22, 3) := by decide +kernel
theorem dX2_tellsPoem_27 : decode cX2_tellsPoem 27 = .ok (.iaload, 1) := by decide +kernel
theorem dX2_tellsPoem_28 : decode cX2_tellsPoem 28 = .ok (.iconst (-1), 1) := by decide +kernel
theorem dX2_tellsPoem_29 : decode cX2_tellsPoem 29 = .ok (.if_icmp .eq 7, 3) := by decide +kernel
theorem dX2_tellsPoem_32 : decode cX2_tellsPoem 32 = .ok (.iconst 1, 1) := by decide +kernel
theorem dX2_tellsPoem_33 : decode cX2_tellsPoem 33 = .ok (.goto 4, 3) := by decide +kernel
theorem dX2_tellsPoem_36 : decode cX2_tellsPoem 36 = .ok (.iconst 0, 1) := by decide +kernel
theorem dX2_tellsPoem_37 : decode cX2_tellsPoem 37 = .ok (.ireturn, 1) := by decide +kernel
theorem dX2_scanLine_0 : decode cX2_scanLine 0 = .ok (.aload_n 0, 1) := by decide +kernel
theorem dX2_scanLine_1 : decode cX2_scanLine 1 = .ok (.invokevirtual 25, 3) := by decide +kernel
theorem dX2_scanLine_4 : decode cX2_scanLine 4 = .ok (.iconst 0, 1) := by decide +kernel
theorem dX2_scanLine_5 : decode cX2_scanLine 5 = .ok (.iload_n 1, 1) := by decide +kernel
theorem dX2_scanLine_6 : decode cX2_scanLine 6 = .ok (.invokestatic 36, 3) := by decide +kernel
theorem dX2_scanLine_9 : decode cX2_scanLine 9 = .ok (.istore_n 2, 1) := by decide +kernel
theorem dX2_scanLine_10 : decode cX2_scanLine 10 = .ok (.iload_n 2, 1) := by decide +kernel
theorem dX2_scanLine_11 : decode cX2_scanLine 11 = .ok (.aload_n 0, 1) := by decide +kernel
theorem dX2_scanLine_12 : decode cX2_scanLine 12 = .ok (.getfield 9, 3) := by decide +kernel
theorem dX2_scanLine_15 : decode cX2_scanLine 15 = .ok (.if_icmp .ge 35, 3) := by decide +kernel
theorem dX2_scanLine_18 : decode cX2_scanLine 18 = .ok (.aload_n 0, 1) := by decide +kernel
theorem dX2_scanLine_19 : decode cX2_scanLine 19 = .ok (.getfield 15, 3) := by decide +kernel
theorem dX2_scanLine_22 : decode cX2_scanLine 22 = .ok (.iload_n 2, 1) := by decide +kernel
theorem dX2_scanLine_23 : decode cX2_scanLine 23 = .ok (.iaload, 1) := by decide +kernel
theorem dX2_scanLine_24 : decode cX2_scanLine 24 = .ok (.bipush 59, 2) := by decide +kernel
theorem dX2_scanLine_26 : decode cX2_scanLine 26 = .ok (.if_icmp .ne 7, 3) := by decide +kernel
theorem dX2_scanLine_29 : decode cX2_scanLine 29 = .ok (.iload_n 2, 1) := by decide +kernel
theorem dX2_scanLine_30 : decode cX2_scanLine 30 = .ok (.iconst 1, 1) := by decide +kernel
theorem dX2_scanLine_31 : decode cX2_scanLine 31 = .ok (.iadd, 1) := by decide +kernel
theorem dX2_scanLine_32 : decode cX2_scanLine 32 = .ok (.ireturn, 1) := by decide +kernel
theorem dX2_scanLine_33 : decode cX2_scanLine 33 = .ok (.aload_n 0, 1) := by decide +kernel
theorem dX2_scanLine_34 : decode cX2_scanLine 34 = .ok (.aload_n 0, 1) := by decide +kernel
theorem dX2_scanLine_35 : decode cX2_scanLine 35 = .ok (.getfield 15, 3) := by decide +kernel
theorem dX2_scanLine_38 : decode cX2_scanLine 38 = .ok (.iload_n 2, 1) := by decide +kernel
theorem dX2_scanLine_39 : decode cX2_scanLine 39 = .ok (.iaload, 1) := by decide +kernel
theorem dX2_scanLine_40 : decode cX2_scanLine 40 = .ok (.invokevirtual 28, 3) := by decide +kernel
theorem dX2_scanLine_43 : decode cX2_scanLine 43 = .ok (.pop, 1) := by decide +kernel
theorem dX2_scanLine_44 : decode cX2_scanLine 44 = .ok (.iinc 2 1, 3) := by decide +kernel
theorem dX2_scanLine_47 : decode cX2_scanLine 47 = .ok (.goto (-37), 3) := by decide +kernel
theorem dX2_scanLine_50 : decode cX2_scanLine 50 = .ok (.aload_n 0, 1) := by decide +kernel
theorem dX2_scanLine_51 : decode cX2_scanLine 51 = .ok (.getfield 9, 3) := by decide +kernel
theorem dX2_scanLine_54 : decode cX2_scanLine 54 = .ok (.ireturn, 1) := by decide +kernel
theorem dX2_beginLine_0 : decode cX2_beginLine 0 = .ok (.aload_n 0, 1) := by decide +kernel
theorem dX2_beginLine_1 : decode cX2_beginLine 1 = .ok (.iconst 0, 1) := by decide +kernel
theorem dX2_beginLine_2 : decode cX2_beginLine 2 = .ok (.putfield 22, 3) := by decide +kernel
theorem dX2_beginLine_5 : decode cX2_beginLine 5 = .ok (.aload_n 0, 1) := by decide +kernel
theorem dX2_beginLine_6 : decode cX2_beginLine 6 = .ok (.getfield 19, 3) := by decide +kernel
theorem dX2_beginLine_9 : decode cX2_beginLine 9 = .ok (.iconst 0, 1) := by decide +kernel
theorem dX2_beginLine_10 : decode cX2_beginLine 10 = .ok (.iconst (-1), 1) := by decide +kernel
theorem dX2_beginLine_11 : decode cX2_beginLine 11 = .ok (.iastore, 1) := by decide +kernel
theorem dX2_beginLine_12 : decode cX2_beginLine 12 = .ok (.aload_n 0, 1) := by decide +kernel
theorem dX2_beginLine_13 : decode cX2_beginLine 13 = .ok (.getfield 19, 3) := by decide +kernel
theorem dX2_beginLine_16 : decode cX2_beginLine 16 = .ok (.iconst 3, 1) := by decide +kernel
theorem dX2_beginLine_17 : decode cX2_beginLine 17 = .ok (.iconst 0, 1) := by decide +kernel
theorem dX2_beginLine_18 : decode cX2_beginLine 18 = .ok (.iastore, 1) := by decide +kernel
theorem dX2_beginLine_19 : decode cX2_beginLine 19 = .ok (.return_, 1) := by decide +kernel
theorem dX2_accepts_0 : decode cX2_accepts 0 = .ok (.iload_n 1, 1) := by decide +kernel
theorem dX2_accepts_1 : decode cX2_accepts 1 = .ok (.bipush 48, 2) := by decide +kernel
theorem dX2_accepts_3 : decode cX2_accepts 3 = .ok (.if_icmp .lt 20, 3) := by decide +kernel
theorem dX2_accepts_6 : decode cX2_accepts 6 = .ok (.iload_n 1, 1) := by decide +kernel
theorem dX2_accepts_7 : decode cX2_accepts 7 = .ok (.bipush 57, 2) := by decide +kernel
theorem dX2_accepts_9 : decode cX2_accepts 9 = .ok (.if_icmp .gt 14, 3) := by decide +kernel
theorem dX2_accepts_12 : decode cX2_accepts 12 = .ok (.aload_n 0, 1) := by decide +kernel
theorem dX2_accepts_13 : decode cX2_accepts 13 = .ok (.iload_n 1, 1) := by decide +kernel
theorem dX2_accepts_14 : decode cX2_accepts 14 = .ok (.bipush 48, 2) := by decide +kernel
theorem dX2_accepts_16 : decode cX2_accepts 16 = .ok (.isub, 1) := by decide +kernel
theorem dX2_accepts_17 : decode cX2_accepts 17 = .ok (.invokevirtual 42, 3) := by decide +kernel
theorem dX2_accepts_20 : decode cX2_accepts 20 = .ok (.goto 8, 3) := by decide +kernel
theorem dX2_accepts_23 : decode cX2_accepts 23 = .ok (.aload_n 0, 1) := by decide +kernel
theorem dX2_accepts_24 : decode cX2_accepts 24 = .ok (.iload_n 1, 1) := by decide +kernel
theorem dX2_accepts_25 : decode cX2_accepts 25 = .ok (.invokevirtual 45, 3) := by decide +kernel
theorem dX2_accepts_28 : decode cX2_accepts 28 = .ok (.ireturn, 1) := by decide +kernel
theorem dX2_acceptsDigit_0 : decode cX2_acceptsDigit 0 = .ok (.aload_n 0, 1) := by decide +kernel
theorem dX2_acceptsDigit_1 : decode cX2_acceptsDigit 1 = .ok (.getfield 19, 3) := by decide +kernel
theorem dX2_acceptsDigit_4 : decode cX2_acceptsDigit 4 = .ok (.aload_n 0, 1) := by decide +kernel
theorem dX2_acceptsDigit_5 : decode cX2_acceptsDigit 5 = .ok (.getfield 22, 3) := by decide +kernel
theorem dX2_acceptsDigit_8 : decode cX2_acceptsDigit 8 = .ok (.iaload, 1) := by decide +kernel
theorem dX2_acceptsDigit_9 : decode cX2_acceptsDigit 9 = .ok (.istore_n 2, 1) := by decide +kernel
theorem dX2_acceptsDigit_10 : decode cX2_acceptsDigit 10 = .ok (.iload_n 2, 1) := by decide +kernel
theorem dX2_acceptsDigit_11 : decode cX2_acceptsDigit 11 = .ok (.iconst (-1), 1) := by decide +kernel
theorem dX2_acceptsDigit_12 : decode cX2_acceptsDigit 12 = .ok (.if_icmp .ne 7, 3) := by decide +kernel
theorem dX2_acceptsDigit_15 : decode cX2_acceptsDigit 15 = .ok (.iload_n 1, 1) := by decide +kernel
theorem dX2_acceptsDigit_16 : decode cX2_acceptsDigit 16 = .ok (.goto 9, 3) := by decide +kernel
theorem dX2_acceptsDigit_19 : decode cX2_acceptsDigit 19 = .ok (.iload_n 2, 1) := by decide +kernel
theorem dX2_acceptsDigit_20 : decode cX2_acceptsDigit 20 = .ok (.bipush 10, 2) := by decide +kernel
theorem dX2_acceptsDigit_22 : decode cX2_acceptsDigit 22 = .ok (.imul, 1) := by decide +kernel
theorem dX2_acceptsDigit_23 : decode cX2_acceptsDigit 23 = .ok (.iload_n 1, 1) := by decide +kernel
theorem dX2_acceptsDigit_24 : decode cX2_acceptsDigit 24 = .ok (.iadd, 1) := by decide +kernel
theorem dX2_acceptsDigit_25 : decode cX2_acceptsDigit 25 = .ok (.istore_n 3, 1) := by decide +kernel
theorem dX2_acceptsDigit_26 : decode cX2_acceptsDigit 26 = .ok (.iload_n 2, 1) := by decide +kernel
theorem dX2_acceptsDigit_27 : decode cX2_acceptsDigit 27 = .ok (.ifCond .eq 25, 3) := by decide +kernel
theorem dX2_acceptsDigit_30 : decode cX2_acceptsDigit 30 = .ok (.iload_n 3, 1) := by decide +kernel
theorem dX2_acceptsDigit_31 : decode cX2_acceptsDigit 31 = .ok (.aload_n 0, 1) := by decide +kernel
theorem dX2_acceptsDigit_32 : decode cX2_acceptsDigit 32 = .ok (.getfield 22, 3) := by decide +kernel
theorem dX2_acceptsDigit_35 : decode cX2_acceptsDigit 35 = .ok (.invokestatic 48, 3) := by decide +kernel
theorem dX2_acceptsDigit_38 : decode cX2_acceptsDigit 38 = .ok (.if_icmp .lt 14, 3) := by decide +kernel
theorem dX2_acceptsDigit_41 : decode cX2_acceptsDigit 41 = .ok (.iload_n 3, 1) := by decide +kernel
theorem dX2_acceptsDigit_42 : decode cX2_acceptsDigit 42 = .ok (.aload_n 0, 1) := by decide +kernel
theorem dX2_acceptsDigit_43 : decode cX2_acceptsDigit 43 = .ok (.getfield 22, 3) := by decide +kernel
theorem dX2_acceptsDigit_46 : decode cX2_acceptsDigit 46 = .ok (.invokestatic 52, 3) := by decide +kernel
theorem dX2_acceptsDigit_49 : decode cX2_acceptsDigit 49 = .ok (.if_icmp .le 5, 3) := by decide +kernel
theorem dX2_acceptsDigit_52 : decode cX2_acceptsDigit 52 = .ok (.iconst 0, 1) := by decide +kernel
theorem dX2_acceptsDigit_53 : decode cX2_acceptsDigit 53 = .ok (.ireturn, 1) := by decide +kernel
theorem dX2_acceptsDigit_54 : decode cX2_acceptsDigit 54 = .ok (.aload_n 0, 1) := by decide +kernel
theorem dX2_acceptsDigit_55 : decode cX2_acceptsDigit 55 = .ok (.getfield 19, 3) := by decide +kernel
theorem dX2_acceptsDigit_58 : decode cX2_acceptsDigit 58 = .ok (.aload_n 0, 1) := by decide +kernel
theorem dX2_acceptsDigit_59 : decode cX2_acceptsDigit 59 = .ok (.getfield 22, 3) := by decide +kernel
theorem dX2_acceptsDigit_62 : decode cX2_acceptsDigit 62 = .ok (.iload_n 3, 1) := by decide +kernel
theorem dX2_acceptsDigit_63 : decode cX2_acceptsDigit 63 = .ok (.iastore, 1) := by decide +kernel
theorem dX2_acceptsDigit_64 : decode cX2_acceptsDigit 64 = .ok (.iconst 1, 1) := by decide +kernel
theorem dX2_acceptsDigit_65 : decode cX2_acceptsDigit 65 = .ok (.ireturn, 1) := by decide +kernel
theorem dX2_acceptsSign_0 : decode cX2_acceptsSign 0 = .ok (.aload_n 0, 1) := by decide +kernel
theorem dX2_acceptsSign_1 : decode cX2_acceptsSign 1 = .ok (.getfield 19, 3) := by decide +kernel
theorem dX2_acceptsSign_4 : decode cX2_acceptsSign 4 = .ok (.aload_n 0, 1) := by decide +kernel
theorem dX2_acceptsSign_5 : decode cX2_acceptsSign 5 = .ok (.getfield 22, 3) := by decide +kernel
theorem dX2_acceptsSign_8 : decode cX2_acceptsSign 8 = .ok (.iaload, 1) := by decide +kernel
theorem dX2_acceptsSign_9 : decode cX2_acceptsSign 9 = .ok (.iconst (-1), 1) := by decide +kernel
theorem dX2_acceptsSign_10 : decode cX2_acceptsSign 10 = .ok (.if_icmp .ne 5, 3) := by decide +kernel
theorem dX2_acceptsSign_13 : decode cX2_acceptsSign 13 = .ok (.iconst 0, 1) := by decide +kernel
theorem dX2_acceptsSign_14 : decode cX2_acceptsSign 14 = .ok (.ireturn, 1) := by decide +kernel
theorem dX2_acceptsSign_15 : decode cX2_acceptsSign 15 = .ok (.iload_n 1, 1) := by decide +kernel
theorem dX2_acceptsSign_16 : decode cX2_acceptsSign 16 = .ok (.bipush 59, 2) := by decide +kernel
theorem dX2_acceptsSign_18 : decode cX2_acceptsSign 18 = .ok (.if_icmp .ne 17, 3) := by decide +kernel
theorem dX2_acceptsSign_21 : decode cX2_acceptsSign 21 = .ok (.aload_n 0, 1) := by decide +kernel
theorem dX2_acceptsSign_22 : decode cX2_acceptsSign 22 = .ok (.getfield 22, 3) := by decide +kernel
theorem dX2_acceptsSign_25 : decode cX2_acceptsSign 25 = .ok (.iconst 2, 1) := by decide +kernel
theorem dX2_acceptsSign_26 : decode cX2_acceptsSign 26 = .ok (.if_icmp .lt 9, 3) := by decide +kernel
theorem dX2_acceptsSign_29 : decode cX2_acceptsSign 29 = .ok (.aload_n 0, 1) := by decide +kernel
theorem dX2_acceptsSign_30 : decode cX2_acceptsSign 30 = .ok (.invokevirtual 25, 3) := by decide +kernel
theorem dX2_acceptsSign_33 : decode cX2_acceptsSign 33 = .ok (.iconst 1, 1) := by decide +kernel
theorem dX2_acceptsSign_34 : decode cX2_acceptsSign 34 = .ok (.ireturn, 1) := by decide +kernel
theorem dX2_acceptsSign_35 : decode cX2_acceptsSign 35 = .ok (.aload_n 0, 1) := by decide +kernel
theorem dX2_acceptsSign_36 : decode cX2_acceptsSign 36 = .ok (.getfield 22, 3) := by decide +kernel
theorem dX2_acceptsSign_39 : decode cX2_acceptsSign 39 = .ok (.iconst 3, 1) := by decide +kernel
theorem dX2_acceptsSign_40 : decode cX2_acceptsSign 40 = .ok (.if_icmp .ge 14, 3) := by decide +kernel
theorem dX2_acceptsSign_43 : decode cX2_acceptsSign 43 = .ok (.iload_n 1, 1) := by decide +kernel
theorem dX2_acceptsSign_44 : decode cX2_acceptsSign 44 = .ok (.aload_n 0, 1) := by decide +kernel
theorem dX2_acceptsSign_45 : decode cX2_acceptsSign 45 = .ok (.getfield 22, 3) := by decide +kernel
theorem dX2_acceptsSign_48 : decode cX2_acceptsSign 48 = .ok (.invokestatic 55, 3) := by decide +kernel
theorem dX2_acceptsSign_51 : decode cX2_acceptsSign 51 = .ok (.if_icmp .eq 5, 3) := by decide +kernel
theorem dX2_acceptsSign_54 : decode cX2_acceptsSign 54 = .ok (.iconst 0, 1) := by decide +kernel
theorem dX2_acceptsSign_55 : decode cX2_acceptsSign 55 = .ok (.ireturn, 1) := by decide +kernel
theorem dX2_acceptsSign_56 : decode cX2_acceptsSign 56 = .ok (.aload_n 0, 1) := by decide +kernel
theorem dX2_acceptsSign_57 : decode cX2_acceptsSign 57 = .ok (.dup, 1) := by decide +kernel
theorem dX2_acceptsSign_58 : decode cX2_acceptsSign 58 = .ok (.getfield 22, 3) := by decide +kernel
theorem dX2_acceptsSign_61 : decode cX2_acceptsSign 61 = .ok (.iconst 1, 1) := by decide +kernel
theorem dX2_acceptsSign_62 : decode cX2_acceptsSign 62 = .ok (.iadd, 1) := by decide +kernel
theorem dX2_acceptsSign_63 : decode cX2_acceptsSign 63 = .ok (.putfield 22, 3) := by decide +kernel
theorem dX2_acceptsSign_66 : decode cX2_acceptsSign 66 = .ok (.aload_n 0, 1) := by decide +kernel
theorem dX2_acceptsSign_67 : decode cX2_acceptsSign 67 = .ok (.getfield 19, 3) := by decide +kernel
theorem dX2_acceptsSign_70 : decode cX2_acceptsSign 70 = .ok (.aload_n 0, 1) := by decide +kernel
theorem dX2_acceptsSign_71 : decode cX2_acceptsSign 71 = .ok (.getfield 22, 3) := by decide +kernel
theorem dX2_acceptsSign_74 : decode cX2_acceptsSign 74 = .ok (.iconst (-1), 1) := by decide +kernel
theorem dX2_acceptsSign_75 : decode cX2_acceptsSign 75 = .ok (.iastore, 1) := by decide +kernel
theorem dX2_acceptsSign_76 : decode cX2_acceptsSign 76 = .ok (.iconst 1, 1) := by decide +kernel
theorem dX2_acceptsSign_77 : decode cX2_acceptsSign 77 = .ok (.ireturn, 1) := by decide +kernel
theorem dX2_signBehind_0 : decode cX2_signBehind 0 = .ok (.iload_n 0, 1) := by decide +kernel
theorem dX2_signBehind_1 : decode cX2_signBehind 1 = .ok (.lookupswitch 33 #[(0, 27), (1, 30)], 27) := by decide +kernel
theorem dX2_signBehind_28 : decode cX2_signBehind 28 = .ok (.bipush 119, 2) := by decide +kernel
theorem dX2_signBehind_30 : decode cX2_signBehind 30 = .ok (.ireturn, 1) := by decide +kernel
theorem dX2_signBehind_31 : decode cX2_signBehind 31 = .ok (.bipush 64, 2) := by decide +kernel
theorem dX2_signBehind_33 : decode cX2_signBehind 33 = .ok (.ireturn, 1) := by decide +kernel
theorem dX2_signBehind_34 : decode cX2_signBehind 34 = .ok (.bipush 43, 2) := by decide +kernel
theorem dX2_signBehind_36 : decode cX2_signBehind 36 = .ok (.ireturn, 1) := by decide +kernel
theorem dX2_leastOf_0 : decode cX2_leastOf 0 = .ok (.iload_n 0, 1) := by decide +kernel
theorem dX2_leastOf_1 : decode cX2_leastOf 1 = .ok (.ifCond .eq 8, 3) := by decide +kernel
theorem dX2_leastOf_4 : decode cX2_leastOf 4 = .ok (.iload_n 0, 1) := by decide +kernel
theorem dX2_leastOf_5 : decode cX2_leastOf 5 = .ok (.iconst 1, 1) := by decide +kernel
theorem dX2_leastOf_6 : decode cX2_leastOf 6 = .ok (.if_icmp .ne 7, 3) := by decide +kernel
theorem dX2_leastOf_9 : decode cX2_leastOf 9 = .ok (.iconst 1, 1) := by decide +kernel
theorem dX2_leastOf_10 : decode cX2_leastOf 10 = .ok (.goto 4, 3) := by decide +kernel
theorem dX2_leastOf_13 : decode cX2_leastOf 13 = .ok (.iconst 0, 1) := by decide +kernel
theorem dX2_leastOf_14 : decode cX2_leastOf 14 = .ok (.ireturn, 1) := by decide +kernel
theorem dX2_greatestOf_0 : decode cX2_greatestOf 0 = .ok (.iload_n 0, 1) := by decide +kernel
theorem dX2_greatestOf_1 : decode cX2_greatestOf 1 = .ok (.tableswitch 36 0 2 #[27, 30, 33], 27) := by decide +kernel
theorem dX2_greatestOf_28 : decode cX2_greatestOf 28 = .ok (.bipush 12, 2) := by decide +kernel
theorem dX2_greatestOf_30 : decode cX2_greatestOf 30 = .ok (.ireturn, 1) := by decide +kernel
theorem dX2_greatestOf_31 : decode cX2_greatestOf 31 = .ok (.bipush 9, 2) := by decide +kernel
theorem dX2_greatestOf_33 : decode cX2_greatestOf 33 = .ok (.ireturn, 1) := by decide +kernel
theorem dX2_greatestOf_34 : decode cX2_greatestOf 34 = .ok (.bipush 23, 2) := by decide +kernel
theorem dX2_greatestOf_36 : decode cX2_greatestOf 36 = .ok (.ireturn, 1) := by decide +kernel
theorem dX2_greatestOf_37 : decode cX2_greatestOf 37 = .ok (.bipush 50, 2) := by decide +kernel
theorem dX2_greatestOf_39 : decode cX2_greatestOf 39 = .ok (.ireturn, 1) := by decide +kernel
theorem dX3_init_0 : decode cX3_init 0 = .ok (.aload_n 0, 1) := by decide +kernel
theorem dX3_init_1 : decode cX3_init 1 = .ok (.invokespecial 3, 3) := by decide +kernel
theorem dX3_init_4 : decode cX3_init 4 = .ok (.aload_n 0, 1) := by decide +kernel
theorem dX3_init_5 : decode cX3_init 5 = .ok (.new 9, 3) := by decide +kernel
theorem dX3_init_8 : decode cX3_init 8 = .ok (.dup, 1) := by decide +kernel
theorem dX3_init_9 : decode cX3_init 9 = .ok (.invokespecial 11, 3) := by decide +kernel
theorem dX3_init_12 : decode cX3_init 12 = .ok (.putfield 12, 3) := by decide +kernel
theorem dX3_init_15 : decode cX3_init 15 = .ok (.aload_n 0, 1) := by decide +kernel
theorem dX3_init_16 : decode cX3_init 16 = .ok (.new 9, 3) := by decide +kernel
theorem dX3_init_19 : decode cX3_init 19 = .ok (.dup, 1) := by decide +kernel
theorem dX3_init_20 : decode cX3_init 20 = .ok (.invokespecial 11, 3) := by decide +kernel
theorem dX3_init_23 : decode cX3_init 23 = .ok (.putfield 16, 3) := by decide +kernel
theorem dX3_init_26 : decode cX3_init 26 = .ok (.aload_n 0, 1) := by decide +kernel
theorem dX3_init_27 : decode cX3_init 27 = .ok (.new 19, 3) := by decide +kernel
theorem dX3_init_30 : decode cX3_init 30 = .ok (.dup, 1) := by decide +kernel
theorem dX3_init_31 : decode cX3_init 31 = .ok (.invokespecial 21, 3) := by decide +kernel
theorem dX3_init_34 : decode cX3_init 34 = .ok (.putfield 22, 3) := by decide +kernel
theorem dX3_init_37 : decode cX3_init 37 = .ok (.aload_n 0, 1) := by decide +kernel
theorem dX3_init_38 : decode cX3_init 38 = .ok (.new 26, 3) := by decide +kernel
theorem dX3_init_41 : decode cX3_init 41 = .ok (.dup, 1) := by decide +kernel
theorem dX3_init_42 : decode cX3_init 42 = .ok (.invokespecial 28, 3) := by decide +kernel
theorem dX3_init_45 : decode cX3_init 45 = .ok (.putfield 29, 3) := by decide +kernel
theorem dX3_init_48 : decode cX3_init 48 = .ok (.return_, 1) := by decide +kernel
theorem dX3_line_0 : decode cX3_line 0 = .ok (.iload_n 1, 1) := by decide +kernel
theorem dX3_line_1 : decode cX3_line 1 = .ok (.iload_n 2, 1) := by decide +kernel
theorem dX3_line_2 : decode cX3_line 2 = .ok (.iload_n 3, 1) := by decide +kernel
theorem dX3_line_3 : decode cX3_line 3 = .ok (.invokestatic 33, 3) := by decide +kernel
theorem dX3_line_6 : decode cX3_line 6 = .ok (.ifCond .eq 19, 3) := by decide +kernel
theorem dX3_line_9 : decode cX3_line 9 = .ok (.iload 4, 2) := by decide +kernel
theorem dX3_line_11 : decode cX3_line 11 = .ok (.invokestatic 37, 3) := by decide +kernel
theorem dX3_line_14 : decode cX3_line 14 = .ok (.ifCond .eq 11, 3) := by decide +kernel
theorem dX3_line_17 : decode cX3_line 17 = .ok (.iload 5, 2) := by decide +kernel
theorem dX3_line_19 : decode cX3_line 19 = .ok (.invokestatic 41, 3) := by decide +kernel
theorem dX3_line_22 : decode cX3_line 22 = .ok (.ifCond .ne 11, 3) := by decide +kernel
theorem dX3_line_25 : decode cX3_line 25 = .ok (.new 44, 3) := by decide +kernel
theorem dX3_line_28 : decode cX3_line 28 = .ok (.dup, 1) := by decide +kernel
theorem dX3_line_29 : decode cX3_line 29 = .ok (.invokespecial 46, 3) := by decide +kernel
theorem dX3_line_32 : decode cX3_line 32 = .ok (.athrow, 1) := by decide +kernel
theorem dX3_line_33 : decode cX3_line 33 = .ok (.aload_n 0, 1) := by decide +kernel
theorem dX3_line_34 : decode cX3_line 34 = .ok (.getfield 12, 3) := by decide +kernel
theorem dX3_line_37 : decode cX3_line 37 = .ok (.getfield 47, 3) := by decide +kernel
theorem dX3_line_40 : decode cX3_line 40 = .ok (.bipush 10, 2) := by decide +kernel
theorem dX3_line_42 : decode cX3_line 42 = .ok (.if_icmp .lt 11, 3) := by decide +kernel
theorem dX3_line_45 : decode cX3_line 45 = .ok (.new 51, 3) := by decide +kernel
theorem dX3_line_48 : decode cX3_line 48 = .ok (.dup, 1) := by decide +kernel
theorem dX3_line_49 : decode cX3_line 49 = .ok (.invokespecial 53, 3) := by decide +kernel
theorem dX3_line_52 : decode cX3_line 52 = .ok (.athrow, 1) := by decide +kernel
theorem dX3_line_53 : decode cX3_line 53 = .ok (.aload_n 0, 1) := by decide +kernel
theorem dX3_line_54 : decode cX3_line 54 = .ok (.getfield 22, 3) := by decide +kernel
theorem dX3_line_57 : decode cX3_line 57 = .ok (.aload_n 0, 1) := by decide +kernel
theorem dX3_line_58 : decode cX3_line 58 = .ok (.getfield 12, 3) := by decide +kernel
theorem dX3_line_61 : decode cX3_line 61 = .ok (.invokevirtual 54, 3) := by decide +kernel
theorem dX3_line_64 : decode cX3_line 64 = .ok (.aload_n 0, 1) := by decide +kernel
theorem dX3_line_65 : decode cX3_line 65 = .ok (.getfield 12, 3) := by decide +kernel
theorem dX3_line_68 : decode cX3_line 68 = .ok (.iload_n 1, 1) := by decide +kernel
theorem dX3_line_69 : decode cX3_line 69 = .ok (.iload_n 2, 1) := by decide +kernel
theorem dX3_line_70 : decode cX3_line 70 = .ok (.iload_n 3, 1) := by decide +kernel
theorem dX3_line_71 : decode cX3_line 71 = .ok (.iload 4, 2) := by decide +kernel
theorem dX3_line_73 : decode cX3_line 73 = .ok (.iload 5, 2) := by decide +kernel
theorem dX3_line_75 : decode cX3_line 75 = .ok (.invokevirtual 58, 3) := by decide +kernel
theorem dX3_line_78 : decode cX3_line 78 = .ok (.ireturn, 1) := by decide +kernel
theorem dX3_run_0 : decode cX3_run 0 = .ok (.iload_n 1, 1) := by decide +kernel
theorem dX3_run_1 : decode cX3_run 1 = .ok (.iconst 1, 1) := by decide +kernel
theorem dX3_run_2 : decode cX3_run 2 = .ok (.if_icmp .lt 9, 3) := by decide +kernel
theorem dX3_run_5 : decode cX3_run 5 = .ok (.iload_n 1, 1) := by decide +kernel
theorem dX3_run_6 : decode cX3_run 6 = .ok (.bipush 50, 2) := by decide +kernel
theorem dX3_run_8 : decode cX3_run 8 = .ok (.if_icmp .le 11, 3) := by decide +kernel
theorem dX3_run_11 : decode cX3_run 11 = .ok (.new 44, 3) := by decide +kernel
theorem dX3_run_14 : decode cX3_run 14 = .ok (.dup, 1) := by decide +kernel
theorem dX3_run_15 : decode cX3_run 15 = .ok (.invokespecial 46, 3) := by decide +kernel
theorem dX3_run_18 : decode cX3_run 18 = .ok (.athrow, 1) := by decide +kernel
theorem dX3_run_19 : decode cX3_run 19 = .ok (.aload_n 0, 1) := by decide +kernel
theorem dX3_run_20 : decode cX3_run 20 = .ok (.getfield 12, 3) := by decide +kernel
theorem dX3_run_23 : decode cX3_run 23 = .ok (.getfield 62, 3) := by decide +kernel
theorem dX3_run_26 : decode cX3_run 26 = .ok (.iload_n 1, 1) := by decide +kernel
theorem dX3_run_27 : decode cX3_run 27 = .ok (.iadd, 1) := by decide +kernel
theorem dX3_run_28 : decode cX3_run 28 = .ok (.sipush 999, 3) := by decide +kernel
theorem dX3_run_31 : decode cX3_run 31 = .ok (.if_icmp .le 11, 3) := by decide +kernel
theorem dX3_run_34 : decode cX3_run 34 = .ok (.new 51, 3) := by decide +kernel
theorem dX3_run_37 : decode cX3_run 37 = .ok (.dup, 1) := by decide +kernel
theorem dX3_run_38 : decode cX3_run 38 = .ok (.invokespecial 53, 3) := by decide +kernel
theorem dX3_run_41 : decode cX3_run 41 = .ok (.athrow, 1) := by decide +kernel
theorem dX3_run_42 : decode cX3_run 42 = .ok (.aload_n 0, 1) := by decide +kernel
theorem dX3_run_43 : decode cX3_run 43 = .ok (.getfield 22, 3) := by decide +kernel
theorem dX3_run_46 : decode cX3_run 46 = .ok (.aload_n 0, 1) := by decide +kernel
theorem dX3_run_47 : decode cX3_run 47 = .ok (.getfield 12, 3) := by decide +kernel
theorem dX3_run_50 : decode cX3_run 50 = .ok (.invokevirtual 54, 3) := by decide +kernel
theorem dX3_run_53 : decode cX3_run 53 = .ok (.aload_n 0, 1) := by decide +kernel
theorem dX3_run_54 : decode cX3_run 54 = .ok (.getfield 12, 3) := by decide +kernel
theorem dX3_run_57 : decode cX3_run 57 = .ok (.getfield 65, 3) := by decide +kernel
theorem dX3_run_60 : decode cX3_run 60 = .ok (.istore_n 2, 1) := by decide +kernel
theorem dX3_run_61 : decode cX3_run 61 = .ok (.iconst 0, 1) := by decide +kernel
theorem dX3_run_62 : decode cX3_run 62 = .ok (.istore_n 3, 1) := by decide +kernel
theorem dX3_run_63 : decode cX3_run 63 = .ok (.iload_n 3, 1) := by decide +kernel
theorem dX3_run_64 : decode cX3_run 64 = .ok (.iload_n 1, 1) := by decide +kernel
theorem dX3_run_65 : decode cX3_run 65 = .ok (.if_icmp .ge 16, 3) := by decide +kernel
theorem dX3_run_68 : decode cX3_run 68 = .ok (.aload_n 0, 1) := by decide +kernel
theorem dX3_run_69 : decode cX3_run 69 = .ok (.getfield 12, 3) := by decide +kernel
theorem dX3_run_72 : decode cX3_run 72 = .ok (.invokevirtual 68, 3) := by decide +kernel
theorem dX3_run_75 : decode cX3_run 75 = .ok (.iinc 3 1, 3) := by decide +kernel
theorem dX3_run_78 : decode cX3_run 78 = .ok (.goto (-15), 3) := by decide +kernel
theorem dX3_run_81 : decode cX3_run 81 = .ok (.aload_n 0, 1) := by decide +kernel
theorem dX3_run_82 : decode cX3_run 82 = .ok (.getfield 12, 3) := by decide +kernel
theorem dX3_run_85 : decode cX3_run 85 = .ok (.getfield 65, 3) := by decide +kernel
theorem dX3_run_88 : decode cX3_run 88 = .ok (.iload_n 2, 1) := by decide +kernel
theorem dX3_run_89 : decode cX3_run 89 = .ok (.isub, 1) := by decide +kernel
theorem dX3_run_90 : decode cX3_run 90 = .ok (.ireturn, 1) := by decide +kernel
theorem dX3_reset_0 : decode cX3_reset 0 = .ok (.iload_n 1, 1) := by decide +kernel
theorem dX3_reset_1 : decode cX3_reset 1 = .ok (.invokestatic 37, 3) := by decide +kernel
theorem dX3_reset_4 : decode cX3_reset 4 = .ok (.ifCond .ne 11, 3) := by decide +kernel
theorem dX3_reset_7 : decode cX3_reset 7 = .ok (.new 44, 3) := by decide +kernel
theorem dX3_reset_10 : decode cX3_reset 10 = .ok (.dup, 1) := by decide +kernel
theorem dX3_reset_11 : decode cX3_reset 11 = .ok (.invokespecial 46, 3) := by decide +kernel
theorem dX3_reset_14 : decode cX3_reset 14 = .ok (.athrow, 1) := by decide +kernel
theorem dX3_reset_15 : decode cX3_reset 15 = .ok (.aload_n 0, 1) := by decide +kernel
theorem dX3_reset_16 : decode cX3_reset 16 = .ok (.getfield 22, 3) := by decide +kernel
theorem dX3_reset_19 : decode cX3_reset 19 = .ok (.aload_n 0, 1) := by decide +kernel
theorem dX3_reset_20 : decode cX3_reset 20 = .ok (.getfield 12, 3) := by decide +kernel
theorem dX3_reset_23 : decode cX3_reset 23 = .ok (.invokevirtual 54, 3) := by decide +kernel
theorem dX3_reset_26 : decode cX3_reset 26 = .ok (.aload_n 0, 1) := by decide +kernel
theorem dX3_reset_27 : decode cX3_reset 27 = .ok (.getfield 12, 3) := by decide +kernel
theorem dX3_reset_30 : decode cX3_reset 30 = .ok (.iload_n 1, 1) := by decide +kernel
theorem dX3_reset_31 : decode cX3_reset 31 = .ok (.invokevirtual 71, 3) := by decide +kernel
theorem dX3_reset_34 : decode cX3_reset 34 = .ok (.ireturn, 1) := by decide +kernel
theorem dX3_push_0 : decode cX3_push 0 = .ok (.aload_n 0, 1) := by decide +kernel
theorem dX3_push_1 : decode cX3_push 1 = .ok (.iload_n 1, 1) := by decide +kernel
theorem dX3_push_2 : decode cX3_push 2 = .ok (.invokevirtual 75, 3) := by decide +kernel
theorem dX3_push_5 : decode cX3_push 5 = .ok (.ifCond .ne 11, 3) := by decide +kernel
theorem dX3_push_8 : decode cX3_push 8 = .ok (.new 78, 3) := by decide +kernel
theorem dX3_push_11 : decode cX3_push 11 = .ok (.dup, 1) := by decide +kernel
theorem dX3_push_12 : decode cX3_push 12 = .ok (.invokespecial 80, 3) := by decide +kernel
theorem dX3_push_15 : decode cX3_push 15 = .ok (.athrow, 1) := by decide +kernel
theorem dX3_push_16 : decode cX3_push 16 = .ok (.aload_n 0, 1) := by decide +kernel
theorem dX3_push_17 : decode cX3_push 17 = .ok (.getfield 12, 3) := by decide +kernel
theorem dX3_push_20 : decode cX3_push 20 = .ok (.iload_n 1, 1) := by decide +kernel
theorem dX3_push_21 : decode cX3_push 21 = .ok (.iload_n 2, 1) := by decide +kernel
theorem dX3_push_22 : decode cX3_push 22 = .ok (.invokevirtual 81, 3) := by decide +kernel
theorem dX3_push_25 : decode cX3_push 25 = .ok (.ifCond .ne 11, 3) := by decide +kernel
theorem dX3_push_28 : decode cX3_push 28 = .ok (.new 51, 3) := by decide +kernel
theorem dX3_push_31 : decode cX3_push 31 = .ok (.dup, 1) := by decide +kernel
theorem dX3_push_32 : decode cX3_push 32 = .ok (.invokespecial 53, 3) := by decide +kernel
theorem dX3_push_35 : decode cX3_push 35 = .ok (.athrow, 1) := by decide +kernel
theorem dX3_push_36 : decode cX3_push 36 = .ok (.aload_n 0, 1) := by decide +kernel
theorem dX3_push_37 : decode cX3_push 37 = .ok (.getfield 22, 3) := by decide +kernel
theorem dX3_push_40 : decode cX3_push 40 = .ok (.aload_n 0, 1) := by decide +kernel
theorem dX3_push_41 : decode cX3_push 41 = .ok (.getfield 12, 3) := by decide +kernel
theorem dX3_push_44 : decode cX3_push 44 = .ok (.invokevirtual 54, 3) := by decide +kernel
theorem dX3_push_47 : decode cX3_push 47 = .ok (.aload_n 0, 1) := by decide +kernel
theorem dX3_push_48 : decode cX3_push 48 = .ok (.getfield 12, 3) := by decide +kernel
theorem dX3_push_51 : decode cX3_push 51 = .ok (.iload_n 1, 1) := by decide +kernel
theorem dX3_push_52 : decode cX3_push 52 = .ok (.iload_n 2, 1) := by decide +kernel
theorem dX3_push_53 : decode cX3_push 53 = .ok (.invokevirtual 85, 3) := by decide +kernel
theorem dX3_push_56 : decode cX3_push 56 = .ok (.aload_n 0, 1) := by decide +kernel
theorem dX3_push_57 : decode cX3_push 57 = .ok (.getfield 12, 3) := by decide +kernel
theorem dX3_push_60 : decode cX3_push 60 = .ok (.getfield 89, 3) := by decide +kernel
theorem dX3_push_63 : decode cX3_push 63 = .ok (.iload_n 1, 1) := by decide +kernel
theorem dX3_push_64 : decode cX3_push 64 = .ok (.iaload, 1) := by decide +kernel
theorem dX3_push_65 : decode cX3_push 65 = .ok (.ireturn, 1) := by decide +kernel
theorem dX3_set_0 : decode cX3_set 0 = .ok (.iload_n 1, 1) := by decide +kernel
theorem dX3_set_1 : decode cX3_set 1 = .ok (.iconst 1, 1) := by decide +kernel
theorem dX3_set_2 : decode cX3_set 2 = .ok (.if_icmp .lt 9, 3) := by decide +kernel
theorem dX3_set_5 : decode cX3_set 5 = .ok (.iload_n 1, 1) := by decide +kernel
theorem dX3_set_6 : decode cX3_set 6 = .ok (.bipush 9, 2) := by decide +kernel
theorem dX3_set_8 : decode cX3_set 8 = .ok (.if_icmp .le 11, 3) := by decide +kernel
theorem dX3_set_11 : decode cX3_set 11 = .ok (.new 44, 3) := by decide +kernel
theorem dX3_set_14 : decode cX3_set 14 = .ok (.dup, 1) := by decide +kernel
theorem dX3_set_15 : decode cX3_set 15 = .ok (.invokespecial 46, 3) := by decide +kernel
theorem dX3_set_18 : decode cX3_set 18 = .ok (.athrow, 1) := by decide +kernel
theorem dX3_set_19 : decode cX3_set 19 = .ok (.aload_n 0, 1) := by decide +kernel
theorem dX3_set_20 : decode cX3_set 20 = .ok (.getfield 22, 3) := by decide +kernel
theorem dX3_set_23 : decode cX3_set 23 = .ok (.aload_n 0, 1) := by decide +kernel
theorem dX3_set_24 : decode cX3_set 24 = .ok (.getfield 12, 3) := by decide +kernel
theorem dX3_set_27 : decode cX3_set 27 = .ok (.invokevirtual 54, 3) := by decide +kernel
theorem dX3_set_30 : decode cX3_set 30 = .ok (.aload_n 0, 1) := by decide +kernel
theorem dX3_set_31 : decode cX3_set 31 = .ok (.getfield 12, 3) := by decide +kernel
theorem dX3_set_34 : decode cX3_set 34 = .ok (.getfield 93, 3) := by decide +kernel
theorem dX3_set_37 : decode cX3_set 37 = .ok (.istore_n 2, 1) := by decide +kernel
theorem dX3_set_38 : decode cX3_set 38 = .ok (.aload_n 0, 1) := by decide +kernel
theorem dX3_set_39 : decode cX3_set 39 = .ok (.getfield 12, 3) := by decide +kernel
theorem dX3_set_42 : decode cX3_set 42 = .ok (.iload_n 1, 1) := by decide +kernel
theorem dX3_set_43 : decode cX3_set 43 = .ok (.putfield 93, 3) := by decide +kernel
theorem dX3_set_46 : decode cX3_set 46 = .ok (.iload_n 2, 1) := by decide +kernel
theorem dX3_set_47 : decode cX3_set 47 = .ok (.ireturn, 1) := by decide +kernel
theorem dX3_append_0 : decode cX3_append 0 = .ok (.iload_n 1, 1) := by decide +kernel
theorem dX3_append_1 : decode cX3_append 1 = .ok (.bipush 33, 2) := by decide +kernel
theorem dX3_append_3 : decode cX3_append 3 = .ok (.if_icmp .lt 9, 3) := by decide +kernel
theorem dX3_append_6 : decode cX3_append 6 = .ok (.iload_n 1, 1) := by decide +kernel
theorem dX3_append_7 : decode cX3_append 7 = .ok (.bipush 126, 2) := by decide +kernel
theorem dX3_append_9 : decode cX3_append 9 = .ok (.if_icmp .le 11, 3) := by decide +kernel
theorem dX3_append_12 : decode cX3_append 12 = .ok (.new 44, 3) := by decide +kernel
theorem dX3_append_15 : decode cX3_append 15 = .ok (.dup, 1) := by decide +kernel
theorem dX3_append_16 : decode cX3_append 16 = .ok (.invokespecial 46, 3) := by decide +kernel
theorem dX3_append_19 : decode cX3_append 19 = .ok (.athrow, 1) := by decide +kernel
theorem dX3_append_20 : decode cX3_append 20 = .ok (.aload_n 0, 1) := by decide +kernel
theorem dX3_append_21 : decode cX3_append 21 = .ok (.getfield 29, 3) := by decide +kernel
theorem dX3_append_24 : decode cX3_append 24 = .ok (.getfield 96, 3) := by decide +kernel
theorem dX3_append_27 : decode cX3_append 27 = .ok (.bipush 60, 2) := by decide +kernel
theorem dX3_append_29 : decode cX3_append 29 = .ok (.if_icmp .lt 11, 3) := by decide +kernel
theorem dX3_append_32 : decode cX3_append 32 = .ok (.new 51, 3) := by decide +kernel
theorem dX3_append_35 : decode cX3_append 35 = .ok (.dup, 1) := by decide +kernel
theorem dX3_append_36 : decode cX3_append 36 = .ok (.invokespecial 53, 3) := by decide +kernel
theorem dX3_append_39 : decode cX3_append 39 = .ok (.athrow, 1) := by decide +kernel
theorem dX3_append_40 : decode cX3_append 40 = .ok (.aload_n 0, 1) := by decide +kernel
theorem dX3_append_41 : decode cX3_append 41 = .ok (.getfield 29, 3) := by decide +kernel
theorem dX3_append_44 : decode cX3_append 44 = .ok (.iload_n 1, 1) := by decide +kernel
theorem dX3_append_45 : decode cX3_append 45 = .ok (.invokevirtual 99, 3) := by decide +kernel
theorem dX3_append_48 : decode cX3_append 48 = .ok (.aload_n 0, 1) := by decide +kernel
theorem dX3_append_49 : decode cX3_append 49 = .ok (.getfield 29, 3) := by decide +kernel
theorem dX3_append_52 : decode cX3_append 52 = .ok (.getfield 96, 3) := by decide +kernel
theorem dX3_append_55 : decode cX3_append 55 = .ok (.ireturn, 1) := by decide +kernel
theorem dX3_clearBuffer_0 : decode cX3_clearBuffer 0 = .ok (.aload_n 0, 1) := by decide +kernel
theorem dX3_clearBuffer_1 : decode cX3_clearBuffer 1 = .ok (.getfield 29, 3) := by decide +kernel
theorem dX3_clearBuffer_4 : decode cX3_clearBuffer 4 = .ok (.getfield 96, 3) := by decide +kernel
theorem dX3_clearBuffer_7 : decode cX3_clearBuffer 7 = .ok (.istore_n 1, 1) := by decide +kernel
theorem dX3_clearBuffer_8 : decode cX3_clearBuffer 8 = .ok (.aload_n 0, 1) := by decide +kernel
theorem dX3_clearBuffer_9 : decode cX3_clearBuffer 9 = .ok (.getfield 29, 3) := by decide +kernel
theorem dX3_clearBuffer_12 : decode cX3_clearBuffer 12 = .ok (.iconst 0, 1) := by decide +kernel
theorem dX3_clearBuffer_13 : decode cX3_clearBuffer 13 = .ok (.putfield 96, 3) := by decide +kernel
theorem dX3_clearBuffer_16 : decode cX3_clearBuffer 16 = .ok (.iload_n 1, 1) := by decide +kernel
theorem dX3_clearBuffer_17 : decode cX3_clearBuffer 17 = .ok (.ireturn, 1) := by decide +kernel
theorem dX3_firstError_0 : decode cX3_firstError 0 = .ok (.aload_n 0, 1) := by decide +kernel
theorem dX3_firstError_1 : decode cX3_firstError 1 = .ok (.getfield 29, 3) := by decide +kernel
theorem dX3_firstError_4 : decode cX3_firstError 4 = .ok (.invokevirtual 103, 3) := by decide +kernel
theorem dX3_firstError_7 : decode cX3_firstError 7 = .ok (.ireturn, 1) := by decide +kernel
theorem dX3_read_0 : decode cX3_read 0 = .ok (.aload_n 0, 1) := by decide +kernel
theorem dX3_read_1 : decode cX3_read 1 = .ok (.getfield 29, 3) := by decide +kernel
theorem dX3_read_4 : decode cX3_read 4 = .ok (.invokevirtual 107, 3) := by decide +kernel
theorem dX3_read_7 : decode cX3_read 7 = .ok (.ifCond .ne 11, 3) := by decide +kernel
theorem dX3_read_10 : decode cX3_read 10 = .ok (.new 44, 3) := by decide +kernel
theorem dX3_read_13 : decode cX3_read 13 = .ok (.dup, 1) := by decide +kernel
theorem dX3_read_14 : decode cX3_read 14 = .ok (.invokespecial 46, 3) := by decide +kernel
theorem dX3_read_17 : decode cX3_read 17 = .ok (.athrow, 1) := by decide +kernel
theorem dX3_read_18 : decode cX3_read 18 = .ok (.aload_n 0, 1) := by decide +kernel
theorem dX3_read_19 : decode cX3_read 19 = .ok (.getfield 22, 3) := by decide +kernel
theorem dX3_read_22 : decode cX3_read 22 = .ok (.aload_n 0, 1) := by decide +kernel
theorem dX3_read_23 : decode cX3_read 23 = .ok (.getfield 12, 3) := by decide +kernel
theorem dX3_read_26 : decode cX3_read 26 = .ok (.invokevirtual 54, 3) := by decide +kernel
theorem dX3_read_29 : decode cX3_read 29 = .ok (.iconst 0, 1) := by decide +kernel
theorem dX3_read_30 : decode cX3_read 30 = .ok (.istore_n 1, 1) := by decide +kernel
theorem dX3_read_31 : decode cX3_read 31 = .ok (.iconst 0, 1) := by decide +kernel
theorem dX3_read_32 : decode cX3_read 32 = .ok (.istore_n 2, 1) := by decide +kernel
theorem dX3_read_33 : decode cX3_read 33 = .ok (.iconst 0, 1) := by decide +kernel
theorem dX3_read_34 : decode cX3_read 34 = .ok (.istore_n 3, 1) := by decide +kernel
theorem dX3_read_35 : decode cX3_read 35 = .ok (.iload_n 3, 1) := by decide +kernel
theorem dX3_read_36 : decode cX3_read 36 = .ok (.bipush 60, 2) := by decide +kernel
theorem dX3_read_38 : decode cX3_read 38 = .ok (.if_icmp .ge 42, 3) := by decide +kernel
theorem dX3_read_41 : decode cX3_read 41 = .ok (.iload_n 2, 1) := by decide +kernel
theorem dX3_read_42 : decode cX3_read 42 = .ok (.aload_n 0, 1) := by decide +kernel
theorem dX3_read_43 : decode cX3_read 43 = .ok (.getfield 29, 3) := by decide +kernel
theorem dX3_read_46 : decode cX3_read 46 = .ok (.getfield 96, 3) := by decide +kernel
theorem dX3_read_49 : decode cX3_read 49 = .ok (.if_icmp .ge 31, 3) := by decide +kernel
theorem dX3_read_52 : decode cX3_read 52 = .ok (.aload_n 0, 1) := by decide +kernel
theorem dX3_read_53 : decode cX3_read 53 = .ok (.getfield 29, 3) := by decide +kernel
theorem dX3_read_56 : decode cX3_read 56 = .ok (.iload_n 2, 1) := by decide +kernel
theorem dX3_read_57 : decode cX3_read 57 = .ok (.invokevirtual 111, 3) := by decide +kernel
theorem dX3_read_60 : decode cX3_read 60 = .ok (.istore_n 2, 1) := by decide +kernel
theorem dX3_read_61 : decode cX3_read 61 = .ok (.aload_n 0, 1) := by decide +kernel
theorem dX3_read_62 : decode cX3_read 62 = .ok (.invokevirtual 114, 3) := by decide +kernel
theorem dX3_read_65 : decode cX3_read 65 = .ok (.ifCond .ne 6, 3) := by decide +kernel
theorem dX3_read_68 : decode cX3_read 68 = .ok (.goto 12, 3) := by decide +kernel
theorem dX3_read_71 : decode cX3_read 71 = .ok (.iinc 1 1, 3) := by decide +kernel
theorem dX3_read_74 : decode cX3_read 74 = .ok (.iinc 3 1, 3) := by decide +kernel
theorem dX3_read_77 : decode cX3_read 77 = .ok (.goto (-42), 3) := by decide +kernel
theorem dX3_read_80 : decode cX3_read 80 = .ok (.aload_n 0, 1) := by decide +kernel
theorem dX3_read_81 : decode cX3_read 81 = .ok (.getfield 29, 3) := by decide +kernel
theorem dX3_read_84 : decode cX3_read 84 = .ok (.iconst 0, 1) := by decide +kernel
theorem dX3_read_85 : decode cX3_read 85 = .ok (.putfield 96, 3) := by decide +kernel
theorem dX3_read_88 : decode cX3_read 88 = .ok (.iload_n 1, 1) := by decide +kernel
theorem dX3_read_89 : decode cX3_read 89 = .ok (.ireturn, 1) := by decide +kernel
theorem dX3_undo_0 : decode cX3_undo 0 = .ok (.aload_n 0, 1) := by decide +kernel
theorem dX3_undo_1 : decode cX3_undo 1 = .ok (.getfield 22, 3) := by decide +kernel
theorem dX3_undo_4 : decode cX3_undo 4 = .ok (.getfield 117, 3) := by decide +kernel
theorem dX3_undo_7 : decode cX3_undo 7 = .ok (.iconst 1, 1) := by decide +kernel
theorem dX3_undo_8 : decode cX3_undo 8 = .ok (.if_icmp .ge 11, 3) := by decide +kernel
theorem dX3_undo_11 : decode cX3_undo 11 = .ok (.new 51, 3) := by decide +kernel
theorem dX3_undo_14 : decode cX3_undo 14 = .ok (.dup, 1) := by decide +kernel
theorem dX3_undo_15 : decode cX3_undo 15 = .ok (.invokespecial 53, 3) := by decide +kernel
theorem dX3_undo_18 : decode cX3_undo 18 = .ok (.athrow, 1) := by decide +kernel
theorem dX3_undo_19 : decode cX3_undo 19 = .ok (.aload_n 0, 1) := by decide +kernel
theorem dX3_undo_20 : decode cX3_undo 20 = .ok (.getfield 22, 3) := by decide +kernel
theorem dX3_undo_23 : decode cX3_undo 23 = .ok (.aload_n 0, 1) := by decide +kernel
theorem dX3_undo_24 : decode cX3_undo 24 = .ok (.getfield 12, 3) := by decide +kernel
theorem dX3_undo_27 : decode cX3_undo 27 = .ok (.invokevirtual 120, 3) := by decide +kernel
theorem dX3_undo_30 : decode cX3_undo 30 = .ok (.aload_n 0, 1) := by decide +kernel
theorem dX3_undo_31 : decode cX3_undo 31 = .ok (.getfield 22, 3) := by decide +kernel
theorem dX3_undo_34 : decode cX3_undo 34 = .ok (.getfield 117, 3) := by decide +kernel
theorem dX3_undo_37 : decode cX3_undo 37 = .ok (.ireturn, 1) := by decide +kernel
theorem dX3_lineOf_0 : decode cX3_lineOf 0 = .ok (.aload_n 0, 1) := by decide +kernel
theorem dX3_lineOf_1 : decode cX3_lineOf 1 = .ok (.iload_n 1, 1) := by decide +kernel
theorem dX3_lineOf_2 : decode cX3_lineOf 2 = .ok (.invokevirtual 75, 3) := by decide +kernel
theorem dX3_lineOf_5 : decode cX3_lineOf 5 = .ok (.ifCond .ne 11, 3) := by decide +kernel
theorem dX3_lineOf_8 : decode cX3_lineOf 8 = .ok (.new 78, 3) := by decide +kernel
theorem dX3_lineOf_11 : decode cX3_lineOf 11 = .ok (.dup, 1) := by decide +kernel
theorem dX3_lineOf_12 : decode cX3_lineOf 12 = .ok (.invokespecial 80, 3) := by decide +kernel
theorem dX3_lineOf_15 : decode cX3_lineOf 15 = .ok (.athrow, 1) := by decide +kernel
theorem dX3_lineOf_16 : decode cX3_lineOf 16 = .ok (.iload_n 2, 1) := by decide +kernel
theorem dX3_lineOf_17 : decode cX3_lineOf 17 = .ok (.ifCond .lt 9, 3) := by decide +kernel
theorem dX3_lineOf_20 : decode cX3_lineOf 20 = .ok (.iload_n 2, 1) := by decide +kernel
theorem dX3_lineOf_21 : decode cX3_lineOf 21 = .ok (.bipush 11, 2) := by decide +kernel
theorem dX3_lineOf_23 : decode cX3_lineOf 23 = .ok (.if_icmp .le 11, 3) := by decide +kernel
theorem dX3_lineOf_26 : decode cX3_lineOf 26 = .ok (.new 44, 3) := by decide +kernel
theorem dX3_lineOf_29 : decode cX3_lineOf 29 = .ok (.dup, 1) := by decide +kernel
theorem dX3_lineOf_30 : decode cX3_lineOf 30 = .ok (.invokespecial 46, 3) := by decide +kernel
theorem dX3_lineOf_33 : decode cX3_lineOf 33 = .ok (.athrow, 1) := by decide +kernel
theorem dX3_lineOf_34 : decode cX3_lineOf 34 = .ok (.aload_n 0, 1) := by decide +kernel
theorem dX3_lineOf_35 : decode cX3_lineOf 35 = .ok (.getfield 12, 3) := by decide +kernel
theorem dX3_lineOf_38 : decode cX3_lineOf 38 = .ok (.iload_n 1, 1) := by decide +kernel
theorem dX3_lineOf_39 : decode cX3_lineOf 39 = .ok (.iload_n 2, 1) := by decide +kernel
theorem dX3_lineOf_40 : decode cX3_lineOf 40 = .ok (.invokevirtual 123, 3) := by decide +kernel
theorem dX3_lineOf_43 : decode cX3_lineOf 43 = .ok (.ireturn, 1) := by decide +kernel
theorem dX3_at_0 : decode cX3_at 0 = .ok (.iload_n 1, 1) := by decide +kernel
theorem dX3_at_1 : decode cX3_at 1 = .ok (.ifCond .lt 19, 3) := by decide +kernel
theorem dX3_at_4 : decode cX3_at 4 = .ok (.iload_n 1, 1) := by decide +kernel
theorem dX3_at_5 : decode cX3_at 5 = .ok (.bipush 16, 2) := by decide +kernel
theorem dX3_at_7 : decode cX3_at 7 = .ok (.if_icmp .ge 13, 3) := by decide +kernel
theorem dX3_at_10 : decode cX3_at 10 = .ok (.iload_n 2, 1) := by decide +kernel
theorem dX3_at_11 : decode cX3_at 11 = .ok (.ifCond .lt 9, 3) := by decide +kernel
theorem dX3_at_14 : decode cX3_at 14 = .ok (.iload_n 2, 1) := by decide +kernel
theorem dX3_at_15 : decode cX3_at 15 = .ok (.bipush 24, 2) := by decide +kernel
theorem dX3_at_17 : decode cX3_at 17 = .ok (.if_icmp .lt 11, 3) := by decide +kernel
theorem dX3_at_20 : decode cX3_at 20 = .ok (.new 44, 3) := by decide +kernel
theorem dX3_at_23 : decode cX3_at 23 = .ok (.dup, 1) := by decide +kernel
theorem dX3_at_24 : decode cX3_at 24 = .ok (.invokespecial 46, 3) := by decide +kernel
theorem dX3_at_27 : decode cX3_at 27 = .ok (.athrow, 1) := by decide +kernel
theorem dX3_at_28 : decode cX3_at 28 = .ok (.aload_n 0, 1) := by decide +kernel
theorem dX3_at_29 : decode cX3_at 29 = .ok (.getfield 12, 3) := by decide +kernel
theorem dX3_at_32 : decode cX3_at 32 = .ok (.iload_n 1, 1) := by decide +kernel
theorem dX3_at_33 : decode cX3_at 33 = .ok (.iload_n 2, 1) := by decide +kernel
theorem dX3_at_34 : decode cX3_at 34 = .ok (.invokevirtual 127, 3) := by decide +kernel
theorem dX3_at_37 : decode cX3_at 37 = .ok (.ireturn, 1) := by decide +kernel
theorem dX3_reads_0 : decode cX3_reads 0 = .ok (.iload_n 1, 1) := by decide +kernel
theorem dX3_reads_1 : decode cX3_reads 1 = .ok (.ifCond .ge 11, 3) := by decide +kernel
theorem dX3_reads_4 : decode cX3_reads 4 = .ok (.new 44, 3) := by decide +kernel
theorem dX3_reads_7 : decode cX3_reads 7 = .ok (.dup, 1) := by decide +kernel
theorem dX3_reads_8 : decode cX3_reads 8 = .ok (.invokespecial 46, 3) := by decide +kernel
theorem dX3_reads_11 : decode cX3_reads 11 = .ok (.athrow, 1) := by decide +kernel
theorem dX3_reads_12 : decode cX3_reads 12 = .ok (.aload_n 0, 1) := by decide +kernel
theorem dX3_reads_13 : decode cX3_reads 13 = .ok (.getfield 12, 3) := by decide +kernel
theorem dX3_reads_16 : decode cX3_reads 16 = .ok (.iload_n 1, 1) := by decide +kernel
theorem dX3_reads_17 : decode cX3_reads 17 = .ok (.invokevirtual 130, 3) := by decide +kernel
theorem dX3_reads_20 : decode cX3_reads 20 = .ok (.ireturn, 1) := by decide +kernel
theorem dX3_count_0 : decode cX3_count 0 = .ok (.iload_n 1, 1) := by decide +kernel
theorem dX3_count_1 : decode cX3_count 1 = .ok (.ifCond .lt 9, 3) := by decide +kernel
theorem dX3_count_4 : decode cX3_count 4 = .ok (.iload_n 1, 1) := by decide +kernel
theorem dX3_count_5 : decode cX3_count 5 = .ok (.bipush 11, 2) := by decide +kernel
theorem dX3_count_7 : decode cX3_count 7 = .ok (.if_icmp .le 11, 3) := by decide +kernel
theorem dX3_count_10 : decode cX3_count 10 = .ok (.new 44, 3) := by decide +kernel
theorem dX3_count_13 : decode cX3_count 13 = .ok (.dup, 1) := by decide +kernel
theorem dX3_count_14 : decode cX3_count 14 = .ok (.invokespecial 46, 3) := by decide +kernel
theorem dX3_count_17 : decode cX3_count 17 = .ok (.athrow, 1) := by decide +kernel
theorem dX3_count_18 : decode cX3_count 18 = .ok (.iload_n 1, 1) := by decide +kernel
theorem dX3_count_19 : decode cX3_count 19 = .ok (.bipush 11, 2) := by decide +kernel
theorem dX3_count_21 : decode cX3_count 21 = .ok (.if_icmp .ne 13, 3) := by decide +kernel
theorem dX3_count_24 : decode cX3_count 24 = .ok (.aload_n 0, 1) := by decide +kernel
theorem dX3_count_25 : decode cX3_count 25 = .ok (.getfield 22, 3) := by decide +kernel
theorem dX3_count_28 : decode cX3_count 28 = .ok (.getfield 117, 3) := by decide +kernel
theorem dX3_count_31 : decode cX3_count 31 = .ok (.goto 11, 3) := by decide +kernel
theorem dX3_count_34 : decode cX3_count 34 = .ok (.aload_n 0, 1) := by decide +kernel
theorem dX3_count_35 : decode cX3_count 35 = .ok (.getfield 12, 3) := by decide +kernel
theorem dX3_count_38 : decode cX3_count 38 = .ok (.iload_n 1, 1) := by decide +kernel
theorem dX3_count_39 : decode cX3_count 39 = .ok (.invokevirtual 133, 3) := by decide +kernel
theorem dX3_count_42 : decode cX3_count 42 = .ok (.ireturn, 1) := by decide +kernel
theorem dX3_untilRest_0 : decode cX3_untilRest 0 = .ok (.aload_n 0, 1) := by decide +kernel
theorem dX3_untilRest_1 : decode cX3_untilRest 1 = .ok (.getfield 16, 3) := by decide +kernel
theorem dX3_untilRest_4 : decode cX3_untilRest 4 = .ok (.aload_n 0, 1) := by decide +kernel
theorem dX3_untilRest_5 : decode cX3_untilRest 5 = .ok (.getfield 12, 3) := by decide +kernel
theorem dX3_untilRest_8 : decode cX3_untilRest 8 = .ok (.invokevirtual 136, 3) := by decide +kernel
theorem dX3_untilRest_11 : decode cX3_untilRest 11 = .ok (.aload_n 0, 1) := by decide +kernel
theorem dX3_untilRest_12 : decode cX3_untilRest 12 = .ok (.getfield 16, 3) := by decide +kernel
theorem dX3_untilRest_15 : decode cX3_untilRest 15 = .ok (.invokevirtual 139, 3) := by decide +kernel
theorem dX3_untilRest_18 : decode cX3_untilRest 18 = .ok (.ireturn, 1) := by decide +kernel
theorem dX3_ifDropped_0 : decode cX3_ifDropped 0 = .ok (.iload_n 1, 1) := by decide +kernel
theorem dX3_ifDropped_1 : decode cX3_ifDropped 1 = .ok (.iload_n 2, 1) := by decide +kernel
theorem dX3_ifDropped_2 : decode cX3_ifDropped 2 = .ok (.iload_n 3, 1) := by decide +kernel
theorem dX3_ifDropped_3 : decode cX3_ifDropped 3 = .ok (.invokestatic 33, 3) := by decide +kernel
theorem dX3_ifDropped_6 : decode cX3_ifDropped 6 = .ok (.ifCond .eq 14, 3) := by decide +kernel
theorem dX3_ifDropped_9 : decode cX3_ifDropped 9 = .ok (.iload 4, 2) := by decide +kernel
theorem dX3_ifDropped_11 : decode cX3_ifDropped 11 = .ok (.ifCond .lt 9, 3) := by decide +kernel
theorem dX3_ifDropped_14 : decode cX3_ifDropped 14 = .ok (.iload 4, 2) := by decide +kernel
theorem dX3_ifDropped_16 : decode cX3_ifDropped 16 = .ok (.iconst 2, 1) := by decide +kernel
theorem dX3_ifDropped_17 : decode cX3_ifDropped 17 = .ok (.if_icmp .le 11, 3) := by decide +kernel
theorem dX3_ifDropped_20 : decode cX3_ifDropped 20 = .ok (.new 44, 3) := by decide +kernel
theorem dX3_ifDropped_23 : decode cX3_ifDropped 23 = .ok (.dup, 1) := by decide +kernel
