theorem dX1_init_0 : decode cX1_init 0 = .ok (.aload_n 0, 1) := by decide +kernel
theorem dX1_init_1 : decode cX1_init 1 = .ok (.invokespecial 3, 3) := by decide +kernel
theorem dX1_init_4 : decode cX1_init 4 = .ok (.aload_n 0, 1) := by decide +kernel
theorem dX1_init_5 : decode cX1_init 5 = .ok (.bipush 24, 2) := by decide +kernel
theorem dX1_init_7 : decode cX1_init 7 = .ok (.newarray .int, 2) := by decide +kernel
theorem dX1_init_9 : decode cX1_init 9 = .ok (.putfield 9, 3) := by decide +kernel
theorem dX1_init_12 : decode cX1_init 12 = .ok (.aload_n 0, 1) := by decide +kernel
theorem dX1_init_13 : decode cX1_init 13 = .ok (.bipush 24, 2) := by decide +kernel
theorem dX1_init_15 : decode cX1_init 15 = .ok (.newarray .int, 2) := by decide +kernel
theorem dX1_init_17 : decode cX1_init 17 = .ok (.putfield 15, 3) := by decide +kernel
theorem dX1_init_20 : decode cX1_init 20 = .ok (.aload_n 0, 1) := by decide +kernel
theorem dX1_init_21 : decode cX1_init 21 = .ok (.bipush 24, 2) := by decide +kernel
theorem dX1_init_23 : decode cX1_init 23 = .ok (.newarray .int, 2) := by decide +kernel
theorem dX1_init_25 : decode cX1_init 25 = .ok (.putfield 18, 3) := by decide +kernel
theorem dX1_init_28 : decode cX1_init 28 = .ok (.aload_n 0, 1) := by decide +kernel
theorem dX1_init_29 : decode cX1_init 29 = .ok (.bipush 24, 2) := by decide +kernel
theorem dX1_init_31 : decode cX1_init 31 = .ok (.newarray .int, 2) := by decide +kernel
theorem dX1_init_33 : decode cX1_init 33 = .ok (.putfield 21, 3) := by decide +kernel
theorem dX1_init_36 : decode cX1_init 36 = .ok (.aload_n 0, 1) := by decide +kernel
theorem dX1_init_37 : decode cX1_init 37 = .ok (.bipush 24, 2) := by decide +kernel
theorem dX1_init_39 : decode cX1_init 39 = .ok (.newarray .int, 2) := by decide +kernel
theorem dX1_init_41 : decode cX1_init 41 = .ok (.putfield 24, 3) := by decide +kernel
theorem dX1_init_44 : decode cX1_init 44 = .ok (.return_, 1) := by decide +kernel
theorem dX1_exists_0 : decode cX1_exists 0 = .ok (.iload_n 1, 1) := by decide +kernel
theorem dX1_exists_1 : decode cX1_exists 1 = .ok (.ifCond .lt 21, 3) := by decide +kernel
theorem dX1_exists_4 : decode cX1_exists 4 = .ok (.iload_n 1, 1) := by decide +kernel
theorem dX1_exists_5 : decode cX1_exists 5 = .ok (.aload_n 0, 1) := by decide +kernel
theorem dX1_exists_6 : decode cX1_exists 6 = .ok (.getfield 27, 3) := by decide +kernel
theorem dX1_exists_9 : decode cX1_exists 9 = .ok (.if_icmp .ge 13, 3) := by decide +kernel
theorem dX1_exists_12 : decode cX1_exists 12 = .ok (.iload_n 1, 1) := by decide +kernel
theorem dX1_exists_13 : decode cX1_exists 13 = .ok (.bipush 24, 2) := by decide +kernel
theorem dX1_exists_15 : decode cX1_exists 15 = .ok (.if_icmp .ge 7, 3) := by decide +kernel
theorem dX1_exists_18 : decode cX1_exists 18 = .ok (.iconst 1, 1) := by decide +kernel
theorem dX1_exists_19 : decode cX1_exists 19 = .ok (.goto 4, 3) := by decide +kernel
theorem dX1_exists_22 : decode cX1_exists 22 = .ok (.iconst 0, 1) := by decide +kernel
theorem dX1_exists_23 : decode cX1_exists 23 = .ok (.ireturn, 1) := by decide +kernel
theorem dX1_lastOf_0 : decode cX1_lastOf 0 = .ok (.aload_n 0, 1) := by decide +kernel
theorem dX1_lastOf_1 : decode cX1_lastOf 1 = .ok (.iload_n 1, 1) := by decide +kernel
theorem dX1_lastOf_2 : decode cX1_lastOf 2 = .ok (.invokevirtual 31, 3) := by decide +kernel
theorem dX1_lastOf_5 : decode cX1_lastOf 5 = .ok (.ifCond .eq 12, 3) := by decide +kernel
theorem dX1_lastOf_8 : decode cX1_lastOf 8 = .ok (.aload_n 0, 1) := by decide +kernel
theorem dX1_lastOf_9 : decode cX1_lastOf 9 = .ok (.getfield 15, 3) := by decide +kernel
theorem dX1_lastOf_12 : decode cX1_lastOf 12 = .ok (.iload_n 1, 1) := by decide +kernel
theorem dX1_lastOf_13 : decode cX1_lastOf 13 = .ok (.iaload, 1) := by decide +kernel
theorem dX1_lastOf_14 : decode cX1_lastOf 14 = .ok (.goto 4, 3) := by decide +kernel
theorem dX1_lastOf_17 : decode cX1_lastOf 17 = .ok (.iconst (-1), 1) := by decide +kernel
theorem dX1_lastOf_18 : decode cX1_lastOf 18 = .ok (.ireturn, 1) := by decide +kernel
theorem dX1_add_0 : decode cX1_add 0 = .ok (.aload_n 0, 1) := by decide +kernel
theorem dX1_add_1 : decode cX1_add 1 = .ok (.getfield 27, 3) := by decide +kernel
theorem dX1_add_4 : decode cX1_add 4 = .ok (.bipush 24, 2) := by decide +kernel
theorem dX1_add_6 : decode cX1_add 6 = .ok (.if_icmp .lt 5, 3) := by decide +kernel
theorem dX1_add_9 : decode cX1_add 9 = .ok (.iconst (-1), 1) := by decide +kernel
theorem dX1_add_10 : decode cX1_add 10 = .ok (.ireturn, 1) := by decide +kernel
theorem dX1_add_11 : decode cX1_add 11 = .ok (.aload_n 0, 1) := by decide +kernel
theorem dX1_add_12 : decode cX1_add 12 = .ok (.getfield 27, 3) := by decide +kernel
theorem dX1_add_15 : decode cX1_add 15 = .ok (.istore 4, 2) := by decide +kernel
theorem dX1_add_17 : decode cX1_add 17 = .ok (.iload 4, 2) := by decide +kernel
theorem dX1_add_19 : decode cX1_add 19 = .ok (.ifCond .le 42, 3) := by decide +kernel
theorem dX1_add_22 : decode cX1_add 22 = .ok (.aload_n 0, 1) := by decide +kernel
theorem dX1_add_23 : decode cX1_add 23 = .ok (.aload_n 0, 1) := by decide +kernel
theorem dX1_add_24 : decode cX1_add 24 = .ok (.getfield 24, 3) := by decide +kernel
theorem dX1_add_27 : decode cX1_add 27 = .ok (.iload 4, 2) := by decide +kernel
theorem dX1_add_29 : decode cX1_add 29 = .ok (.iconst 1, 1) := by decide +kernel
theorem dX1_add_30 : decode cX1_add 30 = .ok (.isub, 1) := by decide +kernel
theorem dX1_add_31 : decode cX1_add 31 = .ok (.iaload, 1) := by decide +kernel
theorem dX1_add_32 : decode cX1_add 32 = .ok (.invokevirtual 35, 3) := by decide +kernel
theorem dX1_add_35 : decode cX1_add 35 = .ok (.iload_n 2, 1) := by decide +kernel
theorem dX1_add_36 : decode cX1_add 36 = .ok (.if_icmp .le 25, 3) := by decide +kernel
theorem dX1_add_39 : decode cX1_add 39 = .ok (.aload_n 0, 1) := by decide +kernel
theorem dX1_add_40 : decode cX1_add 40 = .ok (.getfield 24, 3) := by decide +kernel
theorem dX1_add_43 : decode cX1_add 43 = .ok (.iload 4, 2) := by decide +kernel
theorem dX1_add_45 : decode cX1_add 45 = .ok (.aload_n 0, 1) := by decide +kernel
theorem dX1_add_46 : decode cX1_add 46 = .ok (.getfield 24, 3) := by decide +kernel
theorem dX1_add_49 : decode cX1_add 49 = .ok (.iload 4, 2) := by decide +kernel
theorem dX1_add_51 : decode cX1_add 51 = .ok (.iconst 1, 1) := by decide +kernel
theorem dX1_add_52 : decode cX1_add 52 = .ok (.isub, 1) := by decide +kernel
theorem dX1_add_53 : decode cX1_add 53 = .ok (.iaload, 1) := by decide +kernel
theorem dX1_add_54 : decode cX1_add 54 = .ok (.iastore, 1) := by decide +kernel
theorem dX1_add_55 : decode cX1_add 55 = .ok (.iinc 4 (-1), 3) := by decide +kernel
theorem dX1_add_58 : decode cX1_add 58 = .ok (.goto (-41), 3) := by decide +kernel
theorem dX1_add_61 : decode cX1_add 61 = .ok (.aload_n 0, 1) := by decide +kernel
theorem dX1_add_62 : decode cX1_add 62 = .ok (.getfield 24, 3) := by decide +kernel
theorem dX1_add_65 : decode cX1_add 65 = .ok (.iload 4, 2) := by decide +kernel
theorem dX1_add_67 : decode cX1_add 67 = .ok (.aload_n 0, 1) := by decide +kernel
theorem dX1_add_68 : decode cX1_add 68 = .ok (.getfield 27, 3) := by decide +kernel
theorem dX1_add_71 : decode cX1_add 71 = .ok (.iastore, 1) := by decide +kernel
theorem dX1_add_72 : decode cX1_add 72 = .ok (.aload_n 0, 1) := by decide +kernel
theorem dX1_add_73 : decode cX1_add 73 = .ok (.getfield 9, 3) := by decide +kernel
theorem dX1_add_76 : decode cX1_add 76 = .ok (.aload_n 0, 1) := by decide +kernel
theorem dX1_add_77 : decode cX1_add 77 = .ok (.getfield 27, 3) := by decide +kernel
theorem dX1_add_80 : decode cX1_add 80 = .ok (.iload_n 1, 1) := by decide +kernel
theorem dX1_add_81 : decode cX1_add 81 = .ok (.iastore, 1) := by decide +kernel
theorem dX1_add_82 : decode cX1_add 82 = .ok (.aload_n 0, 1) := by decide +kernel
theorem dX1_add_83 : decode cX1_add 83 = .ok (.getfield 15, 3) := by decide +kernel
theorem dX1_add_86 : decode cX1_add 86 = .ok (.aload_n 0, 1) := by decide +kernel
theorem dX1_add_87 : decode cX1_add 87 = .ok (.getfield 27, 3) := by decide +kernel
theorem dX1_add_90 : decode cX1_add 90 = .ok (.iload_n 2, 1) := by decide +kernel
theorem dX1_add_91 : decode cX1_add 91 = .ok (.iastore, 1) := by decide +kernel
theorem dX1_add_92 : decode cX1_add 92 = .ok (.aload_n 0, 1) := by decide +kernel
theorem dX1_add_93 : decode cX1_add 93 = .ok (.getfield 18, 3) := by decide +kernel
theorem dX1_add_96 : decode cX1_add 96 = .ok (.aload_n 0, 1) := by decide +kernel
theorem dX1_add_97 : decode cX1_add 97 = .ok (.getfield 27, 3) := by decide +kernel
theorem dX1_add_100 : decode cX1_add 100 = .ok (.iload_n 3, 1) := by decide +kernel
theorem dX1_add_101 : decode cX1_add 101 = .ok (.iastore, 1) := by decide +kernel
theorem dX1_add_102 : decode cX1_add 102 = .ok (.aload_n 0, 1) := by decide +kernel
theorem dX1_add_103 : decode cX1_add 103 = .ok (.getfield 21, 3) := by decide +kernel
theorem dX1_add_106 : decode cX1_add 106 = .ok (.aload_n 0, 1) := by decide +kernel
theorem dX1_add_107 : decode cX1_add 107 = .ok (.getfield 27, 3) := by decide +kernel
theorem dX1_add_110 : decode cX1_add 110 = .ok (.iconst 0, 1) := by decide +kernel
theorem dX1_add_111 : decode cX1_add 111 = .ok (.iastore, 1) := by decide +kernel
theorem dX1_add_112 : decode cX1_add 112 = .ok (.aload_n 0, 1) := by decide +kernel
theorem dX1_add_113 : decode cX1_add 113 = .ok (.dup, 1) := by decide +kernel
theorem dX1_add_114 : decode cX1_add 114 = .ok (.getfield 27, 3) := by decide +kernel
theorem dX1_add_117 : decode cX1_add 117 = .ok (.iconst 1, 1) := by decide +kernel
theorem dX1_add_118 : decode cX1_add 118 = .ok (.iadd, 1) := by decide +kernel
theorem dX1_add_119 : decode cX1_add 119 = .ok (.putfield 27, 3) := by decide +kernel
theorem dX1_add_122 : decode cX1_add 122 = .ok (.aload_n 0, 1) := by decide +kernel
theorem dX1_add_123 : decode cX1_add 123 = .ok (.getfield 27, 3) := by decide +kernel
theorem dX1_add_126 : decode cX1_add 126 = .ok (.iconst 1, 1) := by decide +kernel
theorem dX1_add_127 : decode cX1_add 127 = .ok (.isub, 1) := by decide +kernel
theorem dX1_add_128 : decode cX1_add 128 = .ok (.ireturn, 1) := by decide +kernel
theorem dX1_isFit_0 : decode cX1_isFit 0 = .ok (.aload_n 0, 1) := by decide +kernel
theorem dX1_isFit_1 : decode cX1_isFit 1 = .ok (.iload_n 1, 1) := by decide +kernel
theorem dX1_isFit_2 : decode cX1_isFit 2 = .ok (.invokevirtual 31, 3) := by decide +kernel
theorem dX1_isFit_5 : decode cX1_isFit 5 = .ok (.ifCond .eq 36, 3) := by decide +kernel
theorem dX1_isFit_8 : decode cX1_isFit 8 = .ok (.aload_n 0, 1) := by decide +kernel
theorem dX1_isFit_9 : decode cX1_isFit 9 = .ok (.getfield 9, 3) := by decide +kernel
theorem dX1_isFit_12 : decode cX1_isFit 12 = .ok (.iload_n 1, 1) := by decide +kernel
theorem dX1_isFit_13 : decode cX1_isFit 13 = .ok (.iaload, 1) := by decide +kernel
theorem dX1_isFit_14 : decode cX1_isFit 14 = .ok (.iload_n 2, 1) := by decide +kernel
theorem dX1_isFit_15 : decode cX1_isFit 15 = .ok (.if_icmp .ne 26, 3) := by decide +kernel
theorem dX1_isFit_18 : decode cX1_isFit 18 = .ok (.aload_n 0, 1) := by decide +kernel
theorem dX1_isFit_19 : decode cX1_isFit 19 = .ok (.getfield 21, 3) := by decide +kernel
theorem dX1_isFit_22 : decode cX1_isFit 22 = .ok (.iload_n 1, 1) := by decide +kernel
theorem dX1_isFit_23 : decode cX1_isFit 23 = .ok (.iaload, 1) := by decide +kernel
theorem dX1_isFit_24 : decode cX1_isFit 24 = .ok (.ifCond .ne 17, 3) := by decide +kernel
theorem dX1_isFit_27 : decode cX1_isFit 27 = .ok (.aload_n 0, 1) := by decide +kernel
theorem dX1_isFit_28 : decode cX1_isFit 28 = .ok (.getfield 15, 3) := by decide +kernel
theorem dX1_isFit_31 : decode cX1_isFit 31 = .ok (.iload_n 1, 1) := by decide +kernel
theorem dX1_isFit_32 : decode cX1_isFit 32 = .ok (.iaload, 1) := by decide +kernel
theorem dX1_isFit_33 : decode cX1_isFit 33 = .ok (.iload_n 3, 1) := by decide +kernel
theorem dX1_isFit_34 : decode cX1_isFit 34 = .ok (.if_icmp .lt 7, 3) := by decide +kernel
theorem dX1_isFit_37 : decode cX1_isFit 37 = .ok (.iconst 1, 1) := by decide +kernel
theorem dX1_isFit_38 : decode cX1_isFit 38 = .ok (.goto 4, 3) := by decide +kernel
theorem dX1_isFit_41 : decode cX1_isFit 41 = .ok (.iconst 0, 1) := by decide +kernel
theorem dX1_isFit_42 : decode cX1_isFit 42 = .ok (.ireturn, 1) := by decide +kernel
theorem dX1_isWaste_0 : decode cX1_isWaste 0 = .ok (.aload_n 0, 1) := by decide +kernel
theorem dX1_isWaste_1 : decode cX1_isWaste 1 = .ok (.iload_n 1, 1) := by decide +kernel
theorem dX1_isWaste_2 : decode cX1_isWaste 2 = .ok (.invokevirtual 31, 3) := by decide +kernel
theorem dX1_isWaste_5 : decode cX1_isWaste 5 = .ok (.ifCond .eq 27, 3) := by decide +kernel
theorem dX1_isWaste_8 : decode cX1_isWaste 8 = .ok (.aload_n 0, 1) := by decide +kernel
theorem dX1_isWaste_9 : decode cX1_isWaste 9 = .ok (.getfield 21, 3) := by decide +kernel
theorem dX1_isWaste_12 : decode cX1_isWaste 12 = .ok (.iload_n 1, 1) := by decide +kernel
theorem dX1_isWaste_13 : decode cX1_isWaste 13 = .ok (.iaload, 1) := by decide +kernel
theorem dX1_isWaste_14 : decode cX1_isWaste 14 = .ok (.iconst 2, 1) := by decide +kernel
theorem dX1_isWaste_15 : decode cX1_isWaste 15 = .ok (.if_icmp .eq 13, 3) := by decide +kernel
theorem dX1_isWaste_18 : decode cX1_isWaste 18 = .ok (.aload_n 0, 1) := by decide +kernel
theorem dX1_isWaste_19 : decode cX1_isWaste 19 = .ok (.getfield 15, 3) := by decide +kernel
theorem dX1_isWaste_22 : decode cX1_isWaste 22 = .ok (.iload_n 1, 1) := by decide +kernel
theorem dX1_isWaste_23 : decode cX1_isWaste 23 = .ok (.iaload, 1) := by decide +kernel
theorem dX1_isWaste_24 : decode cX1_isWaste 24 = .ok (.iload_n 2, 1) := by decide +kernel
theorem dX1_isWaste_25 : decode cX1_isWaste 25 = .ok (.if_icmp .ge 7, 3) := by decide +kernel
theorem dX1_isWaste_28 : decode cX1_isWaste 28 = .ok (.iconst 1, 1) := by decide +kernel
theorem dX1_isWaste_29 : decode cX1_isWaste 29 = .ok (.goto 4, 3) := by decide +kernel
theorem dX1_isWaste_32 : decode cX1_isWaste 32 = .ok (.iconst 0, 1) := by decide +kernel
theorem dX1_isWaste_33 : decode cX1_isWaste 33 = .ok (.ireturn, 1) := by decide +kernel
theorem dX1_copyFrom_0 : decode cX1_copyFrom 0 = .ok (.aload_n 0, 1) := by decide +kernel
theorem dX1_copyFrom_1 : decode cX1_copyFrom 1 = .ok (.aload_n 1, 1) := by decide +kernel
theorem dX1_copyFrom_2 : decode cX1_copyFrom 2 = .ok (.getfield 27, 3) := by decide +kernel
theorem dX1_copyFrom_5 : decode cX1_copyFrom 5 = .ok (.putfield 27, 3) := by decide +kernel
theorem dX1_copyFrom_8 : decode cX1_copyFrom 8 = .ok (.aload_n 1, 1) := by decide +kernel
theorem dX1_copyFrom_9 : decode cX1_copyFrom 9 = .ok (.getfield 9, 3) := by decide +kernel
theorem dX1_copyFrom_12 : decode cX1_copyFrom 12 = .ok (.iconst 0, 1) := by decide +kernel
theorem dX1_copyFrom_13 : decode cX1_copyFrom 13 = .ok (.aload_n 0, 1) := by decide +kernel
theorem dX1_copyFrom_14 : decode cX1_copyFrom 14 = .ok (.getfield 9, 3) := by decide +kernel
theorem dX1_copyFrom_17 : decode cX1_copyFrom 17 = .ok (.iconst 0, 1) := by decide +kernel
theorem dX1_copyFrom_18 : decode cX1_copyFrom 18 = .ok (.aload_n 0, 1) := by decide +kernel
theorem dX1_copyFrom_19 : decode cX1_copyFrom 19 = .ok (.getfield 9, 3) := by decide +kernel
theorem dX1_copyFrom_22 : decode cX1_copyFrom 22 = .ok (.arraylength, 1) := by decide +kernel
theorem dX1_copyFrom_23 : decode cX1_copyFrom 23 = .ok (.invokestatic 39, 3) := by decide +kernel
theorem dX1_copyFrom_26 : decode cX1_copyFrom 26 = .ok (.aload_n 1, 1) := by decide +kernel
theorem dX1_copyFrom_27 : decode cX1_copyFrom 27 = .ok (.getfield 15, 3) := by decide +kernel
theorem dX1_copyFrom_30 : decode cX1_copyFrom 30 = .ok (.iconst 0, 1) := by decide +kernel
theorem dX1_copyFrom_31 : decode cX1_copyFrom 31 = .ok (.aload_n 0, 1) := by decide +kernel
theorem dX1_copyFrom_32 : decode cX1_copyFrom 32 = .ok (.getfield 15, 3) := by decide +kernel
theorem dX1_copyFrom_35 : decode cX1_copyFrom 35 = .ok (.iconst 0, 1) := by decide +kernel
theorem dX1_copyFrom_36 : decode cX1_copyFrom 36 = .ok (.aload_n 0, 1) := by decide +kernel
theorem dX1_copyFrom_37 : decode cX1_copyFrom 37 = .ok (.getfield 15, 3) := by decide +kernel
theorem dX1_copyFrom_40 : decode cX1_copyFrom 40 = .ok (.arraylength, 1) := by decide +kernel
theorem dX1_copyFrom_41 : decode cX1_copyFrom 41 = .ok (.invokestatic 39, 3) := by decide +kernel
theorem dX1_copyFrom_44 : decode cX1_copyFrom 44 = .ok (.aload_n 1, 1) := by decide +kernel
theorem dX1_copyFrom_45 : decode cX1_copyFrom 45 = .ok (.getfield 18, 3) := by decide +kernel
theorem dX1_copyFrom_48 : decode cX1_copyFrom 48 = .ok (.iconst 0, 1) := by decide +kernel
theorem dX1_copyFrom_49 : decode cX1_copyFrom 49 = .ok (.aload_n 0, 1) := by decide +kernel
theorem dX1_copyFrom_50 : decode cX1_copyFrom 50 = .ok (.getfield 18, 3) := by decide +kernel
theorem dX1_copyFrom_53 : decode cX1_copyFrom 53 = .ok (.iconst 0, 1) := by decide +kernel
theorem dX1_copyFrom_54 : decode cX1_copyFrom 54 = .ok (.aload_n 0, 1) := by decide +kernel
theorem dX1_copyFrom_55 : decode cX1_copyFrom 55 = .ok (.getfield 18, 3) := by decide +kernel
theorem dX1_copyFrom_58 : decode cX1_copyFrom 58 = .ok (.arraylength, 1) := by decide +kernel
theorem dX1_copyFrom_59 : decode cX1_copyFrom 59 = .ok (.invokestatic 39, 3) := by decide +kernel
theorem dX1_copyFrom_62 : decode cX1_copyFrom 62 = .ok (.aload_n 1, 1) := by decide +kernel
theorem dX1_copyFrom_63 : decode cX1_copyFrom 63 = .ok (.getfield 21, 3) := by decide +kernel
theorem dX1_copyFrom_66 : decode cX1_copyFrom 66 = .ok (.iconst 0, 1) := by decide +kernel
theorem dX1_copyFrom_67 : decode cX1_copyFrom 67 = .ok (.aload_n 0, 1) := by decide +kernel
theorem dX1_copyFrom_68 : decode cX1_copyFrom 68 = .ok (.getfield 21, 3) := by decide +kernel
theorem dX1_copyFrom_71 : decode cX1_copyFrom 71 = .ok (.iconst 0, 1) := by decide +kernel
theorem dX1_copyFrom_72 : decode cX1_copyFrom 72 = .ok (.aload_n 0, 1) := by decide +kernel
theorem dX1_copyFrom_73 : decode cX1_copyFrom 73 = .ok (.getfield 21, 3) := by decide +kernel
theorem dX1_copyFrom_76 : decode cX1_copyFrom 76 = .ok (.arraylength, 1) := by decide +kernel
theorem dX1_copyFrom_77 : decode cX1_copyFrom 77 = .ok (.invokestatic 39, 3) := by decide +kernel
theorem dX1_copyFrom_80 : decode cX1_copyFrom 80 = .ok (.aload_n 1, 1) := by decide +kernel
theorem dX1_copyFrom_81 : decode cX1_copyFrom 81 = .ok (.getfield 24, 3) := by decide +kernel
theorem dX1_copyFrom_84 : decode cX1_copyFrom 84 = .ok (.iconst 0, 1) := by decide +kernel
theorem dX1_copyFrom_85 : decode cX1_copyFrom 85 = .ok (.aload_n 0, 1) := by decide +kernel
theorem dX1_copyFrom_86 : decode cX1_copyFrom 86 = .ok (.getfield 24, 3) := by decide +kernel
theorem dX1_copyFrom_89 : decode cX1_copyFrom 89 = .ok (.iconst 0, 1) := by decide +kernel
theorem dX1_copyFrom_90 : decode cX1_copyFrom 90 = .ok (.aload_n 0, 1) := by decide +kernel
theorem dX1_copyFrom_91 : decode cX1_copyFrom 91 = .ok (.getfield 24, 3) := by decide +kernel
theorem dX1_copyFrom_94 : decode cX1_copyFrom 94 = .ok (.arraylength, 1) := by decide +kernel
theorem dX1_copyFrom_95 : decode cX1_copyFrom 95 = .ok (.invokestatic 39, 3) := by decide +kernel
theorem dX1_copyFrom_98 : decode cX1_copyFrom 98 = .ok (.return_, 1) := by decide +kernel
theorem dX2_init_0 : decode cX2_init 0 = .ok (.aload_n 0, 1) := by decide +kernel
theorem dX2_init_1 : decode cX2_init 1 = .ok (.invokespecial 3, 3) := by decide +kernel
theorem dX2_init_4 : decode cX2_init 4 = .ok (.aload_n 0, 1) := by decide +kernel
theorem dX2_init_5 : decode cX2_init 5 = .ok (.bipush 40, 2) := by decide +kernel
theorem dX2_init_7 : decode cX2_init 7 = .ok (.newarray .int, 2) := by decide +kernel
theorem dX2_init_9 : decode cX2_init 9 = .ok (.putfield 9, 3) := by decide +kernel
theorem dX2_init_12 : decode cX2_init 12 = .ok (.aload_n 0, 1) := by decide +kernel
theorem dX2_init_13 : decode cX2_init 13 = .ok (.bipush 40, 2) := by decide +kernel
theorem dX2_init_15 : decode cX2_init 15 = .ok (.newarray .int, 2) := by decide +kernel
theorem dX2_init_17 : decode cX2_init 17 = .ok (.putfield 15, 3) := by decide +kernel
theorem dX2_init_20 : decode cX2_init 20 = .ok (.aload_n 0, 1) := by decide +kernel
theorem dX2_init_21 : decode cX2_init 21 = .ok (.bipush 40, 2) := by decide +kernel
theorem dX2_init_23 : decode cX2_init 23 = .ok (.newarray .int, 2) := by decide +kernel
theorem dX2_init_25 : decode cX2_init 25 = .ok (.putfield 18, 3) := by decide +kernel
theorem dX2_init_28 : decode cX2_init 28 = .ok (.aload_n 0, 1) := by decide +kernel
theorem dX2_init_29 : decode cX2_init 29 = .ok (.bipush 40, 2) := by decide +kernel
theorem dX2_init_31 : decode cX2_init 31 = .ok (.newarray .int, 2) := by decide +kernel
theorem dX2_init_33 : decode cX2_init 33 = .ok (.putfield 21, 3) := by decide +kernel
theorem dX2_init_36 : decode cX2_init 36 = .ok (.aload_n 0, 1) := by decide +kernel
theorem dX2_init_37 : decode cX2_init 37 = .ok (.bipush 40, 2) := by decide +kernel
theorem dX2_init_39 : decode cX2_init 39 = .ok (.newarray .int, 2) := by decide +kernel
theorem dX2_init_41 : decode cX2_init 41 = .ok (.putfield 24, 3) := by decide +kernel
theorem dX2_init_44 : decode cX2_init 44 = .ok (.aload_n 0, 1) := by decide +kernel
theorem dX2_init_45 : decode cX2_init 45 = .ok (.bipush 40, 2) := by decide +kernel
theorem dX2_init_47 : decode cX2_init 47 = .ok (.newarray .int, 2) := by decide +kernel
theorem dX2_init_49 : decode cX2_init 49 = .ok (.putfield 27, 3) := by decide +kernel
theorem dX2_init_52 : decode cX2_init 52 = .ok (.aload_n 0, 1) := by decide +kernel
theorem dX2_init_53 : decode cX2_init 53 = .ok (.sipush 960, 3) := by decide +kernel
theorem dX2_init_56 : decode cX2_init 56 = .ok (.newarray .int, 2) := by decide +kernel
theorem dX2_init_58 : decode cX2_init 58 = .ok (.putfield 30, 3) := by decide +kernel
theorem dX2_init_61 : decode cX2_init 61 = .ok (.aload_n 0, 1) := by decide +kernel
theorem dX2_init_62 : decode cX2_init 62 = .ok (.sipush 960, 3) := by decide +kernel
theorem dX2_init_65 : decode cX2_init 65 = .ok (.newarray .int, 2) := by decide +kernel
theorem dX2_init_67 : decode cX2_init 67 = .ok (.putfield 33, 3) := by decide +kernel
theorem dX2_init_70 : decode cX2_init 70 = .ok (.return_, 1) := by decide +kernel
theorem dX2_clear_0 : decode cX2_clear 0 = .ok (.aload_n 0, 1) := by decide +kernel
theorem dX2_clear_1 : decode cX2_clear 1 = .ok (.iconst 0, 1) := by decide +kernel
theorem dX2_clear_2 : decode cX2_clear 2 = .ok (.putfield 36, 3) := by decide +kernel
theorem dX2_clear_5 : decode cX2_clear 5 = .ok (.aload_n 0, 1) := by decide +kernel
theorem dX2_clear_6 : decode cX2_clear 6 = .ok (.iconst 0, 1) := by decide +kernel
theorem dX2_clear_7 : decode cX2_clear 7 = .ok (.putfield 40, 3) := by decide +kernel
theorem dX2_clear_10 : decode cX2_clear 10 = .ok (.return_, 1) := by decide +kernel
theorem dX2_exists_0 : decode cX2_exists 0 = .ok (.iload_n 1, 1) := by decide +kernel
theorem dX2_exists_1 : decode cX2_exists 1 = .ok (.ifCond .lt 21, 3) := by decide +kernel
theorem dX2_exists_4 : decode cX2_exists 4 = .ok (.iload_n 1, 1) := by decide +kernel
theorem dX2_exists_5 : decode cX2_exists 5 = .ok (.aload_n 0, 1) := by decide +kernel
theorem dX2_exists_6 : decode cX2_exists 6 = .ok (.getfield 36, 3) := by decide +kernel
theorem dX2_exists_9 : decode cX2_exists 9 = .ok (.if_icmp .ge 13, 3) := by decide +kernel
theorem dX2_exists_12 : decode cX2_exists 12 = .ok (.iload_n 1, 1) := by decide +kernel
theorem dX2_exists_13 : decode cX2_exists 13 = .ok (.bipush 40, 2) := by decide +kernel
theorem dX2_exists_15 : decode cX2_exists 15 = .ok (.if_icmp .ge 7, 3) := by decide +kernel
theorem dX2_exists_18 : decode cX2_exists 18 = .ok (.iconst 1, 1) := by decide +kernel
theorem dX2_exists_19 : decode cX2_exists 19 = .ok (.goto 4, 3) := by decide +kernel
theorem dX2_exists_22 : decode cX2_exists 22 = .ok (.iconst 0, 1) := by decide +kernel
theorem dX2_exists_23 : decode cX2_exists 23 = .ok (.ireturn, 1) := by decide +kernel
theorem dX2_isOf_0 : decode cX2_isOf 0 = .ok (.aload_n 0, 1) := by decide +kernel
theorem dX2_isOf_1 : decode cX2_isOf 1 = .ok (.iload_n 1, 1) := by decide +kernel
theorem dX2_isOf_2 : decode cX2_isOf 2 = .ok (.invokevirtual 43, 3) := by decide +kernel
theorem dX2_isOf_5 : decode cX2_isOf 5 = .ok (.ifCond .eq 17, 3) := by decide +kernel
theorem dX2_isOf_8 : decode cX2_isOf 8 = .ok (.aload_n 0, 1) := by decide +kernel
theorem dX2_isOf_9 : decode cX2_isOf 9 = .ok (.getfield 15, 3) := by decide +kernel
theorem dX2_isOf_12 : decode cX2_isOf 12 = .ok (.iload_n 1, 1) := by decide +kernel
theorem dX2_isOf_13 : decode cX2_isOf 13 = .ok (.iaload, 1) := by decide +kernel
theorem dX2_isOf_14 : decode cX2_isOf 14 = .ok (.iload_n 2, 1) := by decide +kernel
theorem dX2_isOf_15 : decode cX2_isOf 15 = .ok (.if_icmp .ne 7, 3) := by decide +kernel
theorem dX2_isOf_18 : decode cX2_isOf 18 = .ok (.iconst 1, 1) := by decide +kernel
theorem dX2_isOf_19 : decode cX2_isOf 19 = .ok (.goto 4, 3) := by decide +kernel
theorem dX2_isOf_22 : decode cX2_isOf 22 = .ok (.iconst 0, 1) := by decide +kernel
theorem dX2_isOf_23 : decode cX2_isOf 23 = .ok (.ireturn, 1) := by decide +kernel
theorem dX2_wantedDay_0 : decode cX2_wantedDay 0 = .ok (.aload_n 0, 1) := by decide +kernel
theorem dX2_wantedDay_1 : decode cX2_wantedDay 1 = .ok (.iload_n 1, 1) := by decide +kernel
theorem dX2_wantedDay_2 : decode cX2_wantedDay 2 = .ok (.invokevirtual 43, 3) := by decide +kernel
theorem dX2_wantedDay_5 : decode cX2_wantedDay 5 = .ok (.ifCond .eq 19, 3) := by decide +kernel
theorem dX2_wantedDay_8 : decode cX2_wantedDay 8 = .ok (.aload_n 0, 1) := by decide +kernel
theorem dX2_wantedDay_9 : decode cX2_wantedDay 9 = .ok (.getfield 21, 3) := by decide +kernel
theorem dX2_wantedDay_12 : decode cX2_wantedDay 12 = .ok (.iload_n 1, 1) := by decide +kernel
theorem dX2_wantedDay_13 : decode cX2_wantedDay 13 = .ok (.iaload, 1) := by decide +kernel
theorem dX2_wantedDay_14 : decode cX2_wantedDay 14 = .ok (.aload_n 0, 1) := by decide +kernel
theorem dX2_wantedDay_15 : decode cX2_wantedDay 15 = .ok (.getfield 24, 3) := by decide +kernel
theorem dX2_wantedDay_18 : decode cX2_wantedDay 18 = .ok (.iload_n 1, 1) := by decide +kernel
theorem dX2_wantedDay_19 : decode cX2_wantedDay 19 = .ok (.iaload, 1) := by decide +kernel
theorem dX2_wantedDay_20 : decode cX2_wantedDay 20 = .ok (.iadd, 1) := by decide +kernel
theorem dX2_wantedDay_21 : decode cX2_wantedDay 21 = .ok (.goto 4, 3) := by decide +kernel
theorem dX2_wantedDay_24 : decode cX2_wantedDay 24 = .ok (.iconst (-1), 1) := by decide +kernel
theorem dX2_wantedDay_25 : decode cX2_wantedDay 25 = .ok (.ireturn, 1) := by decide +kernel
theorem dX2_dueOf_0 : decode cX2_dueOf 0 = .ok (.aload_n 0, 1) := by decide +kernel
theorem dX2_dueOf_1 : decode cX2_dueOf 1 = .ok (.iload_n 1, 1) := by decide +kernel
theorem dX2_dueOf_2 : decode cX2_dueOf 2 = .ok (.invokevirtual 43, 3) := by decide +kernel
theorem dX2_dueOf_5 : decode cX2_dueOf 5 = .ok (.ifCond .eq 12, 3) := by decide +kernel
theorem dX2_dueOf_8 : decode cX2_dueOf 8 = .ok (.aload_n 0, 1) := by decide +kernel
theorem dX2_dueOf_9 : decode cX2_dueOf 9 = .ok (.getfield 21, 3) := by decide +kernel
theorem dX2_dueOf_12 : decode cX2_dueOf 12 = .ok (.iload_n 1, 1) := by decide +kernel
theorem dX2_dueOf_13 : decode cX2_dueOf 13 = .ok (.iaload, 1) := by decide +kernel
theorem dX2_dueOf_14 : decode cX2_dueOf 14 = .ok (.goto 4, 3) := by decide +kernel
theorem dX2_dueOf_17 : decode cX2_dueOf 17 = .ok (.iconst (-1), 1) := by decide +kernel
theorem dX2_dueOf_18 : decode cX2_dueOf 18 = .ok (.ireturn, 1) := by decide +kernel
theorem dX2_isCell_0 : decode cX2_isCell 0 = .ok (.aload_n 0, 1) := by decide +kernel
theorem dX2_isCell_1 : decode cX2_isCell 1 = .ok (.iload_n 1, 1) := by decide +kernel
theorem dX2_isCell_2 : decode cX2_isCell 2 = .ok (.invokevirtual 43, 3) := by decide +kernel
theorem dX2_isCell_5 : decode cX2_isCell 5 = .ok (.ifCond .eq 17, 3) := by decide +kernel
theorem dX2_isCell_8 : decode cX2_isCell 8 = .ok (.iload_n 2, 1) := by decide +kernel
theorem dX2_isCell_9 : decode cX2_isCell 9 = .ok (.ifCond .lt 13, 3) := by decide +kernel
theorem dX2_isCell_12 : decode cX2_isCell 12 = .ok (.iload_n 2, 1) := by decide +kernel
theorem dX2_isCell_13 : decode cX2_isCell 13 = .ok (.bipush 24, 2) := by decide +kernel
theorem dX2_isCell_15 : decode cX2_isCell 15 = .ok (.if_icmp .ge 7, 3) := by decide +kernel
theorem dX2_isCell_18 : decode cX2_isCell 18 = .ok (.iconst 1, 1) := by decide +kernel
theorem dX2_isCell_19 : decode cX2_isCell 19 = .ok (.goto 4, 3) := by decide +kernel
theorem dX2_isCell_22 : decode cX2_isCell 22 = .ok (.iconst 0, 1) := by decide +kernel
theorem dX2_isCell_23 : decode cX2_isCell 23 = .ok (.ireturn, 1) := by decide +kernel
theorem dX2_add_0 : decode cX2_add 0 = .ok (.aload_n 0, 1) := by decide +kernel
theorem dX2_add_1 : decode cX2_add 1 = .ok (.getfield 36, 3) := by decide +kernel
theorem dX2_add_4 : decode cX2_add 4 = .ok (.bipush 40, 2) := by decide +kernel
theorem dX2_add_6 : decode cX2_add 6 = .ok (.if_icmp .lt 5, 3) := by decide +kernel
theorem dX2_add_9 : decode cX2_add 9 = .ok (.iconst (-1), 1) := by decide +kernel
theorem dX2_add_10 : decode cX2_add 10 = .ok (.ireturn, 1) := by decide +kernel
theorem dX2_add_11 : decode cX2_add 11 = .ok (.aload_n 0, 1) := by decide +kernel
theorem dX2_add_12 : decode cX2_add 12 = .ok (.getfield 36, 3) := by decide +kernel
theorem dX2_add_15 : decode cX2_add 15 = .ok (.istore 6, 2) := by decide +kernel
theorem dX2_add_17 : decode cX2_add 17 = .ok (.iload 6, 2) := by decide +kernel
theorem dX2_add_19 : decode cX2_add 19 = .ok (.ifCond .le 43, 3) := by decide +kernel
theorem dX2_add_22 : decode cX2_add 22 = .ok (.aload_n 0, 1) := by decide +kernel
theorem dX2_add_23 : decode cX2_add 23 = .ok (.aload_n 0, 1) := by decide +kernel
theorem dX2_add_24 : decode cX2_add 24 = .ok (.getfield 27, 3) := by decide +kernel
theorem dX2_add_27 : decode cX2_add 27 = .ok (.iload 6, 2) := by decide +kernel
theorem dX2_add_29 : decode cX2_add 29 = .ok (.iconst 1, 1) := by decide +kernel
theorem dX2_add_30 : decode cX2_add 30 = .ok (.isub, 1) := by decide +kernel
theorem dX2_add_31 : decode cX2_add 31 = .ok (.iaload, 1) := by decide +kernel
theorem dX2_add_32 : decode cX2_add 32 = .ok (.invokevirtual 47, 3) := by decide +kernel
theorem dX2_add_35 : decode cX2_add 35 = .ok (.iload 4, 2) := by decide +kernel
theorem dX2_add_37 : decode cX2_add 37 = .ok (.if_icmp .le 25, 3) := by decide +kernel
theorem dX2_add_40 : decode cX2_add 40 = .ok (.aload_n 0, 1) := by decide +kernel
theorem dX2_add_41 : decode cX2_add 41 = .ok (.getfield 27, 3) := by decide +kernel
theorem dX2_add_44 : decode cX2_add 44 = .ok (.iload 6, 2) := by decide +kernel
theorem dX2_add_46 : decode cX2_add 46 = .ok (.aload_n 0, 1) := by decide +kernel
theorem dX2_add_47 : decode cX2_add 47 = .ok (.getfield 27, 3) := by decide +kernel
theorem dX2_add_50 : decode cX2_add 50 = .ok (.iload 6, 2) := by decide +kernel
theorem dX2_add_52 : decode cX2_add 52 = .ok (.iconst 1, 1) := by decide +kernel
theorem dX2_add_53 : decode cX2_add 53 = .ok (.isub, 1) := by decide +kernel
theorem dX2_add_54 : decode cX2_add 54 = .ok (.iaload, 1) := by decide +kernel
theorem dX2_add_55 : decode cX2_add 55 = .ok (.iastore, 1) := by decide +kernel
theorem dX2_add_56 : decode cX2_add 56 = .ok (.iinc 6 (-1), 3) := by decide +kernel
theorem dX2_add_59 : decode cX2_add 59 = .ok (.goto (-42), 3) := by decide +kernel
theorem dX2_add_62 : decode cX2_add 62 = .ok (.aload_n 0, 1) := by decide +kernel
theorem dX2_add_63 : decode cX2_add 63 = .ok (.getfield 27, 3) := by decide +kernel
theorem dX2_add_66 : decode cX2_add 66 = .ok (.iload 6, 2) := by decide +kernel
theorem dX2_add_68 : decode cX2_add 68 = .ok (.aload_n 0, 1) := by decide +kernel
theorem dX2_add_69 : decode cX2_add 69 = .ok (.getfield 36, 3) := by decide +kernel
theorem dX2_add_72 : decode cX2_add 72 = .ok (.iastore, 1) := by decide +kernel
theorem dX2_add_73 : decode cX2_add 73 = .ok (.aload_n 0, 1) := by decide +kernel
theorem dX2_add_74 : decode cX2_add 74 = .ok (.getfield 9, 3) := by decide +kernel
theorem dX2_add_77 : decode cX2_add 77 = .ok (.aload_n 0, 1) := by decide +kernel
theorem dX2_add_78 : decode cX2_add 78 = .ok (.getfield 36, 3) := by decide +kernel
theorem dX2_add_81 : decode cX2_add 81 = .ok (.iload_n 1, 1) := by decide +kernel
theorem dX2_add_82 : decode cX2_add 82 = .ok (.iastore, 1) := by decide +kernel
theorem dX2_add_83 : decode cX2_add 83 = .ok (.aload_n 0, 1) := by decide +kernel
theorem dX2_add_84 : decode cX2_add 84 = .ok (.getfield 15, 3) := by decide +kernel
theorem dX2_add_87 : decode cX2_add 87 = .ok (.aload_n 0, 1) := by decide +kernel
theorem dX2_add_88 : decode cX2_add 88 = .ok (.getfield 36, 3) := by decide +kernel
theorem dX2_add_91 : decode cX2_add 91 = .ok (.iload_n 2, 1) := by decide +kernel
theorem dX2_add_92 : decode cX2_add 92 = .ok (.iastore, 1) := by decide +kernel
theorem dX2_add_93 : decode cX2_add 93 = .ok (.aload_n 0, 1) := by decide +kernel
theorem dX2_add_94 : decode cX2_add 94 = .ok (.getfield 18, 3) := by decide +kernel
theorem dX2_add_97 : decode cX2_add 97 = .ok (.aload_n 0, 1) := by decide +kernel
theorem dX2_add_98 : decode cX2_add 98 = .ok (.getfield 36, 3) := by decide +kernel
theorem dX2_add_101 : decode cX2_add 101 = .ok (.iload_n 3, 1) := by decide +kernel
theorem dX2_add_102 : decode cX2_add 102 = .ok (.iastore, 1) := by decide +kernel
theorem dX2_add_103 : decode cX2_add 103 = .ok (.aload_n 0, 1) := by decide +kernel
theorem dX2_add_104 : decode cX2_add 104 = .ok (.getfield 21, 3) := by decide +kernel
theorem dX2_add_107 : decode cX2_add 107 = .ok (.aload_n 0, 1) := by decide +kernel
theorem dX2_add_108 : decode cX2_add 108 = .ok (.getfield 36, 3) := by decide +kernel
theorem dX2_add_111 : decode cX2_add 111 = .ok (.iload 4, 2) := by decide +kernel
theorem dX2_add_113 : decode cX2_add 113 = .ok (.iastore, 1) := by decide +kernel
theorem dX2_add_114 : decode cX2_add 114 = .ok (.aload_n 0, 1) := by decide +kernel
theorem dX2_add_115 : decode cX2_add 115 = .ok (.getfield 24, 3) := by decide +kernel
theorem dX2_add_118 : decode cX2_add 118 = .ok (.aload_n 0, 1) := by decide +kernel
theorem dX2_add_119 : decode cX2_add 119 = .ok (.getfield 36, 3) := by decide +kernel
theorem dX2_add_122 : decode cX2_add 122 = .ok (.iload 5, 2) := by decide +kernel
theorem dX2_add_124 : decode cX2_add 124 = .ok (.iastore, 1) := by decide +kernel
theorem dX2_add_125 : decode cX2_add 125 = .ok (.iconst 0, 1) := by decide +kernel
theorem dX2_add_126 : decode cX2_add 126 = .ok (.istore 7, 2) := by decide +kernel
theorem dX2_add_128 : decode cX2_add 128 = .ok (.iload 7, 2) := by decide +kernel
theorem dX2_add_130 : decode cX2_add 130 = .ok (.bipush 24, 2) := by decide +kernel
theorem dX2_add_132 : decode cX2_add 132 = .ok (.if_icmp .ge 41, 3) := by decide +kernel
theorem dX2_add_135 : decode cX2_add 135 = .ok (.aload_n 0, 1) := by decide +kernel
theorem dX2_add_136 : decode cX2_add 136 = .ok (.getfield 30, 3) := by decide +kernel
theorem dX2_add_139 : decode cX2_add 139 = .ok (.aload_n 0, 1) := by decide +kernel
theorem dX2_add_140 : decode cX2_add 140 = .ok (.getfield 36, 3) := by decide +kernel
theorem dX2_add_143 : decode cX2_add 143 = .ok (.bipush 24, 2) := by decide +kernel
theorem dX2_add_145 : decode cX2_add 145 = .ok (.imul, 1) := by decide +kernel
theorem dX2_add_146 : decode cX2_add 146 = .ok (.iload 7, 2) := by decide +kernel
theorem dX2_add_148 : decode cX2_add 148 = .ok (.iadd, 1) := by decide +kernel
theorem dX2_add_149 : decode cX2_add 149 = .ok (.iconst 0, 1) := by decide +kernel
theorem dX2_add_150 : decode cX2_add 150 = .ok (.iastore, 1) := by decide +kernel
theorem dX2_add_151 : decode cX2_add 151 = .ok (.aload_n 0, 1) := by decide +kernel
theorem dX2_add_152 : decode cX2_add 152 = .ok (.getfield 33, 3) := by decide +kernel
theorem dX2_add_155 : decode cX2_add 155 = .ok (.aload_n 0, 1) := by decide +kernel
theorem dX2_add_156 : decode cX2_add 156 = .ok (.getfield 36, 3) := by decide +kernel
theorem dX2_add_159 : decode cX2_add 159 = .ok (.bipush 24, 2) := by decide +kernel
theorem dX2_add_161 : decode cX2_add 161 = .ok (.imul, 1) := by decide +kernel
theorem dX2_add_162 : decode cX2_add 162 = .ok (.iload 7, 2) := by decide +kernel
theorem dX2_add_164 : decode cX2_add 164 = .ok (.iadd, 1) := by decide +kernel
theorem dX2_add_165 : decode cX2_add 165 = .ok (.iconst 0, 1) := by decide +kernel
theorem dX2_add_166 : decode cX2_add 166 = .ok (.iastore, 1) := by decide +kernel
theorem dX2_add_167 : decode cX2_add 167 = .ok (.iinc 7 1, 3) := by decide +kernel
theorem dX2_add_170 : decode cX2_add 170 = .ok (.goto (-42), 3) := by decide +kernel
theorem dX2_add_173 : decode cX2_add 173 = .ok (.aload_n 0, 1) := by decide +kernel
theorem dX2_add_174 : decode cX2_add 174 = .ok (.dup, 1) := by decide +kernel
theorem dX2_add_175 : decode cX2_add 175 = .ok (.getfield 36, 3) := by decide +kernel
theorem dX2_add_178 : decode cX2_add 178 = .ok (.iconst 1, 1) := by decide +kernel
theorem dX2_add_179 : decode cX2_add 179 = .ok (.iadd, 1) := by decide +kernel
theorem dX2_add_180 : decode cX2_add 180 = .ok (.putfield 36, 3) := by decide +kernel
theorem dX2_add_183 : decode cX2_add 183 = .ok (.aload_n 0, 1) := by decide +kernel
theorem dX2_add_184 : decode cX2_add 184 = .ok (.getfield 36, 3) := by decide +kernel
theorem dX2_add_187 : decode cX2_add 187 = .ok (.iconst 1, 1) := by decide +kernel
theorem dX2_add_188 : decode cX2_add 188 = .ok (.isub, 1) := by decide +kernel
theorem dX2_add_189 : decode cX2_add 189 = .ok (.ireturn, 1) := by decide +kernel
theorem dX2_piecesOf_0 : decode cX2_piecesOf 0 = .ok (.aload_n 0, 1) := by decide +kernel
theorem dX2_piecesOf_1 : decode cX2_piecesOf 1 = .ok (.iload_n 1, 1) := by decide +kernel
theorem dX2_piecesOf_2 : decode cX2_piecesOf 2 = .ok (.iload_n 2, 1) := by decide +kernel
theorem dX2_piecesOf_3 : decode cX2_piecesOf 3 = .ok (.invokevirtual 51, 3) := by decide +kernel
theorem dX2_piecesOf_6 : decode cX2_piecesOf 6 = .ok (.ifCond .eq 17, 3) := by decide +kernel
theorem dX2_piecesOf_9 : decode cX2_piecesOf 9 = .ok (.aload_n 0, 1) := by decide +kernel
theorem dX2_piecesOf_10 : decode cX2_piecesOf 10 = .ok (.getfield 30, 3) := by decide +kernel
theorem dX2_piecesOf_13 : decode cX2_piecesOf 13 = .ok (.iload_n 1, 1) := by decide +kernel
theorem dX2_piecesOf_14 : decode cX2_piecesOf 14 = .ok (.bipush 24, 2) := by decide +kernel
theorem dX2_piecesOf_16 : decode cX2_piecesOf 16 = .ok (.imul, 1) := by decide +kernel
theorem dX2_piecesOf_17 : decode cX2_piecesOf 17 = .ok (.iload_n 2, 1) := by decide +kernel
theorem dX2_piecesOf_18 : decode cX2_piecesOf 18 = .ok (.iadd, 1) := by decide +kernel
theorem dX2_piecesOf_19 : decode cX2_piecesOf 19 = .ok (.iaload, 1) := by decide +kernel
theorem dX2_piecesOf_20 : decode cX2_piecesOf 20 = .ok (.goto 4, 3) := by decide +kernel
theorem dX2_piecesOf_23 : decode cX2_piecesOf 23 = .ok (.iconst 0, 1) := by decide +kernel
theorem dX2_piecesOf_24 : decode cX2_piecesOf 24 = .ok (.ireturn, 1) := by decide +kernel
theorem dX2_stampOf_0 : decode cX2_stampOf 0 = .ok (.aload_n 0, 1) := by decide +kernel
theorem dX2_stampOf_1 : decode cX2_stampOf 1 = .ok (.iload_n 1, 1) := by decide +kernel
theorem dX2_stampOf_2 : decode cX2_stampOf 2 = .ok (.iload_n 2, 1) := by decide +kernel
theorem dX2_stampOf_3 : decode cX2_stampOf 3 = .ok (.invokevirtual 51, 3) := by decide +kernel
theorem dX2_stampOf_6 : decode cX2_stampOf 6 = .ok (.ifCond .eq 17, 3) := by decide +kernel
theorem dX2_stampOf_9 : decode cX2_stampOf 9 = .ok (.aload_n 0, 1) := by decide +kernel
theorem dX2_stampOf_10 : decode cX2_stampOf 10 = .ok (.getfield 33, 3) := by decide +kernel
theorem dX2_stampOf_13 : decode cX2_stampOf 13 = .ok (.iload_n 1, 1) := by decide +kernel
theorem dX2_stampOf_14 : decode cX2_stampOf 14 = .ok (.bipush 24, 2) := by decide +kernel
theorem dX2_stampOf_16 : decode cX2_stampOf 16 = .ok (.imul, 1) := by decide +kernel
theorem dX2_stampOf_17 : decode cX2_stampOf 17 = .ok (.iload_n 2, 1) := by decide +kernel
theorem dX2_stampOf_18 : decode cX2_stampOf 18 = .ok (.iadd, 1) := by decide +kernel
theorem dX2_stampOf_19 : decode cX2_stampOf 19 = .ok (.iaload, 1) := by decide +kernel
theorem dX2_stampOf_20 : decode cX2_stampOf 20 = .ok (.goto 4, 3) := by decide +kernel
theorem dX2_stampOf_23 : decode cX2_stampOf 23 = .ok (.iconst 0, 1) := by decide +kernel
theorem dX2_stampOf_24 : decode cX2_stampOf 24 = .ok (.ireturn, 1) := by decide +kernel
theorem dX2_piecesAt_0 : decode cX2_piecesAt 0 = .ok (.iconst 0, 1) := by decide +kernel
theorem dX2_piecesAt_1 : decode cX2_piecesAt 1 = .ok (.istore_n 2, 1) := by decide +kernel
theorem dX2_piecesAt_2 : decode cX2_piecesAt 2 = .ok (.iconst 0, 1) := by decide +kernel
theorem dX2_piecesAt_3 : decode cX2_piecesAt 3 = .ok (.istore_n 3, 1) := by decide +kernel
theorem dX2_piecesAt_4 : decode cX2_piecesAt 4 = .ok (.iload_n 3, 1) := by decide +kernel
theorem dX2_piecesAt_5 : decode cX2_piecesAt 5 = .ok (.bipush 24, 2) := by decide +kernel
theorem dX2_piecesAt_7 : decode cX2_piecesAt 7 = .ok (.if_icmp .ge 18, 3) := by decide +kernel
theorem dX2_piecesAt_10 : decode cX2_piecesAt 10 = .ok (.iload_n 2, 1) := by decide +kernel
theorem dX2_piecesAt_11 : decode cX2_piecesAt 11 = .ok (.aload_n 0, 1) := by decide +kernel
theorem dX2_piecesAt_12 : decode cX2_piecesAt 12 = .ok (.iload_n 1, 1) := by decide +kernel
theorem dX2_piecesAt_13 : decode cX2_piecesAt 13 = .ok (.iload_n 3, 1) := by decide +kernel
theorem dX2_piecesAt_14 : decode cX2_piecesAt 14 = .ok (.invokevirtual 55, 3) := by decide +kernel
theorem dX2_piecesAt_17 : decode cX2_piecesAt 17 = .ok (.iadd, 1) := by decide +kernel
theorem dX2_piecesAt_18 : decode cX2_piecesAt 18 = .ok (.istore_n 2, 1) := by decide +kernel
theorem dX2_piecesAt_19 : decode cX2_piecesAt 19 = .ok (.iinc 3 1, 3) := by decide +kernel
theorem dX2_piecesAt_22 : decode cX2_piecesAt 22 = .ok (.goto (-18), 3) := by decide +kernel
theorem dX2_piecesAt_25 : decode cX2_piecesAt 25 = .ok (.iload_n 2, 1) := by decide +kernel
theorem dX2_piecesAt_26 : decode cX2_piecesAt 26 = .ok (.ireturn, 1) := by decide +kernel
theorem dX2_piecesOutOf_0 : decode cX2_piecesOutOf 0 = .ok (.iconst 0, 1) := by decide +kernel
theorem dX2_piecesOutOf_1 : decode cX2_piecesOutOf 1 = .ok (.istore_n 2, 1) := by decide +kernel
theorem dX2_piecesOutOf_2 : decode cX2_piecesOutOf 2 = .ok (.iconst 0, 1) := by decide +kernel
theorem dX2_piecesOutOf_3 : decode cX2_piecesOutOf 3 = .ok (.istore_n 3, 1) := by decide +kernel
theorem dX2_piecesOutOf_4 : decode cX2_piecesOutOf 4 = .ok (.iload_n 3, 1) := by decide +kernel
theorem dX2_piecesOutOf_5 : decode cX2_piecesOutOf 5 = .ok (.aload_n 0, 1) := by decide +kernel
theorem dX2_piecesOutOf_6 : decode cX2_piecesOutOf 6 = .ok (.getfield 36, 3) := by decide +kernel
theorem dX2_piecesOutOf_9 : decode cX2_piecesOutOf 9 = .ok (.if_icmp .ge 18, 3) := by decide +kernel
theorem dX2_piecesOutOf_12 : decode cX2_piecesOutOf 12 = .ok (.iload_n 2, 1) := by decide +kernel
theorem dX2_piecesOutOf_13 : decode cX2_piecesOutOf 13 = .ok (.aload_n 0, 1) := by decide +kernel
theorem dX2_piecesOutOf_14 : decode cX2_piecesOutOf 14 = .ok (.iload_n 3, 1) := by decide +kernel
theorem dX2_piecesOutOf_15 : decode cX2_piecesOutOf 15 = .ok (.iload_n 1, 1) := by decide +kernel
theorem dX2_piecesOutOf_16 : decode cX2_piecesOutOf 16 = .ok (.invokevirtual 55, 3) := by decide +kernel
theorem dX2_piecesOutOf_19 : decode cX2_piecesOutOf 19 = .ok (.iadd, 1) := by decide +kernel
theorem dX2_piecesOutOf_20 : decode cX2_piecesOutOf 20 = .ok (.istore_n 2, 1) := by decide +kernel
theorem dX2_piecesOutOf_21 : decode cX2_piecesOutOf 21 = .ok (.iinc 3 1, 3) := by decide +kernel
theorem dX2_piecesOutOf_24 : decode cX2_piecesOutOf 24 = .ok (.goto (-20), 3) := by decide +kernel
theorem dX2_piecesOutOf_27 : decode cX2_piecesOutOf 27 = .ok (.iload_n 2, 1) := by decide +kernel
theorem dX2_piecesOutOf_28 : decode cX2_piecesOutOf 28 = .ok (.ireturn, 1) := by decide +kernel
theorem dX2_openFrom_0 : decode cX2_openFrom 0 = .ok (.iconst 0, 1) := by decide +kernel
theorem dX2_openFrom_1 : decode cX2_openFrom 1 = .ok (.istore_n 3, 1) := by decide +kernel
theorem dX2_openFrom_2 : decode cX2_openFrom 2 = .ok (.iconst 0, 1) := by decide +kernel
theorem dX2_openFrom_3 : decode cX2_openFrom 3 = .ok (.istore 4, 2) := by decide +kernel
theorem dX2_openFrom_5 : decode cX2_openFrom 5 = .ok (.iload 4, 2) := by decide +kernel
theorem dX2_openFrom_7 : decode cX2_openFrom 7 = .ok (.aload_n 0, 1) := by decide +kernel
theorem dX2_openFrom_8 : decode cX2_openFrom 8 = .ok (.getfield 36, 3) := by decide +kernel
theorem dX2_openFrom_11 : decode cX2_openFrom 11 = .ok (.if_icmp .ge 40, 3) := by decide +kernel
theorem dX2_openFrom_14 : decode cX2_openFrom 14 = .ok (.aload_n 0, 1) := by decide +kernel
theorem dX2_openFrom_15 : decode cX2_openFrom 15 = .ok (.getfield 15, 3) := by decide +kernel
theorem dX2_openFrom_18 : decode cX2_openFrom 18 = .ok (.iload 4, 2) := by decide +kernel
theorem dX2_openFrom_20 : decode cX2_openFrom 20 = .ok (.iaload, 1) := by decide +kernel
theorem dX2_openFrom_21 : decode cX2_openFrom 21 = .ok (.iload_n 1, 1) := by decide +kernel
theorem dX2_openFrom_22 : decode cX2_openFrom 22 = .ok (.if_icmp .ne 23, 3) := by decide +kernel
theorem dX2_openFrom_25 : decode cX2_openFrom 25 = .ok (.aload_n 0, 1) := by decide +kernel
theorem dX2_openFrom_26 : decode cX2_openFrom 26 = .ok (.iload 4, 2) := by decide +kernel
theorem dX2_openFrom_28 : decode cX2_openFrom 28 = .ok (.invokevirtual 59, 3) := by decide +kernel
theorem dX2_openFrom_31 : decode cX2_openFrom 31 = .ok (.iload_n 2, 1) := by decide +kernel
theorem dX2_openFrom_32 : decode cX2_openFrom 32 = .ok (.if_icmp .lt 13, 3) := by decide +kernel
theorem dX2_openFrom_35 : decode cX2_openFrom 35 = .ok (.iload_n 3, 1) := by decide +kernel
theorem dX2_openFrom_36 : decode cX2_openFrom 36 = .ok (.aload_n 0, 1) := by decide +kernel
theorem dX2_openFrom_37 : decode cX2_openFrom 37 = .ok (.getfield 18, 3) := by decide +kernel
theorem dX2_openFrom_40 : decode cX2_openFrom 40 = .ok (.iload 4, 2) := by decide +kernel
theorem dX2_openFrom_42 : decode cX2_openFrom 42 = .ok (.iaload, 1) := by decide +kernel
theorem dX2_openFrom_43 : decode cX2_openFrom 43 = .ok (.iadd, 1) := by decide +kernel
theorem dX2_openFrom_44 : decode cX2_openFrom 44 = .ok (.istore_n 3, 1) := by decide +kernel
theorem dX2_openFrom_45 : decode cX2_openFrom 45 = .ok (.iinc 4 1, 3) := by decide +kernel
theorem dX2_openFrom_48 : decode cX2_openFrom 48 = .ok (.goto (-43), 3) := by decide +kernel
theorem dX2_openFrom_51 : decode cX2_openFrom 51 = .ok (.iload_n 3, 1) := by decide +kernel
theorem dX2_openFrom_52 : decode cX2_openFrom 52 = .ok (.ireturn, 1) := by decide +kernel
theorem dX2_give_0 : decode cX2_give 0 = .ok (.aload_n 0, 1) := by decide +kernel
theorem dX2_give_1 : decode cX2_give 1 = .ok (.iload_n 1, 1) := by decide +kernel
theorem dX2_give_2 : decode cX2_give 2 = .ok (.iload_n 2, 1) := by decide +kernel
theorem dX2_give_3 : decode cX2_give 3 = .ok (.invokevirtual 51, 3) := by decide +kernel
theorem dX2_give_6 : decode cX2_give 6 = .ok (.ifCond .eq 53, 3) := by decide +kernel
theorem dX2_give_9 : decode cX2_give 9 = .ok (.aload_n 0, 1) := by decide +kernel
theorem dX2_give_10 : decode cX2_give 10 = .ok (.getfield 18, 3) := by decide +kernel
theorem dX2_give_13 : decode cX2_give 13 = .ok (.iload_n 1, 1) := by decide +kernel
theorem dX2_give_14 : decode cX2_give 14 = .ok (.dup2, 1) := by decide +kernel
theorem dX2_give_15 : decode cX2_give 15 = .ok (.iaload, 1) := by decide +kernel
theorem dX2_give_16 : decode cX2_give 16 = .ok (.iload_n 3, 1) := by decide +kernel
theorem dX2_give_17 : decode cX2_give 17 = .ok (.isub, 1) := by decide +kernel
theorem dX2_give_18 : decode cX2_give 18 = .ok (.iastore, 1) := by decide +kernel
theorem dX2_give_19 : decode cX2_give 19 = .ok (.aload_n 0, 1) := by decide +kernel
theorem dX2_give_20 : decode cX2_give 20 = .ok (.getfield 30, 3) := by decide +kernel
theorem dX2_give_23 : decode cX2_give 23 = .ok (.iload_n 1, 1) := by decide +kernel
theorem dX2_give_24 : decode cX2_give 24 = .ok (.bipush 24, 2) := by decide +kernel
theorem dX2_give_26 : decode cX2_give 26 = .ok (.imul, 1) := by decide +kernel
theorem dX2_give_27 : decode cX2_give 27 = .ok (.iload_n 2, 1) := by decide +kernel
theorem dX2_give_28 : decode cX2_give 28 = .ok (.iadd, 1) := by decide +kernel
theorem dX2_give_29 : decode cX2_give 29 = .ok (.dup2, 1) := by decide +kernel
theorem dX2_give_30 : decode cX2_give 30 = .ok (.iaload, 1) := by decide +kernel
theorem dX2_give_31 : decode cX2_give 31 = .ok (.iload_n 3, 1) := by decide +kernel
theorem dX2_give_32 : decode cX2_give 32 = .ok (.iadd, 1) := by decide +kernel
theorem dX2_give_33 : decode cX2_give 33 = .ok (.iastore, 1) := by decide +kernel
theorem dX2_give_34 : decode cX2_give 34 = .ok (.aload_n 0, 1) := by decide +kernel
theorem dX2_give_35 : decode cX2_give 35 = .ok (.dup, 1) := by decide +kernel
theorem dX2_give_36 : decode cX2_give 36 = .ok (.getfield 40, 3) := by decide +kernel
theorem dX2_give_39 : decode cX2_give 39 = .ok (.iconst 1, 1) := by decide +kernel
theorem dX2_give_40 : decode cX2_give 40 = .ok (.iadd, 1) := by decide +kernel
theorem dX2_give_41 : decode cX2_give 41 = .ok (.putfield 40, 3) := by decide +kernel
theorem dX2_give_44 : decode cX2_give 44 = .ok (.aload_n 0, 1) := by decide +kernel
theorem dX2_give_45 : decode cX2_give 45 = .ok (.getfield 33, 3) := by decide +kernel
theorem dX2_give_48 : decode cX2_give 48 = .ok (.iload_n 1, 1) := by decide +kernel
theorem dX2_give_49 : decode cX2_give 49 = .ok (.bipush 24, 2) := by decide +kernel
theorem dX2_give_51 : decode cX2_give 51 = .ok (.imul, 1) := by decide +kernel
theorem dX2_give_52 : decode cX2_give 52 = .ok (.iload_n 2, 1) := by decide +kernel
theorem dX2_give_53 : decode cX2_give 53 = .ok (.iadd, 1) := by decide +kernel
theorem dX2_give_54 : decode cX2_give 54 = .ok (.aload_n 0, 1) := by decide +kernel
theorem dX2_give_55 : decode cX2_give 55 = .ok (.getfield 40, 3) := by decide +kernel
theorem dX2_give_58 : decode cX2_give 58 = .ok (.iastore, 1) := by decide +kernel
theorem dX2_give_59 : decode cX2_give 59 = .ok (.return_, 1) := by decide +kernel
theorem dX2_takeBack_0 : decode cX2_takeBack 0 = .ok (.aload_n 0, 1) := by decide +kernel
theorem dX2_takeBack_1 : decode cX2_takeBack 1 = .ok (.iload_n 1, 1) := by decide +kernel
theorem dX2_takeBack_2 : decode cX2_takeBack 2 = .ok (.iload_n 2, 1) := by decide +kernel
theorem dX2_takeBack_3 : decode cX2_takeBack 3 = .ok (.invokevirtual 51, 3) := by decide +kernel
theorem dX2_takeBack_6 : decode cX2_takeBack 6 = .ok (.ifCond .eq 18, 3) := by decide +kernel
theorem dX2_takeBack_9 : decode cX2_takeBack 9 = .ok (.aload_n 0, 1) := by decide +kernel
theorem dX2_takeBack_10 : decode cX2_takeBack 10 = .ok (.getfield 30, 3) := by decide +kernel
theorem dX2_takeBack_13 : decode cX2_takeBack 13 = .ok (.iload_n 1, 1) := by decide +kernel
theorem dX2_takeBack_14 : decode cX2_takeBack 14 = .ok (.bipush 24, 2) := by decide +kernel
theorem dX2_takeBack_16 : decode cX2_takeBack 16 = .ok (.imul, 1) := by decide +kernel
theorem dX2_takeBack_17 : decode cX2_takeBack 17 = .ok (.iload_n 2, 1) := by decide +kernel
theorem dX2_takeBack_18 : decode cX2_takeBack 18 = .ok (.iadd, 1) := by decide +kernel
theorem dX2_takeBack_19 : decode cX2_takeBack 19 = .ok (.dup2, 1) := by decide +kernel
theorem dX2_takeBack_20 : decode cX2_takeBack 20 = .ok (.iaload, 1) := by decide +kernel
theorem dX2_takeBack_21 : decode cX2_takeBack 21 = .ok (.iload_n 3, 1) := by decide +kernel
theorem dX2_takeBack_22 : decode cX2_takeBack 22 = .ok (.isub, 1) := by decide +kernel
theorem dX2_takeBack_23 : decode cX2_takeBack 23 = .ok (.iastore, 1) := by decide +kernel
theorem dX2_takeBack_24 : decode cX2_takeBack 24 = .ok (.return_, 1) := by decide +kernel
theorem dX2_latestLot_0 : decode cX2_latestLot 0 = .ok (.iconst (-1), 1) := by decide +kernel
theorem dX2_latestLot_1 : decode cX2_latestLot 1 = .ok (.istore_n 3, 1) := by decide +kernel
theorem dX2_latestLot_2 : decode cX2_latestLot 2 = .ok (.iconst 0, 1) := by decide +kernel
theorem dX2_latestLot_3 : decode cX2_latestLot 3 = .ok (.istore 4, 2) := by decide +kernel
theorem dX2_latestLot_5 : decode cX2_latestLot 5 = .ok (.iload 4, 2) := by decide +kernel
theorem dX2_latestLot_7 : decode cX2_latestLot 7 = .ok (.bipush 24, 2) := by decide +kernel
theorem dX2_latestLot_9 : decode cX2_latestLot 9 = .ok (.if_icmp .ge 66, 3) := by decide +kernel
theorem dX2_latestLot_12 : decode cX2_latestLot 12 = .ok (.aload_n 0, 1) := by decide +kernel
theorem dX2_latestLot_13 : decode cX2_latestLot 13 = .ok (.iload_n 1, 1) := by decide +kernel
theorem dX2_latestLot_14 : decode cX2_latestLot 14 = .ok (.iload 4, 2) := by decide +kernel
theorem dX2_latestLot_16 : decode cX2_latestLot 16 = .ok (.invokevirtual 55, 3) := by decide +kernel
theorem dX2_latestLot_19 : decode cX2_latestLot 19 = .ok (.ifCond .le 18, 3) := by decide +kernel
theorem dX2_latestLot_22 : decode cX2_latestLot 22 = .ok (.aload_n 0, 1) := by decide +kernel
theorem dX2_latestLot_23 : decode cX2_latestLot 23 = .ok (.iload_n 1, 1) := by decide +kernel
theorem dX2_latestLot_24 : decode cX2_latestLot 24 = .ok (.iload 4, 2) := by decide +kernel
theorem dX2_latestLot_26 : decode cX2_latestLot 26 = .ok (.invokevirtual 62, 3) := by decide +kernel
theorem dX2_latestLot_29 : decode cX2_latestLot 29 = .ok (.iload_n 2, 1) := by decide +kernel
theorem dX2_latestLot_30 : decode cX2_latestLot 30 = .ok (.if_icmp .ge 7, 3) := by decide +kernel
theorem dX2_latestLot_33 : decode cX2_latestLot 33 = .ok (.iconst 1, 1) := by decide +kernel
theorem dX2_latestLot_34 : decode cX2_latestLot 34 = .ok (.goto 4, 3) := by decide +kernel
theorem dX2_latestLot_37 : decode cX2_latestLot 37 = .ok (.iconst 0, 1) := by decide +kernel
theorem dX2_latestLot_38 : decode cX2_latestLot 38 = .ok (.istore 5, 2) := by decide +kernel
theorem dX2_latestLot_40 : decode cX2_latestLot 40 = .ok (.iload 5, 2) := by decide +kernel
theorem dX2_latestLot_42 : decode cX2_latestLot 42 = .ok (.ifCond .eq 27, 3) := by decide +kernel
theorem dX2_latestLot_45 : decode cX2_latestLot 45 = .ok (.iload_n 3, 1) := by decide +kernel
theorem dX2_latestLot_46 : decode cX2_latestLot 46 = .ok (.iconst (-1), 1) := by decide +kernel
theorem dX2_latestLot_47 : decode cX2_latestLot 47 = .ok (.if_icmp .eq 19, 3) := by decide +kernel
theorem dX2_latestLot_50 : decode cX2_latestLot 50 = .ok (.aload_n 0, 1) := by decide +kernel
theorem dX2_latestLot_51 : decode cX2_latestLot 51 = .ok (.iload_n 1, 1) := by decide +kernel
theorem dX2_latestLot_52 : decode cX2_latestLot 52 = .ok (.iload 4, 2) := by decide +kernel
theorem dX2_latestLot_54 : decode cX2_latestLot 54 = .ok (.invokevirtual 62, 3) := by decide +kernel
theorem dX2_latestLot_57 : decode cX2_latestLot 57 = .ok (.aload_n 0, 1) := by decide +kernel
theorem dX2_latestLot_58 : decode cX2_latestLot 58 = .ok (.iload_n 1, 1) := by decide +kernel
theorem dX2_latestLot_59 : decode cX2_latestLot 59 = .ok (.iload_n 3, 1) := by decide +kernel
theorem dX2_latestLot_60 : decode cX2_latestLot 60 = .ok (.invokevirtual 62, 3) := by decide +kernel
theorem dX2_latestLot_63 : decode cX2_latestLot 63 = .ok (.if_icmp .le 6, 3) := by decide +kernel
theorem dX2_latestLot_66 : decode cX2_latestLot 66 = .ok (.iload 4, 2) := by decide +kernel
theorem dX2_latestLot_68 : decode cX2_latestLot 68 = .ok (.istore_n 3, 1) := by decide +kernel
theorem dX2_latestLot_69 : decode cX2_latestLot 69 = .ok (.iinc 4 1, 3) := by decide +kernel
theorem dX2_latestLot_72 : decode cX2_latestLot 72 = .ok (.goto (-67), 3) := by decide +kernel
theorem dX2_latestLot_75 : decode cX2_latestLot 75 = .ok (.iload_n 3, 1) := by decide +kernel
theorem dX2_latestLot_76 : decode cX2_latestLot 76 = .ok (.ireturn, 1) := by decide +kernel
theorem dX2_copyFrom_0 : decode cX2_copyFrom 0 = .ok (.aload_n 0, 1) := by decide +kernel
theorem dX2_copyFrom_1 : decode cX2_copyFrom 1 = .ok (.aload_n 1, 1) := by decide +kernel
theorem dX2_copyFrom_2 : decode cX2_copyFrom 2 = .ok (.getfield 36, 3) := by decide +kernel
theorem dX2_copyFrom_5 : decode cX2_copyFrom 5 = .ok (.putfield 36, 3) := by decide +kernel
theorem dX2_copyFrom_8 : decode cX2_copyFrom 8 = .ok (.aload_n 0, 1) := by decide +kernel
theorem dX2_copyFrom_9 : decode cX2_copyFrom 9 = .ok (.aload_n 1, 1) := by decide +kernel
theorem dX2_copyFrom_10 : decode cX2_copyFrom 10 = .ok (.getfield 40, 3) := by decide +kernel
theorem dX2_copyFrom_13 : decode cX2_copyFrom 13 = .ok (.putfield 40, 3) := by decide +kernel
theorem dX2_copyFrom_16 : decode cX2_copyFrom 16 = .ok (.aload_n 1, 1) := by decide +kernel
theorem dX2_copyFrom_17 : decode cX2_copyFrom 17 = .ok (.getfield 9, 3) := by decide +kernel
theorem dX2_copyFrom_20 : decode cX2_copyFrom 20 = .ok (.iconst 0, 1) := by decide +kernel
theorem dX2_copyFrom_21 : decode cX2_copyFrom 21 = .ok (.aload_n 0, 1) := by decide +kernel
theorem dX2_copyFrom_22 : decode cX2_copyFrom 22 = .ok (.getfield 9, 3) := by decide +kernel
theorem dX2_copyFrom_25 : decode cX2_copyFrom 25 = .ok (.iconst 0, 1) := by decide +kernel
theorem dX2_copyFrom_26 : decode cX2_copyFrom 26 = .ok (.aload_n 0, 1) := by decide +kernel
theorem dX2_copyFrom_27 : decode cX2_copyFrom 27 = .ok (.getfield 9, 3) := by decide +kernel
theorem dX2_copyFrom_30 : decode cX2_copyFrom 30 = .ok (.arraylength, 1) := by decide +kernel
theorem dX2_copyFrom_31 : decode cX2_copyFrom 31 = .ok (.invokestatic 65, 3) := by decide +kernel
theorem dX2_copyFrom_34 : decode cX2_copyFrom 34 = .ok (.aload_n 1, 1) := by decide +kernel
theorem dX2_copyFrom_35 : decode cX2_copyFrom 35 = .ok (.getfield 15, 3) := by decide +kernel
theorem dX2_copyFrom_38 : decode cX2_copyFrom 38 = .ok (.iconst 0, 1) := by decide +kernel
theorem dX2_copyFrom_39 : decode cX2_copyFrom 39 = .ok (.aload_n 0, 1) := by decide +kernel
theorem dX2_copyFrom_40 : decode cX2_copyFrom 40 = .ok (.getfield 15, 3) := by decide +kernel
theorem dX2_copyFrom_43 : decode cX2_copyFrom 43 = .ok (.iconst 0, 1) := by decide +kernel
theorem dX2_copyFrom_44 : decode cX2_copyFrom 44 = .ok (.aload_n 0, 1) := by decide +kernel
theorem dX2_copyFrom_45 : decode cX2_copyFrom 45 = .ok (.getfield 15, 3) := by decide +kernel
theorem dX2_copyFrom_48 : decode cX2_copyFrom 48 = .ok (.arraylength, 1) := by decide +kernel
theorem dX2_copyFrom_49 : decode cX2_copyFrom 49 = .ok (.invokestatic 65, 3) := by decide +kernel
theorem dX2_copyFrom_52 : decode cX2_copyFrom 52 = .ok (.aload_n 1, 1) := by decide +kernel
theorem dX2_copyFrom_53 : decode cX2_copyFrom 53 = .ok (.getfield 18, 3) := by decide +kernel
theorem dX2_copyFrom_56 : decode cX2_copyFrom 56 = .ok (.iconst 0, 1) := by decide +kernel
theorem dX2_copyFrom_57 : decode cX2_copyFrom 57 = .ok (.aload_n 0, 1) := by decide +kernel
theorem dX2_copyFrom_58 : decode cX2_copyFrom 58 = .ok (.getfield 18, 3) := by decide +kernel
theorem dX2_copyFrom_61 : decode cX2_copyFrom 61 = .ok (.iconst 0, 1) := by decide +kernel
theorem dX2_copyFrom_62 : decode cX2_copyFrom 62 = .ok (.aload_n 0, 1) := by decide +kernel
theorem dX2_copyFrom_63 : decode cX2_copyFrom 63 = .ok (.getfield 18, 3) := by decide +kernel
theorem dX2_copyFrom_66 : decode cX2_copyFrom 66 = .ok (.arraylength, 1) := by decide +kernel
theorem dX2_copyFrom_67 : decode cX2_copyFrom 67 = .ok (.invokestatic 65, 3) := by decide +kernel
theorem dX2_copyFrom_70 : decode cX2_copyFrom 70 = .ok (.aload_n 1, 1) := by decide +kernel
theorem dX2_copyFrom_71 : decode cX2_copyFrom 71 = .ok (.getfield 21, 3) := by decide +kernel
theorem dX2_copyFrom_74 : decode cX2_copyFrom 74 = .ok (.iconst 0, 1) := by decide +kernel
theorem dX2_copyFrom_75 : decode cX2_copyFrom 75 = .ok (.aload_n 0, 1) := by decide +kernel
theorem dX2_copyFrom_76 : decode cX2_copyFrom 76 = .ok (.getfield 21, 3) := by decide +kernel
theorem dX2_copyFrom_79 : decode cX2_copyFrom 79 = .ok (.iconst 0, 1) := by decide +kernel
theorem dX2_copyFrom_80 : decode cX2_copyFrom 80 = .ok (.aload_n 0, 1) := by decide +kernel
theorem dX2_copyFrom_81 : decode cX2_copyFrom 81 = .ok (.getfield 21, 3) := by decide +kernel
theorem dX2_copyFrom_84 : decode cX2_copyFrom 84 = .ok (.arraylength, 1) := by decide +kernel
theorem dX2_copyFrom_85 : decode cX2_copyFrom 85 = .ok (.invokestatic 65, 3) := by decide +kernel
theorem dX2_copyFrom_88 : decode cX2_copyFrom 88 = .ok (.aload_n 1, 1) := by decide +kernel
theorem dX2_copyFrom_89 : decode cX2_copyFrom 89 = .ok (.getfield 24, 3) := by decide +kernel
theorem dX2_copyFrom_92 : decode cX2_copyFrom 92 = .ok (.iconst 0, 1) := by decide +kernel
theorem dX2_copyFrom_93 : decode cX2_copyFrom 93 = .ok (.aload_n 0, 1) := by decide +kernel
theorem dX2_copyFrom_94 : decode cX2_copyFrom 94 = .ok (.getfield 24, 3) := by decide +kernel
theorem dX2_copyFrom_97 : decode cX2_copyFrom 97 = .ok (.iconst 0, 1) := by decide +kernel
theorem dX2_copyFrom_98 : decode cX2_copyFrom 98 = .ok (.aload_n 0, 1) := by decide +kernel
theorem dX2_copyFrom_99 : decode cX2_copyFrom 99 = .ok (.getfield 24, 3) := by decide +kernel
theorem dX2_copyFrom_102 : decode cX2_copyFrom 102 = .ok (.arraylength, 1) := by decide +kernel
theorem dX2_copyFrom_103 : decode cX2_copyFrom 103 = .ok (.invokestatic 65, 3) := by decide +kernel
theorem dX2_copyFrom_106 : decode cX2_copyFrom 106 = .ok (.aload_n 1, 1) := by decide +kernel
theorem dX2_copyFrom_107 : decode cX2_copyFrom 107 = .ok (.getfield 27, 3) := by decide +kernel
theorem dX2_copyFrom_110 : decode cX2_copyFrom 110 = .ok (.iconst 0, 1) := by decide +kernel
theorem dX2_copyFrom_111 : decode cX2_copyFrom 111 = .ok (.aload_n 0, 1) := by decide +kernel
theorem dX2_copyFrom_112 : decode cX2_copyFrom 112 = .ok (.getfield 27, 3) := by decide +kernel
theorem dX2_copyFrom_115 : decode cX2_copyFrom 115 = .ok (.iconst 0, 1) := by decide +kernel
theorem dX2_copyFrom_116 : decode cX2_copyFrom 116 = .ok (.aload_n 0, 1) := by decide +kernel
theorem dX2_copyFrom_117 : decode cX2_copyFrom 117 = .ok (.getfield 27, 3) := by decide +kernel
theorem dX2_copyFrom_120 : decode cX2_copyFrom 120 = .ok (.arraylength, 1) := by decide +kernel
theorem dX2_copyFrom_121 : decode cX2_copyFrom 121 = .ok (.invokestatic 65, 3) := by decide +kernel
theorem dX2_copyFrom_124 : decode cX2_copyFrom 124 = .ok (.aload_n 1, 1) := by decide +kernel
theorem dX2_copyFrom_125 : decode cX2_copyFrom 125 = .ok (.getfield 30, 3) := by decide +kernel
theorem dX2_copyFrom_128 : decode cX2_copyFrom 128 = .ok (.iconst 0, 1) := by decide +kernel
theorem dX2_copyFrom_129 : decode cX2_copyFrom 129 = .ok (.aload_n 0, 1) := by decide +kernel
theorem dX2_copyFrom_130 : decode cX2_copyFrom 130 = .ok (.getfield 30, 3) := by decide +kernel
theorem dX2_copyFrom_133 : decode cX2_copyFrom 133 = .ok (.iconst 0, 1) := by decide +kernel
theorem dX2_copyFrom_134 : decode cX2_copyFrom 134 = .ok (.aload_n 0, 1) := by decide +kernel
theorem dX2_copyFrom_135 : decode cX2_copyFrom 135 = .ok (.getfield 30, 3) := by decide +kernel
theorem dX2_copyFrom_138 : decode cX2_copyFrom 138 = .ok (.arraylength, 1) := by decide +kernel
theorem dX2_copyFrom_139 : decode cX2_copyFrom 139 = .ok (.invokestatic 65, 3) := by decide +kernel
theorem dX2_copyFrom_142 : decode cX2_copyFrom 142 = .ok (.aload_n 1, 1) := by decide +kernel
theorem dX2_copyFrom_143 : decode cX2_copyFrom 143 = .ok (.getfield 33, 3) := by decide +kernel
theorem dX2_copyFrom_146 : decode cX2_copyFrom 146 = .ok (.iconst 0, 1) := by decide +kernel
theorem dX2_copyFrom_147 : decode cX2_copyFrom 147 = .ok (.aload_n 0, 1) := by decide +kernel
theorem dX2_copyFrom_148 : decode cX2_copyFrom 148 = .ok (.getfield 33, 3) := by decide +kernel
theorem dX2_copyFrom_151 : decode cX2_copyFrom 151 = .ok (.iconst 0, 1) := by decide +kernel
theorem dX2_copyFrom_152 : decode cX2_copyFrom 152 = .ok (.aload_n 0, 1) := by decide +kernel
theorem dX2_copyFrom_153 : decode cX2_copyFrom 153 = .ok (.getfield 33, 3) := by decide +kernel
theorem dX2_copyFrom_156 : decode cX2_copyFrom 156 = .ok (.arraylength, 1) := by decide +kernel
theorem dX2_copyFrom_157 : decode cX2_copyFrom 157 = .ok (.invokestatic 65, 3) := by decide +kernel
theorem dX2_copyFrom_160 : decode cX2_copyFrom 160 = .ok (.return_, 1) := by decide +kernel
theorem dX3_init_0 : decode cX3_init 0 = .ok (.aload_n 0, 1) := by decide +kernel
theorem dX3_init_1 : decode cX3_init 1 = .ok (.invokespecial 3, 3) := by decide +kernel
theorem dX3_init_4 : decode cX3_init 4 = .ok (.aload_n 0, 1) := by decide +kernel
theorem dX3_init_5 : decode cX3_init 5 = .ok (.iconst 5, 1) := by decide +kernel
theorem dX3_init_6 : decode cX3_init 6 = .ok (.newarray .int, 2) := by decide +kernel
theorem dX3_init_8 : decode cX3_init 8 = .ok (.putfield 11, 3) := by decide +kernel
theorem dX3_init_11 : decode cX3_init 11 = .ok (.aload_n 0, 1) := by decide +kernel
theorem dX3_init_12 : decode cX3_init 12 = .ok (.iconst 5, 1) := by decide +kernel
theorem dX3_init_13 : decode cX3_init 13 = .ok (.newarray .int, 2) := by decide +kernel
theorem dX3_init_15 : decode cX3_init 15 = .ok (.putfield 15, 3) := by decide +kernel
theorem dX3_init_18 : decode cX3_init 18 = .ok (.return_, 1) := by decide +kernel
theorem dX3_look_0 : decode cX3_look 0 = .ok (.aload_n 0, 1) := by decide +kernel
theorem dX3_look_1 : decode cX3_look 1 = .ok (.iconst 0, 1) := by decide +kernel
theorem dX3_look_2 : decode cX3_look 2 = .ok (.putfield 18, 3) := by decide +kernel
theorem dX3_look_5 : decode cX3_look 5 = .ok (.aload_n 0, 1) := by decide +kernel
theorem dX3_look_6 : decode cX3_look 6 = .ok (.iconst 0, 1) := by decide +kernel
theorem dX3_look_7 : decode cX3_look 7 = .ok (.putfield 22, 3) := by decide +kernel
theorem dX3_look_10 : decode cX3_look 10 = .ok (.aload_n 0, 1) := by decide +kernel
theorem dX3_look_11 : decode cX3_look 11 = .ok (.iconst 0, 1) := by decide +kernel
theorem dX3_look_12 : decode cX3_look 12 = .ok (.putfield 25, 3) := by decide +kernel
theorem dX3_look_15 : decode cX3_look 15 = .ok (.iconst 1, 1) := by decide +kernel
theorem dX3_look_16 : decode cX3_look 16 = .ok (.istore_n 3, 1) := by decide +kernel
theorem dX3_look_17 : decode cX3_look 17 = .ok (.iload_n 3, 1) := by decide +kernel
theorem dX3_look_18 : decode cX3_look 18 = .ok (.aload_n 1, 1) := by decide +kernel
theorem dX3_look_19 : decode cX3_look 19 = .ok (.getfield 28, 3) := by decide +kernel
theorem dX3_look_22 : decode cX3_look 22 = .ok (.if_icmp .gt 55, 3) := by decide +kernel
theorem dX3_look_25 : decode cX3_look 25 = .ok (.aload_n 1, 1) := by decide +kernel
theorem dX3_look_26 : decode cX3_look 26 = .ok (.iload_n 2, 1) := by decide +kernel
theorem dX3_look_27 : decode cX3_look 27 = .ok (.iload_n 3, 1) := by decide +kernel
theorem dX3_look_28 : decode cX3_look 28 = .ok (.invokevirtual 33, 3) := by decide +kernel
theorem dX3_look_31 : decode cX3_look 31 = .ok (.ifCond .eq 40, 3) := by decide +kernel
theorem dX3_look_34 : decode cX3_look 34 = .ok (.aload_n 0, 1) := by decide +kernel
theorem dX3_look_35 : decode cX3_look 35 = .ok (.getfield 18, 3) := by decide +kernel
theorem dX3_look_38 : decode cX3_look 38 = .ok (.ifCond .ne 11, 3) := by decide +kernel
theorem dX3_look_41 : decode cX3_look 41 = .ok (.aload_n 0, 1) := by decide +kernel
theorem dX3_look_42 : decode cX3_look 42 = .ok (.iload_n 3, 1) := by decide +kernel
theorem dX3_look_43 : decode cX3_look 43 = .ok (.putfield 22, 3) := by decide +kernel
theorem dX3_look_46 : decode cX3_look 46 = .ok (.goto 20, 3) := by decide +kernel
theorem dX3_look_49 : decode cX3_look 49 = .ok (.aload_n 0, 1) := by decide +kernel
theorem dX3_look_50 : decode cX3_look 50 = .ok (.aload_n 0, 1) := by decide +kernel
theorem dX3_look_51 : decode cX3_look 51 = .ok (.getfield 25, 3) := by decide +kernel
theorem dX3_look_54 : decode cX3_look 54 = .ok (.iload_n 3, 1) := by decide +kernel
theorem dX3_look_55 : decode cX3_look 55 = .ok (.aload_n 0, 1) := by decide +kernel
theorem dX3_look_56 : decode cX3_look 56 = .ok (.getfield 18, 3) := by decide +kernel
theorem dX3_look_59 : decode cX3_look 59 = .ok (.isub, 1) := by decide +kernel
theorem dX3_look_60 : decode cX3_look 60 = .ok (.invokestatic 37, 3) := by decide +kernel
theorem dX3_look_63 : decode cX3_look 63 = .ok (.putfield 25, 3) := by decide +kernel
theorem dX3_look_66 : decode cX3_look 66 = .ok (.aload_n 0, 1) := by decide +kernel
theorem dX3_look_67 : decode cX3_look 67 = .ok (.iload_n 3, 1) := by decide +kernel
theorem dX3_look_68 : decode cX3_look 68 = .ok (.putfield 18, 3) := by decide +kernel
theorem dX3_look_71 : decode cX3_look 71 = .ok (.iinc 3 1, 3) := by decide +kernel
theorem dX3_look_74 : decode cX3_look 74 = .ok (.goto (-57), 3) := by decide +kernel
theorem dX3_look_77 : decode cX3_look 77 = .ok (.return_, 1) := by decide +kernel
theorem dX3_lastLane_0 : decode cX3_lastLane 0 = .ok (.iconst (-1), 1) := by decide +kernel
theorem dX3_lastLane_1 : decode cX3_lastLane 1 = .ok (.istore_n 2, 1) := by decide +kernel
theorem dX3_lastLane_2 : decode cX3_lastLane 2 = .ok (.iconst 0, 1) := by decide +kernel
theorem dX3_lastLane_3 : decode cX3_lastLane 3 = .ok (.istore_n 3, 1) := by decide +kernel
theorem dX3_lastLane_4 : decode cX3_lastLane 4 = .ok (.iload_n 3, 1) := by decide +kernel
theorem dX3_lastLane_5 : decode cX3_lastLane 5 = .ok (.aload_n 1, 1) := by decide +kernel
theorem dX3_lastLane_6 : decode cX3_lastLane 6 = .ok (.getfield 43, 3) := by decide +kernel
theorem dX3_lastLane_9 : decode cX3_lastLane 9 = .ok (.if_icmp .ge 24, 3) := by decide +kernel
theorem dX3_lastLane_12 : decode cX3_lastLane 12 = .ok (.aload_n 0, 1) := by decide +kernel
theorem dX3_lastLane_13 : decode cX3_lastLane 13 = .ok (.aload_n 1, 1) := by decide +kernel
theorem dX3_lastLane_14 : decode cX3_lastLane 14 = .ok (.iload_n 3, 1) := by decide +kernel
theorem dX3_lastLane_15 : decode cX3_lastLane 15 = .ok (.invokevirtual 46, 3) := by decide +kernel
theorem dX3_lastLane_18 : decode cX3_lastLane 18 = .ok (.aload_n 0, 1) := by decide +kernel
theorem dX3_lastLane_19 : decode cX3_lastLane 19 = .ok (.getfield 18, 3) := by decide +kernel
theorem dX3_lastLane_22 : decode cX3_lastLane 22 = .ok (.ifCond .le 5, 3) := by decide +kernel
theorem dX3_lastLane_25 : decode cX3_lastLane 25 = .ok (.iload_n 3, 1) := by decide +kernel
theorem dX3_lastLane_26 : decode cX3_lastLane 26 = .ok (.istore_n 2, 1) := by decide +kernel
theorem dX3_lastLane_27 : decode cX3_lastLane 27 = .ok (.iinc 3 1, 3) := by decide +kernel
theorem dX3_lastLane_30 : decode cX3_lastLane 30 = .ok (.goto (-26), 3) := by decide +kernel
theorem dX3_lastLane_33 : decode cX3_lastLane 33 = .ok (.iload_n 2, 1) := by decide +kernel
theorem dX3_lastLane_34 : decode cX3_lastLane 34 = .ok (.ireturn, 1) := by decide +kernel
theorem dX3_through_0 : decode cX3_through 0 = .ok (.aload_n 0, 1) := by decide +kernel
theorem dX3_through_1 : decode cX3_through 1 = .ok (.aload_n 1, 1) := by decide +kernel
theorem dX3_through_2 : decode cX3_through 2 = .ok (.invokevirtual 50, 3) := by decide +kernel
theorem dX3_through_5 : decode cX3_through 5 = .ok (.istore_n 2, 1) := by decide +kernel
theorem dX3_through_6 : decode cX3_through 6 = .ok (.iload_n 2, 1) := by decide +kernel
theorem dX3_through_7 : decode cX3_through 7 = .ok (.iconst (-1), 1) := by decide +kernel
theorem dX3_through_8 : decode cX3_through 8 = .ok (.if_icmp .ne 5, 3) := by decide +kernel
theorem dX3_through_11 : decode cX3_through 11 = .ok (.iconst 0, 1) := by decide +kernel
theorem dX3_through_12 : decode cX3_through 12 = .ok (.ireturn, 1) := by decide +kernel
theorem dX3_through_13 : decode cX3_through 13 = .ok (.iconst 0, 1) := by decide +kernel
theorem dX3_through_14 : decode cX3_through 14 = .ok (.istore_n 3, 1) := by decide +kernel
theorem dX3_through_15 : decode cX3_through 15 = .ok (.iconst 0, 1) := by decide +kernel
theorem dX3_through_16 : decode cX3_through 16 = .ok (.istore 4, 2) := by decide +kernel
theorem dX3_through_18 : decode cX3_through 18 = .ok (.iload 4, 2) := by decide +kernel
theorem dX3_through_20 : decode cX3_through 20 = .ok (.iload_n 2, 1) := by decide +kernel
theorem dX3_through_21 : decode cX3_through 21 = .ok (.if_icmp .gt 26, 3) := by decide +kernel
theorem dX3_through_24 : decode cX3_through 24 = .ok (.aload_n 0, 1) := by decide +kernel
theorem dX3_through_25 : decode cX3_through 25 = .ok (.aload_n 1, 1) := by decide +kernel
theorem dX3_through_26 : decode cX3_through 26 = .ok (.iload 4, 2) := by decide +kernel
theorem dX3_through_28 : decode cX3_through 28 = .ok (.invokevirtual 46, 3) := by decide +kernel
theorem dX3_through_31 : decode cX3_through 31 = .ok (.aload_n 0, 1) := by decide +kernel
theorem dX3_through_32 : decode cX3_through 32 = .ok (.getfield 18, 3) := by decide +kernel
theorem dX3_through_35 : decode cX3_through 35 = .ok (.ifCond .le 6, 3) := by decide +kernel
theorem dX3_through_38 : decode cX3_through 38 = .ok (.iinc 3 1, 3) := by decide +kernel
theorem dX3_through_41 : decode cX3_through 41 = .ok (.iinc 4 1, 3) := by decide +kernel
theorem dX3_through_44 : decode cX3_through 44 = .ok (.goto (-26), 3) := by decide +kernel
theorem dX3_through_47 : decode cX3_through 47 = .ok (.iconst 2, 1) := by decide +kernel
theorem dX3_through_48 : decode cX3_through 48 = .ok (.aload_n 1, 1) := by decide +kernel
theorem dX3_through_49 : decode cX3_through 49 = .ok (.getfield 54, 3) := by decide +kernel
theorem dX3_through_52 : decode cX3_through 52 = .ok (.imul, 1) := by decide +kernel
theorem dX3_through_53 : decode cX3_through 53 = .ok (.iload_n 2, 1) := by decide +kernel
theorem dX3_through_54 : decode cX3_through 54 = .ok (.imul, 1) := by decide +kernel
theorem dX3_through_55 : decode cX3_through 55 = .ok (.iload_n 3, 1) := by decide +kernel
theorem dX3_through_56 : decode cX3_through 56 = .ok (.iload_n 3, 1) := by decide +kernel
theorem dX3_through_57 : decode cX3_through 57 = .ok (.iconst 2, 1) := by decide +kernel
theorem dX3_through_58 : decode cX3_through 58 = .ok (.irem, 1) := by decide +kernel
theorem dX3_through_59 : decode cX3_through 59 = .ok (.isub, 1) := by decide +kernel
theorem dX3_through_60 : decode cX3_through 60 = .ok (.aload_n 1, 1) := by decide +kernel
theorem dX3_through_61 : decode cX3_through 61 = .ok (.getfield 28, 3) := by decide +kernel
theorem dX3_through_64 : decode cX3_through 64 = .ok (.iconst 1, 1) := by decide +kernel
theorem dX3_through_65 : decode cX3_through 65 = .ok (.iadd, 1) := by decide +kernel
theorem dX3_through_66 : decode cX3_through 66 = .ok (.imul, 1) := by decide +kernel
theorem dX3_through_67 : decode cX3_through 67 = .ok (.iadd, 1) := by decide +kernel
theorem dX3_through_68 : decode cX3_through 68 = .ok (.istore 4, 2) := by decide +kernel
theorem dX3_through_70 : decode cX3_through 70 = .ok (.iload_n 3, 1) := by decide +kernel
theorem dX3_through_71 : decode cX3_through 71 = .ok (.iconst 2, 1) := by decide +kernel
theorem dX3_through_72 : decode cX3_through 72 = .ok (.irem, 1) := by decide +kernel
theorem dX3_through_73 : decode cX3_through 73 = .ok (.ifCond .ne 8, 3) := by decide +kernel
theorem dX3_through_76 : decode cX3_through 76 = .ok (.iload 4, 2) := by decide +kernel
theorem dX3_through_78 : decode cX3_through 78 = .ok (.goto 12, 3) := by decide +kernel
theorem dX3_through_81 : decode cX3_through 81 = .ok (.iload 4, 2) := by decide +kernel
theorem dX3_through_83 : decode cX3_through 83 = .ok (.iconst 2, 1) := by decide +kernel
theorem dX3_through_84 : decode cX3_through 84 = .ok (.aload_n 0, 1) := by decide +kernel
theorem dX3_through_85 : decode cX3_through 85 = .ok (.getfield 18, 3) := by decide +kernel
theorem dX3_through_88 : decode cX3_through 88 = .ok (.imul, 1) := by decide +kernel
theorem dX3_through_89 : decode cX3_through 89 = .ok (.iadd, 1) := by decide +kernel
theorem dX3_through_90 : decode cX3_through 90 = .ok (.ireturn, 1) := by decide +kernel
theorem dX3_back_0 : decode cX3_back 0 = .ok (.aload_n 0, 1) := by decide +kernel
theorem dX3_back_1 : decode cX3_back 1 = .ok (.aload_n 1, 1) := by decide +kernel
theorem dX3_back_2 : decode cX3_back 2 = .ok (.invokevirtual 50, 3) := by decide +kernel
theorem dX3_back_5 : decode cX3_back 5 = .ok (.istore_n 2, 1) := by decide +kernel
theorem dX3_back_6 : decode cX3_back 6 = .ok (.iload_n 2, 1) := by decide +kernel
theorem dX3_back_7 : decode cX3_back 7 = .ok (.iconst (-1), 1) := by decide +kernel
theorem dX3_back_8 : decode cX3_back 8 = .ok (.if_icmp .ne 5, 3) := by decide +kernel
theorem dX3_back_11 : decode cX3_back 11 = .ok (.iconst 0, 1) := by decide +kernel
theorem dX3_back_12 : decode cX3_back 12 = .ok (.ireturn, 1) := by decide +kernel
theorem dX3_back_13 : decode cX3_back 13 = .ok (.iconst 2, 1) := by decide +kernel
theorem dX3_back_14 : decode cX3_back 14 = .ok (.aload_n 1, 1) := by decide +kernel
theorem dX3_back_15 : decode cX3_back 15 = .ok (.getfield 54, 3) := by decide +kernel
theorem dX3_back_18 : decode cX3_back 18 = .ok (.imul, 1) := by decide +kernel
theorem dX3_back_19 : decode cX3_back 19 = .ok (.iload_n 2, 1) := by decide +kernel
theorem dX3_back_20 : decode cX3_back 20 = .ok (.imul, 1) := by decide +kernel
theorem dX3_back_21 : decode cX3_back 21 = .ok (.istore_n 3, 1) := by decide +kernel
theorem dX3_back_22 : decode cX3_back 22 = .ok (.iconst 0, 1) := by decide +kernel
theorem dX3_back_23 : decode cX3_back 23 = .ok (.istore 4, 2) := by decide +kernel
theorem dX3_back_25 : decode cX3_back 25 = .ok (.iload 4, 2) := by decide +kernel
theorem dX3_back_27 : decode cX3_back 27 = .ok (.iload_n 2, 1) := by decide +kernel
theorem dX3_back_28 : decode cX3_back 28 = .ok (.if_icmp .gt 25, 3) := by decide +kernel
theorem dX3_back_31 : decode cX3_back 31 = .ok (.aload_n 0, 1) := by decide +kernel
theorem dX3_back_32 : decode cX3_back 32 = .ok (.aload_n 1, 1) := by decide +kernel
theorem dX3_back_33 : decode cX3_back 33 = .ok (.iload 4, 2) := by decide +kernel
theorem dX3_back_35 : decode cX3_back 35 = .ok (.invokevirtual 46, 3) := by decide +kernel
theorem dX3_back_38 : decode cX3_back 38 = .ok (.iload_n 3, 1) := by decide +kernel
theorem dX3_back_39 : decode cX3_back 39 = .ok (.iconst 2, 1) := by decide +kernel
theorem dX3_back_40 : decode cX3_back 40 = .ok (.aload_n 0, 1) := by decide +kernel
theorem dX3_back_41 : decode cX3_back 41 = .ok (.getfield 18, 3) := by decide +kernel
theorem dX3_back_44 : decode cX3_back 44 = .ok (.imul, 1) := by decide +kernel
theorem dX3_back_45 : decode cX3_back 45 = .ok (.iadd, 1) := by decide +kernel
theorem dX3_back_46 : decode cX3_back 46 = .ok (.istore_n 3, 1) := by decide +kernel
theorem dX3_back_47 : decode cX3_back 47 = .ok (.iinc 4 1, 3) := by decide +kernel
theorem dX3_back_50 : decode cX3_back 50 = .ok (.goto (-25), 3) := by decide +kernel
theorem dX3_back_53 : decode cX3_back 53 = .ok (.iload_n 3, 1) := by decide +kernel
theorem dX3_back_54 : decode cX3_back 54 = .ok (.ireturn, 1) := by decide +kernel
theorem dX3_least_0 : decode cX3_least 0 = .ok (.aload_n 0, 1) := by decide +kernel
theorem dX3_least_1 : decode cX3_least 1 = .ok (.aload_n 1, 1) := by decide +kernel
theorem dX3_least_2 : decode cX3_least 2 = .ok (.invokevirtual 50, 3) := by decide +kernel
theorem dX3_least_5 : decode cX3_least 5 = .ok (.istore_n 2, 1) := by decide +kernel
theorem dX3_least_6 : decode cX3_least 6 = .ok (.iload_n 2, 1) := by decide +kernel
theorem dX3_least_7 : decode cX3_least 7 = .ok (.iconst (-1), 1) := by decide +kernel
theorem dX3_least_8 : decode cX3_least 8 = .ok (.if_icmp .ne 5, 3) := by decide +kernel
theorem dX3_least_11 : decode cX3_least 11 = .ok (.iconst 0, 1) := by decide +kernel
theorem dX3_least_12 : decode cX3_least 12 = .ok (.ireturn, 1) := by decide +kernel
theorem dX3_least_13 : decode cX3_least 13 = .ok (.iconst 0, 1) := by decide +kernel
theorem dX3_least_14 : decode cX3_least 14 = .ok (.istore_n 3, 1) := by decide +kernel
theorem dX3_least_15 : decode cX3_least 15 = .ok (.iload_n 3, 1) := by decide +kernel
theorem dX3_least_16 : decode cX3_least 16 = .ok (.iconst 5, 1) := by decide +kernel
theorem dX3_least_17 : decode cX3_least 17 = .ok (.if_icmp .ge 17, 3) := by decide +kernel
theorem dX3_least_20 : decode cX3_least 20 = .ok (.aload_n 0, 1) := by decide +kernel
theorem dX3_least_21 : decode cX3_least 21 = .ok (.getfield 11, 3) := by decide +kernel
theorem dX3_least_24 : decode cX3_least 24 = .ok (.iload_n 3, 1) := by decide +kernel
theorem dX3_least_25 : decode cX3_least 25 = .ok (.ldc 57, 2) := by decide +kernel
theorem dX3_least_27 : decode cX3_least 27 = .ok (.iastore, 1) := by decide +kernel
theorem dX3_least_28 : decode cX3_least 28 = .ok (.iinc 3 1, 3) := by decide +kernel
theorem dX3_least_31 : decode cX3_least 31 = .ok (.goto (-16), 3) := by decide +kernel
theorem dX3_least_34 : decode cX3_least 34 = .ok (.aload_n 0, 1) := by decide +kernel
theorem dX3_least_35 : decode cX3_least 35 = .ok (.getfield 11, 3) := by decide +kernel
theorem dX3_least_38 : decode cX3_least 38 = .ok (.iconst 1, 1) := by decide +kernel
theorem dX3_least_39 : decode cX3_least 39 = .ok (.iconst 0, 1) := by decide +kernel
theorem dX3_least_40 : decode cX3_least 40 = .ok (.iastore, 1) := by decide +kernel
theorem dX3_least_41 : decode cX3_least 41 = .ok (.iconst 0, 1) := by decide +kernel
theorem dX3_least_42 : decode cX3_least 42 = .ok (.istore_n 3, 1) := by decide +kernel
theorem dX3_least_43 : decode cX3_least 43 = .ok (.iload_n 3, 1) := by decide +kernel
theorem dX3_least_44 : decode cX3_least 44 = .ok (.iload_n 2, 1) := by decide +kernel
theorem dX3_least_45 : decode cX3_least 45 = .ok (.if_icmp .gt 37, 3) := by decide +kernel
theorem dX3_least_48 : decode cX3_least 48 = .ok (.iload_n 3, 1) := by decide +kernel
theorem dX3_least_49 : decode cX3_least 49 = .ok (.ifCond .le 11, 3) := by decide +kernel
theorem dX3_least_52 : decode cX3_least 52 = .ok (.aload_n 0, 1) := by decide +kernel
theorem dX3_least_53 : decode cX3_least 53 = .ok (.aload_n 1, 1) := by decide +kernel
theorem dX3_least_54 : decode cX3_least 54 = .ok (.getfield 54, 3) := by decide +kernel
theorem dX3_least_57 : decode cX3_least 57 = .ok (.invokevirtual 58, 3) := by decide +kernel
theorem dX3_least_60 : decode cX3_least 60 = .ok (.aload_n 0, 1) := by decide +kernel
theorem dX3_least_61 : decode cX3_least 61 = .ok (.aload_n 1, 1) := by decide +kernel
theorem dX3_least_62 : decode cX3_least 62 = .ok (.iload_n 3, 1) := by decide +kernel
theorem dX3_least_63 : decode cX3_least 63 = .ok (.invokevirtual 46, 3) := by decide +kernel
theorem dX3_least_66 : decode cX3_least 66 = .ok (.aload_n 0, 1) := by decide +kernel
theorem dX3_least_67 : decode cX3_least 67 = .ok (.aload_n 1, 1) := by decide +kernel
theorem dX3_least_68 : decode cX3_least 68 = .ok (.getfield 28, 3) := by decide +kernel
theorem dX3_least_71 : decode cX3_least 71 = .ok (.iconst 1, 1) := by decide +kernel
theorem dX3_least_72 : decode cX3_least 72 = .ok (.iadd, 1) := by decide +kernel
theorem dX3_least_73 : decode cX3_least 73 = .ok (.invokevirtual 62, 3) := by decide +kernel
theorem dX3_least_76 : decode cX3_least 76 = .ok (.iinc 3 1, 3) := by decide +kernel
theorem dX3_least_79 : decode cX3_least 79 = .ok (.goto (-36), 3) := by decide +kernel
theorem dX3_least_82 : decode cX3_least 82 = .ok (.aload_n 0, 1) := by decide +kernel
theorem dX3_least_83 : decode cX3_least 83 = .ok (.getfield 11, 3) := by decide +kernel
theorem dX3_least_86 : decode cX3_least 86 = .ok (.iconst 1, 1) := by decide +kernel
theorem dX3_least_87 : decode cX3_least 87 = .ok (.iaload, 1) := by decide +kernel
theorem dX3_least_88 : decode cX3_least 88 = .ok (.aload_n 0, 1) := by decide +kernel
theorem dX3_least_89 : decode cX3_least 89 = .ok (.getfield 11, 3) := by decide +kernel
theorem dX3_least_92 : decode cX3_least 92 = .ok (.iconst 2, 1) := by decide +kernel
theorem dX3_least_93 : decode cX3_least 93 = .ok (.iaload, 1) := by decide +kernel
theorem dX3_least_94 : decode cX3_least 94 = .ok (.aload_n 0, 1) := by decide +kernel
theorem dX3_least_95 : decode cX3_least 95 = .ok (.getfield 11, 3) := by decide +kernel
theorem dX3_least_98 : decode cX3_least 98 = .ok (.iconst 3, 1) := by decide +kernel
theorem dX3_least_99 : decode cX3_least 99 = .ok (.iaload, 1) := by decide +kernel
theorem dX3_least_100 : decode cX3_least 100 = .ok (.invokestatic 65, 3) := by decide +kernel
theorem dX3_least_103 : decode cX3_least 103 = .ok (.invokestatic 65, 3) := by decide +kernel
theorem dX3_least_106 : decode cX3_least 106 = .ok (.ireturn, 1) := by decide +kernel
theorem dX3_crossOver_0 : decode cX3_crossOver 0 = .ok (.aload_n 0, 1) := by decide +kernel
theorem dX3_crossOver_1 : decode cX3_crossOver 1 = .ok (.getfield 15, 3) := by decide +kernel
theorem dX3_crossOver_4 : decode cX3_crossOver 4 = .ok (.iconst 0, 1) := by decide +kernel
theorem dX3_crossOver_5 : decode cX3_crossOver 5 = .ok (.aload_n 0, 1) := by decide +kernel
theorem dX3_crossOver_6 : decode cX3_crossOver 6 = .ok (.getfield 11, 3) := by decide +kernel
theorem dX3_crossOver_9 : decode cX3_crossOver 9 = .ok (.iconst 0, 1) := by decide +kernel
theorem dX3_crossOver_10 : decode cX3_crossOver 10 = .ok (.iaload, 1) := by decide +kernel
theorem dX3_crossOver_11 : decode cX3_crossOver 11 = .ok (.iconst 2, 1) := by decide +kernel
theorem dX3_crossOver_12 : decode cX3_crossOver 12 = .ok (.iload_n 1, 1) := by decide +kernel
theorem dX3_crossOver_13 : decode cX3_crossOver 13 = .ok (.imul, 1) := by decide +kernel
theorem dX3_crossOver_14 : decode cX3_crossOver 14 = .ok (.iadd, 1) := by decide +kernel
theorem dX3_crossOver_15 : decode cX3_crossOver 15 = .ok (.iastore, 1) := by decide +kernel
theorem dX3_crossOver_16 : decode cX3_crossOver 16 = .ok (.aload_n 0, 1) := by decide +kernel
theorem dX3_crossOver_17 : decode cX3_crossOver 17 = .ok (.getfield 15, 3) := by decide +kernel
theorem dX3_crossOver_20 : decode cX3_crossOver 20 = .ok (.iconst 1, 1) := by decide +kernel
theorem dX3_crossOver_21 : decode cX3_crossOver 21 = .ok (.aload_n 0, 1) := by decide +kernel
theorem dX3_crossOver_22 : decode cX3_crossOver 22 = .ok (.getfield 11, 3) := by decide +kernel
theorem dX3_crossOver_25 : decode cX3_crossOver 25 = .ok (.iconst 1, 1) := by decide +kernel
theorem dX3_crossOver_26 : decode cX3_crossOver 26 = .ok (.iaload, 1) := by decide +kernel
theorem dX3_crossOver_27 : decode cX3_crossOver 27 = .ok (.aload_n 0, 1) := by decide +kernel
theorem dX3_crossOver_28 : decode cX3_crossOver 28 = .ok (.getfield 11, 3) := by decide +kernel
theorem dX3_crossOver_31 : decode cX3_crossOver 31 = .ok (.iconst 3, 1) := by decide +kernel
theorem dX3_crossOver_32 : decode cX3_crossOver 32 = .ok (.iaload, 1) := by decide +kernel
theorem dX3_crossOver_33 : decode cX3_crossOver 33 = .ok (.invokestatic 65, 3) := by decide +kernel
theorem dX3_crossOver_36 : decode cX3_crossOver 36 = .ok (.iconst 2, 1) := by decide +kernel
theorem dX3_crossOver_37 : decode cX3_crossOver 37 = .ok (.iload_n 1, 1) := by decide +kernel
theorem dX3_crossOver_38 : decode cX3_crossOver 38 = .ok (.imul, 1) := by decide +kernel
theorem dX3_crossOver_39 : decode cX3_crossOver 39 = .ok (.iadd, 1) := by decide +kernel
theorem dX3_crossOver_40 : decode cX3_crossOver 40 = .ok (.iastore, 1) := by decide +kernel
theorem dX3_crossOver_41 : decode cX3_crossOver 41 = .ok (.aload_n 0, 1) := by decide +kernel
theorem dX3_crossOver_42 : decode cX3_crossOver 42 = .ok (.getfield 15, 3) := by decide +kernel
theorem dX3_crossOver_45 : decode cX3_crossOver 45 = .ok (.iconst 2, 1) := by decide +kernel
theorem dX3_crossOver_46 : decode cX3_crossOver 46 = .ok (.aload_n 0, 1) := by decide +kernel
theorem dX3_crossOver_47 : decode cX3_crossOver 47 = .ok (.getfield 11, 3) := by decide +kernel
theorem dX3_crossOver_50 : decode cX3_crossOver 50 = .ok (.iconst 2, 1) := by decide +kernel
theorem dX3_crossOver_51 : decode cX3_crossOver 51 = .ok (.iaload, 1) := by decide +kernel
theorem dX3_crossOver_52 : decode cX3_crossOver 52 = .ok (.aload_n 0, 1) := by decide +kernel
theorem dX3_crossOver_53 : decode cX3_crossOver 53 = .ok (.getfield 11, 3) := by decide +kernel
theorem dX3_crossOver_56 : decode cX3_crossOver 56 = .ok (.iconst 3, 1) := by decide +kernel
theorem dX3_crossOver_57 : decode cX3_crossOver 57 = .ok (.iaload, 1) := by decide +kernel
theorem dX3_crossOver_58 : decode cX3_crossOver 58 = .ok (.invokestatic 65, 3) := by decide +kernel
theorem dX3_crossOver_61 : decode cX3_crossOver 61 = .ok (.iconst 2, 1) := by decide +kernel
theorem dX3_crossOver_62 : decode cX3_crossOver 62 = .ok (.iload_n 1, 1) := by decide +kernel
theorem dX3_crossOver_63 : decode cX3_crossOver 63 = .ok (.imul, 1) := by decide +kernel
theorem dX3_crossOver_64 : decode cX3_crossOver 64 = .ok (.iadd, 1) := by decide +kernel
theorem dX3_crossOver_65 : decode cX3_crossOver 65 = .ok (.iastore, 1) := by decide +kernel
theorem dX3_crossOver_66 : decode cX3_crossOver 66 = .ok (.aload_n 0, 1) := by decide +kernel
theorem dX3_crossOver_67 : decode cX3_crossOver 67 = .ok (.getfield 15, 3) := by decide +kernel
theorem dX3_crossOver_70 : decode cX3_crossOver 70 = .ok (.iconst 3, 1) := by decide +kernel
theorem dX3_crossOver_71 : decode cX3_crossOver 71 = .ok (.aload_n 0, 1) := by decide +kernel
theorem dX3_crossOver_72 : decode cX3_crossOver 72 = .ok (.getfield 11, 3) := by decide +kernel
theorem dX3_crossOver_75 : decode cX3_crossOver 75 = .ok (.iconst 3, 1) := by decide +kernel
theorem dX3_crossOver_76 : decode cX3_crossOver 76 = .ok (.iaload, 1) := by decide +kernel
theorem dX3_crossOver_77 : decode cX3_crossOver 77 = .ok (.iconst 4, 1) := by decide +kernel
theorem dX3_crossOver_78 : decode cX3_crossOver 78 = .ok (.iload_n 1, 1) := by decide +kernel
theorem dX3_crossOver_79 : decode cX3_crossOver 79 = .ok (.imul, 1) := by decide +kernel
theorem dX3_crossOver_80 : decode cX3_crossOver 80 = .ok (.iadd, 1) := by decide +kernel
theorem dX3_crossOver_81 : decode cX3_crossOver 81 = .ok (.iastore, 1) := by decide +kernel
theorem dX3_crossOver_82 : decode cX3_crossOver 82 = .ok (.aload_n 0, 1) := by decide +kernel
theorem dX3_crossOver_83 : decode cX3_crossOver 83 = .ok (.getfield 15, 3) := by decide +kernel
theorem dX3_crossOver_86 : decode cX3_crossOver 86 = .ok (.iconst 4, 1) := by decide +kernel
theorem dX3_crossOver_87 : decode cX3_crossOver 87 = .ok (.aload_n 0, 1) := by decide +kernel
theorem dX3_crossOver_88 : decode cX3_crossOver 88 = .ok (.getfield 11, 3) := by decide +kernel
theorem dX3_crossOver_91 : decode cX3_crossOver 91 = .ok (.iconst 4, 1) := by decide +kernel
theorem dX3_crossOver_92 : decode cX3_crossOver 92 = .ok (.iaload, 1) := by decide +kernel
theorem dX3_crossOver_93 : decode cX3_crossOver 93 = .ok (.iconst 4, 1) := by decide +kernel
theorem dX3_crossOver_94 : decode cX3_crossOver 94 = .ok (.iload_n 1, 1) := by decide +kernel
theorem dX3_crossOver_95 : decode cX3_crossOver 95 = .ok (.imul, 1) := by decide +kernel
theorem dX3_crossOver_96 : decode cX3_crossOver 96 = .ok (.iadd, 1) := by decide +kernel
theorem dX3_crossOver_97 : decode cX3_crossOver 97 = .ok (.iastore, 1) := by decide +kernel
theorem dX3_crossOver_98 : decode cX3_crossOver 98 = .ok (.aload_n 0, 1) := by decide +kernel
theorem dX3_crossOver_99 : decode cX3_crossOver 99 = .ok (.invokevirtual 68, 3) := by decide +kernel
theorem dX3_crossOver_102 : decode cX3_crossOver 102 = .ok (.return_, 1) := by decide +kernel
theorem dX3_walkLane_0 : decode cX3_walkLane 0 = .ok (.aload_n 0, 1) := by decide +kernel
theorem dX3_walkLane_1 : decode cX3_walkLane 1 = .ok (.getfield 11, 3) := by decide +kernel
theorem dX3_walkLane_4 : decode cX3_walkLane 4 = .ok (.iconst 1, 1) := by decide +kernel
theorem dX3_walkLane_5 : decode cX3_walkLane 5 = .ok (.iaload, 1) := by decide +kernel
theorem dX3_walkLane_6 : decode cX3_walkLane 6 = .ok (.aload_n 0, 1) := by decide +kernel
theorem dX3_walkLane_7 : decode cX3_walkLane 7 = .ok (.getfield 11, 3) := by decide +kernel
theorem dX3_walkLane_10 : decode cX3_walkLane 10 = .ok (.iconst 2, 1) := by decide +kernel
theorem dX3_walkLane_11 : decode cX3_walkLane 11 = .ok (.iaload, 1) := by decide +kernel
theorem dX3_walkLane_12 : decode cX3_walkLane 12 = .ok (.invokestatic 65, 3) := by decide +kernel
theorem dX3_walkLane_15 : decode cX3_walkLane 15 = .ok (.istore_n 2, 1) := by decide +kernel
theorem dX3_walkLane_16 : decode cX3_walkLane 16 = .ok (.iload_n 2, 1) := by decide +kernel
theorem dX3_walkLane_17 : decode cX3_walkLane 17 = .ok (.aload_n 0, 1) := by decide +kernel
theorem dX3_walkLane_18 : decode cX3_walkLane 18 = .ok (.getfield 11, 3) := by decide +kernel
theorem dX3_walkLane_21 : decode cX3_walkLane 21 = .ok (.iconst 3, 1) := by decide +kernel
theorem dX3_walkLane_22 : decode cX3_walkLane 22 = .ok (.iaload, 1) := by decide +kernel
theorem dX3_walkLane_23 : decode cX3_walkLane 23 = .ok (.aload_n 0, 1) := by decide +kernel
theorem dX3_walkLane_24 : decode cX3_walkLane 24 = .ok (.getfield 11, 3) := by decide +kernel
theorem dX3_walkLane_27 : decode cX3_walkLane 27 = .ok (.iconst 4, 1) := by decide +kernel
theorem dX3_walkLane_28 : decode cX3_walkLane 28 = .ok (.iaload, 1) := by decide +kernel
theorem dX3_walkLane_29 : decode cX3_walkLane 29 = .ok (.invokestatic 65, 3) := by decide +kernel
theorem dX3_walkLane_32 : decode cX3_walkLane 32 = .ok (.invokestatic 65, 3) := by decide +kernel
theorem dX3_walkLane_35 : decode cX3_walkLane 35 = .ok (.istore_n 3, 1) := by decide +kernel
theorem dX3_walkLane_36 : decode cX3_walkLane 36 = .ok (.aload_n 0, 1) := by decide +kernel
theorem dX3_walkLane_37 : decode cX3_walkLane 37 = .ok (.getfield 15, 3) := by decide +kernel
theorem dX3_walkLane_40 : decode cX3_walkLane 40 = .ok (.iconst 0, 1) := by decide +kernel
theorem dX3_walkLane_41 : decode cX3_walkLane 41 = .ok (.iload_n 3, 1) := by decide +kernel
theorem dX3_walkLane_42 : decode cX3_walkLane 42 = .ok (.iload_n 1, 1) := by decide +kernel
theorem dX3_walkLane_43 : decode cX3_walkLane 43 = .ok (.iadd, 1) := by decide +kernel
theorem dX3_walkLane_44 : decode cX3_walkLane 44 = .ok (.aload_n 0, 1) := by decide +kernel
theorem dX3_walkLane_45 : decode cX3_walkLane 45 = .ok (.getfield 11, 3) := by decide +kernel
theorem dX3_walkLane_48 : decode cX3_walkLane 48 = .ok (.iconst 0, 1) := by decide +kernel
theorem dX3_walkLane_49 : decode cX3_walkLane 49 = .ok (.iaload, 1) := by decide +kernel
theorem dX3_walkLane_50 : decode cX3_walkLane 50 = .ok (.iconst 2, 1) := by decide +kernel
theorem dX3_walkLane_51 : decode cX3_walkLane 51 = .ok (.iload_n 1, 1) := by decide +kernel
theorem dX3_walkLane_52 : decode cX3_walkLane 52 = .ok (.imul, 1) := by decide +kernel
theorem dX3_walkLane_53 : decode cX3_walkLane 53 = .ok (.iadd, 1) := by decide +kernel
theorem dX3_walkLane_54 : decode cX3_walkLane 54 = .ok (.invokestatic 65, 3) := by decide +kernel
theorem dX3_walkLane_57 : decode cX3_walkLane 57 = .ok (.iastore, 1) := by decide +kernel
theorem dX3_walkLane_58 : decode cX3_walkLane 58 = .ok (.aload_n 0, 1) := by decide +kernel
theorem dX3_walkLane_59 : decode cX3_walkLane 59 = .ok (.getfield 15, 3) := by decide +kernel
theorem dX3_walkLane_62 : decode cX3_walkLane 62 = .ok (.iconst 3, 1) := by decide +kernel
theorem dX3_walkLane_63 : decode cX3_walkLane 63 = .ok (.iload_n 3, 1) := by decide +kernel
theorem dX3_walkLane_64 : decode cX3_walkLane 64 = .ok (.iconst 2, 1) := by decide +kernel
theorem dX3_walkLane_65 : decode cX3_walkLane 65 = .ok (.iload_n 1, 1) := by decide +kernel
theorem dX3_walkLane_66 : decode cX3_walkLane 66 = .ok (.imul, 1) := by decide +kernel
theorem dX3_walkLane_67 : decode cX3_walkLane 67 = .ok (.iadd, 1) := by decide +kernel
theorem dX3_walkLane_68 : decode cX3_walkLane 68 = .ok (.aload_n 0, 1) := by decide +kernel
theorem dX3_walkLane_69 : decode cX3_walkLane 69 = .ok (.getfield 11, 3) := by decide +kernel
theorem dX3_walkLane_72 : decode cX3_walkLane 72 = .ok (.iconst 0, 1) := by decide +kernel
theorem dX3_walkLane_73 : decode cX3_walkLane 73 = .ok (.iaload, 1) := by decide +kernel
theorem dX3_walkLane_74 : decode cX3_walkLane 74 = .ok (.iload_n 1, 1) := by decide +kernel
theorem dX3_walkLane_75 : decode cX3_walkLane 75 = .ok (.iadd, 1) := by decide +kernel
theorem dX3_walkLane_76 : decode cX3_walkLane 76 = .ok (.invokestatic 65, 3) := by decide +kernel
theorem dX3_walkLane_79 : decode cX3_walkLane 79 = .ok (.iastore, 1) := by decide +kernel
theorem dX3_walkLane_80 : decode cX3_walkLane 80 = .ok (.aload_n 0, 1) := by decide +kernel
theorem dX3_walkLane_81 : decode cX3_walkLane 81 = .ok (.getfield 15, 3) := by decide +kernel
theorem dX3_walkLane_84 : decode cX3_walkLane 84 = .ok (.iconst 1, 1) := by decide +kernel
theorem dX3_walkLane_85 : decode cX3_walkLane 85 = .ok (.ldc 57, 2) := by decide +kernel
theorem dX3_walkLane_87 : decode cX3_walkLane 87 = .ok (.iastore, 1) := by decide +kernel
theorem dX3_walkLane_88 : decode cX3_walkLane 88 = .ok (.aload_n 0, 1) := by decide +kernel
theorem dX3_walkLane_89 : decode cX3_walkLane 89 = .ok (.getfield 15, 3) := by decide +kernel
theorem dX3_walkLane_92 : decode cX3_walkLane 92 = .ok (.iconst 2, 1) := by decide +kernel
theorem dX3_walkLane_93 : decode cX3_walkLane 93 = .ok (.ldc 57, 2) := by decide +kernel
theorem dX3_walkLane_95 : decode cX3_walkLane 95 = .ok (.iastore, 1) := by decide +kernel
theorem dX3_walkLane_96 : decode cX3_walkLane 96 = .ok (.aload_n 0, 1) := by decide +kernel
theorem dX3_walkLane_97 : decode cX3_walkLane 97 = .ok (.getfield 15, 3) := by decide +kernel
theorem dX3_walkLane_100 : decode cX3_walkLane 100 = .ok (.iconst 4, 1) := by decide +kernel
theorem dX3_walkLane_101 : decode cX3_walkLane 101 = .ok (.ldc 57, 2) := by decide +kernel
theorem dX3_walkLane_103 : decode cX3_walkLane 103 = .ok (.iastore, 1) := by decide +kernel
theorem dX3_walkLane_104 : decode cX3_walkLane 104 = .ok (.aload_n 0, 1) := by decide +kernel
theorem dX3_walkLane_105 : decode cX3_walkLane 105 = .ok (.getfield 18, 3) := by decide +kernel
theorem dX3_walkLane_108 : decode cX3_walkLane 108 = .ok (.ifCond .ne 10, 3) := by decide +kernel
theorem dX3_walkLane_111 : decode cX3_walkLane 111 = .ok (.aload_n 0, 1) := by decide +kernel
theorem dX3_walkLane_112 : decode cX3_walkLane 112 = .ok (.invokevirtual 71, 3) := by decide +kernel
theorem dX3_walkLane_115 : decode cX3_walkLane 115 = .ok (.goto 8, 3) := by decide +kernel
theorem dX3_walkLane_118 : decode cX3_walkLane 118 = .ok (.aload_n 0, 1) := by decide +kernel
theorem dX3_walkLane_119 : decode cX3_walkLane 119 = .ok (.iload_n 1, 1) := by decide +kernel
theorem dX3_walkLane_120 : decode cX3_walkLane 120 = .ok (.invokevirtual 74, 3) := by decide +kernel
theorem dX3_walkLane_123 : decode cX3_walkLane 123 = .ok (.aload_n 0, 1) := by decide +kernel
theorem dX3_walkLane_124 : decode cX3_walkLane 124 = .ok (.invokevirtual 68, 3) := by decide +kernel
theorem dX3_walkLane_127 : decode cX3_walkLane 127 = .ok (.return_, 1) := by decide +kernel
theorem dX3_skipLane_0 : decode cX3_skipLane 0 = .ok (.iconst 0, 1) := by decide +kernel
theorem dX3_skipLane_1 : decode cX3_skipLane 1 = .ok (.istore_n 1, 1) := by decide +kernel
theorem dX3_skipLane_2 : decode cX3_skipLane 2 = .ok (.iload_n 1, 1) := by decide +kernel
theorem dX3_skipLane_3 : decode cX3_skipLane 3 = .ok (.iconst 5, 1) := by decide +kernel
theorem dX3_skipLane_4 : decode cX3_skipLane 4 = .ok (.if_icmp .ge 30, 3) := by decide +kernel
theorem dX3_skipLane_7 : decode cX3_skipLane 7 = .ok (.aload_n 0, 1) := by decide +kernel
theorem dX3_skipLane_8 : decode cX3_skipLane 8 = .ok (.getfield 15, 3) := by decide +kernel
theorem dX3_skipLane_11 : decode cX3_skipLane 11 = .ok (.iload_n 1, 1) := by decide +kernel
theorem dX3_skipLane_12 : decode cX3_skipLane 12 = .ok (.aload_n 0, 1) := by decide +kernel
theorem dX3_skipLane_13 : decode cX3_skipLane 13 = .ok (.getfield 15, 3) := by decide +kernel
theorem dX3_skipLane_16 : decode cX3_skipLane 16 = .ok (.iload_n 1, 1) := by decide +kernel
theorem dX3_skipLane_17 : decode cX3_skipLane 17 = .ok (.iaload, 1) := by decide +kernel
theorem dX3_skipLane_18 : decode cX3_skipLane 18 = .ok (.aload_n 0, 1) := by decide +kernel
theorem dX3_skipLane_19 : decode cX3_skipLane 19 = .ok (.getfield 11, 3) := by decide +kernel
theorem dX3_skipLane_22 : decode cX3_skipLane 22 = .ok (.iload_n 1, 1) := by decide +kernel
theorem dX3_skipLane_23 : decode cX3_skipLane 23 = .ok (.iaload, 1) := by decide +kernel
theorem dX3_skipLane_24 : decode cX3_skipLane 24 = .ok (.invokestatic 65, 3) := by decide +kernel
theorem dX3_skipLane_27 : decode cX3_skipLane 27 = .ok (.iastore, 1) := by decide +kernel
theorem dX3_skipLane_28 : decode cX3_skipLane 28 = .ok (.iinc 1 1, 3) := by decide +kernel
theorem dX3_skipLane_31 : decode cX3_skipLane 31 = .ok (.goto (-29), 3) := by decide +kernel
theorem dX3_skipLane_34 : decode cX3_skipLane 34 = .ok (.return_, 1) := by decide +kernel
theorem dX3_turnInLane_0 : decode cX3_turnInLane 0 = .ok (.iconst 2, 1) := by decide +kernel
theorem dX3_turnInLane_1 : decode cX3_turnInLane 1 = .ok (.aload_n 0, 1) := by decide +kernel
theorem dX3_turnInLane_2 : decode cX3_turnInLane 2 = .ok (.getfield 18, 3) := by decide +kernel
theorem dX3_turnInLane_5 : decode cX3_turnInLane 5 = .ok (.imul, 1) := by decide +kernel
theorem dX3_turnInLane_6 : decode cX3_turnInLane 6 = .ok (.istore_n 2, 1) := by decide +kernel
theorem dX3_turnInLane_7 : decode cX3_turnInLane 7 = .ok (.iconst 2, 1) := by decide +kernel
theorem dX3_turnInLane_8 : decode cX3_turnInLane 8 = .ok (.iload_n 1, 1) := by decide +kernel
theorem dX3_turnInLane_9 : decode cX3_turnInLane 9 = .ok (.aload_n 0, 1) := by decide +kernel
theorem dX3_turnInLane_10 : decode cX3_turnInLane 10 = .ok (.getfield 22, 3) := by decide +kernel
theorem dX3_turnInLane_13 : decode cX3_turnInLane 13 = .ok (.isub, 1) := by decide +kernel
theorem dX3_turnInLane_14 : decode cX3_turnInLane 14 = .ok (.imul, 1) := by decide +kernel
theorem dX3_turnInLane_15 : decode cX3_turnInLane 15 = .ok (.istore_n 3, 1) := by decide +kernel
theorem dX3_turnInLane_16 : decode cX3_turnInLane 16 = .ok (.iconst 2, 1) := by decide +kernel
theorem dX3_turnInLane_17 : decode cX3_turnInLane 17 = .ok (.iload_n 1, 1) := by decide +kernel
theorem dX3_turnInLane_18 : decode cX3_turnInLane 18 = .ok (.aload_n 0, 1) := by decide +kernel
theorem dX3_turnInLane_19 : decode cX3_turnInLane 19 = .ok (.getfield 25, 3) := by decide +kernel
theorem dX3_turnInLane_22 : decode cX3_turnInLane 22 = .ok (.isub, 1) := by decide +kernel
theorem dX3_turnInLane_23 : decode cX3_turnInLane 23 = .ok (.imul, 1) := by decide +kernel
theorem dX3_turnInLane_24 : decode cX3_turnInLane 24 = .ok (.istore 4, 2) := by decide +kernel
theorem dX3_turnInLane_26 : decode cX3_turnInLane 26 = .ok (.iload_n 2, 1) := by decide +kernel
theorem dX3_turnInLane_27 : decode cX3_turnInLane 27 = .ok (.iload_n 3, 1) := by decide +kernel
theorem dX3_turnInLane_28 : decode cX3_turnInLane 28 = .ok (.iload 4, 2) := by decide +kernel
theorem dX3_turnInLane_30 : decode cX3_turnInLane 30 = .ok (.invokestatic 65, 3) := by decide +kernel
theorem dX3_turnInLane_33 : decode cX3_turnInLane 33 = .ok (.invokestatic 65, 3) := by decide +kernel
theorem dX3_turnInLane_36 : decode cX3_turnInLane 36 = .ok (.istore 5, 2) := by decide +kernel
theorem dX3_turnInLane_38 : decode cX3_turnInLane 38 = .ok (.aload_n 0, 1) := by decide +kernel
theorem dX3_turnInLane_39 : decode cX3_turnInLane 39 = .ok (.getfield 15, 3) := by decide +kernel
theorem dX3_turnInLane_42 : decode cX3_turnInLane 42 = .ok (.iconst 0, 1) := by decide +kernel
theorem dX3_turnInLane_43 : decode cX3_turnInLane 43 = .ok (.aload_n 0, 1) := by decide +kernel
theorem dX3_turnInLane_44 : decode cX3_turnInLane 44 = .ok (.getfield 15, 3) := by decide +kernel
theorem dX3_turnInLane_47 : decode cX3_turnInLane 47 = .ok (.iconst 0, 1) := by decide +kernel
theorem dX3_turnInLane_48 : decode cX3_turnInLane 48 = .ok (.iaload, 1) := by decide +kernel
theorem dX3_turnInLane_49 : decode cX3_turnInLane 49 = .ok (.aload_n 0, 1) := by decide +kernel
theorem dX3_turnInLane_50 : decode cX3_turnInLane 50 = .ok (.getfield 11, 3) := by decide +kernel
theorem dX3_turnInLane_53 : decode cX3_turnInLane 53 = .ok (.iconst 0, 1) := by decide +kernel
theorem dX3_turnInLane_54 : decode cX3_turnInLane 54 = .ok (.iaload, 1) := by decide +kernel
theorem dX3_turnInLane_55 : decode cX3_turnInLane 55 = .ok (.iload 5, 2) := by decide +kernel
theorem dX3_turnInLane_57 : decode cX3_turnInLane 57 = .ok (.iadd, 1) := by decide +kernel
theorem dX3_turnInLane_58 : decode cX3_turnInLane 58 = .ok (.invokestatic 65, 3) := by decide +kernel
theorem dX3_turnInLane_61 : decode cX3_turnInLane 61 = .ok (.iastore, 1) := by decide +kernel
theorem dX3_turnInLane_62 : decode cX3_turnInLane 62 = .ok (.aload_n 0, 1) := by decide +kernel
theorem dX3_turnInLane_63 : decode cX3_turnInLane 63 = .ok (.getfield 15, 3) := by decide +kernel
theorem dX3_turnInLane_66 : decode cX3_turnInLane 66 = .ok (.iconst 3, 1) := by decide +kernel
theorem dX3_turnInLane_67 : decode cX3_turnInLane 67 = .ok (.aload_n 0, 1) := by decide +kernel
theorem dX3_turnInLane_68 : decode cX3_turnInLane 68 = .ok (.getfield 15, 3) := by decide +kernel
theorem dX3_turnInLane_71 : decode cX3_turnInLane 71 = .ok (.iconst 3, 1) := by decide +kernel
theorem dX3_turnInLane_72 : decode cX3_turnInLane 72 = .ok (.iaload, 1) := by decide +kernel
theorem dX3_turnInLane_73 : decode cX3_turnInLane 73 = .ok (.aload_n 0, 1) := by decide +kernel
theorem dX3_turnInLane_74 : decode cX3_turnInLane 74 = .ok (.getfield 11, 3) := by decide +kernel
theorem dX3_turnInLane_77 : decode cX3_turnInLane 77 = .ok (.iconst 3, 1) := by decide +kernel
theorem dX3_turnInLane_78 : decode cX3_turnInLane 78 = .ok (.iaload, 1) := by decide +kernel
theorem dX3_turnInLane_79 : decode cX3_turnInLane 79 = .ok (.iload 5, 2) := by decide +kernel
theorem dX3_turnInLane_81 : decode cX3_turnInLane 81 = .ok (.iadd, 1) := by decide +kernel
theorem dX3_turnInLane_82 : decode cX3_turnInLane 82 = .ok (.invokestatic 65, 3) := by decide +kernel
theorem dX3_turnInLane_85 : decode cX3_turnInLane 85 = .ok (.iastore, 1) := by decide +kernel
theorem dX3_turnInLane_86 : decode cX3_turnInLane 86 = .ok (.aload_n 0, 1) := by decide +kernel
theorem dX3_turnInLane_87 : decode cX3_turnInLane 87 = .ok (.getfield 15, 3) := by decide +kernel
theorem dX3_turnInLane_90 : decode cX3_turnInLane 90 = .ok (.iconst 1, 1) := by decide +kernel
theorem dX3_turnInLane_91 : decode cX3_turnInLane 91 = .ok (.aload_n 0, 1) := by decide +kernel
theorem dX3_turnInLane_92 : decode cX3_turnInLane 92 = .ok (.getfield 11, 3) := by decide +kernel
theorem dX3_turnInLane_95 : decode cX3_turnInLane 95 = .ok (.iconst 1, 1) := by decide +kernel
theorem dX3_turnInLane_96 : decode cX3_turnInLane 96 = .ok (.iaload, 1) := by decide +kernel
theorem dX3_turnInLane_97 : decode cX3_turnInLane 97 = .ok (.iload_n 2, 1) := by decide +kernel
theorem dX3_turnInLane_98 : decode cX3_turnInLane 98 = .ok (.iadd, 1) := by decide +kernel
theorem dX3_turnInLane_99 : decode cX3_turnInLane 99 = .ok (.iastore, 1) := by decide +kernel
theorem dX3_turnInLane_100 : decode cX3_turnInLane 100 = .ok (.aload_n 0, 1) := by decide +kernel
theorem dX3_turnInLane_101 : decode cX3_turnInLane 101 = .ok (.getfield 15, 3) := by decide +kernel
theorem dX3_turnInLane_104 : decode cX3_turnInLane 104 = .ok (.iconst 2, 1) := by decide +kernel
theorem dX3_turnInLane_105 : decode cX3_turnInLane 105 = .ok (.aload_n 0, 1) := by decide +kernel
theorem dX3_turnInLane_106 : decode cX3_turnInLane 106 = .ok (.getfield 11, 3) := by decide +kernel
theorem dX3_turnInLane_109 : decode cX3_turnInLane 109 = .ok (.iconst 2, 1) := by decide +kernel
theorem dX3_turnInLane_110 : decode cX3_turnInLane 110 = .ok (.iaload, 1) := by decide +kernel
theorem dX3_turnInLane_111 : decode cX3_turnInLane 111 = .ok (.iload_n 3, 1) := by decide +kernel
theorem dX3_turnInLane_112 : decode cX3_turnInLane 112 = .ok (.iadd, 1) := by decide +kernel
theorem dX3_turnInLane_113 : decode cX3_turnInLane 113 = .ok (.iastore, 1) := by decide +kernel
theorem dX3_turnInLane_114 : decode cX3_turnInLane 114 = .ok (.aload_n 0, 1) := by decide +kernel
theorem dX3_turnInLane_115 : decode cX3_turnInLane 115 = .ok (.getfield 11, 3) := by decide +kernel
theorem dX3_turnInLane_118 : decode cX3_turnInLane 118 = .ok (.iconst 1, 1) := by decide +kernel
theorem dX3_turnInLane_119 : decode cX3_turnInLane 119 = .ok (.iaload, 1) := by decide +kernel
theorem dX3_turnInLane_120 : decode cX3_turnInLane 120 = .ok (.iload_n 3, 1) := by decide +kernel
theorem dX3_turnInLane_121 : decode cX3_turnInLane 121 = .ok (.iload 4, 2) := by decide +kernel
theorem dX3_turnInLane_123 : decode cX3_turnInLane 123 = .ok (.invokestatic 65, 3) := by decide +kernel
theorem dX3_turnInLane_126 : decode cX3_turnInLane 126 = .ok (.iadd, 1) := by decide +kernel
theorem dX3_turnInLane_127 : decode cX3_turnInLane 127 = .ok (.istore 6, 2) := by decide +kernel
theorem dX3_turnInLane_129 : decode cX3_turnInLane 129 = .ok (.aload_n 0, 1) := by decide +kernel
theorem dX3_turnInLane_130 : decode cX3_turnInLane 130 = .ok (.getfield 11, 3) := by decide +kernel
theorem dX3_turnInLane_133 : decode cX3_turnInLane 133 = .ok (.iconst 2, 1) := by decide +kernel
theorem dX3_turnInLane_134 : decode cX3_turnInLane 134 = .ok (.iaload, 1) := by decide +kernel
theorem dX3_turnInLane_135 : decode cX3_turnInLane 135 = .ok (.iload_n 2, 1) := by decide +kernel
theorem dX3_turnInLane_136 : decode cX3_turnInLane 136 = .ok (.iload 4, 2) := by decide +kernel
theorem dX3_turnInLane_138 : decode cX3_turnInLane 138 = .ok (.invokestatic 65, 3) := by decide +kernel
theorem dX3_turnInLane_141 : decode cX3_turnInLane 141 = .ok (.iadd, 1) := by decide +kernel
theorem dX3_turnInLane_142 : decode cX3_turnInLane 142 = .ok (.istore 7, 2) := by decide +kernel
theorem dX3_turnInLane_144 : decode cX3_turnInLane 144 = .ok (.aload_n 0, 1) := by decide +kernel
theorem dX3_turnInLane_145 : decode cX3_turnInLane 145 = .ok (.getfield 15, 3) := by decide +kernel
theorem dX3_turnInLane_148 : decode cX3_turnInLane 148 = .ok (.iconst 4, 1) := by decide +kernel
theorem dX3_turnInLane_149 : decode cX3_turnInLane 149 = .ok (.aload_n 0, 1) := by decide +kernel
theorem dX3_turnInLane_150 : decode cX3_turnInLane 150 = .ok (.getfield 11, 3) := by decide +kernel
theorem dX3_turnInLane_153 : decode cX3_turnInLane 153 = .ok (.iconst 4, 1) := by decide +kernel
theorem dX3_turnInLane_154 : decode cX3_turnInLane 154 = .ok (.iaload, 1) := by decide +kernel
theorem dX3_turnInLane_155 : decode cX3_turnInLane 155 = .ok (.iload 5, 2) := by decide +kernel
theorem dX3_turnInLane_157 : decode cX3_turnInLane 157 = .ok (.iadd, 1) := by decide +kernel
theorem dX3_turnInLane_158 : decode cX3_turnInLane 158 = .ok (.iload 6, 2) := by decide +kernel
theorem dX3_turnInLane_160 : decode cX3_turnInLane 160 = .ok (.iload 7, 2) := by decide +kernel
theorem dX3_turnInLane_162 : decode cX3_turnInLane 162 = .ok (.invokestatic 65, 3) := by decide +kernel
theorem dX3_turnInLane_165 : decode cX3_turnInLane 165 = .ok (.invokestatic 65, 3) := by decide +kernel
theorem dX3_turnInLane_168 : decode cX3_turnInLane 168 = .ok (.iastore, 1) := by decide +kernel
theorem dX3_turnInLane_169 : decode cX3_turnInLane 169 = .ok (.return_, 1) := by decide +kernel
theorem dX3_takeNext_0 : decode cX3_takeNext 0 = .ok (.iconst 0, 1) := by decide +kernel
theorem dX3_takeNext_1 : decode cX3_takeNext 1 = .ok (.istore_n 1, 1) := by decide +kernel
theorem dX3_takeNext_2 : decode cX3_takeNext 2 = .ok (.iload_n 1, 1) := by decide +kernel
theorem dX3_takeNext_3 : decode cX3_takeNext 3 = .ok (.iconst 5, 1) := by decide +kernel
theorem dX3_takeNext_4 : decode cX3_takeNext 4 = .ok (.if_icmp .ge 21, 3) := by decide +kernel
theorem dX3_takeNext_7 : decode cX3_takeNext 7 = .ok (.aload_n 0, 1) := by decide +kernel
theorem dX3_takeNext_8 : decode cX3_takeNext 8 = .ok (.getfield 11, 3) := by decide +kernel
theorem dX3_takeNext_11 : decode cX3_takeNext 11 = .ok (.iload_n 1, 1) := by decide +kernel
theorem dX3_takeNext_12 : decode cX3_takeNext 12 = .ok (.aload_n 0, 1) := by decide +kernel
theorem dX3_takeNext_13 : decode cX3_takeNext 13 = .ok (.getfield 15, 3) := by decide +kernel
theorem dX3_takeNext_16 : decode cX3_takeNext 16 = .ok (.iload_n 1, 1) := by decide +kernel
theorem dX3_takeNext_17 : decode cX3_takeNext 17 = .ok (.iaload, 1) := by decide +kernel
theorem dX3_takeNext_18 : decode cX3_takeNext 18 = .ok (.iastore, 1) := by decide +kernel
theorem dX3_takeNext_19 : decode cX3_takeNext 19 = .ok (.iinc 1 1, 3) := by decide +kernel
theorem dX3_takeNext_22 : decode cX3_takeNext 22 = .ok (.goto (-20), 3) := by decide +kernel
theorem dX3_takeNext_25 : decode cX3_takeNext 25 = .ok (.return_, 1) := by decide +kernel
theorem dX4_init_0 : decode cX4_init 0 = .ok (.aload_n 0, 1) := by decide +kernel
theorem dX4_init_1 : decode cX4_init 1 = .ok (.invokespecial 3, 3) := by decide +kernel
theorem dX4_init_4 : decode cX4_init 4 = .ok (.aload_n 0, 1) := by decide +kernel
theorem dX4_init_5 : decode cX4_init 5 = .ok (.bipush 10, 2) := by decide +kernel
theorem dX4_init_7 : decode cX4_init 7 = .ok (.newarray .int, 2) := by decide +kernel
theorem dX4_init_9 : decode cX4_init 9 = .ok (.putfield 9, 3) := by decide +kernel
theorem dX4_init_12 : decode cX4_init 12 = .ok (.aload_n 0, 1) := by decide +kernel
theorem dX4_init_13 : decode cX4_init 13 = .ok (.bipush 6, 2) := by decide +kernel
theorem dX4_init_15 : decode cX4_init 15 = .ok (.newarray .int, 2) := by decide +kernel
theorem dX4_init_17 : decode cX4_init 17 = .ok (.putfield 15, 3) := by decide +kernel
theorem dX4_init_20 : decode cX4_init 20 = .ok (.aload_n 0, 1) := by decide +kernel
theorem dX4_init_21 : decode cX4_init 21 = .ok (.bipush 6, 2) := by decide +kernel
theorem dX4_init_23 : decode cX4_init 23 = .ok (.newarray .int, 2) := by decide +kernel
theorem dX4_init_25 : decode cX4_init 25 = .ok (.putfield 18, 3) := by decide +kernel
theorem dX4_init_28 : decode cX4_init 28 = .ok (.aload_n 0, 1) := by decide +kernel
theorem dX4_init_29 : decode cX4_init 29 = .ok (.bipush 6, 2) := by decide +kernel
theorem dX4_init_31 : decode cX4_init 31 = .ok (.newarray .long, 2) := by decide +kernel
theorem dX4_init_33 : decode cX4_init 33 = .ok (.putfield 21, 3) := by decide +kernel
theorem dX4_init_36 : decode cX4_init 36 = .ok (.aload_n 0, 1) := by decide +kernel
theorem dX4_init_37 : decode cX4_init 37 = .ok (.sipush 366, 3) := by decide +kernel
theorem dX4_init_40 : decode cX4_init 40 = .ok (.newarray .long, 2) := by decide +kernel
theorem dX4_init_42 : decode cX4_init 42 = .ok (.putfield 25, 3) := by decide +kernel
theorem dX4_init_45 : decode cX4_init 45 = .ok (.aload_n 0, 1) := by decide +kernel
theorem dX4_init_46 : decode cX4_init 46 = .ok (.sipush 366, 3) := by decide +kernel
theorem dX4_init_49 : decode cX4_init 49 = .ok (.newarray .int, 2) := by decide +kernel
theorem dX4_init_51 : decode cX4_init 51 = .ok (.putfield 28, 3) := by decide +kernel
theorem dX4_init_54 : decode cX4_init 54 = .ok (.return_, 1) := by decide +kernel
theorem dX4_cell_0 : decode cX4_cell 0 = .ok (.iconst 0, 1) := by decide +kernel
theorem dX4_cell_1 : decode cX4_cell 1 = .ok (.iload_n 1, 1) := by decide +kernel
theorem dX4_cell_2 : decode cX4_cell 2 = .ok (.bipush (-40), 2) := by decide +kernel
theorem dX4_cell_4 : decode cX4_cell 4 = .ok (.isub, 1) := by decide +kernel
theorem dX4_cell_5 : decode cX4_cell 5 = .ok (.bipush 60, 2) := by decide +kernel
theorem dX4_cell_7 : decode cX4_cell 7 = .ok (.invokestatic 31, 3) := by decide +kernel
theorem dX4_cell_10 : decode cX4_cell 10 = .ok (.invokestatic 37, 3) := by decide +kernel
theorem dX4_cell_13 : decode cX4_cell 13 = .ok (.istore_n 2, 1) := by decide +kernel
theorem dX4_cell_14 : decode cX4_cell 14 = .ok (.iconst 0, 1) := by decide +kernel
theorem dX4_cell_15 : decode cX4_cell 15 = .ok (.iload_n 0, 1) := by decide +kernel
theorem dX4_cell_16 : decode cX4_cell 16 = .ok (.iconst 5, 1) := by decide +kernel
theorem dX4_cell_17 : decode cX4_cell 17 = .ok (.invokestatic 31, 3) := by decide +kernel
theorem dX4_cell_20 : decode cX4_cell 20 = .ok (.invokestatic 37, 3) := by decide +kernel
theorem dX4_cell_23 : decode cX4_cell 23 = .ok (.bipush 61, 2) := by decide +kernel
theorem dX4_cell_25 : decode cX4_cell 25 = .ok (.imul, 1) := by decide +kernel
theorem dX4_cell_26 : decode cX4_cell 26 = .ok (.iload_n 2, 1) := by decide +kernel
theorem dX4_cell_27 : decode cX4_cell 27 = .ok (.iadd, 1) := by decide +kernel
theorem dX4_cell_28 : decode cX4_cell 28 = .ok (.ireturn, 1) := by decide +kernel
theorem dX4_solve_0 : decode cX4_solve 0 = .ok (.aload_n 0, 1) := by decide +kernel
theorem dX4_solve_1 : decode cX4_solve 1 = .ok (.aload_n 1, 1) := by decide +kernel
theorem dX4_solve_2 : decode cX4_solve 2 = .ok (.invokevirtual 40, 3) := by decide +kernel
theorem dX4_solve_5 : decode cX4_solve 5 = .ok (.ifCond .ne 4, 3) := by decide +kernel
theorem dX4_solve_8 : decode cX4_solve 8 = .ok (.return_, 1) := by decide +kernel
theorem dX4_solve_9 : decode cX4_solve 9 = .ok (.iconst 0, 1) := by decide +kernel
theorem dX4_solve_10 : decode cX4_solve 10 = .ok (.istore_n 2, 1) := by decide +kernel
theorem dX4_solve_11 : decode cX4_solve 11 = .ok (.iconst 0, 1) := by decide +kernel
theorem dX4_solve_12 : decode cX4_solve 12 = .ok (.istore_n 3, 1) := by decide +kernel
theorem dX4_solve_13 : decode cX4_solve 13 = .ok (.iload_n 3, 1) := by decide +kernel
theorem dX4_solve_14 : decode cX4_solve 14 = .ok (.iconst 5, 1) := by decide +kernel
theorem dX4_solve_15 : decode cX4_solve 15 = .ok (.if_icmp .ge 18, 3) := by decide +kernel
theorem dX4_solve_18 : decode cX4_solve 18 = .ok (.iload_n 2, 1) := by decide +kernel
theorem dX4_solve_19 : decode cX4_solve 19 = .ok (.aload_n 0, 1) := by decide +kernel
theorem dX4_solve_20 : decode cX4_solve 20 = .ok (.getfield 9, 3) := by decide +kernel
theorem dX4_solve_23 : decode cX4_solve 23 = .ok (.iload_n 3, 1) := by decide +kernel
theorem dX4_solve_24 : decode cX4_solve 24 = .ok (.iaload, 1) := by decide +kernel
theorem dX4_solve_25 : decode cX4_solve 25 = .ok (.iadd, 1) := by decide +kernel
theorem dX4_solve_26 : decode cX4_solve 26 = .ok (.istore_n 2, 1) := by decide +kernel
theorem dX4_solve_27 : decode cX4_solve 27 = .ok (.iinc 3 1, 3) := by decide +kernel
theorem dX4_solve_30 : decode cX4_solve 30 = .ok (.goto (-17), 3) := by decide +kernel
theorem dX4_solve_33 : decode cX4_solve 33 = .ok (.aload_n 0, 1) := by decide +kernel
theorem dX4_solve_34 : decode cX4_solve 34 = .ok (.getfield 21, 3) := by decide +kernel
theorem dX4_solve_37 : decode cX4_solve 37 = .ok (.iconst 0, 1) := by decide +kernel
theorem dX4_solve_38 : decode cX4_solve 38 = .ok (.lconst 1, 1) := by decide +kernel
theorem dX4_solve_39 : decode cX4_solve 39 = .ok (.lastore, 1) := by decide +kernel
theorem dX4_solve_40 : decode cX4_solve 40 = .ok (.iconst 1, 1) := by decide +kernel
theorem dX4_solve_41 : decode cX4_solve 41 = .ok (.istore_n 3, 1) := by decide +kernel
theorem dX4_solve_42 : decode cX4_solve 42 = .ok (.iload_n 3, 1) := by decide +kernel
theorem dX4_solve_43 : decode cX4_solve 43 = .ok (.iconst 5, 1) := by decide +kernel
theorem dX4_solve_44 : decode cX4_solve 44 = .ok (.if_icmp .gt 31, 3) := by decide +kernel
theorem dX4_solve_47 : decode cX4_solve 47 = .ok (.aload_n 0, 1) := by decide +kernel
theorem dX4_solve_48 : decode cX4_solve 48 = .ok (.getfield 21, 3) := by decide +kernel
theorem dX4_solve_51 : decode cX4_solve 51 = .ok (.iload_n 3, 1) := by decide +kernel
theorem dX4_solve_52 : decode cX4_solve 52 = .ok (.aload_n 0, 1) := by decide +kernel
theorem dX4_solve_53 : decode cX4_solve 53 = .ok (.getfield 21, 3) := by decide +kernel
theorem dX4_solve_56 : decode cX4_solve 56 = .ok (.iload_n 3, 1) := by decide +kernel
theorem dX4_solve_57 : decode cX4_solve 57 = .ok (.iconst 1, 1) := by decide +kernel
theorem dX4_solve_58 : decode cX4_solve 58 = .ok (.isub, 1) := by decide +kernel
theorem dX4_solve_59 : decode cX4_solve 59 = .ok (.laload, 1) := by decide +kernel
theorem dX4_solve_60 : decode cX4_solve 60 = .ok (.iload_n 2, 1) := by decide +kernel
theorem dX4_solve_61 : decode cX4_solve 61 = .ok (.i2l, 1) := by decide +kernel
theorem dX4_solve_62 : decode cX4_solve 62 = .ok (.lmul, 1) := by decide +kernel
theorem dX4_solve_63 : decode cX4_solve 63 = .ok (.lastore, 1) := by decide +kernel
theorem dX4_solve_64 : decode cX4_solve 64 = .ok (.aload_n 0, 1) := by decide +kernel
theorem dX4_solve_65 : decode cX4_solve 65 = .ok (.iload_n 3, 1) := by decide +kernel
theorem dX4_solve_66 : decode cX4_solve 66 = .ok (.invokevirtual 44, 3) := by decide +kernel
theorem dX4_solve_69 : decode cX4_solve 69 = .ok (.iinc 3 1, 3) := by decide +kernel
theorem dX4_solve_72 : decode cX4_solve 72 = .ok (.goto (-30), 3) := by decide +kernel
theorem dX4_solve_75 : decode cX4_solve 75 = .ok (.return_, 1) := by decide +kernel
theorem dX4_takeTerms_0 : decode cX4_takeTerms 0 = .ok (.iconst 0, 1) := by decide +kernel
theorem dX4_takeTerms_1 : decode cX4_takeTerms 1 = .ok (.istore_n 2, 1) := by decide +kernel
theorem dX4_takeTerms_2 : decode cX4_takeTerms 2 = .ok (.iconst 0, 1) := by decide +kernel
theorem dX4_takeTerms_3 : decode cX4_takeTerms 3 = .ok (.istore_n 3, 1) := by decide +kernel
theorem dX4_takeTerms_4 : decode cX4_takeTerms 4 = .ok (.iload_n 3, 1) := by decide +kernel
theorem dX4_takeTerms_5 : decode cX4_takeTerms 5 = .ok (.aload_n 0, 1) := by decide +kernel
theorem dX4_takeTerms_6 : decode cX4_takeTerms 6 = .ok (.getfield 9, 3) := by decide +kernel
theorem dX4_takeTerms_9 : decode cX4_takeTerms 9 = .ok (.arraylength, 1) := by decide +kernel
theorem dX4_takeTerms_10 : decode cX4_takeTerms 10 = .ok (.if_icmp .ge 46, 3) := by decide +kernel
theorem dX4_takeTerms_13 : decode cX4_takeTerms 13 = .ok (.iload_n 3, 1) := by decide +kernel
theorem dX4_takeTerms_14 : decode cX4_takeTerms 14 = .ok (.aload_n 1, 1) := by decide +kernel
theorem dX4_takeTerms_15 : decode cX4_takeTerms 15 = .ok (.arraylength, 1) := by decide +kernel
theorem dX4_takeTerms_16 : decode cX4_takeTerms 16 = .ok (.if_icmp .ge 40, 3) := by decide +kernel
theorem dX4_takeTerms_19 : decode cX4_takeTerms 19 = .ok (.iload_n 2, 1) := by decide +kernel
theorem dX4_takeTerms_20 : decode cX4_takeTerms 20 = .ok (.ifCond .ne 15, 3) := by decide +kernel
theorem dX4_takeTerms_23 : decode cX4_takeTerms 23 = .ok (.aload_n 0, 1) := by decide +kernel
theorem dX4_takeTerms_24 : decode cX4_takeTerms 24 = .ok (.getfield 9, 3) := by decide +kernel
theorem dX4_takeTerms_27 : decode cX4_takeTerms 27 = .ok (.iload_n 3, 1) := by decide +kernel
theorem dX4_takeTerms_28 : decode cX4_takeTerms 28 = .ok (.iaload, 1) := by decide +kernel
theorem dX4_takeTerms_29 : decode cX4_takeTerms 29 = .ok (.aload_n 1, 1) := by decide +kernel
theorem dX4_takeTerms_30 : decode cX4_takeTerms 30 = .ok (.iload_n 3, 1) := by decide +kernel
theorem dX4_takeTerms_31 : decode cX4_takeTerms 31 = .ok (.iaload, 1) := by decide +kernel
theorem dX4_takeTerms_32 : decode cX4_takeTerms 32 = .ok (.if_icmp .eq 7, 3) := by decide +kernel
theorem dX4_takeTerms_35 : decode cX4_takeTerms 35 = .ok (.iconst 1, 1) := by decide +kernel
theorem dX4_takeTerms_36 : decode cX4_takeTerms 36 = .ok (.goto 4, 3) := by decide +kernel
theorem dX4_takeTerms_39 : decode cX4_takeTerms 39 = .ok (.iconst 0, 1) := by decide +kernel
theorem dX4_takeTerms_40 : decode cX4_takeTerms 40 = .ok (.istore_n 2, 1) := by decide +kernel
theorem dX4_takeTerms_41 : decode cX4_takeTerms 41 = .ok (.aload_n 0, 1) := by decide +kernel
theorem dX4_takeTerms_42 : decode cX4_takeTerms 42 = .ok (.getfield 9, 3) := by decide +kernel
theorem dX4_takeTerms_45 : decode cX4_takeTerms 45 = .ok (.iload_n 3, 1) := by decide +kernel
theorem dX4_takeTerms_46 : decode cX4_takeTerms 46 = .ok (.aload_n 1, 1) := by decide +kernel
theorem dX4_takeTerms_47 : decode cX4_takeTerms 47 = .ok (.iload_n 3, 1) := by decide +kernel
theorem dX4_takeTerms_48 : decode cX4_takeTerms 48 = .ok (.iaload, 1) := by decide +kernel
theorem dX4_takeTerms_49 : decode cX4_takeTerms 49 = .ok (.iastore, 1) := by decide +kernel
theorem dX4_takeTerms_50 : decode cX4_takeTerms 50 = .ok (.iinc 3 1, 3) := by decide +kernel
theorem dX4_takeTerms_53 : decode cX4_takeTerms 53 = .ok (.goto (-49), 3) := by decide +kernel
theorem dX4_takeTerms_56 : decode cX4_takeTerms 56 = .ok (.iload_n 2, 1) := by decide +kernel
theorem dX4_takeTerms_57 : decode cX4_takeTerms 57 = .ok (.ireturn, 1) := by decide +kernel
theorem dX4_solvePeriod_0 : decode cX4_solvePeriod 0 = .ok (.bipush (-20), 2) := by decide +kernel
theorem dX4_solvePeriod_2 : decode cX4_solvePeriod 2 = .ok (.iconst 4, 1) := by decide +kernel
theorem dX4_solvePeriod_3 : decode cX4_solvePeriod 3 = .ok (.iconst 5, 1) := by decide +kernel
theorem dX4_solvePeriod_4 : decode cX4_solvePeriod 4 = .ok (.iload_n 1, 1) := by decide +kernel
theorem dX4_solvePeriod_5 : decode cX4_solvePeriod 5 = .ok (.isub, 1) := by decide +kernel
theorem dX4_solvePeriod_6 : decode cX4_solvePeriod 6 = .ok (.imul, 1) := by decide +kernel
theorem dX4_solvePeriod_7 : decode cX4_solvePeriod 7 = .ok (.isub, 1) := by decide +kernel
theorem dX4_solvePeriod_8 : decode cX4_solvePeriod 8 = .ok (.istore_n 2, 1) := by decide +kernel
theorem dX4_solvePeriod_9 : decode cX4_solvePeriod 9 = .ok (.aload_n 0, 1) := by decide +kernel
theorem dX4_solvePeriod_10 : decode cX4_solvePeriod 10 = .ok (.getfield 9, 3) := by decide +kernel
theorem dX4_solvePeriod_13 : decode cX4_solvePeriod 13 = .ok (.bipush 6, 2) := by decide +kernel
theorem dX4_solvePeriod_15 : decode cX4_solvePeriod 15 = .ok (.iaload, 1) := by decide +kernel
theorem dX4_solvePeriod_16 : decode cX4_solvePeriod 16 = .ok (.i2l, 1) := by decide +kernel
theorem dX4_solvePeriod_17 : decode cX4_solvePeriod 17 = .ok (.aload_n 0, 1) := by decide +kernel
theorem dX4_solvePeriod_18 : decode cX4_solvePeriod 18 = .ok (.getfield 21, 3) := by decide +kernel
theorem dX4_solvePeriod_21 : decode cX4_solvePeriod 21 = .ok (.iload_n 1, 1) := by decide +kernel
theorem dX4_solvePeriod_22 : decode cX4_solvePeriod 22 = .ok (.laload, 1) := by decide +kernel
theorem dX4_solvePeriod_23 : decode cX4_solvePeriod 23 = .ok (.lmul, 1) := by decide +kernel
theorem dX4_solvePeriod_24 : decode cX4_solvePeriod 24 = .ok (.lstore_n 3, 1) := by decide +kernel
theorem dX4_solvePeriod_25 : decode cX4_solvePeriod 25 = .ok (.aload_n 0, 1) := by decide +kernel
theorem dX4_solvePeriod_26 : decode cX4_solvePeriod 26 = .ok (.getfield 9, 3) := by decide +kernel
theorem dX4_solvePeriod_29 : decode cX4_solvePeriod 29 = .ok (.iconst 5, 1) := by decide +kernel
theorem dX4_solvePeriod_30 : decode cX4_solvePeriod 30 = .ok (.iaload, 1) := by decide +kernel
theorem dX4_solvePeriod_31 : decode cX4_solvePeriod 31 = .ok (.i2l, 1) := by decide +kernel
theorem dX4_solvePeriod_32 : decode cX4_solvePeriod 32 = .ok (.aload_n 0, 1) := by decide +kernel
theorem dX4_solvePeriod_33 : decode cX4_solvePeriod 33 = .ok (.getfield 21, 3) := by decide +kernel
theorem dX4_solvePeriod_36 : decode cX4_solvePeriod 36 = .ok (.iload_n 1, 1) := by decide +kernel
theorem dX4_solvePeriod_37 : decode cX4_solvePeriod 37 = .ok (.laload, 1) := by decide +kernel
theorem dX4_solvePeriod_38 : decode cX4_solvePeriod 38 = .ok (.lmul, 1) := by decide +kernel
theorem dX4_solvePeriod_39 : decode cX4_solvePeriod 39 = .ok (.lstore 5, 2) := by decide +kernel
theorem dX4_solvePeriod_41 : decode cX4_solvePeriod 41 = .ok (.aload_n 0, 1) := by decide +kernel
theorem dX4_solvePeriod_42 : decode cX4_solvePeriod 42 = .ok (.getfield 9, 3) := by decide +kernel
theorem dX4_solvePeriod_45 : decode cX4_solvePeriod 45 = .ok (.bipush 9, 2) := by decide +kernel
theorem dX4_solvePeriod_47 : decode cX4_solvePeriod 47 = .ok (.iaload, 1) := by decide +kernel
theorem dX4_solvePeriod_48 : decode cX4_solvePeriod 48 = .ok (.istore 7, 2) := by decide +kernel
theorem dX4_solvePeriod_50 : decode cX4_solvePeriod 50 = .ok (.lconst 0, 1) := by decide +kernel
theorem dX4_solvePeriod_51 : decode cX4_solvePeriod 51 = .ok (.lstore 8, 2) := by decide +kernel
theorem dX4_solvePeriod_53 : decode cX4_solvePeriod 53 = .ok (.aload_n 0, 1) := by decide +kernel
theorem dX4_solvePeriod_54 : decode cX4_solvePeriod 54 = .ok (.getfield 9, 3) := by decide +kernel
theorem dX4_solvePeriod_57 : decode cX4_solvePeriod 57 = .ok (.bipush 9, 2) := by decide +kernel
theorem dX4_solvePeriod_59 : decode cX4_solvePeriod 59 = .ok (.iaload, 1) := by decide +kernel
theorem dX4_solvePeriod_60 : decode cX4_solvePeriod 60 = .ok (.istore 10, 2) := by decide +kernel
theorem dX4_solvePeriod_62 : decode cX4_solvePeriod 62 = .ok (.iload 10, 2) := by decide +kernel
theorem dX4_solvePeriod_64 : decode cX4_solvePeriod 64 = .ok (.iload_n 2, 1) := by decide +kernel
theorem dX4_solvePeriod_65 : decode cX4_solvePeriod 65 = .ok (.if_icmp .lt 181, 3) := by decide +kernel
theorem dX4_solvePeriod_68 : decode cX4_solvePeriod 68 = .ok (.aload_n 0, 1) := by decide +kernel
theorem dX4_solvePeriod_69 : decode cX4_solvePeriod 69 = .ok (.iload_n 1, 1) := by decide +kernel
theorem dX4_solvePeriod_70 : decode cX4_solvePeriod 70 = .ok (.iload 10, 2) := by decide +kernel
theorem dX4_solvePeriod_72 : decode cX4_solvePeriod 72 = .ok (.invokevirtual 48, 3) := by decide +kernel
theorem dX4_solvePeriod_75 : decode cX4_solvePeriod 75 = .ok (.lstore 11, 2) := by decide +kernel
theorem dX4_solvePeriod_77 : decode cX4_solvePeriod 77 = .ok (.lload 5, 2) := by decide +kernel
theorem dX4_solvePeriod_79 : decode cX4_solvePeriod 79 = .ok (.lload 8, 2) := by decide +kernel
theorem dX4_solvePeriod_81 : decode cX4_solvePeriod 81 = .ok (.ladd, 1) := by decide +kernel
theorem dX4_solvePeriod_82 : decode cX4_solvePeriod 82 = .ok (.lload_n 3, 1) := by decide +kernel
theorem dX4_solvePeriod_83 : decode cX4_solvePeriod 83 = .ok (.iload 10, 2) := by decide +kernel
theorem dX4_solvePeriod_85 : decode cX4_solvePeriod 85 = .ok (.i2l, 1) := by decide +kernel
theorem dX4_solvePeriod_86 : decode cX4_solvePeriod 86 = .ok (.lmul, 1) := by decide +kernel
theorem dX4_solvePeriod_87 : decode cX4_solvePeriod 87 = .ok (.lsub, 1) := by decide +kernel
theorem dX4_solvePeriod_88 : decode cX4_solvePeriod 88 = .ok (.lstore 13, 2) := by decide +kernel
theorem dX4_solvePeriod_90 : decode cX4_solvePeriod 90 = .ok (.iload 10, 2) := by decide +kernel
theorem dX4_solvePeriod_92 : decode cX4_solvePeriod 92 = .ok (.aload_n 0, 1) := by decide +kernel
theorem dX4_solvePeriod_93 : decode cX4_solvePeriod 93 = .ok (.getfield 9, 3) := by decide +kernel
theorem dX4_solvePeriod_96 : decode cX4_solvePeriod 96 = .ok (.bipush 9, 2) := by decide +kernel
theorem dX4_solvePeriod_98 : decode cX4_solvePeriod 98 = .ok (.iaload, 1) := by decide +kernel
theorem dX4_solvePeriod_99 : decode cX4_solvePeriod 99 = .ok (.if_icmp .ge 15, 3) := by decide +kernel
theorem dX4_solvePeriod_102 : decode cX4_solvePeriod 102 = .ok (.lload 13, 2) := by decide +kernel
theorem dX4_solvePeriod_104 : decode cX4_solvePeriod 104 = .ok (.lload 11, 2) := by decide +kernel
theorem dX4_solvePeriod_106 : decode cX4_solvePeriod 106 = .ok (.lcmp, 1) := by decide +kernel
theorem dX4_solvePeriod_107 : decode cX4_solvePeriod 107 = .ok (.ifCond .ge 7, 3) := by decide +kernel
theorem dX4_solvePeriod_110 : decode cX4_solvePeriod 110 = .ok (.iconst 1, 1) := by decide +kernel
theorem dX4_solvePeriod_111 : decode cX4_solvePeriod 111 = .ok (.goto 4, 3) := by decide +kernel
theorem dX4_solvePeriod_114 : decode cX4_solvePeriod 114 = .ok (.iconst 0, 1) := by decide +kernel
theorem dX4_solvePeriod_115 : decode cX4_solvePeriod 115 = .ok (.istore 15, 2) := by decide +kernel
theorem dX4_solvePeriod_117 : decode cX4_solvePeriod 117 = .ok (.aload_n 0, 1) := by decide +kernel
theorem dX4_solvePeriod_118 : decode cX4_solvePeriod 118 = .ok (.getfield 25, 3) := by decide +kernel
theorem dX4_solvePeriod_121 : decode cX4_solvePeriod 121 = .ok (.iload_n 1, 1) := by decide +kernel
theorem dX4_solvePeriod_122 : decode cX4_solvePeriod 122 = .ok (.iload 10, 2) := by decide +kernel
theorem dX4_solvePeriod_124 : decode cX4_solvePeriod 124 = .ok (.invokestatic 52, 3) := by decide +kernel
theorem dX4_solvePeriod_127 : decode cX4_solvePeriod 127 = .ok (.iload 15, 2) := by decide +kernel
theorem dX4_solvePeriod_129 : decode cX4_solvePeriod 129 = .ok (.ifCond .eq 8, 3) := by decide +kernel
theorem dX4_solvePeriod_132 : decode cX4_solvePeriod 132 = .ok (.lload 13, 2) := by decide +kernel
theorem dX4_solvePeriod_134 : decode cX4_solvePeriod 134 = .ok (.goto 5, 3) := by decide +kernel
theorem dX4_solvePeriod_137 : decode cX4_solvePeriod 137 = .ok (.lload 11, 2) := by decide +kernel
theorem dX4_solvePeriod_139 : decode cX4_solvePeriod 139 = .ok (.lastore, 1) := by decide +kernel
theorem dX4_solvePeriod_140 : decode cX4_solvePeriod 140 = .ok (.aload_n 0, 1) := by decide +kernel
theorem dX4_solvePeriod_141 : decode cX4_solvePeriod 141 = .ok (.getfield 28, 3) := by decide +kernel
theorem dX4_solvePeriod_144 : decode cX4_solvePeriod 144 = .ok (.iload_n 1, 1) := by decide +kernel
theorem dX4_solvePeriod_145 : decode cX4_solvePeriod 145 = .ok (.iload 10, 2) := by decide +kernel
theorem dX4_solvePeriod_147 : decode cX4_solvePeriod 147 = .ok (.invokestatic 52, 3) := by decide +kernel
theorem dX4_solvePeriod_150 : decode cX4_solvePeriod 150 = .ok (.iload 15, 2) := by decide +kernel
theorem dX4_solvePeriod_152 : decode cX4_solvePeriod 152 = .ok (.ifCond .eq 8, 3) := by decide +kernel
theorem dX4_solvePeriod_155 : decode cX4_solvePeriod 155 = .ok (.iload 7, 2) := by decide +kernel
theorem dX4_solvePeriod_157 : decode cX4_solvePeriod 157 = .ok (.goto 5, 3) := by decide +kernel
theorem dX4_solvePeriod_160 : decode cX4_solvePeriod 160 = .ok (.iload 10, 2) := by decide +kernel
theorem dX4_solvePeriod_162 : decode cX4_solvePeriod 162 = .ok (.iastore, 1) := by decide +kernel
theorem dX4_solvePeriod_163 : decode cX4_solvePeriod 163 = .ok (.iload 10, 2) := by decide +kernel
theorem dX4_solvePeriod_165 : decode cX4_solvePeriod 165 = .ok (.aload_n 0, 1) := by decide +kernel
theorem dX4_solvePeriod_166 : decode cX4_solvePeriod 166 = .ok (.getfield 9, 3) := by decide +kernel
theorem dX4_solvePeriod_169 : decode cX4_solvePeriod 169 = .ok (.bipush 9, 2) := by decide +kernel
theorem dX4_solvePeriod_171 : decode cX4_solvePeriod 171 = .ok (.iaload, 1) := by decide +kernel
theorem dX4_solvePeriod_172 : decode cX4_solvePeriod 172 = .ok (.if_icmp .eq 17, 3) := by decide +kernel
theorem dX4_solvePeriod_175 : decode cX4_solvePeriod 175 = .ok (.lload 11, 2) := by decide +kernel
theorem dX4_solvePeriod_177 : decode cX4_solvePeriod 177 = .ok (.lload_n 3, 1) := by decide +kernel
theorem dX4_solvePeriod_178 : decode cX4_solvePeriod 178 = .ok (.iload 10, 2) := by decide +kernel
theorem dX4_solvePeriod_180 : decode cX4_solvePeriod 180 = .ok (.i2l, 1) := by decide +kernel
theorem dX4_solvePeriod_181 : decode cX4_solvePeriod 181 = .ok (.lmul, 1) := by decide +kernel
theorem dX4_solvePeriod_182 : decode cX4_solvePeriod 182 = .ok (.ladd, 1) := by decide +kernel
theorem dX4_solvePeriod_183 : decode cX4_solvePeriod 183 = .ok (.lload 8, 2) := by decide +kernel
theorem dX4_solvePeriod_185 : decode cX4_solvePeriod 185 = .ok (.lcmp, 1) := by decide +kernel
theorem dX4_solvePeriod_186 : decode cX4_solvePeriod 186 = .ok (.ifCond .gt 17, 3) := by decide +kernel
theorem dX4_solvePeriod_189 : decode cX4_solvePeriod 189 = .ok (.lload 11, 2) := by decide +kernel
theorem dX4_solvePeriod_191 : decode cX4_solvePeriod 191 = .ok (.lload_n 3, 1) := by decide +kernel
theorem dX4_solvePeriod_192 : decode cX4_solvePeriod 192 = .ok (.iload 10, 2) := by decide +kernel
theorem dX4_solvePeriod_194 : decode cX4_solvePeriod 194 = .ok (.i2l, 1) := by decide +kernel
theorem dX4_solvePeriod_195 : decode cX4_solvePeriod 195 = .ok (.lmul, 1) := by decide +kernel
theorem dX4_solvePeriod_196 : decode cX4_solvePeriod 196 = .ok (.ladd, 1) := by decide +kernel
theorem dX4_solvePeriod_197 : decode cX4_solvePeriod 197 = .ok (.lstore 8, 2) := by decide +kernel
theorem dX4_solvePeriod_199 : decode cX4_solvePeriod 199 = .ok (.iload 10, 2) := by decide +kernel
theorem dX4_solvePeriod_201 : decode cX4_solvePeriod 201 = .ok (.istore 7, 2) := by decide +kernel
theorem dX4_solvePeriod_203 : decode cX4_solvePeriod 203 = .ok (.iload 10, 2) := by decide +kernel
theorem dX4_solvePeriod_205 : decode cX4_solvePeriod 205 = .ok (.bipush (-20), 2) := by decide +kernel
theorem dX4_solvePeriod_207 : decode cX4_solvePeriod 207 = .ok (.if_icmp .lt 33, 3) := by decide +kernel
theorem dX4_solvePeriod_210 : decode cX4_solvePeriod 210 = .ok (.aload_n 0, 1) := by decide +kernel
theorem dX4_solvePeriod_211 : decode cX4_solvePeriod 211 = .ok (.getfield 18, 3) := by decide +kernel
theorem dX4_solvePeriod_214 : decode cX4_solvePeriod 214 = .ok (.iload_n 1, 1) := by decide +kernel
theorem dX4_solvePeriod_215 : decode cX4_solvePeriod 215 = .ok (.iload 7, 2) := by decide +kernel
theorem dX4_solvePeriod_217 : decode cX4_solvePeriod 217 = .ok (.iastore, 1) := by decide +kernel
theorem dX4_solvePeriod_218 : decode cX4_solvePeriod 218 = .ok (.aload_n 0, 1) := by decide +kernel
theorem dX4_solvePeriod_219 : decode cX4_solvePeriod 219 = .ok (.getfield 15, 3) := by decide +kernel
theorem dX4_solvePeriod_222 : decode cX4_solvePeriod 222 = .ok (.iload_n 1, 1) := by decide +kernel
theorem dX4_solvePeriod_223 : decode cX4_solvePeriod 223 = .ok (.iload 15, 2) := by decide +kernel
theorem dX4_solvePeriod_225 : decode cX4_solvePeriod 225 = .ok (.ifCond .eq 12, 3) := by decide +kernel
theorem dX4_solvePeriod_228 : decode cX4_solvePeriod 228 = .ok (.aload_n 0, 1) := by decide +kernel
theorem dX4_solvePeriod_229 : decode cX4_solvePeriod 229 = .ok (.getfield 15, 3) := by decide +kernel
theorem dX4_solvePeriod_232 : decode cX4_solvePeriod 232 = .ok (.iload_n 1, 1) := by decide +kernel
theorem dX4_solvePeriod_233 : decode cX4_solvePeriod 233 = .ok (.iaload, 1) := by decide +kernel
theorem dX4_solvePeriod_234 : decode cX4_solvePeriod 234 = .ok (.goto 5, 3) := by decide +kernel
theorem dX4_solvePeriod_237 : decode cX4_solvePeriod 237 = .ok (.iload 10, 2) := by decide +kernel
theorem dX4_solvePeriod_239 : decode cX4_solvePeriod 239 = .ok (.iastore, 1) := by decide +kernel
theorem dX4_solvePeriod_240 : decode cX4_solvePeriod 240 = .ok (.iinc 10 (-1), 3) := by decide +kernel
theorem dX4_solvePeriod_243 : decode cX4_solvePeriod 243 = .ok (.goto (-181), 3) := by decide +kernel
theorem dX4_solvePeriod_246 : decode cX4_solvePeriod 246 = .ok (.return_, 1) := by decide +kernel
theorem dX4_stayCost_0 : decode cX4_stayCost 0 = .ok (.lconst 0, 1) := by decide +kernel
theorem dX4_stayCost_1 : decode cX4_stayCost 1 = .ok (.lstore_n 3, 1) := by decide +kernel
theorem dX4_stayCost_2 : decode cX4_stayCost 2 = .ok (.iconst 0, 1) := by decide +kernel
theorem dX4_stayCost_3 : decode cX4_stayCost 3 = .ok (.istore 5, 2) := by decide +kernel
theorem dX4_stayCost_5 : decode cX4_stayCost 5 = .ok (.iload 5, 2) := by decide +kernel
theorem dX4_stayCost_7 : decode cX4_stayCost 7 = .ok (.iconst 5, 1) := by decide +kernel
theorem dX4_stayCost_8 : decode cX4_stayCost 8 = .ok (.if_icmp .ge 85, 3) := by decide +kernel
theorem dX4_stayCost_11 : decode cX4_stayCost 11 = .ok (.iload_n 2, 1) := by decide +kernel
theorem dX4_stayCost_12 : decode cX4_stayCost 12 = .ok (.iload 5, 2) := by decide +kernel
theorem dX4_stayCost_14 : decode cX4_stayCost 14 = .ok (.isub, 1) := by decide +kernel
theorem dX4_stayCost_15 : decode cX4_stayCost 15 = .ok (.istore 6, 2) := by decide +kernel
theorem dX4_stayCost_17 : decode cX4_stayCost 17 = .ok (.iload 6, 2) := by decide +kernel
theorem dX4_stayCost_19 : decode cX4_stayCost 19 = .ok (.ifCond .le 17, 3) := by decide +kernel
theorem dX4_stayCost_22 : decode cX4_stayCost 22 = .ok (.aload_n 0, 1) := by decide +kernel
theorem dX4_stayCost_23 : decode cX4_stayCost 23 = .ok (.getfield 9, 3) := by decide +kernel
theorem dX4_stayCost_26 : decode cX4_stayCost 26 = .ok (.bipush 7, 2) := by decide +kernel
theorem dX4_stayCost_28 : decode cX4_stayCost 28 = .ok (.iaload, 1) := by decide +kernel
theorem dX4_stayCost_29 : decode cX4_stayCost 29 = .ok (.iload 6, 2) := by decide +kernel
theorem dX4_stayCost_31 : decode cX4_stayCost 31 = .ok (.imul, 1) := by decide +kernel
theorem dX4_stayCost_32 : decode cX4_stayCost 32 = .ok (.i2l, 1) := by decide +kernel
theorem dX4_stayCost_33 : decode cX4_stayCost 33 = .ok (.goto 15, 3) := by decide +kernel
theorem dX4_stayCost_36 : decode cX4_stayCost 36 = .ok (.aload_n 0, 1) := by decide +kernel
theorem dX4_stayCost_37 : decode cX4_stayCost 37 = .ok (.getfield 9, 3) := by decide +kernel
theorem dX4_stayCost_40 : decode cX4_stayCost 40 = .ok (.bipush 8, 2) := by decide +kernel
theorem dX4_stayCost_42 : decode cX4_stayCost 42 = .ok (.iaload, 1) := by decide +kernel
theorem dX4_stayCost_43 : decode cX4_stayCost 43 = .ok (.iload 6, 2) := by decide +kernel
theorem dX4_stayCost_45 : decode cX4_stayCost 45 = .ok (.ineg, 1) := by decide +kernel
theorem dX4_stayCost_46 : decode cX4_stayCost 46 = .ok (.imul, 1) := by decide +kernel
theorem dX4_stayCost_47 : decode cX4_stayCost 47 = .ok (.i2l, 1) := by decide +kernel
theorem dX4_stayCost_48 : decode cX4_stayCost 48 = .ok (.lstore 7, 2) := by decide +kernel
theorem dX4_stayCost_50 : decode cX4_stayCost 50 = .ok (.lload_n 3, 1) := by decide +kernel
theorem dX4_stayCost_51 : decode cX4_stayCost 51 = .ok (.aload_n 0, 1) := by decide +kernel
theorem dX4_stayCost_52 : decode cX4_stayCost 52 = .ok (.getfield 9, 3) := by decide +kernel
theorem dX4_stayCost_55 : decode cX4_stayCost 55 = .ok (.iload 5, 2) := by decide +kernel
theorem dX4_stayCost_57 : decode cX4_stayCost 57 = .ok (.iaload, 1) := by decide +kernel
theorem dX4_stayCost_58 : decode cX4_stayCost 58 = .ok (.i2l, 1) := by decide +kernel
theorem dX4_stayCost_59 : decode cX4_stayCost 59 = .ok (.lload 7, 2) := by decide +kernel
theorem dX4_stayCost_61 : decode cX4_stayCost 61 = .ok (.aload_n 0, 1) := by decide +kernel
theorem dX4_stayCost_62 : decode cX4_stayCost 62 = .ok (.getfield 21, 3) := by decide +kernel
theorem dX4_stayCost_65 : decode cX4_stayCost 65 = .ok (.iload_n 1, 1) := by decide +kernel
theorem dX4_stayCost_66 : decode cX4_stayCost 66 = .ok (.iconst 1, 1) := by decide +kernel
theorem dX4_stayCost_67 : decode cX4_stayCost 67 = .ok (.isub, 1) := by decide +kernel
theorem dX4_stayCost_68 : decode cX4_stayCost 68 = .ok (.laload, 1) := by decide +kernel
theorem dX4_stayCost_69 : decode cX4_stayCost 69 = .ok (.lmul, 1) := by decide +kernel
theorem dX4_stayCost_70 : decode cX4_stayCost 70 = .ok (.aload_n 0, 1) := by decide +kernel
theorem dX4_stayCost_71 : decode cX4_stayCost 71 = .ok (.getfield 25, 3) := by decide +kernel
theorem dX4_stayCost_74 : decode cX4_stayCost 74 = .ok (.iload_n 1, 1) := by decide +kernel
theorem dX4_stayCost_75 : decode cX4_stayCost 75 = .ok (.iconst 1, 1) := by decide +kernel
theorem dX4_stayCost_76 : decode cX4_stayCost 76 = .ok (.isub, 1) := by decide +kernel
theorem dX4_stayCost_77 : decode cX4_stayCost 77 = .ok (.iload 6, 2) := by decide +kernel
theorem dX4_stayCost_79 : decode cX4_stayCost 79 = .ok (.invokestatic 52, 3) := by decide +kernel
theorem dX4_stayCost_82 : decode cX4_stayCost 82 = .ok (.laload, 1) := by decide +kernel
theorem dX4_stayCost_83 : decode cX4_stayCost 83 = .ok (.ladd, 1) := by decide +kernel
theorem dX4_stayCost_84 : decode cX4_stayCost 84 = .ok (.lmul, 1) := by decide +kernel
theorem dX4_stayCost_85 : decode cX4_stayCost 85 = .ok (.ladd, 1) := by decide +kernel
theorem dX4_stayCost_86 : decode cX4_stayCost 86 = .ok (.lstore_n 3, 1) := by decide +kernel
theorem dX4_stayCost_87 : decode cX4_stayCost 87 = .ok (.iinc 5 1, 3) := by decide +kernel
theorem dX4_stayCost_90 : decode cX4_stayCost 90 = .ok (.goto (-85), 3) := by decide +kernel
theorem dX4_stayCost_93 : decode cX4_stayCost 93 = .ok (.lload_n 3, 1) := by decide +kernel
theorem dX4_stayCost_94 : decode cX4_stayCost 94 = .ok (.lreturn, 1) := by decide +kernel
theorem dX4_strayActs_0 : decode cX4_strayActs 0 = .ok (.iconst 0, 1) := by decide +kernel
theorem dX4_strayActs_1 : decode cX4_strayActs 1 = .ok (.istore_n 1, 1) := by decide +kernel
theorem dX4_strayActs_2 : decode cX4_strayActs 2 = .ok (.iconst 1, 1) := by decide +kernel
theorem dX4_strayActs_3 : decode cX4_strayActs 3 = .ok (.istore_n 2, 1) := by decide +kernel
theorem dX4_strayActs_4 : decode cX4_strayActs 4 = .ok (.iload_n 2, 1) := by decide +kernel
theorem dX4_strayActs_5 : decode cX4_strayActs 5 = .ok (.iconst 5, 1) := by decide +kernel
theorem dX4_strayActs_6 : decode cX4_strayActs 6 = .ok (.if_icmp .gt 69, 3) := by decide +kernel
theorem dX4_strayActs_9 : decode cX4_strayActs 9 = .ok (.bipush (-20), 2) := by decide +kernel
theorem dX4_strayActs_11 : decode cX4_strayActs 11 = .ok (.istore_n 3, 1) := by decide +kernel
theorem dX4_strayActs_12 : decode cX4_strayActs 12 = .ok (.iload_n 3, 1) := by decide +kernel
theorem dX4_strayActs_13 : decode cX4_strayActs 13 = .ok (.aload_n 0, 1) := by decide +kernel
theorem dX4_strayActs_14 : decode cX4_strayActs 14 = .ok (.getfield 9, 3) := by decide +kernel
theorem dX4_strayActs_17 : decode cX4_strayActs 17 = .ok (.bipush 9, 2) := by decide +kernel
theorem dX4_strayActs_19 : decode cX4_strayActs 19 = .ok (.iaload, 1) := by decide +kernel
theorem dX4_strayActs_20 : decode cX4_strayActs 20 = .ok (.if_icmp .gt 49, 3) := by decide +kernel
theorem dX4_strayActs_23 : decode cX4_strayActs 23 = .ok (.iload_n 3, 1) := by decide +kernel
theorem dX4_strayActs_24 : decode cX4_strayActs 24 = .ok (.aload_n 0, 1) := by decide +kernel
theorem dX4_strayActs_25 : decode cX4_strayActs 25 = .ok (.getfield 15, 3) := by decide +kernel
theorem dX4_strayActs_28 : decode cX4_strayActs 28 = .ok (.iload_n 2, 1) := by decide +kernel
theorem dX4_strayActs_29 : decode cX4_strayActs 29 = .ok (.iaload, 1) := by decide +kernel
theorem dX4_strayActs_30 : decode cX4_strayActs 30 = .ok (.if_icmp .ge 12, 3) := by decide +kernel
theorem dX4_strayActs_33 : decode cX4_strayActs 33 = .ok (.aload_n 0, 1) := by decide +kernel
theorem dX4_strayActs_34 : decode cX4_strayActs 34 = .ok (.getfield 18, 3) := by decide +kernel
theorem dX4_strayActs_37 : decode cX4_strayActs 37 = .ok (.iload_n 2, 1) := by decide +kernel
theorem dX4_strayActs_38 : decode cX4_strayActs 38 = .ok (.iaload, 1) := by decide +kernel
theorem dX4_strayActs_39 : decode cX4_strayActs 39 = .ok (.goto 4, 3) := by decide +kernel
theorem dX4_strayActs_42 : decode cX4_strayActs 42 = .ok (.iload_n 3, 1) := by decide +kernel
theorem dX4_strayActs_43 : decode cX4_strayActs 43 = .ok (.istore 4, 2) := by decide +kernel
theorem dX4_strayActs_45 : decode cX4_strayActs 45 = .ok (.aload_n 0, 1) := by decide +kernel
theorem dX4_strayActs_46 : decode cX4_strayActs 46 = .ok (.getfield 28, 3) := by decide +kernel
theorem dX4_strayActs_49 : decode cX4_strayActs 49 = .ok (.iload_n 2, 1) := by decide +kernel
theorem dX4_strayActs_50 : decode cX4_strayActs 50 = .ok (.iload_n 3, 1) := by decide +kernel
theorem dX4_strayActs_51 : decode cX4_strayActs 51 = .ok (.invokestatic 52, 3) := by decide +kernel
theorem dX4_strayActs_54 : decode cX4_strayActs 54 = .ok (.iaload, 1) := by decide +kernel
theorem dX4_strayActs_55 : decode cX4_strayActs 55 = .ok (.iload 4, 2) := by decide +kernel
theorem dX4_strayActs_57 : decode cX4_strayActs 57 = .ok (.if_icmp .eq 6, 3) := by decide +kernel
theorem dX4_strayActs_60 : decode cX4_strayActs 60 = .ok (.iinc 1 1, 3) := by decide +kernel
theorem dX4_strayActs_63 : decode cX4_strayActs 63 = .ok (.iinc 3 1, 3) := by decide +kernel
theorem dX4_strayActs_66 : decode cX4_strayActs 66 = .ok (.goto (-54), 3) := by decide +kernel
theorem dX4_strayActs_69 : decode cX4_strayActs 69 = .ok (.iinc 2 1, 3) := by decide +kernel
theorem dX4_strayActs_72 : decode cX4_strayActs 72 = .ok (.goto (-68), 3) := by decide +kernel
theorem dX4_strayActs_75 : decode cX4_strayActs 75 = .ok (.iload_n 1, 1) := by decide +kernel
theorem dX4_strayActs_76 : decode cX4_strayActs 76 = .ok (.ireturn, 1) := by decide +kernel
theorem dX5_init_0 : decode cX5_init 0 = .ok (.aload_n 0, 1) := by decide +kernel
theorem dX5_init_1 : decode cX5_init 1 = .ok (.invokespecial 3, 3) := by decide +kernel
theorem dX5_init_4 : decode cX5_init 4 = .ok (.aload_n 0, 1) := by decide +kernel
theorem dX5_init_5 : decode cX5_init 5 = .ok (.bipush 48, 2) := by decide +kernel
theorem dX5_init_7 : decode cX5_init 7 = .ok (.newarray .int, 2) := by decide +kernel
theorem dX5_init_9 : decode cX5_init 9 = .ok (.putfield 9, 3) := by decide +kernel
theorem dX5_init_12 : decode cX5_init 12 = .ok (.aload_n 0, 1) := by decide +kernel
theorem dX5_init_13 : decode cX5_init 13 = .ok (.bipush 48, 2) := by decide +kernel
theorem dX5_init_15 : decode cX5_init 15 = .ok (.newarray .int, 2) := by decide +kernel
theorem dX5_init_17 : decode cX5_init 17 = .ok (.putfield 15, 3) := by decide +kernel
theorem dX5_init_20 : decode cX5_init 20 = .ok (.aload_n 0, 1) := by decide +kernel
theorem dX5_init_21 : decode cX5_init 21 = .ok (.bipush 48, 2) := by decide +kernel
theorem dX5_init_23 : decode cX5_init 23 = .ok (.newarray .int, 2) := by decide +kernel
theorem dX5_init_25 : decode cX5_init 25 = .ok (.putfield 18, 3) := by decide +kernel
theorem dX5_init_28 : decode cX5_init 28 = .ok (.aload_n 0, 1) := by decide +kernel
theorem dX5_init_29 : decode cX5_init 29 = .ok (.bipush 48, 2) := by decide +kernel
theorem dX5_init_31 : decode cX5_init 31 = .ok (.newarray .int, 2) := by decide +kernel
theorem dX5_init_33 : decode cX5_init 33 = .ok (.putfield 21, 3) := by decide +kernel
theorem dX5_init_36 : decode cX5_init 36 = .ok (.return_, 1) := by decide +kernel
theorem dX5_build_0 : decode cX5_build 0 = .ok (.aload_n 0, 1) := by decide +kernel
theorem dX5_build_1 : decode cX5_build 1 = .ok (.iload_n 1, 1) := by decide +kernel
theorem dX5_build_2 : decode cX5_build 2 = .ok (.putfield 24, 3) := by decide +kernel
theorem dX5_build_5 : decode cX5_build 5 = .ok (.aload_n 0, 1) := by decide +kernel
theorem dX5_build_6 : decode cX5_build 6 = .ok (.iload_n 2, 1) := by decide +kernel
theorem dX5_build_7 : decode cX5_build 7 = .ok (.putfield 28, 3) := by decide +kernel
theorem dX5_build_10 : decode cX5_build 10 = .ok (.aload_n 0, 1) := by decide +kernel
theorem dX5_build_11 : decode cX5_build 11 = .ok (.iload_n 3, 1) := by decide +kernel
theorem dX5_build_12 : decode cX5_build 12 = .ok (.putfield 31, 3) := by decide +kernel
theorem dX5_build_15 : decode cX5_build 15 = .ok (.aload_n 0, 1) := by decide +kernel
theorem dX5_build_16 : decode cX5_build 16 = .ok (.iload 4, 2) := by decide +kernel
theorem dX5_build_18 : decode cX5_build 18 = .ok (.putfield 34, 3) := by decide +kernel
theorem dX5_build_21 : decode cX5_build 21 = .ok (.aload_n 0, 1) := by decide +kernel
theorem dX5_build_22 : decode cX5_build 22 = .ok (.aload_n 0, 1) := by decide +kernel
theorem dX5_build_23 : decode cX5_build 23 = .ok (.getfield 24, 3) := by decide +kernel
theorem dX5_build_26 : decode cX5_build 26 = .ok (.aload_n 0, 1) := by decide +kernel
theorem dX5_build_27 : decode cX5_build 27 = .ok (.getfield 28, 3) := by decide +kernel
theorem dX5_build_30 : decode cX5_build 30 = .ok (.imul, 1) := by decide +kernel
theorem dX5_build_31 : decode cX5_build 31 = .ok (.bipush 48, 2) := by decide +kernel
theorem dX5_build_33 : decode cX5_build 33 = .ok (.invokestatic 37, 3) := by decide +kernel
theorem dX5_build_36 : decode cX5_build 36 = .ok (.putfield 43, 3) := by decide +kernel
theorem dX5_build_39 : decode cX5_build 39 = .ok (.aload_n 0, 1) := by decide +kernel
theorem dX5_build_40 : decode cX5_build 40 = .ok (.lconst 0, 1) := by decide +kernel
theorem dX5_build_41 : decode cX5_build 41 = .ok (.putfield 46, 3) := by decide +kernel
theorem dX5_build_44 : decode cX5_build 44 = .ok (.iconst 0, 1) := by decide +kernel
theorem dX5_build_45 : decode cX5_build 45 = .ok (.istore 5, 2) := by decide +kernel
theorem dX5_build_47 : decode cX5_build 47 = .ok (.iload 5, 2) := by decide +kernel
theorem dX5_build_49 : decode cX5_build 49 = .ok (.aload_n 0, 1) := by decide +kernel
theorem dX5_build_50 : decode cX5_build 50 = .ok (.getfield 43, 3) := by decide +kernel
theorem dX5_build_53 : decode cX5_build 53 = .ok (.if_icmp .ge 18, 3) := by decide +kernel
theorem dX5_build_56 : decode cX5_build 56 = .ok (.aload_n 0, 1) := by decide +kernel
theorem dX5_build_57 : decode cX5_build 57 = .ok (.iload 5, 2) := by decide +kernel
theorem dX5_build_59 : decode cX5_build 59 = .ok (.iconst (-1), 1) := by decide +kernel
theorem dX5_build_60 : decode cX5_build 60 = .ok (.iconst 0, 1) := by decide +kernel
theorem dX5_build_61 : decode cX5_build 61 = .ok (.iconst 0, 1) := by decide +kernel
theorem dX5_build_62 : decode cX5_build 62 = .ok (.invokevirtual 50, 3) := by decide +kernel
theorem dX5_build_65 : decode cX5_build 65 = .ok (.iinc 5 1, 3) := by decide +kernel
theorem dX5_build_68 : decode cX5_build 68 = .ok (.goto (-21), 3) := by decide +kernel
theorem dX5_build_71 : decode cX5_build 71 = .ok (.aload_n 0, 1) := by decide +kernel
theorem dX5_build_72 : decode cX5_build 72 = .ok (.invokevirtual 54, 3) := by decide +kernel
theorem dX5_build_75 : decode cX5_build 75 = .ok (.return_, 1) := by decide +kernel
theorem dX5_sortByDistance_0 : decode cX5_sortByDistance 0 = .ok (.iconst 0, 1) := by decide +kernel
theorem dX5_sortByDistance_1 : decode cX5_sortByDistance 1 = .ok (.istore_n 1, 1) := by decide +kernel
theorem dX5_sortByDistance_2 : decode cX5_sortByDistance 2 = .ok (.aload_n 0, 1) := by decide +kernel
theorem dX5_sortByDistance_3 : decode cX5_sortByDistance 3 = .ok (.getfield 34, 3) := by decide +kernel
theorem dX5_sortByDistance_6 : decode cX5_sortByDistance 6 = .ok (.aload_n 0, 1) := by decide +kernel
theorem dX5_sortByDistance_7 : decode cX5_sortByDistance 7 = .ok (.getfield 24, 3) := by decide +kernel
theorem dX5_sortByDistance_10 : decode cX5_sortByDistance 10 = .ok (.imul, 1) := by decide +kernel
theorem dX5_sortByDistance_11 : decode cX5_sortByDistance 11 = .ok (.aload_n 0, 1) := by decide +kernel
theorem dX5_sortByDistance_12 : decode cX5_sortByDistance 12 = .ok (.getfield 28, 3) := by decide +kernel
theorem dX5_sortByDistance_15 : decode cX5_sortByDistance 15 = .ok (.iadd, 1) := by decide +kernel
theorem dX5_sortByDistance_16 : decode cX5_sortByDistance 16 = .ok (.istore_n 2, 1) := by decide +kernel
theorem dX5_sortByDistance_17 : decode cX5_sortByDistance 17 = .ok (.iconst 1, 1) := by decide +kernel
theorem dX5_sortByDistance_18 : decode cX5_sortByDistance 18 = .ok (.istore_n 3, 1) := by decide +kernel
theorem dX5_sortByDistance_19 : decode cX5_sortByDistance 19 = .ok (.iload_n 3, 1) := by decide +kernel
theorem dX5_sortByDistance_20 : decode cX5_sortByDistance 20 = .ok (.iload_n 2, 1) := by decide +kernel
theorem dX5_sortByDistance_21 : decode cX5_sortByDistance 21 = .ok (.if_icmp .gt 56, 3) := by decide +kernel
theorem dX5_sortByDistance_24 : decode cX5_sortByDistance 24 = .ok (.iconst 0, 1) := by decide +kernel
theorem dX5_sortByDistance_25 : decode cX5_sortByDistance 25 = .ok (.istore 4, 2) := by decide +kernel
theorem dX5_sortByDistance_27 : decode cX5_sortByDistance 27 = .ok (.iload 4, 2) := by decide +kernel
theorem dX5_sortByDistance_29 : decode cX5_sortByDistance 29 = .ok (.aload_n 0, 1) := by decide +kernel
theorem dX5_sortByDistance_30 : decode cX5_sortByDistance 30 = .ok (.getfield 43, 3) := by decide +kernel
theorem dX5_sortByDistance_33 : decode cX5_sortByDistance 33 = .ok (.if_icmp .ge 38, 3) := by decide +kernel
theorem dX5_sortByDistance_36 : decode cX5_sortByDistance 36 = .ok (.iload_n 1, 1) := by decide +kernel
theorem dX5_sortByDistance_37 : decode cX5_sortByDistance 37 = .ok (.aload_n 0, 1) := by decide +kernel
theorem dX5_sortByDistance_38 : decode cX5_sortByDistance 38 = .ok (.getfield 43, 3) := by decide +kernel
theorem dX5_sortByDistance_41 : decode cX5_sortByDistance 41 = .ok (.if_icmp .ge 30, 3) := by decide +kernel
theorem dX5_sortByDistance_44 : decode cX5_sortByDistance 44 = .ok (.aload_n 0, 1) := by decide +kernel
theorem dX5_sortByDistance_45 : decode cX5_sortByDistance 45 = .ok (.iload 4, 2) := by decide +kernel
theorem dX5_sortByDistance_47 : decode cX5_sortByDistance 47 = .ok (.invokevirtual 57, 3) := by decide +kernel
theorem dX5_sortByDistance_50 : decode cX5_sortByDistance 50 = .ok (.iload_n 3, 1) := by decide +kernel
theorem dX5_sortByDistance_51 : decode cX5_sortByDistance 51 = .ok (.if_icmp .ne 14, 3) := by decide +kernel
theorem dX5_sortByDistance_54 : decode cX5_sortByDistance 54 = .ok (.aload_n 0, 1) := by decide +kernel
theorem dX5_sortByDistance_55 : decode cX5_sortByDistance 55 = .ok (.getfield 21, 3) := by decide +kernel
theorem dX5_sortByDistance_58 : decode cX5_sortByDistance 58 = .ok (.iload_n 1, 1) := by decide +kernel
theorem dX5_sortByDistance_59 : decode cX5_sortByDistance 59 = .ok (.iload 4, 2) := by decide +kernel
theorem dX5_sortByDistance_61 : decode cX5_sortByDistance 61 = .ok (.iastore, 1) := by decide +kernel
theorem dX5_sortByDistance_62 : decode cX5_sortByDistance 62 = .ok (.iinc 1 1, 3) := by decide +kernel
theorem dX5_sortByDistance_65 : decode cX5_sortByDistance 65 = .ok (.iinc 4 1, 3) := by decide +kernel
theorem dX5_sortByDistance_68 : decode cX5_sortByDistance 68 = .ok (.goto (-41), 3) := by decide +kernel
theorem dX5_sortByDistance_71 : decode cX5_sortByDistance 71 = .ok (.iinc 3 1, 3) := by decide +kernel
theorem dX5_sortByDistance_74 : decode cX5_sortByDistance 74 = .ok (.goto (-55), 3) := by decide +kernel
theorem dX5_sortByDistance_77 : decode cX5_sortByDistance 77 = .ok (.return_, 1) := by decide +kernel
theorem dX5_exists_0 : decode cX5_exists 0 = .ok (.iload_n 1, 1) := by decide +kernel
theorem dX5_exists_1 : decode cX5_exists 1 = .ok (.ifCond .lt 21, 3) := by decide +kernel
theorem dX5_exists_4 : decode cX5_exists 4 = .ok (.iload_n 1, 1) := by decide +kernel
theorem dX5_exists_5 : decode cX5_exists 5 = .ok (.aload_n 0, 1) := by decide +kernel
theorem dX5_exists_6 : decode cX5_exists 6 = .ok (.getfield 43, 3) := by decide +kernel
theorem dX5_exists_9 : decode cX5_exists 9 = .ok (.if_icmp .ge 13, 3) := by decide +kernel
theorem dX5_exists_12 : decode cX5_exists 12 = .ok (.iload_n 1, 1) := by decide +kernel
theorem dX5_exists_13 : decode cX5_exists 13 = .ok (.bipush 48, 2) := by decide +kernel
theorem dX5_exists_15 : decode cX5_exists 15 = .ok (.if_icmp .ge 7, 3) := by decide +kernel
theorem dX5_exists_18 : decode cX5_exists 18 = .ok (.iconst 1, 1) := by decide +kernel
theorem dX5_exists_19 : decode cX5_exists 19 = .ok (.goto 4, 3) := by decide +kernel
theorem dX5_exists_22 : decode cX5_exists 22 = .ok (.iconst 0, 1) := by decide +kernel
theorem dX5_exists_23 : decode cX5_exists 23 = .ok (.ireturn, 1) := by decide +kernel
theorem dX5_isFree_0 : decode cX5_isFree 0 = .ok (.aload_n 0, 1) := by decide +kernel
theorem dX5_isFree_1 : decode cX5_isFree 1 = .ok (.iload_n 1, 1) := by decide +kernel
theorem dX5_isFree_2 : decode cX5_isFree 2 = .ok (.invokevirtual 61, 3) := by decide +kernel
theorem dX5_isFree_5 : decode cX5_isFree 5 = .ok (.ifCond .eq 16, 3) := by decide +kernel
theorem dX5_isFree_8 : decode cX5_isFree 8 = .ok (.aload_n 0, 1) := by decide +kernel
theorem dX5_isFree_9 : decode cX5_isFree 9 = .ok (.getfield 15, 3) := by decide +kernel
theorem dX5_isFree_12 : decode cX5_isFree 12 = .ok (.iload_n 1, 1) := by decide +kernel
theorem dX5_isFree_13 : decode cX5_isFree 13 = .ok (.iaload, 1) := by decide +kernel
theorem dX5_isFree_14 : decode cX5_isFree 14 = .ok (.ifCond .ne 7, 3) := by decide +kernel
theorem dX5_isFree_17 : decode cX5_isFree 17 = .ok (.iconst 1, 1) := by decide +kernel
theorem dX5_isFree_18 : decode cX5_isFree 18 = .ok (.goto 4, 3) := by decide +kernel
theorem dX5_isFree_21 : decode cX5_isFree 21 = .ok (.iconst 0, 1) := by decide +kernel
theorem dX5_isFree_22 : decode cX5_isFree 22 = .ok (.ireturn, 1) := by decide +kernel
theorem dX5_isWith_0 : decode cX5_isWith 0 = .ok (.aload_n 0, 1) := by decide +kernel
theorem dX5_isWith_1 : decode cX5_isWith 1 = .ok (.iload_n 1, 1) := by decide +kernel
theorem dX5_isWith_2 : decode cX5_isWith 2 = .ok (.invokevirtual 61, 3) := by decide +kernel
theorem dX5_isWith_5 : decode cX5_isWith 5 = .ok (.ifCond .eq 26, 3) := by decide +kernel
theorem dX5_isWith_8 : decode cX5_isWith 8 = .ok (.aload_n 0, 1) := by decide +kernel
theorem dX5_isWith_9 : decode cX5_isWith 9 = .ok (.getfield 15, 3) := by decide +kernel
theorem dX5_isWith_12 : decode cX5_isWith 12 = .ok (.iload_n 1, 1) := by decide +kernel
theorem dX5_isWith_13 : decode cX5_isWith 13 = .ok (.iaload, 1) := by decide +kernel
theorem dX5_isWith_14 : decode cX5_isWith 14 = .ok (.ifCond .le 17, 3) := by decide +kernel
theorem dX5_isWith_17 : decode cX5_isWith 17 = .ok (.aload_n 0, 1) := by decide +kernel
theorem dX5_isWith_18 : decode cX5_isWith 18 = .ok (.getfield 9, 3) := by decide +kernel
theorem dX5_isWith_21 : decode cX5_isWith 21 = .ok (.iload_n 1, 1) := by decide +kernel
theorem dX5_isWith_22 : decode cX5_isWith 22 = .ok (.iaload, 1) := by decide +kernel
theorem dX5_isWith_23 : decode cX5_isWith 23 = .ok (.iload_n 2, 1) := by decide +kernel
theorem dX5_isWith_24 : decode cX5_isWith 24 = .ok (.if_icmp .ne 7, 3) := by decide +kernel
theorem dX5_isWith_27 : decode cX5_isWith 27 = .ok (.iconst 1, 1) := by decide +kernel
theorem dX5_isWith_28 : decode cX5_isWith 28 = .ok (.goto 4, 3) := by decide +kernel
theorem dX5_isWith_31 : decode cX5_isWith 31 = .ok (.iconst 0, 1) := by decide +kernel
theorem dX5_isWith_32 : decode cX5_isWith 32 = .ok (.ireturn, 1) := by decide +kernel
theorem dX5_isPicked_0 : decode cX5_isPicked 0 = .ok (.aload_n 0, 1) := by decide +kernel
theorem dX5_isPicked_1 : decode cX5_isPicked 1 = .ok (.getfield 46, 3) := by decide +kernel
theorem dX5_isPicked_4 : decode cX5_isPicked 4 = .ok (.lconst 1, 1) := by decide +kernel
theorem dX5_isPicked_5 : decode cX5_isPicked 5 = .ok (.iload_n 1, 1) := by decide +kernel
theorem dX5_isPicked_6 : decode cX5_isPicked 6 = .ok (.aload_n 0, 1) := by decide +kernel
theorem dX5_isPicked_7 : decode cX5_isPicked 7 = .ok (.getfield 28, 3) := by decide +kernel
theorem dX5_isPicked_10 : decode cX5_isPicked 10 = .ok (.imul, 1) := by decide +kernel
theorem dX5_isPicked_11 : decode cX5_isPicked 11 = .ok (.iload_n 2, 1) := by decide +kernel
theorem dX5_isPicked_12 : decode cX5_isPicked 12 = .ok (.iadd, 1) := by decide +kernel
theorem dX5_isPicked_13 : decode cX5_isPicked 13 = .ok (.iconst 1, 1) := by decide +kernel
theorem dX5_isPicked_14 : decode cX5_isPicked 14 = .ok (.isub, 1) := by decide +kernel
theorem dX5_isPicked_15 : decode cX5_isPicked 15 = .ok (.lshl, 1) := by decide +kernel
theorem dX5_isPicked_16 : decode cX5_isPicked 16 = .ok (.land, 1) := by decide +kernel
theorem dX5_isPicked_17 : decode cX5_isPicked 17 = .ok (.lconst 0, 1) := by decide +kernel
theorem dX5_isPicked_18 : decode cX5_isPicked 18 = .ok (.lcmp, 1) := by decide +kernel
theorem dX5_isPicked_19 : decode cX5_isPicked 19 = .ok (.ifCond .eq 7, 3) := by decide +kernel
theorem dX5_isPicked_22 : decode cX5_isPicked 22 = .ok (.iconst 1, 1) := by decide +kernel
theorem dX5_isPicked_23 : decode cX5_isPicked 23 = .ok (.goto 4, 3) := by decide +kernel
theorem dX5_isPicked_26 : decode cX5_isPicked 26 = .ok (.iconst 0, 1) := by decide +kernel
theorem dX5_isPicked_27 : decode cX5_isPicked 27 = .ok (.ireturn, 1) := by decide +kernel
theorem dX5_distanceOf_0 : decode cX5_distanceOf 0 = .ok (.aload_n 0, 1) := by decide +kernel
theorem dX5_distanceOf_1 : decode cX5_distanceOf 1 = .ok (.getfield 28, 3) := by decide +kernel
theorem dX5_distanceOf_4 : decode cX5_distanceOf 4 = .ok (.iconst 1, 1) := by decide +kernel
theorem dX5_distanceOf_5 : decode cX5_distanceOf 5 = .ok (.if_icmp .ge 7, 3) := by decide +kernel
theorem dX5_distanceOf_8 : decode cX5_distanceOf 8 = .ok (.iconst 0, 1) := by decide +kernel
theorem dX5_distanceOf_9 : decode cX5_distanceOf 9 = .ok (.goto 23, 3) := by decide +kernel
theorem dX5_distanceOf_12 : decode cX5_distanceOf 12 = .ok (.aload_n 0, 1) := by decide +kernel
theorem dX5_distanceOf_13 : decode cX5_distanceOf 13 = .ok (.getfield 34, 3) := by decide +kernel
theorem dX5_distanceOf_16 : decode cX5_distanceOf 16 = .ok (.iload_n 1, 1) := by decide +kernel
theorem dX5_distanceOf_17 : decode cX5_distanceOf 17 = .ok (.aload_n 0, 1) := by decide +kernel
theorem dX5_distanceOf_18 : decode cX5_distanceOf 18 = .ok (.getfield 28, 3) := by decide +kernel
theorem dX5_distanceOf_21 : decode cX5_distanceOf 21 = .ok (.idiv, 1) := by decide +kernel
theorem dX5_distanceOf_22 : decode cX5_distanceOf 22 = .ok (.imul, 1) := by decide +kernel
theorem dX5_distanceOf_23 : decode cX5_distanceOf 23 = .ok (.iload_n 1, 1) := by decide +kernel
theorem dX5_distanceOf_24 : decode cX5_distanceOf 24 = .ok (.aload_n 0, 1) := by decide +kernel
theorem dX5_distanceOf_25 : decode cX5_distanceOf 25 = .ok (.getfield 28, 3) := by decide +kernel
theorem dX5_distanceOf_28 : decode cX5_distanceOf 28 = .ok (.irem, 1) := by decide +kernel
theorem dX5_distanceOf_29 : decode cX5_distanceOf 29 = .ok (.iadd, 1) := by decide +kernel
theorem dX5_distanceOf_30 : decode cX5_distanceOf 30 = .ok (.iconst 1, 1) := by decide +kernel
theorem dX5_distanceOf_31 : decode cX5_distanceOf 31 = .ok (.iadd, 1) := by decide +kernel
theorem dX5_distanceOf_32 : decode cX5_distanceOf 32 = .ok (.ireturn, 1) := by decide +kernel
theorem dX5_set_0 : decode cX5_set 0 = .ok (.aload_n 0, 1) := by decide +kernel
theorem dX5_set_1 : decode cX5_set 1 = .ok (.iload_n 1, 1) := by decide +kernel
theorem dX5_set_2 : decode cX5_set 2 = .ok (.invokevirtual 61, 3) := by decide +kernel
theorem dX5_set_5 : decode cX5_set 5 = .ok (.ifCond .eq 33, 3) := by decide +kernel
theorem dX5_set_8 : decode cX5_set 8 = .ok (.aload_n 0, 1) := by decide +kernel
theorem dX5_set_9 : decode cX5_set 9 = .ok (.getfield 9, 3) := by decide +kernel
theorem dX5_set_12 : decode cX5_set 12 = .ok (.iload_n 1, 1) := by decide +kernel
theorem dX5_set_13 : decode cX5_set 13 = .ok (.iload_n 3, 1) := by decide +kernel
theorem dX5_set_14 : decode cX5_set 14 = .ok (.ifCond .ne 7, 3) := by decide +kernel
theorem dX5_set_17 : decode cX5_set 17 = .ok (.iconst (-1), 1) := by decide +kernel
theorem dX5_set_18 : decode cX5_set 18 = .ok (.goto 4, 3) := by decide +kernel
theorem dX5_set_21 : decode cX5_set 21 = .ok (.iload_n 2, 1) := by decide +kernel
theorem dX5_set_22 : decode cX5_set 22 = .ok (.iastore, 1) := by decide +kernel
theorem dX5_set_23 : decode cX5_set 23 = .ok (.aload_n 0, 1) := by decide +kernel
theorem dX5_set_24 : decode cX5_set 24 = .ok (.getfield 15, 3) := by decide +kernel
theorem dX5_set_27 : decode cX5_set 27 = .ok (.iload_n 1, 1) := by decide +kernel
theorem dX5_set_28 : decode cX5_set 28 = .ok (.iload_n 3, 1) := by decide +kernel
theorem dX5_set_29 : decode cX5_set 29 = .ok (.iastore, 1) := by decide +kernel
theorem dX5_set_30 : decode cX5_set 30 = .ok (.aload_n 0, 1) := by decide +kernel
theorem dX5_set_31 : decode cX5_set 31 = .ok (.getfield 18, 3) := by decide +kernel
theorem dX5_set_34 : decode cX5_set 34 = .ok (.iload_n 1, 1) := by decide +kernel
theorem dX5_set_35 : decode cX5_set 35 = .ok (.iload 4, 2) := by decide +kernel
theorem dX5_set_37 : decode cX5_set 37 = .ok (.iastore, 1) := by decide +kernel
theorem dX5_set_38 : decode cX5_set 38 = .ok (.return_, 1) := by decide +kernel
theorem dX5_freePlaces_0 : decode cX5_freePlaces 0 = .ok (.iconst 0, 1) := by decide +kernel
theorem dX5_freePlaces_1 : decode cX5_freePlaces 1 = .ok (.istore_n 1, 1) := by decide +kernel
theorem dX5_freePlaces_2 : decode cX5_freePlaces 2 = .ok (.iconst 0, 1) := by decide +kernel
theorem dX5_freePlaces_3 : decode cX5_freePlaces 3 = .ok (.istore_n 2, 1) := by decide +kernel
theorem dX5_freePlaces_4 : decode cX5_freePlaces 4 = .ok (.iload_n 2, 1) := by decide +kernel
theorem dX5_freePlaces_5 : decode cX5_freePlaces 5 = .ok (.aload_n 0, 1) := by decide +kernel
theorem dX5_freePlaces_6 : decode cX5_freePlaces 6 = .ok (.getfield 43, 3) := by decide +kernel
theorem dX5_freePlaces_9 : decode cX5_freePlaces 9 = .ok (.if_icmp .ge 20, 3) := by decide +kernel
theorem dX5_freePlaces_12 : decode cX5_freePlaces 12 = .ok (.aload_n 0, 1) := by decide +kernel
theorem dX5_freePlaces_13 : decode cX5_freePlaces 13 = .ok (.iload_n 2, 1) := by decide +kernel
theorem dX5_freePlaces_14 : decode cX5_freePlaces 14 = .ok (.invokevirtual 65, 3) := by decide +kernel
theorem dX5_freePlaces_17 : decode cX5_freePlaces 17 = .ok (.ifCond .eq 6, 3) := by decide +kernel
theorem dX5_freePlaces_20 : decode cX5_freePlaces 20 = .ok (.iinc 1 1, 3) := by decide +kernel
theorem dX5_freePlaces_23 : decode cX5_freePlaces 23 = .ok (.iinc 2 1, 3) := by decide +kernel
theorem dX5_freePlaces_26 : decode cX5_freePlaces 26 = .ok (.goto (-22), 3) := by decide +kernel
theorem dX5_freePlaces_29 : decode cX5_freePlaces 29 = .ok (.iload_n 1, 1) := by decide +kernel
theorem dX5_freePlaces_30 : decode cX5_freePlaces 30 = .ok (.ireturn, 1) := by decide +kernel
theorem dX5_placesFor_0 : decode cX5_placesFor 0 = .ok (.iload_n 1, 1) := by decide +kernel
theorem dX5_placesFor_1 : decode cX5_placesFor 1 = .ok (.ifCond .le 11, 3) := by decide +kernel
theorem dX5_placesFor_4 : decode cX5_placesFor 4 = .ok (.aload_n 0, 1) := by decide +kernel
theorem dX5_placesFor_5 : decode cX5_placesFor 5 = .ok (.getfield 31, 3) := by decide +kernel
theorem dX5_placesFor_8 : decode cX5_placesFor 8 = .ok (.iconst 1, 1) := by decide +kernel
theorem dX5_placesFor_9 : decode cX5_placesFor 9 = .ok (.if_icmp .ge 7, 3) := by decide +kernel
theorem dX5_placesFor_12 : decode cX5_placesFor 12 = .ok (.iconst 0, 1) := by decide +kernel
theorem dX5_placesFor_13 : decode cX5_placesFor 13 = .ok (.goto 16, 3) := by decide +kernel
theorem dX5_placesFor_16 : decode cX5_placesFor 16 = .ok (.iload_n 1, 1) := by decide +kernel
theorem dX5_placesFor_17 : decode cX5_placesFor 17 = .ok (.aload_n 0, 1) := by decide +kernel
theorem dX5_placesFor_18 : decode cX5_placesFor 18 = .ok (.getfield 31, 3) := by decide +kernel
theorem dX5_placesFor_21 : decode cX5_placesFor 21 = .ok (.iadd, 1) := by decide +kernel
theorem dX5_placesFor_22 : decode cX5_placesFor 22 = .ok (.iconst 1, 1) := by decide +kernel
theorem dX5_placesFor_23 : decode cX5_placesFor 23 = .ok (.isub, 1) := by decide +kernel
theorem dX5_placesFor_24 : decode cX5_placesFor 24 = .ok (.aload_n 0, 1) := by decide +kernel
theorem dX5_placesFor_25 : decode cX5_placesFor 25 = .ok (.getfield 31, 3) := by decide +kernel
theorem dX5_placesFor_28 : decode cX5_placesFor 28 = .ok (.idiv, 1) := by decide +kernel
theorem dX5_placesFor_29 : decode cX5_placesFor 29 = .ok (.ireturn, 1) := by decide +kernel
theorem dX5_piecesOf_0 : decode cX5_piecesOf 0 = .ok (.iconst 0, 1) := by decide +kernel
theorem dX5_piecesOf_1 : decode cX5_piecesOf 1 = .ok (.istore_n 2, 1) := by decide +kernel
theorem dX5_piecesOf_2 : decode cX5_piecesOf 2 = .ok (.iconst 0, 1) := by decide +kernel
theorem dX5_piecesOf_3 : decode cX5_piecesOf 3 = .ok (.istore_n 3, 1) := by decide +kernel
theorem dX5_piecesOf_4 : decode cX5_piecesOf 4 = .ok (.iload_n 3, 1) := by decide +kernel
theorem dX5_piecesOf_5 : decode cX5_piecesOf 5 = .ok (.aload_n 0, 1) := by decide +kernel
theorem dX5_piecesOf_6 : decode cX5_piecesOf 6 = .ok (.getfield 43, 3) := by decide +kernel
theorem dX5_piecesOf_9 : decode cX5_piecesOf 9 = .ok (.if_icmp .ge 27, 3) := by decide +kernel
theorem dX5_piecesOf_12 : decode cX5_piecesOf 12 = .ok (.aload_n 0, 1) := by decide +kernel
theorem dX5_piecesOf_13 : decode cX5_piecesOf 13 = .ok (.iload_n 3, 1) := by decide +kernel
theorem dX5_piecesOf_14 : decode cX5_piecesOf 14 = .ok (.iload_n 1, 1) := by decide +kernel
theorem dX5_piecesOf_15 : decode cX5_piecesOf 15 = .ok (.invokevirtual 68, 3) := by decide +kernel
theorem dX5_piecesOf_18 : decode cX5_piecesOf 18 = .ok (.ifCond .eq 12, 3) := by decide +kernel
theorem dX5_piecesOf_21 : decode cX5_piecesOf 21 = .ok (.iload_n 2, 1) := by decide +kernel
theorem dX5_piecesOf_22 : decode cX5_piecesOf 22 = .ok (.aload_n 0, 1) := by decide +kernel
theorem dX5_piecesOf_23 : decode cX5_piecesOf 23 = .ok (.getfield 15, 3) := by decide +kernel
theorem dX5_piecesOf_26 : decode cX5_piecesOf 26 = .ok (.iload_n 3, 1) := by decide +kernel
theorem dX5_piecesOf_27 : decode cX5_piecesOf 27 = .ok (.iaload, 1) := by decide +kernel
theorem dX5_piecesOf_28 : decode cX5_piecesOf 28 = .ok (.iadd, 1) := by decide +kernel
theorem dX5_piecesOf_29 : decode cX5_piecesOf 29 = .ok (.istore_n 2, 1) := by decide +kernel
theorem dX5_piecesOf_30 : decode cX5_piecesOf 30 = .ok (.iinc 3 1, 3) := by decide +kernel
theorem dX5_piecesOf_33 : decode cX5_piecesOf 33 = .ok (.goto (-29), 3) := by decide +kernel
theorem dX5_piecesOf_36 : decode cX5_piecesOf 36 = .ok (.iload_n 2, 1) := by decide +kernel
theorem dX5_piecesOf_37 : decode cX5_piecesOf 37 = .ok (.ireturn, 1) := by decide +kernel
theorem dX5_piecesOnHand_0 : decode cX5_piecesOnHand 0 = .ok (.iconst 0, 1) := by decide +kernel
theorem dX5_piecesOnHand_1 : decode cX5_piecesOnHand 1 = .ok (.istore_n 1, 1) := by decide +kernel
theorem dX5_piecesOnHand_2 : decode cX5_piecesOnHand 2 = .ok (.iconst 0, 1) := by decide +kernel
theorem dX5_piecesOnHand_3 : decode cX5_piecesOnHand 3 = .ok (.istore_n 2, 1) := by decide +kernel
theorem dX5_piecesOnHand_4 : decode cX5_piecesOnHand 4 = .ok (.iload_n 2, 1) := by decide +kernel
theorem dX5_piecesOnHand_5 : decode cX5_piecesOnHand 5 = .ok (.aload_n 0, 1) := by decide +kernel
theorem dX5_piecesOnHand_6 : decode cX5_piecesOnHand 6 = .ok (.getfield 43, 3) := by decide +kernel
theorem dX5_piecesOnHand_9 : decode cX5_piecesOnHand 9 = .ok (.if_icmp .ge 18, 3) := by decide +kernel
theorem dX5_piecesOnHand_12 : decode cX5_piecesOnHand 12 = .ok (.iload_n 1, 1) := by decide +kernel
theorem dX5_piecesOnHand_13 : decode cX5_piecesOnHand 13 = .ok (.aload_n 0, 1) := by decide +kernel
theorem dX5_piecesOnHand_14 : decode cX5_piecesOnHand 14 = .ok (.getfield 15, 3) := by decide +kernel
theorem dX5_piecesOnHand_17 : decode cX5_piecesOnHand 17 = .ok (.iload_n 2, 1) := by decide +kernel
theorem dX5_piecesOnHand_18 : decode cX5_piecesOnHand 18 = .ok (.iaload, 1) := by decide +kernel
theorem dX5_piecesOnHand_19 : decode cX5_piecesOnHand 19 = .ok (.iadd, 1) := by decide +kernel
theorem dX5_piecesOnHand_20 : decode cX5_piecesOnHand 20 = .ok (.istore_n 1, 1) := by decide +kernel
theorem dX5_piecesOnHand_21 : decode cX5_piecesOnHand 21 = .ok (.iinc 2 1, 3) := by decide +kernel
theorem dX5_piecesOnHand_24 : decode cX5_piecesOnHand 24 = .ok (.goto (-20), 3) := by decide +kernel
theorem dX5_piecesOnHand_27 : decode cX5_piecesOnHand 27 = .ok (.iload_n 1, 1) := by decide +kernel
theorem dX5_piecesOnHand_28 : decode cX5_piecesOnHand 28 = .ok (.ireturn, 1) := by decide +kernel
theorem dX5_countLots_0 : decode cX5_countLots 0 = .ok (.iconst 0, 1) := by decide +kernel
theorem dX5_countLots_1 : decode cX5_countLots 1 = .ok (.istore_n 2, 1) := by decide +kernel
theorem dX5_countLots_2 : decode cX5_countLots 2 = .ok (.iload_n 2, 1) := by decide +kernel
theorem dX5_countLots_3 : decode cX5_countLots 3 = .ok (.aload_n 1, 1) := by decide +kernel
theorem dX5_countLots_4 : decode cX5_countLots 4 = .ok (.arraylength, 1) := by decide +kernel
theorem dX5_countLots_5 : decode cX5_countLots 5 = .ok (.if_icmp .ge 13, 3) := by decide +kernel
theorem dX5_countLots_8 : decode cX5_countLots 8 = .ok (.aload_n 1, 1) := by decide +kernel
theorem dX5_countLots_9 : decode cX5_countLots 9 = .ok (.iload_n 2, 1) := by decide +kernel
theorem dX5_countLots_10 : decode cX5_countLots 10 = .ok (.iconst 0, 1) := by decide +kernel
theorem dX5_countLots_11 : decode cX5_countLots 11 = .ok (.iastore, 1) := by decide +kernel
theorem dX5_countLots_12 : decode cX5_countLots 12 = .ok (.iinc 2 1, 3) := by decide +kernel
theorem dX5_countLots_15 : decode cX5_countLots 15 = .ok (.goto (-13), 3) := by decide +kernel
theorem dX5_countLots_18 : decode cX5_countLots 18 = .ok (.iconst 0, 1) := by decide +kernel
theorem dX5_countLots_19 : decode cX5_countLots 19 = .ok (.istore_n 2, 1) := by decide +kernel
theorem dX5_countLots_20 : decode cX5_countLots 20 = .ok (.iload_n 2, 1) := by decide +kernel
theorem dX5_countLots_21 : decode cX5_countLots 21 = .ok (.aload_n 0, 1) := by decide +kernel
theorem dX5_countLots_22 : decode cX5_countLots 22 = .ok (.getfield 43, 3) := by decide +kernel
theorem dX5_countLots_25 : decode cX5_countLots 25 = .ok (.if_icmp .ge 38, 3) := by decide +kernel
theorem dX5_countLots_28 : decode cX5_countLots 28 = .ok (.aload_n 0, 1) := by decide +kernel
theorem dX5_countLots_29 : decode cX5_countLots 29 = .ok (.getfield 9, 3) := by decide +kernel
theorem dX5_countLots_32 : decode cX5_countLots 32 = .ok (.iload_n 2, 1) := by decide +kernel
theorem dX5_countLots_33 : decode cX5_countLots 33 = .ok (.iaload, 1) := by decide +kernel
theorem dX5_countLots_34 : decode cX5_countLots 34 = .ok (.istore_n 3, 1) := by decide +kernel
theorem dX5_countLots_35 : decode cX5_countLots 35 = .ok (.iload_n 3, 1) := by decide +kernel
theorem dX5_countLots_36 : decode cX5_countLots 36 = .ok (.ifCond .lt 21, 3) := by decide +kernel
theorem dX5_countLots_39 : decode cX5_countLots 39 = .ok (.iload_n 3, 1) := by decide +kernel
theorem dX5_countLots_40 : decode cX5_countLots 40 = .ok (.aload_n 1, 1) := by decide +kernel
theorem dX5_countLots_41 : decode cX5_countLots 41 = .ok (.arraylength, 1) := by decide +kernel
theorem dX5_countLots_42 : decode cX5_countLots 42 = .ok (.if_icmp .ge 15, 3) := by decide +kernel
theorem dX5_countLots_45 : decode cX5_countLots 45 = .ok (.aload_n 1, 1) := by decide +kernel
theorem dX5_countLots_46 : decode cX5_countLots 46 = .ok (.iload_n 3, 1) := by decide +kernel
theorem dX5_countLots_47 : decode cX5_countLots 47 = .ok (.dup2, 1) := by decide +kernel
theorem dX5_countLots_48 : decode cX5_countLots 48 = .ok (.iaload, 1) := by decide +kernel
theorem dX5_countLots_49 : decode cX5_countLots 49 = .ok (.aload_n 0, 1) := by decide +kernel
theorem dX5_countLots_50 : decode cX5_countLots 50 = .ok (.getfield 15, 3) := by decide +kernel
theorem dX5_countLots_53 : decode cX5_countLots 53 = .ok (.iload_n 2, 1) := by decide +kernel
theorem dX5_countLots_54 : decode cX5_countLots 54 = .ok (.iaload, 1) := by decide +kernel
theorem dX5_countLots_55 : decode cX5_countLots 55 = .ok (.iadd, 1) := by decide +kernel
theorem dX5_countLots_56 : decode cX5_countLots 56 = .ok (.iastore, 1) := by decide +kernel
theorem dX5_countLots_57 : decode cX5_countLots 57 = .ok (.iinc 2 1, 3) := by decide +kernel
theorem dX5_countLots_60 : decode cX5_countLots 60 = .ok (.goto (-40), 3) := by decide +kernel
theorem dX5_countLots_63 : decode cX5_countLots 63 = .ok (.return_, 1) := by decide +kernel
theorem dX5_roomBeside_0 : decode cX5_roomBeside 0 = .ok (.iconst 0, 1) := by decide +kernel
theorem dX5_roomBeside_1 : decode cX5_roomBeside 1 = .ok (.istore_n 2, 1) := by decide +kernel
theorem dX5_roomBeside_2 : decode cX5_roomBeside 2 = .ok (.iconst 0, 1) := by decide +kernel
theorem dX5_roomBeside_3 : decode cX5_roomBeside 3 = .ok (.istore_n 3, 1) := by decide +kernel
theorem dX5_roomBeside_4 : decode cX5_roomBeside 4 = .ok (.iload_n 3, 1) := by decide +kernel
theorem dX5_roomBeside_5 : decode cX5_roomBeside 5 = .ok (.aload_n 0, 1) := by decide +kernel
theorem dX5_roomBeside_6 : decode cX5_roomBeside 6 = .ok (.getfield 43, 3) := by decide +kernel
theorem dX5_roomBeside_9 : decode cX5_roomBeside 9 = .ok (.if_icmp .ge 32, 3) := by decide +kernel
theorem dX5_roomBeside_12 : decode cX5_roomBeside 12 = .ok (.aload_n 0, 1) := by decide +kernel
theorem dX5_roomBeside_13 : decode cX5_roomBeside 13 = .ok (.iload_n 3, 1) := by decide +kernel
theorem dX5_roomBeside_14 : decode cX5_roomBeside 14 = .ok (.iload_n 1, 1) := by decide +kernel
theorem dX5_roomBeside_15 : decode cX5_roomBeside 15 = .ok (.invokevirtual 68, 3) := by decide +kernel
theorem dX5_roomBeside_18 : decode cX5_roomBeside 18 = .ok (.ifCond .eq 17, 3) := by decide +kernel
theorem dX5_roomBeside_21 : decode cX5_roomBeside 21 = .ok (.iload_n 2, 1) := by decide +kernel
theorem dX5_roomBeside_22 : decode cX5_roomBeside 22 = .ok (.aload_n 0, 1) := by decide +kernel
theorem dX5_roomBeside_23 : decode cX5_roomBeside 23 = .ok (.getfield 31, 3) := by decide +kernel
theorem dX5_roomBeside_26 : decode cX5_roomBeside 26 = .ok (.aload_n 0, 1) := by decide +kernel
theorem dX5_roomBeside_27 : decode cX5_roomBeside 27 = .ok (.getfield 15, 3) := by decide +kernel
theorem dX5_roomBeside_30 : decode cX5_roomBeside 30 = .ok (.iload_n 3, 1) := by decide +kernel
theorem dX5_roomBeside_31 : decode cX5_roomBeside 31 = .ok (.iaload, 1) := by decide +kernel
theorem dX5_roomBeside_32 : decode cX5_roomBeside 32 = .ok (.isub, 1) := by decide +kernel
theorem dX5_roomBeside_33 : decode cX5_roomBeside 33 = .ok (.iadd, 1) := by decide +kernel
theorem dX5_roomBeside_34 : decode cX5_roomBeside 34 = .ok (.istore_n 2, 1) := by decide +kernel
theorem dX5_roomBeside_35 : decode cX5_roomBeside 35 = .ok (.iinc 3 1, 3) := by decide +kernel
theorem dX5_roomBeside_38 : decode cX5_roomBeside 38 = .ok (.goto (-34), 3) := by decide +kernel
theorem dX5_roomBeside_41 : decode cX5_roomBeside 41 = .ok (.iload_n 2, 1) := by decide +kernel
theorem dX5_roomBeside_42 : decode cX5_roomBeside 42 = .ok (.ireturn, 1) := by decide +kernel
theorem dX5_putBeside_0 : decode cX5_putBeside 0 = .ok (.iload_n 2, 1) := by decide +kernel
theorem dX5_putBeside_1 : decode cX5_putBeside 1 = .ok (.istore 4, 2) := by decide +kernel
theorem dX5_putBeside_3 : decode cX5_putBeside 3 = .ok (.iconst 0, 1) := by decide +kernel
theorem dX5_putBeside_4 : decode cX5_putBeside 4 = .ok (.istore 5, 2) := by decide +kernel
theorem dX5_putBeside_6 : decode cX5_putBeside 6 = .ok (.iload 5, 2) := by decide +kernel
theorem dX5_putBeside_8 : decode cX5_putBeside 8 = .ok (.aload_n 0, 1) := by decide +kernel
theorem dX5_putBeside_9 : decode cX5_putBeside 9 = .ok (.getfield 43, 3) := by decide +kernel
theorem dX5_putBeside_12 : decode cX5_putBeside 12 = .ok (.if_icmp .ge 91, 3) := by decide +kernel
theorem dX5_putBeside_15 : decode cX5_putBeside 15 = .ok (.iload 4, 2) := by decide +kernel
theorem dX5_putBeside_17 : decode cX5_putBeside 17 = .ok (.ifCond .le 86, 3) := by decide +kernel
theorem dX5_putBeside_20 : decode cX5_putBeside 20 = .ok (.aload_n 0, 1) := by decide +kernel
theorem dX5_putBeside_21 : decode cX5_putBeside 21 = .ok (.getfield 21, 3) := by decide +kernel
theorem dX5_putBeside_24 : decode cX5_putBeside 24 = .ok (.iload 5, 2) := by decide +kernel
theorem dX5_putBeside_26 : decode cX5_putBeside 26 = .ok (.iaload, 1) := by decide +kernel
theorem dX5_putBeside_27 : decode cX5_putBeside 27 = .ok (.istore 6, 2) := by decide +kernel
theorem dX5_putBeside_29 : decode cX5_putBeside 29 = .ok (.aload_n 0, 1) := by decide +kernel
theorem dX5_putBeside_30 : decode cX5_putBeside 30 = .ok (.iload 6, 2) := by decide +kernel
theorem dX5_putBeside_32 : decode cX5_putBeside 32 = .ok (.iload_n 1, 1) := by decide +kernel
theorem dX5_putBeside_33 : decode cX5_putBeside 33 = .ok (.invokevirtual 68, 3) := by decide +kernel
theorem dX5_putBeside_36 : decode cX5_putBeside 36 = .ok (.ifCond .eq 61, 3) := by decide +kernel
theorem dX5_putBeside_39 : decode cX5_putBeside 39 = .ok (.aload_n 0, 1) := by decide +kernel
theorem dX5_putBeside_40 : decode cX5_putBeside 40 = .ok (.getfield 15, 3) := by decide +kernel
theorem dX5_putBeside_43 : decode cX5_putBeside 43 = .ok (.iload 6, 2) := by decide +kernel
theorem dX5_putBeside_45 : decode cX5_putBeside 45 = .ok (.iaload, 1) := by decide +kernel
theorem dX5_putBeside_46 : decode cX5_putBeside 46 = .ok (.aload_n 0, 1) := by decide +kernel
theorem dX5_putBeside_47 : decode cX5_putBeside 47 = .ok (.getfield 31, 3) := by decide +kernel
theorem dX5_putBeside_50 : decode cX5_putBeside 50 = .ok (.if_icmp .ge 47, 3) := by decide +kernel
theorem dX5_putBeside_53 : decode cX5_putBeside 53 = .ok (.iload 4, 2) := by decide +kernel
theorem dX5_putBeside_55 : decode cX5_putBeside 55 = .ok (.aload_n 0, 1) := by decide +kernel
theorem dX5_putBeside_56 : decode cX5_putBeside 56 = .ok (.getfield 31, 3) := by decide +kernel
theorem dX5_putBeside_59 : decode cX5_putBeside 59 = .ok (.aload_n 0, 1) := by decide +kernel
theorem dX5_putBeside_60 : decode cX5_putBeside 60 = .ok (.getfield 15, 3) := by decide +kernel
theorem dX5_putBeside_63 : decode cX5_putBeside 63 = .ok (.iload 6, 2) := by decide +kernel
theorem dX5_putBeside_65 : decode cX5_putBeside 65 = .ok (.iaload, 1) := by decide +kernel
theorem dX5_putBeside_66 : decode cX5_putBeside 66 = .ok (.isub, 1) := by decide +kernel
theorem dX5_putBeside_67 : decode cX5_putBeside 67 = .ok (.invokestatic 37, 3) := by decide +kernel
theorem dX5_putBeside_70 : decode cX5_putBeside 70 = .ok (.istore 7, 2) := by decide +kernel
theorem dX5_putBeside_72 : decode cX5_putBeside 72 = .ok (.aload_n 0, 1) := by decide +kernel
theorem dX5_putBeside_73 : decode cX5_putBeside 73 = .ok (.iload 6, 2) := by decide +kernel
theorem dX5_putBeside_75 : decode cX5_putBeside 75 = .ok (.iload_n 1, 1) := by decide +kernel
theorem dX5_putBeside_76 : decode cX5_putBeside 76 = .ok (.aload_n 0, 1) := by decide +kernel
theorem dX5_putBeside_77 : decode cX5_putBeside 77 = .ok (.getfield 15, 3) := by decide +kernel
theorem dX5_putBeside_80 : decode cX5_putBeside 80 = .ok (.iload 6, 2) := by decide +kernel
theorem dX5_putBeside_82 : decode cX5_putBeside 82 = .ok (.iaload, 1) := by decide +kernel
theorem dX5_putBeside_83 : decode cX5_putBeside 83 = .ok (.iload 7, 2) := by decide +kernel
theorem dX5_putBeside_85 : decode cX5_putBeside 85 = .ok (.iadd, 1) := by decide +kernel
theorem dX5_putBeside_86 : decode cX5_putBeside 86 = .ok (.iload_n 3, 1) := by decide +kernel
theorem dX5_putBeside_87 : decode cX5_putBeside 87 = .ok (.invokevirtual 50, 3) := by decide +kernel
theorem dX5_putBeside_90 : decode cX5_putBeside 90 = .ok (.iload 4, 2) := by decide +kernel
theorem dX5_putBeside_92 : decode cX5_putBeside 92 = .ok (.iload 7, 2) := by decide +kernel
theorem dX5_putBeside_94 : decode cX5_putBeside 94 = .ok (.isub, 1) := by decide +kernel
theorem dX5_putBeside_95 : decode cX5_putBeside 95 = .ok (.istore 4, 2) := by decide +kernel
theorem dX5_putBeside_97 : decode cX5_putBeside 97 = .ok (.iinc 5 1, 3) := by decide +kernel
theorem dX5_putBeside_100 : decode cX5_putBeside 100 = .ok (.goto (-94), 3) := by decide +kernel
theorem dX5_putBeside_103 : decode cX5_putBeside 103 = .ok (.iload 4, 2) := by decide +kernel
theorem dX5_putBeside_105 : decode cX5_putBeside 105 = .ok (.ireturn, 1) := by decide +kernel
theorem dX5_putAway_0 : decode cX5_putAway 0 = .ok (.iload_n 2, 1) := by decide +kernel
theorem dX5_putAway_1 : decode cX5_putAway 1 = .ok (.istore 4, 2) := by decide +kernel
theorem dX5_putAway_3 : decode cX5_putAway 3 = .ok (.iconst 0, 1) := by decide +kernel
theorem dX5_putAway_4 : decode cX5_putAway 4 = .ok (.istore 5, 2) := by decide +kernel
theorem dX5_putAway_6 : decode cX5_putAway 6 = .ok (.iload 5, 2) := by decide +kernel
theorem dX5_putAway_8 : decode cX5_putAway 8 = .ok (.aload_n 0, 1) := by decide +kernel
theorem dX5_putAway_9 : decode cX5_putAway 9 = .ok (.getfield 43, 3) := by decide +kernel
theorem dX5_putAway_12 : decode cX5_putAway 12 = .ok (.if_icmp .ge 60, 3) := by decide +kernel
theorem dX5_putAway_15 : decode cX5_putAway 15 = .ok (.iload 4, 2) := by decide +kernel
theorem dX5_putAway_17 : decode cX5_putAway 17 = .ok (.ifCond .le 55, 3) := by decide +kernel
theorem dX5_putAway_20 : decode cX5_putAway 20 = .ok (.aload_n 0, 1) := by decide +kernel
theorem dX5_putAway_21 : decode cX5_putAway 21 = .ok (.getfield 21, 3) := by decide +kernel
theorem dX5_putAway_24 : decode cX5_putAway 24 = .ok (.iload 5, 2) := by decide +kernel
theorem dX5_putAway_26 : decode cX5_putAway 26 = .ok (.iaload, 1) := by decide +kernel
theorem dX5_putAway_27 : decode cX5_putAway 27 = .ok (.istore 6, 2) := by decide +kernel
theorem dX5_putAway_29 : decode cX5_putAway 29 = .ok (.aload_n 0, 1) := by decide +kernel
theorem dX5_putAway_30 : decode cX5_putAway 30 = .ok (.iload 6, 2) := by decide +kernel
theorem dX5_putAway_32 : decode cX5_putAway 32 = .ok (.invokevirtual 65, 3) := by decide +kernel
theorem dX5_putAway_35 : decode cX5_putAway 35 = .ok (.ifCond .eq 31, 3) := by decide +kernel
theorem dX5_putAway_38 : decode cX5_putAway 38 = .ok (.iload 4, 2) := by decide +kernel
theorem dX5_putAway_40 : decode cX5_putAway 40 = .ok (.aload_n 0, 1) := by decide +kernel
theorem dX5_putAway_41 : decode cX5_putAway 41 = .ok (.getfield 31, 3) := by decide +kernel
theorem dX5_putAway_44 : decode cX5_putAway 44 = .ok (.invokestatic 37, 3) := by decide +kernel
theorem dX5_putAway_47 : decode cX5_putAway 47 = .ok (.istore 7, 2) := by decide +kernel
theorem dX5_putAway_49 : decode cX5_putAway 49 = .ok (.aload_n 0, 1) := by decide +kernel
theorem dX5_putAway_50 : decode cX5_putAway 50 = .ok (.iload 6, 2) := by decide +kernel
theorem dX5_putAway_52 : decode cX5_putAway 52 = .ok (.iload_n 1, 1) := by decide +kernel
theorem dX5_putAway_53 : decode cX5_putAway 53 = .ok (.iload 7, 2) := by decide +kernel
theorem dX5_putAway_55 : decode cX5_putAway 55 = .ok (.iload_n 3, 1) := by decide +kernel
theorem dX5_putAway_56 : decode cX5_putAway 56 = .ok (.invokevirtual 50, 3) := by decide +kernel
theorem dX5_putAway_59 : decode cX5_putAway 59 = .ok (.iload 4, 2) := by decide +kernel
theorem dX5_putAway_61 : decode cX5_putAway 61 = .ok (.iload 7, 2) := by decide +kernel
theorem dX5_putAway_63 : decode cX5_putAway 63 = .ok (.isub, 1) := by decide +kernel
theorem dX5_putAway_64 : decode cX5_putAway 64 = .ok (.istore 4, 2) := by decide +kernel
theorem dX5_putAway_66 : decode cX5_putAway 66 = .ok (.iinc 5 1, 3) := by decide +kernel
theorem dX5_putAway_69 : decode cX5_putAway 69 = .ok (.goto (-63), 3) := by decide +kernel
theorem dX5_putAway_72 : decode cX5_putAway 72 = .ok (.return_, 1) := by decide +kernel
theorem dX5_pick_0 : decode cX5_pick 0 = .ok (.iload_n 2, 1) := by decide +kernel
theorem dX5_pick_1 : decode cX5_pick 1 = .ok (.istore_n 3, 1) := by decide +kernel
theorem dX5_pick_2 : decode cX5_pick 2 = .ok (.iconst 0, 1) := by decide +kernel
theorem dX5_pick_3 : decode cX5_pick 3 = .ok (.istore 4, 2) := by decide +kernel
theorem dX5_pick_5 : decode cX5_pick 5 = .ok (.iload 4, 2) := by decide +kernel
theorem dX5_pick_7 : decode cX5_pick 7 = .ok (.aload_n 0, 1) := by decide +kernel
theorem dX5_pick_8 : decode cX5_pick 8 = .ok (.getfield 43, 3) := by decide +kernel
theorem dX5_pick_11 : decode cX5_pick 11 = .ok (.if_icmp .ge 81, 3) := by decide +kernel
theorem dX5_pick_14 : decode cX5_pick 14 = .ok (.iload_n 3, 1) := by decide +kernel
theorem dX5_pick_15 : decode cX5_pick 15 = .ok (.ifCond .le 77, 3) := by decide +kernel
theorem dX5_pick_18 : decode cX5_pick 18 = .ok (.aload_n 0, 1) := by decide +kernel
theorem dX5_pick_19 : decode cX5_pick 19 = .ok (.getfield 21, 3) := by decide +kernel
theorem dX5_pick_22 : decode cX5_pick 22 = .ok (.iload 4, 2) := by decide +kernel
theorem dX5_pick_24 : decode cX5_pick 24 = .ok (.iaload, 1) := by decide +kernel
theorem dX5_pick_25 : decode cX5_pick 25 = .ok (.istore 5, 2) := by decide +kernel
theorem dX5_pick_27 : decode cX5_pick 27 = .ok (.aload_n 0, 1) := by decide +kernel
theorem dX5_pick_28 : decode cX5_pick 28 = .ok (.iload 5, 2) := by decide +kernel
theorem dX5_pick_30 : decode cX5_pick 30 = .ok (.iload_n 1, 1) := by decide +kernel
theorem dX5_pick_31 : decode cX5_pick 31 = .ok (.invokevirtual 68, 3) := by decide +kernel
theorem dX5_pick_34 : decode cX5_pick 34 = .ok (.ifCond .eq 52, 3) := by decide +kernel
theorem dX5_pick_37 : decode cX5_pick 37 = .ok (.iload_n 3, 1) := by decide +kernel
theorem dX5_pick_38 : decode cX5_pick 38 = .ok (.aload_n 0, 1) := by decide +kernel
theorem dX5_pick_39 : decode cX5_pick 39 = .ok (.getfield 15, 3) := by decide +kernel
theorem dX5_pick_42 : decode cX5_pick 42 = .ok (.iload 5, 2) := by decide +kernel
theorem dX5_pick_44 : decode cX5_pick 44 = .ok (.iaload, 1) := by decide +kernel
theorem dX5_pick_45 : decode cX5_pick 45 = .ok (.invokestatic 37, 3) := by decide +kernel
theorem dX5_pick_48 : decode cX5_pick 48 = .ok (.istore 6, 2) := by decide +kernel
theorem dX5_pick_50 : decode cX5_pick 50 = .ok (.aload_n 0, 1) := by decide +kernel
theorem dX5_pick_51 : decode cX5_pick 51 = .ok (.iload 5, 2) := by decide +kernel
theorem dX5_pick_53 : decode cX5_pick 53 = .ok (.iload_n 1, 1) := by decide +kernel
theorem dX5_pick_54 : decode cX5_pick 54 = .ok (.aload_n 0, 1) := by decide +kernel
theorem dX5_pick_55 : decode cX5_pick 55 = .ok (.getfield 15, 3) := by decide +kernel
theorem dX5_pick_58 : decode cX5_pick 58 = .ok (.iload 5, 2) := by decide +kernel
theorem dX5_pick_60 : decode cX5_pick 60 = .ok (.iaload, 1) := by decide +kernel
theorem dX5_pick_61 : decode cX5_pick 61 = .ok (.iload 6, 2) := by decide +kernel
theorem dX5_pick_63 : decode cX5_pick 63 = .ok (.isub, 1) := by decide +kernel
theorem dX5_pick_64 : decode cX5_pick 64 = .ok (.iconst 2, 1) := by decide +kernel
theorem dX5_pick_65 : decode cX5_pick 65 = .ok (.invokevirtual 50, 3) := by decide +kernel
theorem dX5_pick_68 : decode cX5_pick 68 = .ok (.aload_n 0, 1) := by decide +kernel
theorem dX5_pick_69 : decode cX5_pick 69 = .ok (.dup, 1) := by decide +kernel
theorem dX5_pick_70 : decode cX5_pick 70 = .ok (.getfield 46, 3) := by decide +kernel
theorem dX5_pick_73 : decode cX5_pick 73 = .ok (.lconst 1, 1) := by decide +kernel
theorem dX5_pick_74 : decode cX5_pick 74 = .ok (.iload 5, 2) := by decide +kernel
theorem dX5_pick_76 : decode cX5_pick 76 = .ok (.lshl, 1) := by decide +kernel
theorem dX5_pick_77 : decode cX5_pick 77 = .ok (.lor, 1) := by decide +kernel
theorem dX5_pick_78 : decode cX5_pick 78 = .ok (.putfield 46, 3) := by decide +kernel
theorem dX5_pick_81 : decode cX5_pick 81 = .ok (.iload_n 3, 1) := by decide +kernel
theorem dX5_pick_82 : decode cX5_pick 82 = .ok (.iload 6, 2) := by decide +kernel
theorem dX5_pick_84 : decode cX5_pick 84 = .ok (.isub, 1) := by decide +kernel
theorem dX5_pick_85 : decode cX5_pick 85 = .ok (.istore_n 3, 1) := by decide +kernel
theorem dX5_pick_86 : decode cX5_pick 86 = .ok (.iinc 4 1, 3) := by decide +kernel
theorem dX5_pick_89 : decode cX5_pick 89 = .ok (.goto (-84), 3) := by decide +kernel
theorem dX5_pick_92 : decode cX5_pick 92 = .ok (.return_, 1) := by decide +kernel
theorem dX5_scrapLot_0 : decode cX5_scrapLot 0 = .ok (.iconst 0, 1) := by decide +kernel
theorem dX5_scrapLot_1 : decode cX5_scrapLot 1 = .ok (.istore_n 2, 1) := by decide +kernel
theorem dX5_scrapLot_2 : decode cX5_scrapLot 2 = .ok (.iconst 0, 1) := by decide +kernel
theorem dX5_scrapLot_3 : decode cX5_scrapLot 3 = .ok (.istore_n 3, 1) := by decide +kernel
theorem dX5_scrapLot_4 : decode cX5_scrapLot 4 = .ok (.iload_n 3, 1) := by decide +kernel
theorem dX5_scrapLot_5 : decode cX5_scrapLot 5 = .ok (.aload_n 0, 1) := by decide +kernel
theorem dX5_scrapLot_6 : decode cX5_scrapLot 6 = .ok (.getfield 43, 3) := by decide +kernel
theorem dX5_scrapLot_9 : decode cX5_scrapLot 9 = .ok (.if_icmp .ge 35, 3) := by decide +kernel
theorem dX5_scrapLot_12 : decode cX5_scrapLot 12 = .ok (.aload_n 0, 1) := by decide +kernel
theorem dX5_scrapLot_13 : decode cX5_scrapLot 13 = .ok (.iload_n 3, 1) := by decide +kernel
theorem dX5_scrapLot_14 : decode cX5_scrapLot 14 = .ok (.iload_n 1, 1) := by decide +kernel
theorem dX5_scrapLot_15 : decode cX5_scrapLot 15 = .ok (.invokevirtual 68, 3) := by decide +kernel
theorem dX5_scrapLot_18 : decode cX5_scrapLot 18 = .ok (.ifCond .eq 20, 3) := by decide +kernel
theorem dX5_scrapLot_21 : decode cX5_scrapLot 21 = .ok (.iload_n 2, 1) := by decide +kernel
theorem dX5_scrapLot_22 : decode cX5_scrapLot 22 = .ok (.aload_n 0, 1) := by decide +kernel
theorem dX5_scrapLot_23 : decode cX5_scrapLot 23 = .ok (.getfield 15, 3) := by decide +kernel
theorem dX5_scrapLot_26 : decode cX5_scrapLot 26 = .ok (.iload_n 3, 1) := by decide +kernel
theorem dX5_scrapLot_27 : decode cX5_scrapLot 27 = .ok (.iaload, 1) := by decide +kernel
theorem dX5_scrapLot_28 : decode cX5_scrapLot 28 = .ok (.iadd, 1) := by decide +kernel
theorem dX5_scrapLot_29 : decode cX5_scrapLot 29 = .ok (.istore_n 2, 1) := by decide +kernel
theorem dX5_scrapLot_30 : decode cX5_scrapLot 30 = .ok (.aload_n 0, 1) := by decide +kernel
theorem dX5_scrapLot_31 : decode cX5_scrapLot 31 = .ok (.iload_n 3, 1) := by decide +kernel
theorem dX5_scrapLot_32 : decode cX5_scrapLot 32 = .ok (.iconst (-1), 1) := by decide +kernel
theorem dX5_scrapLot_33 : decode cX5_scrapLot 33 = .ok (.iconst 0, 1) := by decide +kernel
theorem dX5_scrapLot_34 : decode cX5_scrapLot 34 = .ok (.iconst 5, 1) := by decide +kernel
theorem dX5_scrapLot_35 : decode cX5_scrapLot 35 = .ok (.invokevirtual 50, 3) := by decide +kernel
theorem dX5_scrapLot_38 : decode cX5_scrapLot 38 = .ok (.iinc 3 1, 3) := by decide +kernel
theorem dX5_scrapLot_41 : decode cX5_scrapLot 41 = .ok (.goto (-37), 3) := by decide +kernel
theorem dX5_scrapLot_44 : decode cX5_scrapLot 44 = .ok (.iload_n 2, 1) := by decide +kernel
theorem dX5_scrapLot_45 : decode cX5_scrapLot 45 = .ok (.ireturn, 1) := by decide +kernel
theorem dX5_copyFrom_0 : decode cX5_copyFrom 0 = .ok (.aload_n 0, 1) := by decide +kernel
theorem dX5_copyFrom_1 : decode cX5_copyFrom 1 = .ok (.aload_n 1, 1) := by decide +kernel
theorem dX5_copyFrom_2 : decode cX5_copyFrom 2 = .ok (.getfield 24, 3) := by decide +kernel
theorem dX5_copyFrom_5 : decode cX5_copyFrom 5 = .ok (.putfield 24, 3) := by decide +kernel
theorem dX5_copyFrom_8 : decode cX5_copyFrom 8 = .ok (.aload_n 0, 1) := by decide +kernel
theorem dX5_copyFrom_9 : decode cX5_copyFrom 9 = .ok (.aload_n 1, 1) := by decide +kernel
theorem dX5_copyFrom_10 : decode cX5_copyFrom 10 = .ok (.getfield 28, 3) := by decide +kernel
theorem dX5_copyFrom_13 : decode cX5_copyFrom 13 = .ok (.putfield 28, 3) := by decide +kernel
theorem dX5_copyFrom_16 : decode cX5_copyFrom 16 = .ok (.aload_n 0, 1) := by decide +kernel
theorem dX5_copyFrom_17 : decode cX5_copyFrom 17 = .ok (.aload_n 1, 1) := by decide +kernel
theorem dX5_copyFrom_18 : decode cX5_copyFrom 18 = .ok (.getfield 31, 3) := by decide +kernel
theorem dX5_copyFrom_21 : decode cX5_copyFrom 21 = .ok (.putfield 31, 3) := by decide +kernel
theorem dX5_copyFrom_24 : decode cX5_copyFrom 24 = .ok (.aload_n 0, 1) := by decide +kernel
theorem dX5_copyFrom_25 : decode cX5_copyFrom 25 = .ok (.aload_n 1, 1) := by decide +kernel
theorem dX5_copyFrom_26 : decode cX5_copyFrom 26 = .ok (.getfield 34, 3) := by decide +kernel
theorem dX5_copyFrom_29 : decode cX5_copyFrom 29 = .ok (.putfield 34, 3) := by decide +kernel
theorem dX5_copyFrom_32 : decode cX5_copyFrom 32 = .ok (.aload_n 0, 1) := by decide +kernel
theorem dX5_copyFrom_33 : decode cX5_copyFrom 33 = .ok (.aload_n 1, 1) := by decide +kernel
theorem dX5_copyFrom_34 : decode cX5_copyFrom 34 = .ok (.getfield 43, 3) := by decide +kernel
theorem dX5_copyFrom_37 : decode cX5_copyFrom 37 = .ok (.putfield 43, 3) := by decide +kernel
theorem dX5_copyFrom_40 : decode cX5_copyFrom 40 = .ok (.aload_n 0, 1) := by decide +kernel
theorem dX5_copyFrom_41 : decode cX5_copyFrom 41 = .ok (.aload_n 1, 1) := by decide +kernel
theorem dX5_copyFrom_42 : decode cX5_copyFrom 42 = .ok (.getfield 46, 3) := by decide +kernel
theorem dX5_copyFrom_45 : decode cX5_copyFrom 45 = .ok (.putfield 46, 3) := by decide +kernel
theorem dX5_copyFrom_48 : decode cX5_copyFrom 48 = .ok (.aload_n 1, 1) := by decide +kernel
theorem dX5_copyFrom_49 : decode cX5_copyFrom 49 = .ok (.getfield 9, 3) := by decide +kernel
theorem dX5_copyFrom_52 : decode cX5_copyFrom 52 = .ok (.iconst 0, 1) := by decide +kernel
theorem dX5_copyFrom_53 : decode cX5_copyFrom 53 = .ok (.aload_n 0, 1) := by decide +kernel
theorem dX5_copyFrom_54 : decode cX5_copyFrom 54 = .ok (.getfield 9, 3) := by decide +kernel
theorem dX5_copyFrom_57 : decode cX5_copyFrom 57 = .ok (.iconst 0, 1) := by decide +kernel
theorem dX5_copyFrom_58 : decode cX5_copyFrom 58 = .ok (.aload_n 0, 1) := by decide +kernel
theorem dX5_copyFrom_59 : decode cX5_copyFrom 59 = .ok (.getfield 9, 3) := by decide +kernel
theorem dX5_copyFrom_62 : decode cX5_copyFrom 62 = .ok (.arraylength, 1) := by decide +kernel
theorem dX5_copyFrom_63 : decode cX5_copyFrom 63 = .ok (.invokestatic 72, 3) := by decide +kernel
theorem dX5_copyFrom_66 : decode cX5_copyFrom 66 = .ok (.aload_n 1, 1) := by decide +kernel
theorem dX5_copyFrom_67 : decode cX5_copyFrom 67 = .ok (.getfield 15, 3) := by decide +kernel
theorem dX5_copyFrom_70 : decode cX5_copyFrom 70 = .ok (.iconst 0, 1) := by decide +kernel
theorem dX5_copyFrom_71 : decode cX5_copyFrom 71 = .ok (.aload_n 0, 1) := by decide +kernel
theorem dX5_copyFrom_72 : decode cX5_copyFrom 72 = .ok (.getfield 15, 3) := by decide +kernel
theorem dX5_copyFrom_75 : decode cX5_copyFrom 75 = .ok (.iconst 0, 1) := by decide +kernel
theorem dX5_copyFrom_76 : decode cX5_copyFrom 76 = .ok (.aload_n 0, 1) := by decide +kernel
theorem dX5_copyFrom_77 : decode cX5_copyFrom 77 = .ok (.getfield 15, 3) := by decide +kernel
theorem dX5_copyFrom_80 : decode cX5_copyFrom 80 = .ok (.arraylength, 1) := by decide +kernel
theorem dX5_copyFrom_81 : decode cX5_copyFrom 81 = .ok (.invokestatic 72, 3) := by decide +kernel
theorem dX5_copyFrom_84 : decode cX5_copyFrom 84 = .ok (.aload_n 1, 1) := by decide +kernel
theorem dX5_copyFrom_85 : decode cX5_copyFrom 85 = .ok (.getfield 18, 3) := by decide +kernel
theorem dX5_copyFrom_88 : decode cX5_copyFrom 88 = .ok (.iconst 0, 1) := by decide +kernel
theorem dX5_copyFrom_89 : decode cX5_copyFrom 89 = .ok (.aload_n 0, 1) := by decide +kernel
theorem dX5_copyFrom_90 : decode cX5_copyFrom 90 = .ok (.getfield 18, 3) := by decide +kernel
theorem dX5_copyFrom_93 : decode cX5_copyFrom 93 = .ok (.iconst 0, 1) := by decide +kernel
theorem dX5_copyFrom_94 : decode cX5_copyFrom 94 = .ok (.aload_n 0, 1) := by decide +kernel
theorem dX5_copyFrom_95 : decode cX5_copyFrom 95 = .ok (.getfield 18, 3) := by decide +kernel
theorem dX5_copyFrom_98 : decode cX5_copyFrom 98 = .ok (.arraylength, 1) := by decide +kernel
theorem dX5_copyFrom_99 : decode cX5_copyFrom 99 = .ok (.invokestatic 72, 3) := by decide +kernel
theorem dX5_copyFrom_102 : decode cX5_copyFrom 102 = .ok (.aload_n 1, 1) := by decide +kernel
theorem dX5_copyFrom_103 : decode cX5_copyFrom 103 = .ok (.getfield 21, 3) := by decide +kernel
theorem dX5_copyFrom_106 : decode cX5_copyFrom 106 = .ok (.iconst 0, 1) := by decide +kernel
theorem dX5_copyFrom_107 : decode cX5_copyFrom 107 = .ok (.aload_n 0, 1) := by decide +kernel
theorem dX5_copyFrom_108 : decode cX5_copyFrom 108 = .ok (.getfield 21, 3) := by decide +kernel
theorem dX5_copyFrom_111 : decode cX5_copyFrom 111 = .ok (.iconst 0, 1) := by decide +kernel
theorem dX5_copyFrom_112 : decode cX5_copyFrom 112 = .ok (.aload_n 0, 1) := by decide +kernel
theorem dX5_copyFrom_113 : decode cX5_copyFrom 113 = .ok (.getfield 21, 3) := by decide +kernel
theorem dX5_copyFrom_116 : decode cX5_copyFrom 116 = .ok (.arraylength, 1) := by decide +kernel
theorem dX5_copyFrom_117 : decode cX5_copyFrom 117 = .ok (.invokestatic 72, 3) := by decide +kernel
theorem dX5_copyFrom_120 : decode cX5_copyFrom 120 = .ok (.return_, 1) := by decide +kernel
theorem dX6_init_0 : decode cX6_init 0 = .ok (.aload_n 0, 1) := by decide +kernel
theorem dX6_init_1 : decode cX6_init 1 = .ok (.invokespecial 3, 3) := by decide +kernel
theorem dX6_init_4 : decode cX6_init 4 = .ok (.aload_n 0, 1) := by decide +kernel
theorem dX6_init_5 : decode cX6_init 5 = .ok (.bipush 8, 2) := by decide +kernel
theorem dX6_init_7 : decode cX6_init 7 = .ok (.newarray .int, 2) := by decide +kernel
theorem dX6_init_9 : decode cX6_init 9 = .ok (.putfield 9, 3) := by decide +kernel
theorem dX6_init_12 : decode cX6_init 12 = .ok (.aload_n 0, 1) := by decide +kernel
theorem dX6_init_13 : decode cX6_init 13 = .ok (.bipush 6, 2) := by decide +kernel
theorem dX6_init_15 : decode cX6_init 15 = .ok (.newarray .int, 2) := by decide +kernel
theorem dX6_init_17 : decode cX6_init 17 = .ok (.putfield 15, 3) := by decide +kernel
theorem dX6_init_20 : decode cX6_init 20 = .ok (.aload_n 0, 1) := by decide +kernel
theorem dX6_init_21 : decode cX6_init 21 = .ok (.bipush 10, 2) := by decide +kernel
theorem dX6_init_23 : decode cX6_init 23 = .ok (.newarray .int, 2) := by decide +kernel
theorem dX6_init_25 : decode cX6_init 25 = .ok (.putfield 18, 3) := by decide +kernel
theorem dX6_init_28 : decode cX6_init 28 = .ok (.aload_n 0, 1) := by decide +kernel
theorem dX6_init_29 : decode cX6_init 29 = .ok (.new 21, 3) := by decide +kernel
theorem dX6_init_32 : decode cX6_init 32 = .ok (.dup, 1) := by decide +kernel
theorem dX6_init_33 : decode cX6_init 33 = .ok (.invokespecial 23, 3) := by decide +kernel
theorem dX6_init_36 : decode cX6_init 36 = .ok (.putfield 24, 3) := by decide +kernel
theorem dX6_init_39 : decode cX6_init 39 = .ok (.aload_n 0, 1) := by decide +kernel
theorem dX6_init_40 : decode cX6_init 40 = .ok (.new 28, 3) := by decide +kernel
theorem dX6_init_43 : decode cX6_init 43 = .ok (.dup, 1) := by decide +kernel
theorem dX6_init_44 : decode cX6_init 44 = .ok (.invokespecial 30, 3) := by decide +kernel
theorem dX6_init_47 : decode cX6_init 47 = .ok (.putfield 31, 3) := by decide +kernel
theorem dX6_init_50 : decode cX6_init 50 = .ok (.aload_n 0, 1) := by decide +kernel
theorem dX6_init_51 : decode cX6_init 51 = .ok (.new 35, 3) := by decide +kernel
theorem dX6_init_54 : decode cX6_init 54 = .ok (.dup, 1) := by decide +kernel
theorem dX6_init_55 : decode cX6_init 55 = .ok (.invokespecial 37, 3) := by decide +kernel
theorem dX6_init_58 : decode cX6_init 58 = .ok (.putfield 38, 3) := by decide +kernel
theorem dX6_init_61 : decode cX6_init 61 = .ok (.return_, 1) := by decide +kernel
theorem dX6_empty_0 : decode cX6_empty 0 = .ok (.aload_n 0, 1) := by decide +kernel
theorem dX6_empty_1 : decode cX6_empty 1 = .ok (.iconst 0, 1) := by decide +kernel
theorem dX6_empty_2 : decode cX6_empty 2 = .ok (.putfield 42, 3) := by decide +kernel
theorem dX6_empty_5 : decode cX6_empty 5 = .ok (.aload_n 0, 1) := by decide +kernel
theorem dX6_empty_6 : decode cX6_empty 6 = .ok (.iconst 0, 1) := by decide +kernel
theorem dX6_empty_7 : decode cX6_empty 7 = .ok (.putfield 46, 3) := by decide +kernel
theorem dX6_empty_10 : decode cX6_empty 10 = .ok (.iconst 0, 1) := by decide +kernel
theorem dX6_empty_11 : decode cX6_empty 11 = .ok (.istore_n 1, 1) := by decide +kernel
theorem dX6_empty_12 : decode cX6_empty 12 = .ok (.iload_n 1, 1) := by decide +kernel
theorem dX6_empty_13 : decode cX6_empty 13 = .ok (.aload_n 0, 1) := by decide +kernel
theorem dX6_empty_14 : decode cX6_empty 14 = .ok (.getfield 15, 3) := by decide +kernel
theorem dX6_empty_17 : decode cX6_empty 17 = .ok (.arraylength, 1) := by decide +kernel
theorem dX6_empty_18 : decode cX6_empty 18 = .ok (.if_icmp .ge 16, 3) := by decide +kernel
theorem dX6_empty_21 : decode cX6_empty 21 = .ok (.aload_n 0, 1) := by decide +kernel
theorem dX6_empty_22 : decode cX6_empty 22 = .ok (.getfield 15, 3) := by decide +kernel
theorem dX6_empty_25 : decode cX6_empty 25 = .ok (.iload_n 1, 1) := by decide +kernel
theorem dX6_empty_26 : decode cX6_empty 26 = .ok (.iconst 0, 1) := by decide +kernel
theorem dX6_empty_27 : decode cX6_empty 27 = .ok (.iastore, 1) := by decide +kernel
theorem dX6_empty_28 : decode cX6_empty 28 = .ok (.iinc 1 1, 3) := by decide +kernel
theorem dX6_empty_31 : decode cX6_empty 31 = .ok (.goto (-19), 3) := by decide +kernel
theorem dX6_empty_34 : decode cX6_empty 34 = .ok (.aload_n 0, 1) := by decide +kernel
theorem dX6_empty_35 : decode cX6_empty 35 = .ok (.getfield 31, 3) := by decide +kernel
theorem dX6_empty_38 : decode cX6_empty 38 = .ok (.iconst 0, 1) := by decide +kernel
theorem dX6_empty_39 : decode cX6_empty 39 = .ok (.putfield 49, 3) := by decide +kernel
theorem dX6_empty_42 : decode cX6_empty 42 = .ok (.aload_n 0, 1) := by decide +kernel
theorem dX6_empty_43 : decode cX6_empty 43 = .ok (.getfield 38, 3) := by decide +kernel
theorem dX6_empty_46 : decode cX6_empty 46 = .ok (.invokevirtual 52, 3) := by decide +kernel
theorem dX6_empty_49 : decode cX6_empty 49 = .ok (.return_, 1) := by decide +kernel
theorem dX6_copyFrom_0 : decode cX6_copyFrom 0 = .ok (.aload_n 0, 1) := by decide +kernel
theorem dX6_copyFrom_1 : decode cX6_copyFrom 1 = .ok (.aload_n 1, 1) := by decide +kernel
theorem dX6_copyFrom_2 : decode cX6_copyFrom 2 = .ok (.getfield 42, 3) := by decide +kernel
theorem dX6_copyFrom_5 : decode cX6_copyFrom 5 = .ok (.putfield 42, 3) := by decide +kernel
theorem dX6_copyFrom_8 : decode cX6_copyFrom 8 = .ok (.aload_n 0, 1) := by decide +kernel
theorem dX6_copyFrom_9 : decode cX6_copyFrom 9 = .ok (.aload_n 1, 1) := by decide +kernel
theorem dX6_copyFrom_10 : decode cX6_copyFrom 10 = .ok (.getfield 46, 3) := by decide +kernel
theorem dX6_copyFrom_13 : decode cX6_copyFrom 13 = .ok (.putfield 46, 3) := by decide +kernel
theorem dX6_copyFrom_16 : decode cX6_copyFrom 16 = .ok (.aload_n 0, 1) := by decide +kernel
theorem dX6_copyFrom_17 : decode cX6_copyFrom 17 = .ok (.aload_n 1, 1) := by decide +kernel
theorem dX6_copyFrom_18 : decode cX6_copyFrom 18 = .ok (.getfield 55, 3) := by decide +kernel
theorem dX6_copyFrom_21 : decode cX6_copyFrom 21 = .ok (.putfield 55, 3) := by decide +kernel
theorem dX6_copyFrom_24 : decode cX6_copyFrom 24 = .ok (.aload_n 1, 1) := by decide +kernel
theorem dX6_copyFrom_25 : decode cX6_copyFrom 25 = .ok (.getfield 9, 3) := by decide +kernel
theorem dX6_copyFrom_28 : decode cX6_copyFrom 28 = .ok (.iconst 0, 1) := by decide +kernel
theorem dX6_copyFrom_29 : decode cX6_copyFrom 29 = .ok (.aload_n 0, 1) := by decide +kernel
theorem dX6_copyFrom_30 : decode cX6_copyFrom 30 = .ok (.getfield 9, 3) := by decide +kernel
theorem dX6_copyFrom_33 : decode cX6_copyFrom 33 = .ok (.iconst 0, 1) := by decide +kernel
theorem dX6_copyFrom_34 : decode cX6_copyFrom 34 = .ok (.aload_n 0, 1) := by decide +kernel
theorem dX6_copyFrom_35 : decode cX6_copyFrom 35 = .ok (.getfield 9, 3) := by decide +kernel
theorem dX6_copyFrom_38 : decode cX6_copyFrom 38 = .ok (.arraylength, 1) := by decide +kernel
theorem dX6_copyFrom_39 : decode cX6_copyFrom 39 = .ok (.invokestatic 58, 3) := by decide +kernel
theorem dX6_copyFrom_42 : decode cX6_copyFrom 42 = .ok (.aload_n 1, 1) := by decide +kernel
theorem dX6_copyFrom_43 : decode cX6_copyFrom 43 = .ok (.getfield 15, 3) := by decide +kernel
theorem dX6_copyFrom_46 : decode cX6_copyFrom 46 = .ok (.iconst 0, 1) := by decide +kernel
theorem dX6_copyFrom_47 : decode cX6_copyFrom 47 = .ok (.aload_n 0, 1) := by decide +kernel
theorem dX6_copyFrom_48 : decode cX6_copyFrom 48 = .ok (.getfield 15, 3) := by decide +kernel
theorem dX6_copyFrom_51 : decode cX6_copyFrom 51 = .ok (.iconst 0, 1) := by decide +kernel
theorem dX6_copyFrom_52 : decode cX6_copyFrom 52 = .ok (.aload_n 0, 1) := by decide +kernel
theorem dX6_copyFrom_53 : decode cX6_copyFrom 53 = .ok (.getfield 15, 3) := by decide +kernel
theorem dX6_copyFrom_56 : decode cX6_copyFrom 56 = .ok (.arraylength, 1) := by decide +kernel
theorem dX6_copyFrom_57 : decode cX6_copyFrom 57 = .ok (.invokestatic 58, 3) := by decide +kernel
theorem dX6_copyFrom_60 : decode cX6_copyFrom 60 = .ok (.aload_n 1, 1) := by decide +kernel
theorem dX6_copyFrom_61 : decode cX6_copyFrom 61 = .ok (.getfield 18, 3) := by decide +kernel
theorem dX6_copyFrom_64 : decode cX6_copyFrom 64 = .ok (.iconst 0, 1) := by decide +kernel
theorem dX6_copyFrom_65 : decode cX6_copyFrom 65 = .ok (.aload_n 0, 1) := by decide +kernel
theorem dX6_copyFrom_66 : decode cX6_copyFrom 66 = .ok (.getfield 18, 3) := by decide +kernel
theorem dX6_copyFrom_69 : decode cX6_copyFrom 69 = .ok (.iconst 0, 1) := by decide +kernel
theorem dX6_copyFrom_70 : decode cX6_copyFrom 70 = .ok (.aload_n 0, 1) := by decide +kernel
theorem dX6_copyFrom_71 : decode cX6_copyFrom 71 = .ok (.getfield 18, 3) := by decide +kernel
theorem dX6_copyFrom_74 : decode cX6_copyFrom 74 = .ok (.arraylength, 1) := by decide +kernel
theorem dX6_copyFrom_75 : decode cX6_copyFrom 75 = .ok (.invokestatic 58, 3) := by decide +kernel
theorem dX6_copyFrom_78 : decode cX6_copyFrom 78 = .ok (.aload_n 0, 1) := by decide +kernel
theorem dX6_copyFrom_79 : decode cX6_copyFrom 79 = .ok (.getfield 24, 3) := by decide +kernel
theorem dX6_copyFrom_82 : decode cX6_copyFrom 82 = .ok (.aload_n 1, 1) := by decide +kernel
theorem dX6_copyFrom_83 : decode cX6_copyFrom 83 = .ok (.getfield 24, 3) := by decide +kernel
theorem dX6_copyFrom_86 : decode cX6_copyFrom 86 = .ok (.invokevirtual 64, 3) := by decide +kernel
theorem dX6_copyFrom_89 : decode cX6_copyFrom 89 = .ok (.aload_n 0, 1) := by decide +kernel
theorem dX6_copyFrom_90 : decode cX6_copyFrom 90 = .ok (.getfield 31, 3) := by decide +kernel
theorem dX6_copyFrom_93 : decode cX6_copyFrom 93 = .ok (.aload_n 1, 1) := by decide +kernel
theorem dX6_copyFrom_94 : decode cX6_copyFrom 94 = .ok (.getfield 31, 3) := by decide +kernel
theorem dX6_copyFrom_97 : decode cX6_copyFrom 97 = .ok (.invokevirtual 68, 3) := by decide +kernel
theorem dX6_copyFrom_100 : decode cX6_copyFrom 100 = .ok (.aload_n 0, 1) := by decide +kernel
theorem dX6_copyFrom_101 : decode cX6_copyFrom 101 = .ok (.getfield 38, 3) := by decide +kernel
theorem dX6_copyFrom_104 : decode cX6_copyFrom 104 = .ok (.aload_n 1, 1) := by decide +kernel
theorem dX6_copyFrom_105 : decode cX6_copyFrom 105 = .ok (.getfield 38, 3) := by decide +kernel
theorem dX6_copyFrom_108 : decode cX6_copyFrom 108 = .ok (.invokevirtual 71, 3) := by decide +kernel
theorem dX6_copyFrom_111 : decode cX6_copyFrom 111 = .ok (.return_, 1) := by decide +kernel
theorem dX7_init_0 : decode cX7_init 0 = .ok (.aload_n 0, 1) := by decide +kernel
theorem dX7_init_1 : decode cX7_init 1 = .ok (.invokespecial 1, 3) := by decide +kernel
theorem dX7_init_4 : decode cX7_init 4 = .ok (.aload_n 0, 1) := by decide +kernel
theorem dX7_init_5 : decode cX7_init 5 = .ok (.new 7, 3) := by decide +kernel
theorem dX7_init_8 : decode cX7_init 8 = .ok (.dup, 1) := by decide +kernel
theorem dX7_init_9 : decode cX7_init 9 = .ok (.invokespecial 9, 3) := by decide +kernel
theorem dX7_init_12 : decode cX7_init 12 = .ok (.putfield 10, 3) := by decide +kernel
theorem dX7_init_15 : decode cX7_init 15 = .ok (.aload_n 0, 1) := by decide +kernel
theorem dX7_init_16 : decode cX7_init 16 = .ok (.bipush 8, 2) := by decide +kernel
theorem dX7_init_18 : decode cX7_init 18 = .ok (.anewarray 7, 3) := by decide +kernel
theorem dX7_init_21 : decode cX7_init 21 = .ok (.putfield 16, 3) := by decide +kernel
theorem dX7_init_24 : decode cX7_init 24 = .ok (.aload_n 0, 1) := by decide +kernel
theorem dX7_init_25 : decode cX7_init 25 = .ok (.new 20, 3) := by decide +kernel
theorem dX7_init_28 : decode cX7_init 28 = .ok (.dup, 1) := by decide +kernel
theorem dX7_init_29 : decode cX7_init 29 = .ok (.invokespecial 22, 3) := by decide +kernel
theorem dX7_init_32 : decode cX7_init 32 = .ok (.putfield 23, 3) := by decide +kernel
theorem dX7_init_35 : decode cX7_init 35 = .ok (.aload_n 0, 1) := by decide +kernel
theorem dX7_init_36 : decode cX7_init 36 = .ok (.new 27, 3) := by decide +kernel
theorem dX7_init_39 : decode cX7_init 39 = .ok (.dup, 1) := by decide +kernel
theorem dX7_init_40 : decode cX7_init 40 = .ok (.invokespecial 29, 3) := by decide +kernel
theorem dX7_init_43 : decode cX7_init 43 = .ok (.putfield 30, 3) := by decide +kernel
theorem dX7_init_46 : decode cX7_init 46 = .ok (.aload_n 0, 1) := by decide +kernel
theorem dX7_init_47 : decode cX7_init 47 = .ok (.bipush 24, 2) := by decide +kernel
theorem dX7_init_49 : decode cX7_init 49 = .ok (.newarray .int, 2) := by decide +kernel
theorem dX7_init_51 : decode cX7_init 51 = .ok (.putfield 34, 3) := by decide +kernel
theorem dX7_init_54 : decode cX7_init 54 = .ok (.aload_n 0, 1) := by decide +kernel
theorem dX7_init_55 : decode cX7_init 55 = .ok (.sipush 256, 3) := by decide +kernel
theorem dX7_init_58 : decode cX7_init 58 = .ok (.newarray .int, 2) := by decide +kernel
theorem dX7_init_60 : decode cX7_init 60 = .ok (.putfield 38, 3) := by decide +kernel
theorem dX7_init_63 : decode cX7_init 63 = .ok (.aload_n 0, 1) := by decide +kernel
theorem dX7_init_64 : decode cX7_init 64 = .ok (.getfield 10, 3) := by decide +kernel
theorem dX7_init_67 : decode cX7_init 67 = .ok (.getfield 41, 3) := by decide +kernel
theorem dX7_init_70 : decode cX7_init 70 = .ok (.iconst 3, 1) := by decide +kernel
theorem dX7_init_71 : decode cX7_init 71 = .ok (.iconst 4, 1) := by decide +kernel
theorem dX7_init_72 : decode cX7_init 72 = .ok (.bipush 6, 2) := by decide +kernel
theorem dX7_init_74 : decode cX7_init 74 = .ok (.iconst 2, 1) := by decide +kernel
theorem dX7_init_75 : decode cX7_init 75 = .ok (.invokevirtual 45, 3) := by decide +kernel
theorem dX7_init_78 : decode cX7_init 78 = .ok (.iconst 0, 1) := by decide +kernel
theorem dX7_init_79 : decode cX7_init 79 = .ok (.istore_n 1, 1) := by decide +kernel
theorem dX7_init_80 : decode cX7_init 80 = .ok (.iload_n 1, 1) := by decide +kernel
theorem dX7_init_81 : decode cX7_init 81 = .ok (.iconst 5, 1) := by decide +kernel
theorem dX7_init_82 : decode cX7_init 82 = .ok (.if_icmp .ge 19, 3) := by decide +kernel
theorem dX7_init_85 : decode cX7_init 85 = .ok (.aload_n 0, 1) := by decide +kernel
theorem dX7_init_86 : decode cX7_init 86 = .ok (.getfield 10, 3) := by decide +kernel
theorem dX7_init_89 : decode cX7_init 89 = .ok (.getfield 51, 3) := by decide +kernel
theorem dX7_init_92 : decode cX7_init 92 = .ok (.iload_n 1, 1) := by decide +kernel
theorem dX7_init_93 : decode cX7_init 93 = .ok (.iconst 1, 1) := by decide +kernel
theorem dX7_init_94 : decode cX7_init 94 = .ok (.iastore, 1) := by decide +kernel
theorem dX7_init_95 : decode cX7_init 95 = .ok (.iinc 1 1, 3) := by decide +kernel
theorem dX7_init_98 : decode cX7_init 98 = .ok (.goto (-18), 3) := by decide +kernel
theorem dX7_init_101 : decode cX7_init 101 = .ok (.aload_n 0, 1) := by decide +kernel
theorem dX7_init_102 : decode cX7_init 102 = .ok (.getfield 10, 3) := by decide +kernel
theorem dX7_init_105 : decode cX7_init 105 = .ok (.getfield 51, 3) := by decide +kernel
theorem dX7_init_108 : decode cX7_init 108 = .ok (.iconst 5, 1) := by decide +kernel
theorem dX7_init_109 : decode cX7_init 109 = .ok (.bipush 10, 2) := by decide +kernel
theorem dX7_init_111 : decode cX7_init 111 = .ok (.iastore, 1) := by decide +kernel
theorem dX7_init_112 : decode cX7_init 112 = .ok (.aload_n 0, 1) := by decide +kernel
theorem dX7_init_113 : decode cX7_init 113 = .ok (.getfield 10, 3) := by decide +kernel
theorem dX7_init_116 : decode cX7_init 116 = .ok (.getfield 51, 3) := by decide +kernel
theorem dX7_init_119 : decode cX7_init 119 = .ok (.bipush 6, 2) := by decide +kernel
theorem dX7_init_121 : decode cX7_init 121 = .ok (.iconst 2, 1) := by decide +kernel
theorem dX7_init_122 : decode cX7_init 122 = .ok (.iastore, 1) := by decide +kernel
theorem dX7_init_123 : decode cX7_init 123 = .ok (.aload_n 0, 1) := by decide +kernel
theorem dX7_init_124 : decode cX7_init 124 = .ok (.getfield 10, 3) := by decide +kernel
theorem dX7_init_127 : decode cX7_init 127 = .ok (.getfield 51, 3) := by decide +kernel
theorem dX7_init_130 : decode cX7_init 130 = .ok (.bipush 7, 2) := by decide +kernel
theorem dX7_init_132 : decode cX7_init 132 = .ok (.iconst 1, 1) := by decide +kernel
theorem dX7_init_133 : decode cX7_init 133 = .ok (.iastore, 1) := by decide +kernel
theorem dX7_init_134 : decode cX7_init 134 = .ok (.aload_n 0, 1) := by decide +kernel
theorem dX7_init_135 : decode cX7_init 135 = .ok (.getfield 10, 3) := by decide +kernel
theorem dX7_init_138 : decode cX7_init 138 = .ok (.getfield 51, 3) := by decide +kernel
theorem dX7_init_141 : decode cX7_init 141 = .ok (.bipush 8, 2) := by decide +kernel
theorem dX7_init_143 : decode cX7_init 143 = .ok (.bipush 9, 2) := by decide +kernel
theorem dX7_init_145 : decode cX7_init 145 = .ok (.iastore, 1) := by decide +kernel
theorem dX7_init_146 : decode cX7_init 146 = .ok (.aload_n 0, 1) := by decide +kernel
theorem dX7_init_147 : decode cX7_init 147 = .ok (.getfield 10, 3) := by decide +kernel
theorem dX7_init_150 : decode cX7_init 150 = .ok (.getfield 51, 3) := by decide +kernel
theorem dX7_init_153 : decode cX7_init 153 = .ok (.bipush 9, 2) := by decide +kernel
theorem dX7_init_155 : decode cX7_init 155 = .ok (.bipush 10, 2) := by decide +kernel
theorem dX7_init_157 : decode cX7_init 157 = .ok (.iastore, 1) := by decide +kernel
theorem dX7_init_158 : decode cX7_init 158 = .ok (.return_, 1) := by decide +kernel
theorem dX7_newHouse_0 : decode cX7_newHouse 0 = .ok (.iload_n 1, 1) := by decide +kernel
theorem dX7_newHouse_1 : decode cX7_newHouse 1 = .ok (.iconst 1, 1) := by decide +kernel
theorem dX7_newHouse_2 : decode cX7_newHouse 2 = .ok (.bipush 6, 2) := by decide +kernel
theorem dX7_newHouse_4 : decode cX7_newHouse 4 = .ok (.invokestatic 54, 3) := by decide +kernel
theorem dX7_newHouse_7 : decode cX7_newHouse 7 = .ok (.iload_n 2, 1) := by decide +kernel
theorem dX7_newHouse_8 : decode cX7_newHouse 8 = .ok (.iconst 1, 1) := by decide +kernel
theorem dX7_newHouse_9 : decode cX7_newHouse 9 = .ok (.bipush 8, 2) := by decide +kernel
theorem dX7_newHouse_11 : decode cX7_newHouse 11 = .ok (.invokestatic 54, 3) := by decide +kernel
theorem dX7_newHouse_14 : decode cX7_newHouse 14 = .ok (.iload_n 3, 1) := by decide +kernel
theorem dX7_newHouse_15 : decode cX7_newHouse 15 = .ok (.iconst 1, 1) := by decide +kernel
theorem dX7_newHouse_16 : decode cX7_newHouse 16 = .ok (.bipush 20, 2) := by decide +kernel
theorem dX7_newHouse_18 : decode cX7_newHouse 18 = .ok (.invokestatic 54, 3) := by decide +kernel
theorem dX7_newHouse_21 : decode cX7_newHouse 21 = .ok (.iload 4, 2) := by decide +kernel
theorem dX7_newHouse_23 : decode cX7_newHouse 23 = .ok (.iconst 1, 1) := by decide +kernel
theorem dX7_newHouse_24 : decode cX7_newHouse 24 = .ok (.iconst 5, 1) := by decide +kernel
theorem dX7_newHouse_25 : decode cX7_newHouse 25 = .ok (.invokestatic 54, 3) := by decide +kernel
theorem dX7_newHouse_28 : decode cX7_newHouse 28 = .ok (.aload_n 0, 1) := by decide +kernel
theorem dX7_newHouse_29 : decode cX7_newHouse 29 = .ok (.invokevirtual 58, 3) := by decide +kernel
theorem dX7_newHouse_32 : decode cX7_newHouse 32 = .ok (.aload_n 0, 1) := by decide +kernel
theorem dX7_newHouse_33 : decode cX7_newHouse 33 = .ok (.getfield 10, 3) := by decide +kernel
theorem dX7_newHouse_36 : decode cX7_newHouse 36 = .ok (.invokevirtual 61, 3) := by decide +kernel
theorem dX7_newHouse_39 : decode cX7_newHouse 39 = .ok (.aload_n 0, 1) := by decide +kernel
theorem dX7_newHouse_40 : decode cX7_newHouse 40 = .ok (.getfield 10, 3) := by decide +kernel
theorem dX7_newHouse_43 : decode cX7_newHouse 43 = .ok (.getfield 41, 3) := by decide +kernel
theorem dX7_newHouse_46 : decode cX7_newHouse 46 = .ok (.iload_n 1, 1) := by decide +kernel
theorem dX7_newHouse_47 : decode cX7_newHouse 47 = .ok (.iload_n 2, 1) := by decide +kernel
theorem dX7_newHouse_48 : decode cX7_newHouse 48 = .ok (.iload_n 3, 1) := by decide +kernel
theorem dX7_newHouse_49 : decode cX7_newHouse 49 = .ok (.iload 4, 2) := by decide +kernel
theorem dX7_newHouse_51 : decode cX7_newHouse 51 = .ok (.invokevirtual 45, 3) := by decide +kernel
theorem dX7_newHouse_54 : decode cX7_newHouse 54 = .ok (.aload_n 0, 1) := by decide +kernel
theorem dX7_newHouse_55 : decode cX7_newHouse 55 = .ok (.getfield 10, 3) := by decide +kernel
theorem dX7_newHouse_58 : decode cX7_newHouse 58 = .ok (.getfield 41, 3) := by decide +kernel
theorem dX7_newHouse_61 : decode cX7_newHouse 61 = .ok (.getfield 64, 3) := by decide +kernel
theorem dX7_newHouse_64 : decode cX7_newHouse 64 = .ok (.ireturn, 1) := by decide +kernel
theorem dX7_passDays_0 : decode cX7_passDays 0 = .ok (.iload_n 1, 1) := by decide +kernel
theorem dX7_passDays_1 : decode cX7_passDays 1 = .ok (.iconst 1, 1) := by decide +kernel
theorem dX7_passDays_2 : decode cX7_passDays 2 = .ok (.sipush 400, 3) := by decide +kernel
theorem dX7_passDays_5 : decode cX7_passDays 5 = .ok (.invokestatic 54, 3) := by decide +kernel
theorem dX7_passDays_8 : decode cX7_passDays 8 = .ok (.aload_n 0, 1) := by decide +kernel
theorem dX7_passDays_9 : decode cX7_passDays 9 = .ok (.getfield 10, 3) := by decide +kernel
theorem dX7_passDays_12 : decode cX7_passDays 12 = .ok (.getfield 68, 3) := by decide +kernel
theorem dX7_passDays_15 : decode cX7_passDays 15 = .ok (.iload_n 1, 1) := by decide +kernel
theorem dX7_passDays_16 : decode cX7_passDays 16 = .ok (.iadd, 1) := by decide +kernel
theorem dX7_passDays_17 : decode cX7_passDays 17 = .ok (.sipush 2556, 3) := by decide +kernel
theorem dX7_passDays_20 : decode cX7_passDays 20 = .ok (.if_icmp .gt 7, 3) := by decide +kernel
theorem dX7_passDays_23 : decode cX7_passDays 23 = .ok (.iconst 1, 1) := by decide +kernel
theorem dX7_passDays_24 : decode cX7_passDays 24 = .ok (.goto 4, 3) := by decide +kernel
theorem dX7_passDays_27 : decode cX7_passDays 27 = .ok (.iconst 0, 1) := by decide +kernel
theorem dX7_passDays_28 : decode cX7_passDays 28 = .ok (.invokestatic 71, 3) := by decide +kernel
theorem dX7_passDays_31 : decode cX7_passDays 31 = .ok (.aload_n 0, 1) := by decide +kernel
theorem dX7_passDays_32 : decode cX7_passDays 32 = .ok (.invokevirtual 58, 3) := by decide +kernel
theorem dX7_passDays_35 : decode cX7_passDays 35 = .ok (.aload_n 0, 1) := by decide +kernel
theorem dX7_passDays_36 : decode cX7_passDays 36 = .ok (.getfield 10, 3) := by decide +kernel
theorem dX7_passDays_39 : decode cX7_passDays 39 = .ok (.dup, 1) := by decide +kernel
theorem dX7_passDays_40 : decode cX7_passDays 40 = .ok (.getfield 68, 3) := by decide +kernel
theorem dX7_passDays_43 : decode cX7_passDays 43 = .ok (.iload_n 1, 1) := by decide +kernel
theorem dX7_passDays_44 : decode cX7_passDays 44 = .ok (.iadd, 1) := by decide +kernel
theorem dX7_passDays_45 : decode cX7_passDays 45 = .ok (.putfield 68, 3) := by decide +kernel
theorem dX7_passDays_48 : decode cX7_passDays 48 = .ok (.iconst 0, 1) := by decide +kernel
theorem dX7_passDays_49 : decode cX7_passDays 49 = .ok (.istore_n 2, 1) := by decide +kernel
theorem dX7_passDays_50 : decode cX7_passDays 50 = .ok (.iconst 0, 1) := by decide +kernel
theorem dX7_passDays_51 : decode cX7_passDays 51 = .ok (.istore_n 3, 1) := by decide +kernel
theorem dX7_passDays_52 : decode cX7_passDays 52 = .ok (.iload_n 3, 1) := by decide +kernel
theorem dX7_passDays_53 : decode cX7_passDays 53 = .ok (.aload_n 0, 1) := by decide +kernel
theorem dX7_passDays_54 : decode cX7_passDays 54 = .ok (.getfield 10, 3) := by decide +kernel
theorem dX7_passDays_57 : decode cX7_passDays 57 = .ok (.getfield 75, 3) := by decide +kernel
theorem dX7_passDays_60 : decode cX7_passDays 60 = .ok (.getfield 79, 3) := by decide +kernel
theorem dX7_passDays_63 : decode cX7_passDays 63 = .ok (.if_icmp .ge 45, 3) := by decide +kernel
theorem dX7_passDays_66 : decode cX7_passDays 66 = .ok (.aload_n 0, 1) := by decide +kernel
theorem dX7_passDays_67 : decode cX7_passDays 67 = .ok (.getfield 10, 3) := by decide +kernel
theorem dX7_passDays_70 : decode cX7_passDays 70 = .ok (.getfield 75, 3) := by decide +kernel
theorem dX7_passDays_73 : decode cX7_passDays 73 = .ok (.getfield 84, 3) := by decide +kernel
theorem dX7_passDays_76 : decode cX7_passDays 76 = .ok (.iload_n 3, 1) := by decide +kernel
theorem dX7_passDays_77 : decode cX7_passDays 77 = .ok (.iaload, 1) := by decide +kernel
theorem dX7_passDays_78 : decode cX7_passDays 78 = .ok (.aload_n 0, 1) := by decide +kernel
theorem dX7_passDays_79 : decode cX7_passDays 79 = .ok (.getfield 10, 3) := by decide +kernel
theorem dX7_passDays_82 : decode cX7_passDays 82 = .ok (.getfield 68, 3) := by decide +kernel
theorem dX7_passDays_85 : decode cX7_passDays 85 = .ok (.if_icmp .ge 17, 3) := by decide +kernel
theorem dX7_passDays_88 : decode cX7_passDays 88 = .ok (.iload_n 2, 1) := by decide +kernel
theorem dX7_passDays_89 : decode cX7_passDays 89 = .ok (.aload_n 0, 1) := by decide +kernel
theorem dX7_passDays_90 : decode cX7_passDays 90 = .ok (.getfield 10, 3) := by decide +kernel
theorem dX7_passDays_93 : decode cX7_passDays 93 = .ok (.getfield 41, 3) := by decide +kernel
theorem dX7_passDays_96 : decode cX7_passDays 96 = .ok (.iload_n 3, 1) := by decide +kernel
theorem dX7_passDays_97 : decode cX7_passDays 97 = .ok (.invokevirtual 87, 3) := by decide +kernel
theorem dX7_passDays_100 : decode cX7_passDays 100 = .ok (.iadd, 1) := by decide +kernel
theorem dX7_passDays_101 : decode cX7_passDays 101 = .ok (.istore_n 2, 1) := by decide +kernel
theorem dX7_passDays_102 : decode cX7_passDays 102 = .ok (.iinc 3 1, 3) := by decide +kernel
theorem dX7_passDays_105 : decode cX7_passDays 105 = .ok (.goto (-53), 3) := by decide +kernel
theorem dX7_passDays_108 : decode cX7_passDays 108 = .ok (.aload_n 0, 1) := by decide +kernel
theorem dX7_passDays_109 : decode cX7_passDays 109 = .ok (.getfield 10, 3) := by decide +kernel
theorem dX7_passDays_112 : decode cX7_passDays 112 = .ok (.getfield 91, 3) := by decide +kernel
theorem dX7_passDays_115 : decode cX7_passDays 115 = .ok (.iconst 3, 1) := by decide +kernel
theorem dX7_passDays_116 : decode cX7_passDays 116 = .ok (.dup2, 1) := by decide +kernel
theorem dX7_passDays_117 : decode cX7_passDays 117 = .ok (.iaload, 1) := by decide +kernel
theorem dX7_passDays_118 : decode cX7_passDays 118 = .ok (.iload_n 2, 1) := by decide +kernel
theorem dX7_passDays_119 : decode cX7_passDays 119 = .ok (.iadd, 1) := by decide +kernel
theorem dX7_passDays_120 : decode cX7_passDays 120 = .ok (.iastore, 1) := by decide +kernel
theorem dX7_passDays_121 : decode cX7_passDays 121 = .ok (.iload_n 2, 1) := by decide +kernel
theorem dX7_passDays_122 : decode cX7_passDays 122 = .ok (.ireturn, 1) := by decide +kernel
theorem dX7_addProduct_0 : decode cX7_addProduct 0 = .ok (.aload_n 0, 1) := by decide +kernel
theorem dX7_addProduct_1 : decode cX7_addProduct 1 = .ok (.getfield 10, 3) := by decide +kernel
theorem dX7_addProduct_4 : decode cX7_addProduct 4 = .ok (.getfield 107, 3) := by decide +kernel
theorem dX7_addProduct_7 : decode cX7_addProduct 7 = .ok (.bipush 6, 2) := by decide +kernel
theorem dX7_addProduct_9 : decode cX7_addProduct 9 = .ok (.if_icmp .ge 7, 3) := by decide +kernel
theorem dX7_addProduct_12 : decode cX7_addProduct 12 = .ok (.iconst 1, 1) := by decide +kernel
theorem dX7_addProduct_13 : decode cX7_addProduct 13 = .ok (.goto 4, 3) := by decide +kernel
theorem dX7_addProduct_16 : decode cX7_addProduct 16 = .ok (.iconst 0, 1) := by decide +kernel
theorem dX7_addProduct_17 : decode cX7_addProduct 17 = .ok (.invokestatic 71, 3) := by decide +kernel
theorem dX7_addProduct_20 : decode cX7_addProduct 20 = .ok (.aload_n 0, 1) := by decide +kernel
theorem dX7_addProduct_21 : decode cX7_addProduct 21 = .ok (.invokevirtual 58, 3) := by decide +kernel
theorem dX7_addProduct_24 : decode cX7_addProduct 24 = .ok (.aload_n 0, 1) := by decide +kernel
theorem dX7_addProduct_25 : decode cX7_addProduct 25 = .ok (.getfield 10, 3) := by decide +kernel
theorem dX7_addProduct_28 : decode cX7_addProduct 28 = .ok (.dup, 1) := by decide +kernel
theorem dX7_addProduct_29 : decode cX7_addProduct 29 = .ok (.getfield 107, 3) := by decide +kernel
theorem dX7_addProduct_32 : decode cX7_addProduct 32 = .ok (.iconst 1, 1) := by decide +kernel
theorem dX7_addProduct_33 : decode cX7_addProduct 33 = .ok (.iadd, 1) := by decide +kernel
theorem dX7_addProduct_34 : decode cX7_addProduct 34 = .ok (.putfield 107, 3) := by decide +kernel
theorem dX7_addProduct_37 : decode cX7_addProduct 37 = .ok (.aload_n 0, 1) := by decide +kernel
theorem dX7_addProduct_38 : decode cX7_addProduct 38 = .ok (.getfield 10, 3) := by decide +kernel
theorem dX7_addProduct_41 : decode cX7_addProduct 41 = .ok (.getfield 107, 3) := by decide +kernel
theorem dX7_addProduct_44 : decode cX7_addProduct 44 = .ok (.iconst 1, 1) := by decide +kernel
theorem dX7_addProduct_45 : decode cX7_addProduct 45 = .ok (.isub, 1) := by decide +kernel
theorem dX7_addProduct_46 : decode cX7_addProduct 46 = .ok (.ireturn, 1) := by decide +kernel
theorem dX7_comeIn_0 : decode cX7_comeIn 0 = .ok (.aload_n 0, 1) := by decide +kernel
theorem dX7_comeIn_1 : decode cX7_comeIn 1 = .ok (.iload_n 1, 1) := by decide +kernel
theorem dX7_comeIn_2 : decode cX7_comeIn 2 = .ok (.invokevirtual 110, 3) := by decide +kernel
theorem dX7_comeIn_5 : decode cX7_comeIn 5 = .ok (.iload_n 2, 1) := by decide +kernel
theorem dX7_comeIn_6 : decode cX7_comeIn 6 = .ok (.iconst 1, 1) := by decide +kernel
theorem dX7_comeIn_7 : decode cX7_comeIn 7 = .ok (.bipush 100, 2) := by decide +kernel
theorem dX7_comeIn_9 : decode cX7_comeIn 9 = .ok (.invokestatic 54, 3) := by decide +kernel
theorem dX7_comeIn_12 : decode cX7_comeIn 12 = .ok (.iload_n 3, 1) := by decide +kernel
theorem dX7_comeIn_13 : decode cX7_comeIn 13 = .ok (.aload_n 0, 1) := by decide +kernel
theorem dX7_comeIn_14 : decode cX7_comeIn 14 = .ok (.getfield 10, 3) := by decide +kernel
theorem dX7_comeIn_17 : decode cX7_comeIn 17 = .ok (.getfield 68, 3) := by decide +kernel
theorem dX7_comeIn_20 : decode cX7_comeIn 20 = .ok (.sipush 2556, 3) := by decide +kernel
theorem dX7_comeIn_23 : decode cX7_comeIn 23 = .ok (.invokestatic 54, 3) := by decide +kernel
theorem dX7_comeIn_26 : decode cX7_comeIn 26 = .ok (.iload 4, 2) := by decide +kernel
theorem dX7_comeIn_28 : decode cX7_comeIn 28 = .ok (.iconst 0, 1) := by decide +kernel
theorem dX7_comeIn_29 : decode cX7_comeIn 29 = .ok (.sipush 9999, 3) := by decide +kernel
theorem dX7_comeIn_32 : decode cX7_comeIn 32 = .ok (.invokestatic 54, 3) := by decide +kernel
theorem dX7_comeIn_35 : decode cX7_comeIn 35 = .ok (.aload_n 0, 1) := by decide +kernel
theorem dX7_comeIn_36 : decode cX7_comeIn 36 = .ok (.getfield 10, 3) := by decide +kernel
theorem dX7_comeIn_39 : decode cX7_comeIn 39 = .ok (.getfield 75, 3) := by decide +kernel
theorem dX7_comeIn_42 : decode cX7_comeIn 42 = .ok (.getfield 79, 3) := by decide +kernel
theorem dX7_comeIn_45 : decode cX7_comeIn 45 = .ok (.bipush 24, 2) := by decide +kernel
theorem dX7_comeIn_47 : decode cX7_comeIn 47 = .ok (.if_icmp .ge 7, 3) := by decide +kernel
theorem dX7_comeIn_50 : decode cX7_comeIn 50 = .ok (.iconst 1, 1) := by decide +kernel
theorem dX7_comeIn_51 : decode cX7_comeIn 51 = .ok (.goto 4, 3) := by decide +kernel
theorem dX7_comeIn_54 : decode cX7_comeIn 54 = .ok (.iconst 0, 1) := by decide +kernel
theorem dX7_comeIn_55 : decode cX7_comeIn 55 = .ok (.invokestatic 71, 3) := by decide +kernel
theorem dX7_comeIn_58 : decode cX7_comeIn 58 = .ok (.aload_n 0, 1) := by decide +kernel
theorem dX7_comeIn_59 : decode cX7_comeIn 59 = .ok (.getfield 10, 3) := by decide +kernel
theorem dX7_comeIn_62 : decode cX7_comeIn 62 = .ok (.getfield 41, 3) := by decide +kernel
theorem dX7_comeIn_65 : decode cX7_comeIn 65 = .ok (.iload_n 2, 1) := by decide +kernel
theorem dX7_comeIn_66 : decode cX7_comeIn 66 = .ok (.invokevirtual 114, 3) := by decide +kernel
theorem dX7_comeIn_69 : decode cX7_comeIn 69 = .ok (.aload_n 0, 1) := by decide +kernel
theorem dX7_comeIn_70 : decode cX7_comeIn 70 = .ok (.getfield 10, 3) := by decide +kernel
theorem dX7_comeIn_73 : decode cX7_comeIn 73 = .ok (.getfield 41, 3) := by decide +kernel
theorem dX7_comeIn_76 : decode cX7_comeIn 76 = .ok (.invokevirtual 117, 3) := by decide +kernel
theorem dX7_comeIn_79 : decode cX7_comeIn 79 = .ok (.if_icmp .gt 7, 3) := by decide +kernel
theorem dX7_comeIn_82 : decode cX7_comeIn 82 = .ok (.iconst 1, 1) := by decide +kernel
theorem dX7_comeIn_83 : decode cX7_comeIn 83 = .ok (.goto 4, 3) := by decide +kernel
theorem dX7_comeIn_86 : decode cX7_comeIn 86 = .ok (.iconst 0, 1) := by decide +kernel
theorem dX7_comeIn_87 : decode cX7_comeIn 87 = .ok (.invokestatic 71, 3) := by decide +kernel
theorem dX7_comeIn_90 : decode cX7_comeIn 90 = .ok (.aload_n 0, 1) := by decide +kernel
theorem dX7_comeIn_91 : decode cX7_comeIn 91 = .ok (.invokevirtual 58, 3) := by decide +kernel
theorem dX7_comeIn_94 : decode cX7_comeIn 94 = .ok (.aload_n 0, 1) := by decide +kernel
theorem dX7_comeIn_95 : decode cX7_comeIn 95 = .ok (.getfield 10, 3) := by decide +kernel
theorem dX7_comeIn_98 : decode cX7_comeIn 98 = .ok (.getfield 75, 3) := by decide +kernel
theorem dX7_comeIn_101 : decode cX7_comeIn 101 = .ok (.iload_n 1, 1) := by decide +kernel
theorem dX7_comeIn_102 : decode cX7_comeIn 102 = .ok (.iload_n 3, 1) := by decide +kernel
theorem dX7_comeIn_103 : decode cX7_comeIn 103 = .ok (.iload 4, 2) := by decide +kernel
theorem dX7_comeIn_105 : decode cX7_comeIn 105 = .ok (.invokevirtual 121, 3) := by decide +kernel
theorem dX7_comeIn_108 : decode cX7_comeIn 108 = .ok (.istore 5, 2) := by decide +kernel
theorem dX7_comeIn_110 : decode cX7_comeIn 110 = .ok (.aload_n 0, 1) := by decide +kernel
theorem dX7_comeIn_111 : decode cX7_comeIn 111 = .ok (.getfield 10, 3) := by decide +kernel
theorem dX7_comeIn_114 : decode cX7_comeIn 114 = .ok (.getfield 41, 3) := by decide +kernel
theorem dX7_comeIn_117 : decode cX7_comeIn 117 = .ok (.iload 5, 2) := by decide +kernel
theorem dX7_comeIn_119 : decode cX7_comeIn 119 = .ok (.iload_n 2, 1) := by decide +kernel
theorem dX7_comeIn_120 : decode cX7_comeIn 120 = .ok (.iconst 1, 1) := by decide +kernel
theorem dX7_comeIn_121 : decode cX7_comeIn 121 = .ok (.invokevirtual 124, 3) := by decide +kernel
theorem dX7_comeIn_124 : decode cX7_comeIn 124 = .ok (.aload_n 0, 1) := by decide +kernel
theorem dX7_comeIn_125 : decode cX7_comeIn 125 = .ok (.getfield 10, 3) := by decide +kernel
theorem dX7_comeIn_128 : decode cX7_comeIn 128 = .ok (.getfield 91, 3) := by decide +kernel
theorem dX7_comeIn_131 : decode cX7_comeIn 131 = .ok (.iconst 0, 1) := by decide +kernel
theorem dX7_comeIn_132 : decode cX7_comeIn 132 = .ok (.dup2, 1) := by decide +kernel
theorem dX7_comeIn_133 : decode cX7_comeIn 133 = .ok (.iaload, 1) := by decide +kernel
theorem dX7_comeIn_134 : decode cX7_comeIn 134 = .ok (.iload_n 2, 1) := by decide +kernel
theorem dX7_comeIn_135 : decode cX7_comeIn 135 = .ok (.iadd, 1) := by decide +kernel
theorem dX7_comeIn_136 : decode cX7_comeIn 136 = .ok (.iastore, 1) := by decide +kernel
theorem dX7_comeIn_137 : decode cX7_comeIn 137 = .ok (.iload 5, 2) := by decide +kernel
theorem dX7_comeIn_139 : decode cX7_comeIn 139 = .ok (.ireturn, 1) := by decide +kernel
theorem dX7_hold_0 : decode cX7_hold 0 = .ok (.aload_n 0, 1) := by decide +kernel
theorem dX7_hold_1 : decode cX7_hold 1 = .ok (.iload_n 1, 1) := by decide +kernel
theorem dX7_hold_2 : decode cX7_hold 2 = .ok (.invokevirtual 127, 3) := by decide +kernel
theorem dX7_hold_5 : decode cX7_hold 5 = .ok (.aload_n 0, 1) := by decide +kernel
theorem dX7_hold_6 : decode cX7_hold 6 = .ok (.getfield 10, 3) := by decide +kernel
theorem dX7_hold_9 : decode cX7_hold 9 = .ok (.getfield 75, 3) := by decide +kernel
theorem dX7_hold_12 : decode cX7_hold 12 = .ok (.getfield 130, 3) := by decide +kernel
theorem dX7_hold_15 : decode cX7_hold 15 = .ok (.iload_n 1, 1) := by decide +kernel
theorem dX7_hold_16 : decode cX7_hold 16 = .ok (.iaload, 1) := by decide +kernel
theorem dX7_hold_17 : decode cX7_hold 17 = .ok (.iconst 2, 1) := by decide +kernel
theorem dX7_hold_18 : decode cX7_hold 18 = .ok (.if_icmp .eq 7, 3) := by decide +kernel
theorem dX7_hold_21 : decode cX7_hold 21 = .ok (.iconst 1, 1) := by decide +kernel
theorem dX7_hold_22 : decode cX7_hold 22 = .ok (.goto 4, 3) := by decide +kernel
theorem dX7_hold_25 : decode cX7_hold 25 = .ok (.iconst 0, 1) := by decide +kernel
theorem dX7_hold_26 : decode cX7_hold 26 = .ok (.invokestatic 71, 3) := by decide +kernel
theorem dX7_hold_29 : decode cX7_hold 29 = .ok (.aload_n 0, 1) := by decide +kernel
theorem dX7_hold_30 : decode cX7_hold 30 = .ok (.invokevirtual 58, 3) := by decide +kernel
theorem dX7_hold_33 : decode cX7_hold 33 = .ok (.aload_n 0, 1) := by decide +kernel
theorem dX7_hold_34 : decode cX7_hold 34 = .ok (.getfield 10, 3) := by decide +kernel
theorem dX7_hold_37 : decode cX7_hold 37 = .ok (.getfield 75, 3) := by decide +kernel
theorem dX7_hold_40 : decode cX7_hold 40 = .ok (.getfield 130, 3) := by decide +kernel
theorem dX7_hold_43 : decode cX7_hold 43 = .ok (.iload_n 1, 1) := by decide +kernel
theorem dX7_hold_44 : decode cX7_hold 44 = .ok (.iaload, 1) := by decide +kernel
theorem dX7_hold_45 : decode cX7_hold 45 = .ok (.iconst 1, 1) := by decide +kernel
theorem dX7_hold_46 : decode cX7_hold 46 = .ok (.if_icmp .ne 7, 3) := by decide +kernel
theorem dX7_hold_49 : decode cX7_hold 49 = .ok (.iconst 1, 1) := by decide +kernel
theorem dX7_hold_50 : decode cX7_hold 50 = .ok (.goto 4, 3) := by decide +kernel
theorem dX7_hold_53 : decode cX7_hold 53 = .ok (.iconst 0, 1) := by decide +kernel
theorem dX7_hold_54 : decode cX7_hold 54 = .ok (.istore_n 3, 1) := by decide +kernel
theorem dX7_hold_55 : decode cX7_hold 55 = .ok (.aload_n 0, 1) := by decide +kernel
theorem dX7_hold_56 : decode cX7_hold 56 = .ok (.getfield 10, 3) := by decide +kernel
theorem dX7_hold_59 : decode cX7_hold 59 = .ok (.getfield 75, 3) := by decide +kernel
theorem dX7_hold_62 : decode cX7_hold 62 = .ok (.getfield 130, 3) := by decide +kernel
theorem dX7_hold_65 : decode cX7_hold 65 = .ok (.iload_n 1, 1) := by decide +kernel
theorem dX7_hold_66 : decode cX7_hold 66 = .ok (.iload_n 2, 1) := by decide +kernel
theorem dX7_hold_67 : decode cX7_hold 67 = .ok (.ifCond .eq 7, 3) := by decide +kernel
theorem dX7_hold_70 : decode cX7_hold 70 = .ok (.iconst 1, 1) := by decide +kernel
theorem dX7_hold_71 : decode cX7_hold 71 = .ok (.goto 4, 3) := by decide +kernel
theorem dX7_hold_74 : decode cX7_hold 74 = .ok (.iconst 0, 1) := by decide +kernel
theorem dX7_hold_75 : decode cX7_hold 75 = .ok (.iastore, 1) := by decide +kernel
theorem dX7_hold_76 : decode cX7_hold 76 = .ok (.iload_n 3, 1) := by decide +kernel
theorem dX7_hold_77 : decode cX7_hold 77 = .ok (.ireturn, 1) := by decide +kernel
theorem dX7_recall_0 : decode cX7_recall 0 = .ok (.aload_n 0, 1) := by decide +kernel
theorem dX7_recall_1 : decode cX7_recall 1 = .ok (.iload_n 1, 1) := by decide +kernel
theorem dX7_recall_2 : decode cX7_recall 2 = .ok (.invokevirtual 127, 3) := by decide +kernel
theorem dX7_recall_5 : decode cX7_recall 5 = .ok (.aload_n 0, 1) := by decide +kernel
theorem dX7_recall_6 : decode cX7_recall 6 = .ok (.getfield 10, 3) := by decide +kernel
theorem dX7_recall_9 : decode cX7_recall 9 = .ok (.getfield 75, 3) := by decide +kernel
theorem dX7_recall_12 : decode cX7_recall 12 = .ok (.getfield 130, 3) := by decide +kernel
theorem dX7_recall_15 : decode cX7_recall 15 = .ok (.iload_n 1, 1) := by decide +kernel
theorem dX7_recall_16 : decode cX7_recall 16 = .ok (.iaload, 1) := by decide +kernel
theorem dX7_recall_17 : decode cX7_recall 17 = .ok (.iconst 2, 1) := by decide +kernel
theorem dX7_recall_18 : decode cX7_recall 18 = .ok (.if_icmp .eq 7, 3) := by decide +kernel
theorem dX7_recall_21 : decode cX7_recall 21 = .ok (.iconst 1, 1) := by decide +kernel
theorem dX7_recall_22 : decode cX7_recall 22 = .ok (.goto 4, 3) := by decide +kernel
theorem dX7_recall_25 : decode cX7_recall 25 = .ok (.iconst 0, 1) := by decide +kernel
theorem dX7_recall_26 : decode cX7_recall 26 = .ok (.invokestatic 71, 3) := by decide +kernel
theorem dX7_recall_29 : decode cX7_recall 29 = .ok (.aload_n 0, 1) := by decide +kernel
theorem dX7_recall_30 : decode cX7_recall 30 = .ok (.invokevirtual 58, 3) := by decide +kernel
theorem dX7_recall_33 : decode cX7_recall 33 = .ok (.aload_n 0, 1) := by decide +kernel
theorem dX7_recall_34 : decode cX7_recall 34 = .ok (.getfield 10, 3) := by decide +kernel
theorem dX7_recall_37 : decode cX7_recall 37 = .ok (.getfield 75, 3) := by decide +kernel
theorem dX7_recall_40 : decode cX7_recall 40 = .ok (.getfield 130, 3) := by decide +kernel
theorem dX7_recall_43 : decode cX7_recall 43 = .ok (.iload_n 1, 1) := by decide +kernel
theorem dX7_recall_44 : decode cX7_recall 44 = .ok (.iconst 2, 1) := by decide +kernel
theorem dX7_recall_45 : decode cX7_recall 45 = .ok (.iastore, 1) := by decide +kernel
theorem dX7_recall_46 : decode cX7_recall 46 = .ok (.aload_n 0, 1) := by decide +kernel
theorem dX7_recall_47 : decode cX7_recall 47 = .ok (.getfield 10, 3) := by decide +kernel
theorem dX7_recall_50 : decode cX7_recall 50 = .ok (.getfield 41, 3) := by decide +kernel
theorem dX7_recall_53 : decode cX7_recall 53 = .ok (.iload_n 1, 1) := by decide +kernel
theorem dX7_recall_54 : decode cX7_recall 54 = .ok (.invokevirtual 87, 3) := by decide +kernel
theorem dX7_recall_57 : decode cX7_recall 57 = .ok (.istore_n 2, 1) := by decide +kernel
theorem dX7_recall_58 : decode cX7_recall 58 = .ok (.aload_n 0, 1) := by decide +kernel
theorem dX7_recall_59 : decode cX7_recall 59 = .ok (.getfield 10, 3) := by decide +kernel
theorem dX7_recall_62 : decode cX7_recall 62 = .ok (.getfield 91, 3) := by decide +kernel
theorem dX7_recall_65 : decode cX7_recall 65 = .ok (.iconst 3, 1) := by decide +kernel
theorem dX7_recall_66 : decode cX7_recall 66 = .ok (.dup2, 1) := by decide +kernel
theorem dX7_recall_67 : decode cX7_recall 67 = .ok (.iaload, 1) := by decide +kernel
theorem dX7_recall_68 : decode cX7_recall 68 = .ok (.iload_n 2, 1) := by decide +kernel
theorem dX7_recall_69 : decode cX7_recall 69 = .ok (.iadd, 1) := by decide +kernel
theorem dX7_recall_70 : decode cX7_recall 70 = .ok (.iastore, 1) := by decide +kernel
theorem dX7_recall_71 : decode cX7_recall 71 = .ok (.iload_n 2, 1) := by decide +kernel
theorem dX7_recall_72 : decode cX7_recall 72 = .ok (.ireturn, 1) := by decide +kernel
theorem dX7_lotAt_0 : decode cX7_lotAt 0 = .ok (.aload_n 0, 1) := by decide +kernel
theorem dX7_lotAt_1 : decode cX7_lotAt 1 = .ok (.iload_n 1, 1) := by decide +kernel
theorem dX7_lotAt_2 : decode cX7_lotAt 2 = .ok (.invokevirtual 127, 3) := by decide +kernel
theorem dX7_lotAt_5 : decode cX7_lotAt 5 = .ok (.iload_n 2, 1) := by decide +kernel
theorem dX7_lotAt_6 : decode cX7_lotAt 6 = .ok (.iconst 0, 1) := by decide +kernel
theorem dX7_lotAt_7 : decode cX7_lotAt 7 = .ok (.iconst 5, 1) := by decide +kernel
theorem dX7_lotAt_8 : decode cX7_lotAt 8 = .ok (.invokestatic 54, 3) := by decide +kernel
theorem dX7_lotAt_11 : decode cX7_lotAt 11 = .ok (.iload_n 2, 1) := by decide +kernel
theorem dX7_lotAt_12 : decode cX7_lotAt 12 = .ok (.tableswitch 100 0 4 #[36, 49, 61, 74, 87], 36) := by decide +kernel
theorem dX7_lotAt_48 : decode cX7_lotAt 48 = .ok (.aload_n 0, 1) := by decide +kernel
theorem dX7_lotAt_49 : decode cX7_lotAt 49 = .ok (.getfield 10, 3) := by decide +kernel
theorem dX7_lotAt_52 : decode cX7_lotAt 52 = .ok (.getfield 75, 3) := by decide +kernel
theorem dX7_lotAt_55 : decode cX7_lotAt 55 = .ok (.getfield 133, 3) := by decide +kernel
theorem dX7_lotAt_58 : decode cX7_lotAt 58 = .ok (.iload_n 1, 1) := by decide +kernel
theorem dX7_lotAt_59 : decode cX7_lotAt 59 = .ok (.iaload, 1) := by decide +kernel
theorem dX7_lotAt_60 : decode cX7_lotAt 60 = .ok (.ireturn, 1) := by decide +kernel
theorem dX7_lotAt_61 : decode cX7_lotAt 61 = .ok (.aload_n 0, 1) := by decide +kernel
theorem dX7_lotAt_62 : decode cX7_lotAt 62 = .ok (.getfield 10, 3) := by decide +kernel
theorem dX7_lotAt_65 : decode cX7_lotAt 65 = .ok (.getfield 41, 3) := by decide +kernel
theorem dX7_lotAt_68 : decode cX7_lotAt 68 = .ok (.iload_n 1, 1) := by decide +kernel
theorem dX7_lotAt_69 : decode cX7_lotAt 69 = .ok (.invokevirtual 136, 3) := by decide +kernel
theorem dX7_lotAt_72 : decode cX7_lotAt 72 = .ok (.ireturn, 1) := by decide +kernel
theorem dX7_lotAt_73 : decode cX7_lotAt 73 = .ok (.aload_n 0, 1) := by decide +kernel
theorem dX7_lotAt_74 : decode cX7_lotAt 74 = .ok (.getfield 10, 3) := by decide +kernel
theorem dX7_lotAt_77 : decode cX7_lotAt 77 = .ok (.getfield 75, 3) := by decide +kernel
theorem dX7_lotAt_80 : decode cX7_lotAt 80 = .ok (.getfield 84, 3) := by decide +kernel
theorem dX7_lotAt_83 : decode cX7_lotAt 83 = .ok (.iload_n 1, 1) := by decide +kernel
theorem dX7_lotAt_84 : decode cX7_lotAt 84 = .ok (.iaload, 1) := by decide +kernel
theorem dX7_lotAt_85 : decode cX7_lotAt 85 = .ok (.ireturn, 1) := by decide +kernel
theorem dX7_lotAt_86 : decode cX7_lotAt 86 = .ok (.aload_n 0, 1) := by decide +kernel
theorem dX7_lotAt_87 : decode cX7_lotAt 87 = .ok (.getfield 10, 3) := by decide +kernel
theorem dX7_lotAt_90 : decode cX7_lotAt 90 = .ok (.getfield 75, 3) := by decide +kernel
theorem dX7_lotAt_93 : decode cX7_lotAt 93 = .ok (.getfield 139, 3) := by decide +kernel
theorem dX7_lotAt_96 : decode cX7_lotAt 96 = .ok (.iload_n 1, 1) := by decide +kernel
theorem dX7_lotAt_97 : decode cX7_lotAt 97 = .ok (.iaload, 1) := by decide +kernel
theorem dX7_lotAt_98 : decode cX7_lotAt 98 = .ok (.ireturn, 1) := by decide +kernel
theorem dX7_lotAt_99 : decode cX7_lotAt 99 = .ok (.aload_n 0, 1) := by decide +kernel
theorem dX7_lotAt_100 : decode cX7_lotAt 100 = .ok (.getfield 10, 3) := by decide +kernel
theorem dX7_lotAt_103 : decode cX7_lotAt 103 = .ok (.getfield 75, 3) := by decide +kernel
theorem dX7_lotAt_106 : decode cX7_lotAt 106 = .ok (.getfield 130, 3) := by decide +kernel
theorem dX7_lotAt_109 : decode cX7_lotAt 109 = .ok (.iload_n 1, 1) := by decide +kernel
theorem dX7_lotAt_110 : decode cX7_lotAt 110 = .ok (.iaload, 1) := by decide +kernel
theorem dX7_lotAt_111 : decode cX7_lotAt 111 = .ok (.ireturn, 1) := by decide +kernel
theorem dX7_lotAt_112 : decode cX7_lotAt 112 = .ok (.aload_n 0, 1) := by decide +kernel
theorem dX7_lotAt_113 : decode cX7_lotAt 113 = .ok (.getfield 10, 3) := by decide +kernel
theorem dX7_lotAt_116 : decode cX7_lotAt 116 = .ok (.getfield 142, 3) := by decide +kernel
theorem dX7_lotAt_119 : decode cX7_lotAt 119 = .ok (.iload_n 1, 1) := by decide +kernel
theorem dX7_lotAt_120 : decode cX7_lotAt 120 = .ok (.invokevirtual 146, 3) := by decide +kernel
theorem dX7_lotAt_123 : decode cX7_lotAt 123 = .ok (.ireturn, 1) := by decide +kernel
theorem dX7_stock_0 : decode cX7_stock 0 = .ok (.aload_n 0, 1) := by decide +kernel
theorem dX7_stock_1 : decode cX7_stock 1 = .ok (.iload_n 1, 1) := by decide +kernel
theorem dX7_stock_2 : decode cX7_stock 2 = .ok (.invokevirtual 110, 3) := by decide +kernel
theorem dX7_stock_5 : decode cX7_stock 5 = .ok (.iconst 0, 1) := by decide +kernel
theorem dX7_stock_6 : decode cX7_stock 6 = .ok (.istore_n 2, 1) := by decide +kernel
theorem dX7_stock_7 : decode cX7_stock 7 = .ok (.aload_n 0, 1) := by decide +kernel
theorem dX7_stock_8 : decode cX7_stock 8 = .ok (.getfield 10, 3) := by decide +kernel
theorem dX7_stock_11 : decode cX7_stock 11 = .ok (.getfield 41, 3) := by decide +kernel
theorem dX7_stock_14 : decode cX7_stock 14 = .ok (.aload_n 0, 1) := by decide +kernel
theorem dX7_stock_15 : decode cX7_stock 15 = .ok (.getfield 34, 3) := by decide +kernel
theorem dX7_stock_18 : decode cX7_stock 18 = .ok (.invokevirtual 151, 3) := by decide +kernel
theorem dX7_stock_21 : decode cX7_stock 21 = .ok (.iconst 0, 1) := by decide +kernel
theorem dX7_stock_22 : decode cX7_stock 22 = .ok (.istore_n 3, 1) := by decide +kernel
theorem dX7_stock_23 : decode cX7_stock 23 = .ok (.iload_n 3, 1) := by decide +kernel
theorem dX7_stock_24 : decode cX7_stock 24 = .ok (.aload_n 0, 1) := by decide +kernel
theorem dX7_stock_25 : decode cX7_stock 25 = .ok (.getfield 10, 3) := by decide +kernel
theorem dX7_stock_28 : decode cX7_stock 28 = .ok (.getfield 75, 3) := by decide +kernel
theorem dX7_stock_31 : decode cX7_stock 31 = .ok (.getfield 79, 3) := by decide +kernel
theorem dX7_stock_34 : decode cX7_stock 34 = .ok (.if_icmp .ge 34, 3) := by decide +kernel
theorem dX7_stock_37 : decode cX7_stock 37 = .ok (.aload_n 0, 1) := by decide +kernel
theorem dX7_stock_38 : decode cX7_stock 38 = .ok (.getfield 10, 3) := by decide +kernel
theorem dX7_stock_41 : decode cX7_stock 41 = .ok (.getfield 75, 3) := by decide +kernel
theorem dX7_stock_44 : decode cX7_stock 44 = .ok (.getfield 133, 3) := by decide +kernel
theorem dX7_stock_47 : decode cX7_stock 47 = .ok (.iload_n 3, 1) := by decide +kernel
theorem dX7_stock_48 : decode cX7_stock 48 = .ok (.iaload, 1) := by decide +kernel
theorem dX7_stock_49 : decode cX7_stock 49 = .ok (.iload_n 1, 1) := by decide +kernel
theorem dX7_stock_50 : decode cX7_stock 50 = .ok (.if_icmp .ne 12, 3) := by decide +kernel
theorem dX7_stock_53 : decode cX7_stock 53 = .ok (.iload_n 2, 1) := by decide +kernel
theorem dX7_stock_54 : decode cX7_stock 54 = .ok (.aload_n 0, 1) := by decide +kernel
theorem dX7_stock_55 : decode cX7_stock 55 = .ok (.getfield 34, 3) := by decide +kernel
theorem dX7_stock_58 : decode cX7_stock 58 = .ok (.iload_n 3, 1) := by decide +kernel
theorem dX7_stock_59 : decode cX7_stock 59 = .ok (.iaload, 1) := by decide +kernel
theorem dX7_stock_60 : decode cX7_stock 60 = .ok (.iadd, 1) := by decide +kernel
theorem dX7_stock_61 : decode cX7_stock 61 = .ok (.istore_n 2, 1) := by decide +kernel
theorem dX7_stock_62 : decode cX7_stock 62 = .ok (.iinc 3 1, 3) := by decide +kernel
theorem dX7_stock_65 : decode cX7_stock 65 = .ok (.goto (-42), 3) := by decide +kernel
theorem dX7_stock_68 : decode cX7_stock 68 = .ok (.iload_n 2, 1) := by decide +kernel
theorem dX7_stock_69 : decode cX7_stock 69 = .ok (.ireturn, 1) := by decide +kernel
theorem dX7_customersOf_0 : decode cX7_customersOf 0 = .ok (.aload_n 0, 1) := by decide +kernel
theorem dX7_customersOf_1 : decode cX7_customersOf 1 = .ok (.iload_n 1, 1) := by decide +kernel
theorem dX7_customersOf_2 : decode cX7_customersOf 2 = .ok (.invokevirtual 127, 3) := by decide +kernel
theorem dX7_customersOf_5 : decode cX7_customersOf 5 = .ok (.iconst 0, 1) := by decide +kernel
theorem dX7_customersOf_6 : decode cX7_customersOf 6 = .ok (.istore_n 2, 1) := by decide +kernel
theorem dX7_customersOf_7 : decode cX7_customersOf 7 = .ok (.iconst 0, 1) := by decide +kernel
theorem dX7_customersOf_8 : decode cX7_customersOf 8 = .ok (.istore_n 3, 1) := by decide +kernel
theorem dX7_customersOf_9 : decode cX7_customersOf 9 = .ok (.iload_n 3, 1) := by decide +kernel
theorem dX7_customersOf_10 : decode cX7_customersOf 10 = .ok (.aload_n 0, 1) := by decide +kernel
theorem dX7_customersOf_11 : decode cX7_customersOf 11 = .ok (.getfield 10, 3) := by decide +kernel
theorem dX7_customersOf_14 : decode cX7_customersOf 14 = .ok (.getfield 142, 3) := by decide +kernel
theorem dX7_customersOf_17 : decode cX7_customersOf 17 = .ok (.getfield 155, 3) := by decide +kernel
theorem dX7_customersOf_20 : decode cX7_customersOf 20 = .ok (.if_icmp .ge 41, 3) := by decide +kernel
theorem dX7_customersOf_23 : decode cX7_customersOf 23 = .ok (.aload_n 0, 1) := by decide +kernel
theorem dX7_customersOf_24 : decode cX7_customersOf 24 = .ok (.getfield 10, 3) := by decide +kernel
theorem dX7_customersOf_27 : decode cX7_customersOf 27 = .ok (.getfield 142, 3) := by decide +kernel
theorem dX7_customersOf_30 : decode cX7_customersOf 30 = .ok (.iload_n 3, 1) := by decide +kernel
theorem dX7_customersOf_31 : decode cX7_customersOf 31 = .ok (.iload_n 1, 1) := by decide +kernel
theorem dX7_customersOf_32 : decode cX7_customersOf 32 = .ok (.invokevirtual 156, 3) := by decide +kernel
theorem dX7_customersOf_35 : decode cX7_customersOf 35 = .ok (.ifCond .le 20, 3) := by decide +kernel
theorem dX7_customersOf_38 : decode cX7_customersOf 38 = .ok (.iload_n 2, 1) := by decide +kernel
theorem dX7_customersOf_39 : decode cX7_customersOf 39 = .ok (.iconst 1, 1) := by decide +kernel
theorem dX7_customersOf_40 : decode cX7_customersOf 40 = .ok (.aload_n 0, 1) := by decide +kernel
theorem dX7_customersOf_41 : decode cX7_customersOf 41 = .ok (.getfield 10, 3) := by decide +kernel
theorem dX7_customersOf_44 : decode cX7_customersOf 44 = .ok (.getfield 142, 3) := by decide +kernel
theorem dX7_customersOf_47 : decode cX7_customersOf 47 = .ok (.getfield 158, 3) := by decide +kernel
theorem dX7_customersOf_50 : decode cX7_customersOf 50 = .ok (.iload_n 3, 1) := by decide +kernel
theorem dX7_customersOf_51 : decode cX7_customersOf 51 = .ok (.iaload, 1) := by decide +kernel
theorem dX7_customersOf_52 : decode cX7_customersOf 52 = .ok (.ishl, 1) := by decide +kernel
theorem dX7_customersOf_53 : decode cX7_customersOf 53 = .ok (.ior, 1) := by decide +kernel
theorem dX7_customersOf_54 : decode cX7_customersOf 54 = .ok (.istore_n 2, 1) := by decide +kernel
theorem dX7_customersOf_55 : decode cX7_customersOf 55 = .ok (.iinc 3 1, 3) := by decide +kernel
theorem dX7_customersOf_58 : decode cX7_customersOf 58 = .ok (.goto (-49), 3) := by decide +kernel
theorem dX7_customersOf_61 : decode cX7_customersOf 61 = .ok (.iload_n 2, 1) := by decide +kernel
theorem dX7_customersOf_62 : decode cX7_customersOf 62 = .ok (.ireturn, 1) := by decide +kernel
theorem dX7_placeAt_0 : decode cX7_placeAt 0 = .ok (.aload_n 0, 1) := by decide +kernel
theorem dX7_placeAt_1 : decode cX7_placeAt 1 = .ok (.iload_n 1, 1) := by decide +kernel
theorem dX7_placeAt_2 : decode cX7_placeAt 2 = .ok (.invokevirtual 161, 3) := by decide +kernel
theorem dX7_placeAt_5 : decode cX7_placeAt 5 = .ok (.iload_n 2, 1) := by decide +kernel
theorem dX7_placeAt_6 : decode cX7_placeAt 6 = .ok (.iconst 0, 1) := by decide +kernel
theorem dX7_placeAt_7 : decode cX7_placeAt 7 = .ok (.iconst 3, 1) := by decide +kernel
theorem dX7_placeAt_8 : decode cX7_placeAt 8 = .ok (.invokestatic 54, 3) := by decide +kernel
theorem dX7_placeAt_11 : decode cX7_placeAt 11 = .ok (.iload_n 2, 1) := by decide +kernel
theorem dX7_placeAt_12 : decode cX7_placeAt 12 = .ok (.tableswitch 66 0 2 #[28, 41, 54], 28) := by decide +kernel
theorem dX7_placeAt_40 : decode cX7_placeAt 40 = .ok (.aload_n 0, 1) := by decide +kernel
theorem dX7_placeAt_41 : decode cX7_placeAt 41 = .ok (.getfield 10, 3) := by decide +kernel
theorem dX7_placeAt_44 : decode cX7_placeAt 44 = .ok (.getfield 41, 3) := by decide +kernel
theorem dX7_placeAt_47 : decode cX7_placeAt 47 = .ok (.getfield 164, 3) := by decide +kernel
theorem dX7_placeAt_50 : decode cX7_placeAt 50 = .ok (.iload_n 1, 1) := by decide +kernel
theorem dX7_placeAt_51 : decode cX7_placeAt 51 = .ok (.iaload, 1) := by decide +kernel
theorem dX7_placeAt_52 : decode cX7_placeAt 52 = .ok (.ireturn, 1) := by decide +kernel
theorem dX7_placeAt_53 : decode cX7_placeAt 53 = .ok (.aload_n 0, 1) := by decide +kernel
theorem dX7_placeAt_54 : decode cX7_placeAt 54 = .ok (.getfield 10, 3) := by decide +kernel
theorem dX7_placeAt_57 : decode cX7_placeAt 57 = .ok (.getfield 41, 3) := by decide +kernel
theorem dX7_placeAt_60 : decode cX7_placeAt 60 = .ok (.getfield 167, 3) := by decide +kernel
theorem dX7_placeAt_63 : decode cX7_placeAt 63 = .ok (.iload_n 1, 1) := by decide +kernel
theorem dX7_placeAt_64 : decode cX7_placeAt 64 = .ok (.iaload, 1) := by decide +kernel
theorem dX7_placeAt_65 : decode cX7_placeAt 65 = .ok (.ireturn, 1) := by decide +kernel
theorem dX7_placeAt_66 : decode cX7_placeAt 66 = .ok (.aload_n 0, 1) := by decide +kernel
theorem dX7_placeAt_67 : decode cX7_placeAt 67 = .ok (.getfield 10, 3) := by decide +kernel
theorem dX7_placeAt_70 : decode cX7_placeAt 70 = .ok (.getfield 41, 3) := by decide +kernel
theorem dX7_placeAt_73 : decode cX7_placeAt 73 = .ok (.iload_n 1, 1) := by decide +kernel
theorem dX7_placeAt_74 : decode cX7_placeAt 74 = .ok (.invokevirtual 170, 3) := by decide +kernel
theorem dX7_placeAt_77 : decode cX7_placeAt 77 = .ok (.ireturn, 1) := by decide +kernel
theorem dX7_placeAt_78 : decode cX7_placeAt 78 = .ok (.aload_n 0, 1) := by decide +kernel
theorem dX7_placeAt_79 : decode cX7_placeAt 79 = .ok (.getfield 10, 3) := by decide +kernel
theorem dX7_placeAt_82 : decode cX7_placeAt 82 = .ok (.getfield 41, 3) := by decide +kernel
theorem dX7_placeAt_85 : decode cX7_placeAt 85 = .ok (.getfield 173, 3) := by decide +kernel
theorem dX7_placeAt_88 : decode cX7_placeAt 88 = .ok (.iload_n 1, 1) := by decide +kernel
theorem dX7_placeAt_89 : decode cX7_placeAt 89 = .ok (.iaload, 1) := by decide +kernel
theorem dX7_placeAt_90 : decode cX7_placeAt 90 = .ok (.ireturn, 1) := by decide +kernel
theorem dX7_count_0 : decode cX7_count 0 = .ok (.aload_n 0, 1) := by decide +kernel
theorem dX7_count_1 : decode cX7_count 1 = .ok (.iload_n 1, 1) := by decide +kernel
theorem dX7_count_2 : decode cX7_count 2 = .ok (.invokevirtual 161, 3) := by decide +kernel
theorem dX7_count_5 : decode cX7_count 5 = .ok (.iload_n 2, 1) := by decide +kernel
theorem dX7_count_6 : decode cX7_count 6 = .ok (.iconst 0, 1) := by decide +kernel
theorem dX7_count_7 : decode cX7_count 7 = .ok (.aload_n 0, 1) := by decide +kernel
theorem dX7_count_8 : decode cX7_count 8 = .ok (.getfield 10, 3) := by decide +kernel
theorem dX7_count_11 : decode cX7_count 11 = .ok (.getfield 41, 3) := by decide +kernel
theorem dX7_count_14 : decode cX7_count 14 = .ok (.getfield 186, 3) := by decide +kernel
theorem dX7_count_17 : decode cX7_count 17 = .ok (.invokestatic 54, 3) := by decide +kernel
theorem dX7_count_20 : decode cX7_count 20 = .ok (.aload_n 0, 1) := by decide +kernel
theorem dX7_count_21 : decode cX7_count 21 = .ok (.getfield 10, 3) := by decide +kernel
theorem dX7_count_24 : decode cX7_count 24 = .ok (.getfield 41, 3) := by decide +kernel
theorem dX7_count_27 : decode cX7_count 27 = .ok (.iload_n 1, 1) := by decide +kernel
theorem dX7_count_28 : decode cX7_count 28 = .ok (.invokevirtual 189, 3) := by decide +kernel
theorem dX7_count_31 : decode cX7_count 31 = .ok (.ifCond .ne 7, 3) := by decide +kernel
theorem dX7_count_34 : decode cX7_count 34 = .ok (.iconst 1, 1) := by decide +kernel
theorem dX7_count_35 : decode cX7_count 35 = .ok (.goto 4, 3) := by decide +kernel
theorem dX7_count_38 : decode cX7_count 38 = .ok (.iconst 0, 1) := by decide +kernel
theorem dX7_count_39 : decode cX7_count 39 = .ok (.invokestatic 71, 3) := by decide +kernel
theorem dX7_count_42 : decode cX7_count 42 = .ok (.aload_n 0, 1) := by decide +kernel
theorem dX7_count_43 : decode cX7_count 43 = .ok (.invokevirtual 58, 3) := by decide +kernel
theorem dX7_count_46 : decode cX7_count 46 = .ok (.iload_n 2, 1) := by decide +kernel
theorem dX7_count_47 : decode cX7_count 47 = .ok (.aload_n 0, 1) := by decide +kernel
theorem dX7_count_48 : decode cX7_count 48 = .ok (.getfield 10, 3) := by decide +kernel
theorem dX7_count_51 : decode cX7_count 51 = .ok (.getfield 41, 3) := by decide +kernel
theorem dX7_count_54 : decode cX7_count 54 = .ok (.getfield 167, 3) := by decide +kernel
theorem dX7_count_57 : decode cX7_count 57 = .ok (.iload_n 1, 1) := by decide +kernel
theorem dX7_count_58 : decode cX7_count 58 = .ok (.iaload, 1) := by decide +kernel
theorem dX7_count_59 : decode cX7_count 59 = .ok (.isub, 1) := by decide +kernel
theorem dX7_count_60 : decode cX7_count 60 = .ok (.istore_n 3, 1) := by decide +kernel
theorem dX7_count_61 : decode cX7_count 61 = .ok (.aload_n 0, 1) := by decide +kernel
theorem dX7_count_62 : decode cX7_count 62 = .ok (.getfield 10, 3) := by decide +kernel
theorem dX7_count_65 : decode cX7_count 65 = .ok (.getfield 41, 3) := by decide +kernel
theorem dX7_count_68 : decode cX7_count 68 = .ok (.iload_n 1, 1) := by decide +kernel
theorem dX7_count_69 : decode cX7_count 69 = .ok (.aload_n 0, 1) := by decide +kernel
theorem dX7_count_70 : decode cX7_count 70 = .ok (.getfield 10, 3) := by decide +kernel
theorem dX7_count_73 : decode cX7_count 73 = .ok (.getfield 41, 3) := by decide +kernel
theorem dX7_count_76 : decode cX7_count 76 = .ok (.getfield 164, 3) := by decide +kernel
theorem dX7_count_79 : decode cX7_count 79 = .ok (.iload_n 1, 1) := by decide +kernel
theorem dX7_count_80 : decode cX7_count 80 = .ok (.iaload, 1) := by decide +kernel
theorem dX7_count_81 : decode cX7_count 81 = .ok (.iload_n 2, 1) := by decide +kernel
theorem dX7_count_82 : decode cX7_count 82 = .ok (.iconst 4, 1) := by decide +kernel
theorem dX7_count_83 : decode cX7_count 83 = .ok (.invokevirtual 193, 3) := by decide +kernel
theorem dX7_count_86 : decode cX7_count 86 = .ok (.iload_n 3, 1) := by decide +kernel
theorem dX7_count_87 : decode cX7_count 87 = .ok (.ifCond .ge 19, 3) := by decide +kernel
theorem dX7_count_90 : decode cX7_count 90 = .ok (.aload_n 0, 1) := by decide +kernel
theorem dX7_count_91 : decode cX7_count 91 = .ok (.getfield 10, 3) := by decide +kernel
theorem dX7_count_94 : decode cX7_count 94 = .ok (.getfield 91, 3) := by decide +kernel
theorem dX7_count_97 : decode cX7_count 97 = .ok (.iconst 4, 1) := by decide +kernel
theorem dX7_count_98 : decode cX7_count 98 = .ok (.dup2, 1) := by decide +kernel
theorem dX7_count_99 : decode cX7_count 99 = .ok (.iaload, 1) := by decide +kernel
theorem dX7_count_100 : decode cX7_count 100 = .ok (.iload_n 3, 1) := by decide +kernel
theorem dX7_count_101 : decode cX7_count 101 = .ok (.isub, 1) := by decide +kernel
theorem dX7_count_102 : decode cX7_count 102 = .ok (.iastore, 1) := by decide +kernel
theorem dX7_count_103 : decode cX7_count 103 = .ok (.goto 16, 3) := by decide +kernel
theorem dX7_count_106 : decode cX7_count 106 = .ok (.aload_n 0, 1) := by decide +kernel
theorem dX7_count_107 : decode cX7_count 107 = .ok (.getfield 10, 3) := by decide +kernel
theorem dX7_count_110 : decode cX7_count 110 = .ok (.getfield 91, 3) := by decide +kernel
theorem dX7_count_113 : decode cX7_count 113 = .ok (.iconst 5, 1) := by decide +kernel
theorem dX7_count_114 : decode cX7_count 114 = .ok (.dup2, 1) := by decide +kernel
theorem dX7_count_115 : decode cX7_count 115 = .ok (.iaload, 1) := by decide +kernel
theorem dX7_count_116 : decode cX7_count 116 = .ok (.iload_n 3, 1) := by decide +kernel
theorem dX7_count_117 : decode cX7_count 117 = .ok (.iadd, 1) := by decide +kernel
theorem dX7_count_118 : decode cX7_count 118 = .ok (.iastore, 1) := by decide +kernel
theorem dX7_count_119 : decode cX7_count 119 = .ok (.iload_n 3, 1) := by decide +kernel
theorem dX7_count_120 : decode cX7_count 120 = .ok (.ireturn, 1) := by decide +kernel
theorem dX7_order_0 : decode cX7_order 0 = .ok (.iload_n 1, 1) := by decide +kernel
theorem dX7_order_1 : decode cX7_order 1 = .ok (.ifCond .lt 9, 3) := by decide +kernel
theorem dX7_order_4 : decode cX7_order 4 = .ok (.iload_n 1, 1) := by decide +kernel
theorem dX7_order_5 : decode cX7_order 5 = .ok (.bipush 8, 2) := by decide +kernel
theorem dX7_order_7 : decode cX7_order 7 = .ok (.if_icmp .lt 13, 3) := by decide +kernel
theorem dX7_order_10 : decode cX7_order 10 = .ok (.new 201, 3) := by decide +kernel
theorem dX7_order_13 : decode cX7_order 13 = .ok (.dup, 1) := by decide +kernel
theorem dX7_order_14 : decode cX7_order 14 = .ok (.ldc 203, 2) := by decide +kernel
theorem dX7_order_16 : decode cX7_order 16 = .ok (.invokespecial 205, 3) := by decide +kernel
theorem dX7_order_19 : decode cX7_order 19 = .ok (.athrow, 1) := by decide +kernel
theorem dX7_order_20 : decode cX7_order 20 = .ok (.aload_n 0, 1) := by decide +kernel
theorem dX7_order_21 : decode cX7_order 21 = .ok (.iload_n 2, 1) := by decide +kernel
theorem dX7_order_22 : decode cX7_order 22 = .ok (.invokevirtual 110, 3) := by decide +kernel
theorem dX7_order_25 : decode cX7_order 25 = .ok (.iload_n 3, 1) := by decide +kernel
theorem dX7_order_26 : decode cX7_order 26 = .ok (.iconst 1, 1) := by decide +kernel
theorem dX7_order_27 : decode cX7_order 27 = .ok (.bipush 50, 2) := by decide +kernel
theorem dX7_order_29 : decode cX7_order 29 = .ok (.invokestatic 54, 3) := by decide +kernel
theorem dX7_order_32 : decode cX7_order 32 = .ok (.iload 4, 2) := by decide +kernel
theorem dX7_order_34 : decode cX7_order 34 = .ok (.aload_n 0, 1) := by decide +kernel
theorem dX7_order_35 : decode cX7_order 35 = .ok (.getfield 10, 3) := by decide +kernel
theorem dX7_order_38 : decode cX7_order 38 = .ok (.getfield 68, 3) := by decide +kernel
theorem dX7_order_41 : decode cX7_order 41 = .ok (.sipush 2556, 3) := by decide +kernel
theorem dX7_order_44 : decode cX7_order 44 = .ok (.invokestatic 54, 3) := by decide +kernel
theorem dX7_order_47 : decode cX7_order 47 = .ok (.iload 5, 2) := by decide +kernel
theorem dX7_order_49 : decode cX7_order 49 = .ok (.iconst 0, 1) := by decide +kernel
theorem dX7_order_50 : decode cX7_order 50 = .ok (.sipush 400, 3) := by decide +kernel
theorem dX7_order_53 : decode cX7_order 53 = .ok (.invokestatic 54, 3) := by decide +kernel
theorem dX7_order_56 : decode cX7_order 56 = .ok (.aload_n 0, 1) := by decide +kernel
theorem dX7_order_57 : decode cX7_order 57 = .ok (.getfield 10, 3) := by decide +kernel
theorem dX7_order_60 : decode cX7_order 60 = .ok (.getfield 142, 3) := by decide +kernel
theorem dX7_order_63 : decode cX7_order 63 = .ok (.getfield 155, 3) := by decide +kernel
theorem dX7_order_66 : decode cX7_order 66 = .ok (.bipush 40, 2) := by decide +kernel
theorem dX7_order_68 : decode cX7_order 68 = .ok (.if_icmp .ge 7, 3) := by decide +kernel
theorem dX7_order_71 : decode cX7_order 71 = .ok (.iconst 1, 1) := by decide +kernel
theorem dX7_order_72 : decode cX7_order 72 = .ok (.goto 4, 3) := by decide +kernel
theorem dX7_order_75 : decode cX7_order 75 = .ok (.iconst 0, 1) := by decide +kernel
theorem dX7_order_76 : decode cX7_order 76 = .ok (.invokestatic 71, 3) := by decide +kernel
theorem dX7_order_79 : decode cX7_order 79 = .ok (.aload_n 0, 1) := by decide +kernel
theorem dX7_order_80 : decode cX7_order 80 = .ok (.invokevirtual 58, 3) := by decide +kernel
theorem dX7_order_83 : decode cX7_order 83 = .ok (.aload_n 0, 1) := by decide +kernel
theorem dX7_order_84 : decode cX7_order 84 = .ok (.getfield 10, 3) := by decide +kernel
theorem dX7_order_87 : decode cX7_order 87 = .ok (.getfield 142, 3) := by decide +kernel
theorem dX7_order_90 : decode cX7_order 90 = .ok (.iload_n 1, 1) := by decide +kernel
theorem dX7_order_91 : decode cX7_order 91 = .ok (.iload_n 2, 1) := by decide +kernel
theorem dX7_order_92 : decode cX7_order 92 = .ok (.iload_n 3, 1) := by decide +kernel
theorem dX7_order_93 : decode cX7_order 93 = .ok (.iload 4, 2) := by decide +kernel
theorem dX7_order_95 : decode cX7_order 95 = .ok (.iload 5, 2) := by decide +kernel
theorem dX7_order_97 : decode cX7_order 97 = .ok (.invokevirtual 206, 3) := by decide +kernel
theorem dX7_order_100 : decode cX7_order 100 = .ok (.ireturn, 1) := by decide +kernel
theorem dX7_giveBack_0 : decode cX7_giveBack 0 = .ok (.aload_n 0, 1) := by decide +kernel
theorem dX7_giveBack_1 : decode cX7_giveBack 1 = .ok (.iload_n 1, 1) := by decide +kernel
theorem dX7_giveBack_2 : decode cX7_giveBack 2 = .ok (.invokevirtual 209, 3) := by decide +kernel
theorem dX7_giveBack_5 : decode cX7_giveBack 5 = .ok (.iload_n 2, 1) := by decide +kernel
theorem dX7_giveBack_6 : decode cX7_giveBack 6 = .ok (.iconst 1, 1) := by decide +kernel
theorem dX7_giveBack_7 : decode cX7_giveBack 7 = .ok (.bipush 50, 2) := by decide +kernel
theorem dX7_giveBack_9 : decode cX7_giveBack 9 = .ok (.invokestatic 54, 3) := by decide +kernel
theorem dX7_giveBack_12 : decode cX7_giveBack 12 = .ok (.iload_n 2, 1) := by decide +kernel
theorem dX7_giveBack_13 : decode cX7_giveBack 13 = .ok (.aload_n 0, 1) := by decide +kernel
theorem dX7_giveBack_14 : decode cX7_giveBack 14 = .ok (.getfield 10, 3) := by decide +kernel
theorem dX7_giveBack_17 : decode cX7_giveBack 17 = .ok (.getfield 142, 3) := by decide +kernel
theorem dX7_giveBack_20 : decode cX7_giveBack 20 = .ok (.iload_n 1, 1) := by decide +kernel
theorem dX7_giveBack_21 : decode cX7_giveBack 21 = .ok (.invokevirtual 215, 3) := by decide +kernel
theorem dX7_giveBack_24 : decode cX7_giveBack 24 = .ok (.if_icmp .gt 7, 3) := by decide +kernel
theorem dX7_giveBack_27 : decode cX7_giveBack 27 = .ok (.iconst 1, 1) := by decide +kernel
theorem dX7_giveBack_28 : decode cX7_giveBack 28 = .ok (.goto 4, 3) := by decide +kernel
theorem dX7_giveBack_31 : decode cX7_giveBack 31 = .ok (.iconst 0, 1) := by decide +kernel
theorem dX7_giveBack_32 : decode cX7_giveBack 32 = .ok (.invokestatic 71, 3) := by decide +kernel
theorem dX7_giveBack_35 : decode cX7_giveBack 35 = .ok (.aload_n 0, 1) := by decide +kernel
theorem dX7_giveBack_36 : decode cX7_giveBack 36 = .ok (.iload_n 1, 1) := by decide +kernel
theorem dX7_giveBack_37 : decode cX7_giveBack 37 = .ok (.iload_n 2, 1) := by decide +kernel
theorem dX7_giveBack_38 : decode cX7_giveBack 38 = .ok (.invokevirtual 218, 3) := by decide +kernel
theorem dX7_giveBack_41 : decode cX7_giveBack 41 = .ok (.aload_n 0, 1) := by decide +kernel
theorem dX7_giveBack_42 : decode cX7_giveBack 42 = .ok (.getfield 10, 3) := by decide +kernel
theorem dX7_giveBack_45 : decode cX7_giveBack 45 = .ok (.getfield 41, 3) := by decide +kernel
theorem dX7_giveBack_48 : decode cX7_giveBack 48 = .ok (.invokevirtual 117, 3) := by decide +kernel
theorem dX7_giveBack_51 : decode cX7_giveBack 51 = .ok (.if_icmp .gt 7, 3) := by decide +kernel
theorem dX7_giveBack_54 : decode cX7_giveBack 54 = .ok (.iconst 1, 1) := by decide +kernel
theorem dX7_giveBack_55 : decode cX7_giveBack 55 = .ok (.goto 4, 3) := by decide +kernel
theorem dX7_giveBack_58 : decode cX7_giveBack 58 = .ok (.iconst 0, 1) := by decide +kernel
theorem dX7_giveBack_59 : decode cX7_giveBack 59 = .ok (.invokestatic 71, 3) := by decide +kernel
theorem dX7_giveBack_62 : decode cX7_giveBack 62 = .ok (.aload_n 0, 1) := by decide +kernel
theorem dX7_giveBack_63 : decode cX7_giveBack 63 = .ok (.invokevirtual 58, 3) := by decide +kernel
theorem dX7_giveBack_66 : decode cX7_giveBack 66 = .ok (.aload_n 0, 1) := by decide +kernel
theorem dX7_giveBack_67 : decode cX7_giveBack 67 = .ok (.iload_n 1, 1) := by decide +kernel
theorem dX7_giveBack_68 : decode cX7_giveBack 68 = .ok (.iload_n 2, 1) := by decide +kernel
theorem dX7_giveBack_69 : decode cX7_giveBack 69 = .ok (.invokevirtual 221, 3) := by decide +kernel
theorem dX7_giveBack_72 : decode cX7_giveBack 72 = .ok (.istore_n 3, 1) := by decide +kernel
theorem dX7_giveBack_73 : decode cX7_giveBack 73 = .ok (.aload_n 0, 1) := by decide +kernel
theorem dX7_giveBack_74 : decode cX7_giveBack 74 = .ok (.getfield 10, 3) := by decide +kernel
theorem dX7_giveBack_77 : decode cX7_giveBack 77 = .ok (.getfield 91, 3) := by decide +kernel
theorem dX7_giveBack_80 : decode cX7_giveBack 80 = .ok (.iconst 2, 1) := by decide +kernel
theorem dX7_giveBack_81 : decode cX7_giveBack 81 = .ok (.dup2, 1) := by decide +kernel
theorem dX7_giveBack_82 : decode cX7_giveBack 82 = .ok (.iaload, 1) := by decide +kernel
theorem dX7_giveBack_83 : decode cX7_giveBack 83 = .ok (.iload_n 2, 1) := by decide +kernel
theorem dX7_giveBack_84 : decode cX7_giveBack 84 = .ok (.iadd, 1) := by decide +kernel
theorem dX7_giveBack_85 : decode cX7_giveBack 85 = .ok (.iastore, 1) := by decide +kernel
theorem dX7_giveBack_86 : decode cX7_giveBack 86 = .ok (.aload_n 0, 1) := by decide +kernel
theorem dX7_giveBack_87 : decode cX7_giveBack 87 = .ok (.getfield 10, 3) := by decide +kernel
theorem dX7_giveBack_90 : decode cX7_giveBack 90 = .ok (.getfield 91, 3) := by decide +kernel
theorem dX7_giveBack_93 : decode cX7_giveBack 93 = .ok (.iconst 3, 1) := by decide +kernel
theorem dX7_giveBack_94 : decode cX7_giveBack 94 = .ok (.dup2, 1) := by decide +kernel
theorem dX7_giveBack_95 : decode cX7_giveBack 95 = .ok (.iaload, 1) := by decide +kernel
theorem dX7_giveBack_96 : decode cX7_giveBack 96 = .ok (.iload_n 3, 1) := by decide +kernel
theorem dX7_giveBack_97 : decode cX7_giveBack 97 = .ok (.iadd, 1) := by decide +kernel
theorem dX7_giveBack_98 : decode cX7_giveBack 98 = .ok (.iastore, 1) := by decide +kernel
theorem dX7_giveBack_99 : decode cX7_giveBack 99 = .ok (.iload_n 3, 1) := by decide +kernel
theorem dX7_giveBack_100 : decode cX7_giveBack 100 = .ok (.ireturn, 1) := by decide +kernel
theorem dX7_orderAt_0 : decode cX7_orderAt 0 = .ok (.aload_n 0, 1) := by decide +kernel
theorem dX7_orderAt_1 : decode cX7_orderAt 1 = .ok (.iload_n 1, 1) := by decide +kernel
theorem dX7_orderAt_2 : decode cX7_orderAt 2 = .ok (.invokevirtual 209, 3) := by decide +kernel
theorem dX7_orderAt_5 : decode cX7_orderAt 5 = .ok (.iload_n 2, 1) := by decide +kernel
theorem dX7_orderAt_6 : decode cX7_orderAt 6 = .ok (.iconst 0, 1) := by decide +kernel
theorem dX7_orderAt_7 : decode cX7_orderAt 7 = .ok (.iconst 5, 1) := by decide +kernel
theorem dX7_orderAt_8 : decode cX7_orderAt 8 = .ok (.invokestatic 54, 3) := by decide +kernel
theorem dX7_orderAt_11 : decode cX7_orderAt 11 = .ok (.iload_n 2, 1) := by decide +kernel
theorem dX7_orderAt_12 : decode cX7_orderAt 12 = .ok (.tableswitch 100 0 4 #[36, 49, 62, 75, 87], 36) := by decide +kernel
theorem dX7_orderAt_48 : decode cX7_orderAt 48 = .ok (.aload_n 0, 1) := by decide +kernel
theorem dX7_orderAt_49 : decode cX7_orderAt 49 = .ok (.getfield 10, 3) := by decide +kernel
theorem dX7_orderAt_52 : decode cX7_orderAt 52 = .ok (.getfield 142, 3) := by decide +kernel
theorem dX7_orderAt_55 : decode cX7_orderAt 55 = .ok (.getfield 158, 3) := by decide +kernel
theorem dX7_orderAt_58 : decode cX7_orderAt 58 = .ok (.iload_n 1, 1) := by decide +kernel
theorem dX7_orderAt_59 : decode cX7_orderAt 59 = .ok (.iaload, 1) := by decide +kernel
theorem dX7_orderAt_60 : decode cX7_orderAt 60 = .ok (.ireturn, 1) := by decide +kernel
theorem dX7_orderAt_61 : decode cX7_orderAt 61 = .ok (.aload_n 0, 1) := by decide +kernel
theorem dX7_orderAt_62 : decode cX7_orderAt 62 = .ok (.getfield 10, 3) := by decide +kernel
theorem dX7_orderAt_65 : decode cX7_orderAt 65 = .ok (.getfield 142, 3) := by decide +kernel
theorem dX7_orderAt_68 : decode cX7_orderAt 68 = .ok (.getfield 224, 3) := by decide +kernel
theorem dX7_orderAt_71 : decode cX7_orderAt 71 = .ok (.iload_n 1, 1) := by decide +kernel
theorem dX7_orderAt_72 : decode cX7_orderAt 72 = .ok (.iaload, 1) := by decide +kernel
theorem dX7_orderAt_73 : decode cX7_orderAt 73 = .ok (.ireturn, 1) := by decide +kernel
theorem dX7_orderAt_74 : decode cX7_orderAt 74 = .ok (.aload_n 0, 1) := by decide +kernel
theorem dX7_orderAt_75 : decode cX7_orderAt 75 = .ok (.getfield 10, 3) := by decide +kernel
theorem dX7_orderAt_78 : decode cX7_orderAt 78 = .ok (.getfield 142, 3) := by decide +kernel
theorem dX7_orderAt_81 : decode cX7_orderAt 81 = .ok (.getfield 212, 3) := by decide +kernel
theorem dX7_orderAt_84 : decode cX7_orderAt 84 = .ok (.iload_n 1, 1) := by decide +kernel
theorem dX7_orderAt_85 : decode cX7_orderAt 85 = .ok (.iaload, 1) := by decide +kernel
theorem dX7_orderAt_86 : decode cX7_orderAt 86 = .ok (.ireturn, 1) := by decide +kernel
theorem dX7_orderAt_87 : decode cX7_orderAt 87 = .ok (.aload_n 0, 1) := by decide +kernel
theorem dX7_orderAt_88 : decode cX7_orderAt 88 = .ok (.getfield 10, 3) := by decide +kernel
theorem dX7_orderAt_91 : decode cX7_orderAt 91 = .ok (.getfield 142, 3) := by decide +kernel
theorem dX7_orderAt_94 : decode cX7_orderAt 94 = .ok (.iload_n 1, 1) := by decide +kernel
theorem dX7_orderAt_95 : decode cX7_orderAt 95 = .ok (.invokevirtual 215, 3) := by decide +kernel
theorem dX7_orderAt_98 : decode cX7_orderAt 98 = .ok (.ireturn, 1) := by decide +kernel
theorem dX7_orderAt_99 : decode cX7_orderAt 99 = .ok (.aload_n 0, 1) := by decide +kernel
theorem dX7_orderAt_100 : decode cX7_orderAt 100 = .ok (.getfield 10, 3) := by decide +kernel
theorem dX7_orderAt_103 : decode cX7_orderAt 103 = .ok (.getfield 142, 3) := by decide +kernel
theorem dX7_orderAt_106 : decode cX7_orderAt 106 = .ok (.getfield 225, 3) := by decide +kernel
theorem dX7_orderAt_109 : decode cX7_orderAt 109 = .ok (.iload_n 1, 1) := by decide +kernel
theorem dX7_orderAt_110 : decode cX7_orderAt 110 = .ok (.iaload, 1) := by decide +kernel
theorem dX7_orderAt_111 : decode cX7_orderAt 111 = .ok (.ireturn, 1) := by decide +kernel
theorem dX7_orderAt_112 : decode cX7_orderAt 112 = .ok (.aload_n 0, 1) := by decide +kernel
theorem dX7_orderAt_113 : decode cX7_orderAt 113 = .ok (.getfield 10, 3) := by decide +kernel
theorem dX7_orderAt_116 : decode cX7_orderAt 116 = .ok (.getfield 142, 3) := by decide +kernel
theorem dX7_orderAt_119 : decode cX7_orderAt 119 = .ok (.iload_n 1, 1) := by decide +kernel
theorem dX7_orderAt_120 : decode cX7_orderAt 120 = .ok (.invokevirtual 228, 3) := by decide +kernel
theorem dX7_orderAt_123 : decode cX7_orderAt 123 = .ok (.ireturn, 1) := by decide +kernel
theorem dX7_lotsOf_0 : decode cX7_lotsOf 0 = .ok (.aload_n 0, 1) := by decide +kernel
theorem dX7_lotsOf_1 : decode cX7_lotsOf 1 = .ok (.iload_n 1, 1) := by decide +kernel
theorem dX7_lotsOf_2 : decode cX7_lotsOf 2 = .ok (.invokevirtual 209, 3) := by decide +kernel
theorem dX7_lotsOf_5 : decode cX7_lotsOf 5 = .ok (.iconst 0, 1) := by decide +kernel
theorem dX7_lotsOf_6 : decode cX7_lotsOf 6 = .ok (.istore_n 2, 1) := by decide +kernel
theorem dX7_lotsOf_7 : decode cX7_lotsOf 7 = .ok (.iconst 0, 1) := by decide +kernel
theorem dX7_lotsOf_8 : decode cX7_lotsOf 8 = .ok (.istore_n 3, 1) := by decide +kernel
theorem dX7_lotsOf_9 : decode cX7_lotsOf 9 = .ok (.iload_n 3, 1) := by decide +kernel
theorem dX7_lotsOf_10 : decode cX7_lotsOf 10 = .ok (.aload_n 0, 1) := by decide +kernel
theorem dX7_lotsOf_11 : decode cX7_lotsOf 11 = .ok (.getfield 10, 3) := by decide +kernel
theorem dX7_lotsOf_14 : decode cX7_lotsOf 14 = .ok (.getfield 75, 3) := by decide +kernel
theorem dX7_lotsOf_17 : decode cX7_lotsOf 17 = .ok (.getfield 79, 3) := by decide +kernel
theorem dX7_lotsOf_20 : decode cX7_lotsOf 20 = .ok (.if_icmp .ge 30, 3) := by decide +kernel
theorem dX7_lotsOf_23 : decode cX7_lotsOf 23 = .ok (.aload_n 0, 1) := by decide +kernel
theorem dX7_lotsOf_24 : decode cX7_lotsOf 24 = .ok (.getfield 10, 3) := by decide +kernel
theorem dX7_lotsOf_27 : decode cX7_lotsOf 27 = .ok (.getfield 142, 3) := by decide +kernel
theorem dX7_lotsOf_30 : decode cX7_lotsOf 30 = .ok (.iload_n 1, 1) := by decide +kernel
theorem dX7_lotsOf_31 : decode cX7_lotsOf 31 = .ok (.iload_n 3, 1) := by decide +kernel
theorem dX7_lotsOf_32 : decode cX7_lotsOf 32 = .ok (.invokevirtual 156, 3) := by decide +kernel
theorem dX7_lotsOf_35 : decode cX7_lotsOf 35 = .ok (.ifCond .le 9, 3) := by decide +kernel
theorem dX7_lotsOf_38 : decode cX7_lotsOf 38 = .ok (.iload_n 2, 1) := by decide +kernel
theorem dX7_lotsOf_39 : decode cX7_lotsOf 39 = .ok (.iconst 1, 1) := by decide +kernel
theorem dX7_lotsOf_40 : decode cX7_lotsOf 40 = .ok (.iload_n 3, 1) := by decide +kernel
theorem dX7_lotsOf_41 : decode cX7_lotsOf 41 = .ok (.ishl, 1) := by decide +kernel
theorem dX7_lotsOf_42 : decode cX7_lotsOf 42 = .ok (.ior, 1) := by decide +kernel
theorem dX7_lotsOf_43 : decode cX7_lotsOf 43 = .ok (.istore_n 2, 1) := by decide +kernel
theorem dX7_lotsOf_44 : decode cX7_lotsOf 44 = .ok (.iinc 3 1, 3) := by decide +kernel
theorem dX7_lotsOf_47 : decode cX7_lotsOf 47 = .ok (.goto (-38), 3) := by decide +kernel
theorem dX7_lotsOf_50 : decode cX7_lotsOf 50 = .ok (.iload_n 2, 1) := by decide +kernel
theorem dX7_lotsOf_51 : decode cX7_lotsOf 51 = .ok (.ireturn, 1) := by decide +kernel
theorem dX7_wave_0 : decode cX7_wave 0 = .ok (.aload_n 0, 1) := by decide +kernel
theorem dX7_wave_1 : decode cX7_wave 1 = .ok (.invokevirtual 58, 3) := by decide +kernel
theorem dX7_wave_4 : decode cX7_wave 4 = .ok (.aload_n 0, 1) := by decide +kernel
theorem dX7_wave_5 : decode cX7_wave 5 = .ok (.getfield 10, 3) := by decide +kernel
theorem dX7_wave_8 : decode cX7_wave 8 = .ok (.getfield 41, 3) := by decide +kernel
theorem dX7_wave_11 : decode cX7_wave 11 = .ok (.lconst 0, 1) := by decide +kernel
theorem dX7_wave_12 : decode cX7_wave 12 = .ok (.putfield 231, 3) := by decide +kernel
theorem dX7_wave_15 : decode cX7_wave 15 = .ok (.aload_n 0, 1) := by decide +kernel
theorem dX7_wave_16 : decode cX7_wave 16 = .ok (.getfield 10, 3) := by decide +kernel
theorem dX7_wave_19 : decode cX7_wave 19 = .ok (.getfield 41, 3) := by decide +kernel
theorem dX7_wave_22 : decode cX7_wave 22 = .ok (.aload_n 0, 1) := by decide +kernel
theorem dX7_wave_23 : decode cX7_wave 23 = .ok (.getfield 34, 3) := by decide +kernel
theorem dX7_wave_26 : decode cX7_wave 26 = .ok (.invokevirtual 151, 3) := by decide +kernel
theorem dX7_wave_29 : decode cX7_wave 29 = .ok (.iconst 0, 1) := by decide +kernel
theorem dX7_wave_30 : decode cX7_wave 30 = .ok (.istore_n 1, 1) := by decide +kernel
theorem dX7_wave_31 : decode cX7_wave 31 = .ok (.iconst 0, 1) := by decide +kernel
theorem dX7_wave_32 : decode cX7_wave 32 = .ok (.istore_n 2, 1) := by decide +kernel
theorem dX7_wave_33 : decode cX7_wave 33 = .ok (.iload_n 2, 1) := by decide +kernel
theorem dX7_wave_34 : decode cX7_wave 34 = .ok (.aload_n 0, 1) := by decide +kernel
theorem dX7_wave_35 : decode cX7_wave 35 = .ok (.getfield 10, 3) := by decide +kernel
theorem dX7_wave_38 : decode cX7_wave 38 = .ok (.getfield 142, 3) := by decide +kernel
theorem dX7_wave_41 : decode cX7_wave 41 = .ok (.getfield 155, 3) := by decide +kernel
theorem dX7_wave_44 : decode cX7_wave 44 = .ok (.if_icmp .ge 29, 3) := by decide +kernel
theorem dX7_wave_47 : decode cX7_wave 47 = .ok (.iload_n 1, 1) := by decide +kernel
theorem dX7_wave_48 : decode cX7_wave 48 = .ok (.aload_n 0, 1) := by decide +kernel
theorem dX7_wave_49 : decode cX7_wave 49 = .ok (.aload_n 0, 1) := by decide +kernel
theorem dX7_wave_50 : decode cX7_wave 50 = .ok (.getfield 10, 3) := by decide +kernel
theorem dX7_wave_53 : decode cX7_wave 53 = .ok (.getfield 142, 3) := by decide +kernel
theorem dX7_wave_56 : decode cX7_wave 56 = .ok (.getfield 235, 3) := by decide +kernel
theorem dX7_wave_59 : decode cX7_wave 59 = .ok (.iload_n 2, 1) := by decide +kernel
theorem dX7_wave_60 : decode cX7_wave 60 = .ok (.iaload, 1) := by decide +kernel
theorem dX7_wave_61 : decode cX7_wave 61 = .ok (.iconst 1, 1) := by decide +kernel
theorem dX7_wave_62 : decode cX7_wave 62 = .ok (.invokevirtual 238, 3) := by decide +kernel
theorem dX7_wave_65 : decode cX7_wave 65 = .ok (.iadd, 1) := by decide +kernel
theorem dX7_wave_66 : decode cX7_wave 66 = .ok (.istore_n 1, 1) := by decide +kernel
theorem dX7_wave_67 : decode cX7_wave 67 = .ok (.iinc 2 1, 3) := by decide +kernel
theorem dX7_wave_70 : decode cX7_wave 70 = .ok (.goto (-37), 3) := by decide +kernel
theorem dX7_wave_73 : decode cX7_wave 73 = .ok (.aload_n 0, 1) := by decide +kernel
theorem dX7_wave_74 : decode cX7_wave 74 = .ok (.getfield 10, 3) := by decide +kernel
theorem dX7_wave_77 : decode cX7_wave 77 = .ok (.getfield 91, 3) := by decide +kernel
theorem dX7_wave_80 : decode cX7_wave 80 = .ok (.iconst 1, 1) := by decide +kernel
theorem dX7_wave_81 : decode cX7_wave 81 = .ok (.dup2, 1) := by decide +kernel
theorem dX7_wave_82 : decode cX7_wave 82 = .ok (.iaload, 1) := by decide +kernel
theorem dX7_wave_83 : decode cX7_wave 83 = .ok (.iload_n 1, 1) := by decide +kernel
theorem dX7_wave_84 : decode cX7_wave 84 = .ok (.iadd, 1) := by decide +kernel
theorem dX7_wave_85 : decode cX7_wave 85 = .ok (.iastore, 1) := by decide +kernel
theorem dX7_wave_86 : decode cX7_wave 86 = .ok (.iload_n 1, 1) := by decide +kernel
theorem dX7_wave_87 : decode cX7_wave 87 = .ok (.ireturn, 1) := by decide +kernel
theorem dX7_unfilled_0 : decode cX7_unfilled 0 = .ok (.aload_n 0, 1) := by decide +kernel
theorem dX7_unfilled_1 : decode cX7_unfilled 1 = .ok (.iload_n 1, 1) := by decide +kernel
theorem dX7_unfilled_2 : decode cX7_unfilled 2 = .ok (.invokevirtual 110, 3) := by decide +kernel
theorem dX7_unfilled_5 : decode cX7_unfilled 5 = .ok (.aload_n 0, 1) := by decide +kernel
theorem dX7_unfilled_6 : decode cX7_unfilled 6 = .ok (.iload_n 1, 1) := by decide +kernel
theorem dX7_unfilled_7 : decode cX7_unfilled 7 = .ok (.invokevirtual 242, 3) := by decide +kernel
theorem dX7_unfilled_10 : decode cX7_unfilled 10 = .ok (.ireturn, 1) := by decide +kernel
theorem dX7_proofDay_0 : decode cX7_proofDay 0 = .ok (.aload_n 0, 1) := by decide +kernel
theorem dX7_proofDay_1 : decode cX7_proofDay 1 = .ok (.iload_n 1, 1) := by decide +kernel
theorem dX7_proofDay_2 : decode cX7_proofDay 2 = .ok (.invokevirtual 110, 3) := by decide +kernel
theorem dX7_proofDay_5 : decode cX7_proofDay 5 = .ok (.aload_n 0, 1) := by decide +kernel
theorem dX7_proofDay_6 : decode cX7_proofDay 6 = .ok (.iload_n 1, 1) := by decide +kernel
theorem dX7_proofDay_7 : decode cX7_proofDay 7 = .ok (.invokevirtual 242, 3) := by decide +kernel
theorem dX7_proofDay_10 : decode cX7_proofDay 10 = .ok (.ifCond .ne 13, 3) := by decide +kernel
theorem dX7_proofDay_13 : decode cX7_proofDay 13 = .ok (.new 179, 3) := by decide +kernel
theorem dX7_proofDay_16 : decode cX7_proofDay 16 = .ok (.dup, 1) := by decide +kernel
theorem dX7_proofDay_17 : decode cX7_proofDay 17 = .ok (.ldc 245, 2) := by decide +kernel
theorem dX7_proofDay_19 : decode cX7_proofDay 19 = .ok (.invokespecial 183, 3) := by decide +kernel
theorem dX7_proofDay_22 : decode cX7_proofDay 22 = .ok (.athrow, 1) := by decide +kernel
theorem dX7_proofDay_23 : decode cX7_proofDay 23 = .ok (.iconst (-1), 1) := by decide +kernel
theorem dX7_proofDay_24 : decode cX7_proofDay 24 = .ok (.istore_n 2, 1) := by decide +kernel
theorem dX7_proofDay_25 : decode cX7_proofDay 25 = .ok (.iconst 0, 1) := by decide +kernel
theorem dX7_proofDay_26 : decode cX7_proofDay 26 = .ok (.istore_n 3, 1) := by decide +kernel
theorem dX7_proofDay_27 : decode cX7_proofDay 27 = .ok (.iconst 0, 1) := by decide +kernel
theorem dX7_proofDay_28 : decode cX7_proofDay 28 = .ok (.istore 4, 2) := by decide +kernel
theorem dX7_proofDay_30 : decode cX7_proofDay 30 = .ok (.iload 4, 2) := by decide +kernel
theorem dX7_proofDay_32 : decode cX7_proofDay 32 = .ok (.aload_n 0, 1) := by decide +kernel
theorem dX7_proofDay_33 : decode cX7_proofDay 33 = .ok (.getfield 10, 3) := by decide +kernel
theorem dX7_proofDay_36 : decode cX7_proofDay 36 = .ok (.getfield 142, 3) := by decide +kernel
theorem dX7_proofDay_39 : decode cX7_proofDay 39 = .ok (.getfield 155, 3) := by decide +kernel
theorem dX7_proofDay_42 : decode cX7_proofDay 42 = .ok (.if_icmp .ge 94, 3) := by decide +kernel
theorem dX7_proofDay_45 : decode cX7_proofDay 45 = .ok (.aload_n 0, 1) := by decide +kernel
theorem dX7_proofDay_46 : decode cX7_proofDay 46 = .ok (.getfield 10, 3) := by decide +kernel
theorem dX7_proofDay_49 : decode cX7_proofDay 49 = .ok (.getfield 142, 3) := by decide +kernel
theorem dX7_proofDay_52 : decode cX7_proofDay 52 = .ok (.getfield 224, 3) := by decide +kernel
theorem dX7_proofDay_55 : decode cX7_proofDay 55 = .ok (.iload 4, 2) := by decide +kernel
theorem dX7_proofDay_57 : decode cX7_proofDay 57 = .ok (.iaload, 1) := by decide +kernel
theorem dX7_proofDay_58 : decode cX7_proofDay 58 = .ok (.iload_n 1, 1) := by decide +kernel
theorem dX7_proofDay_59 : decode cX7_proofDay 59 = .ok (.if_icmp .ne 71, 3) := by decide +kernel
theorem dX7_proofDay_62 : decode cX7_proofDay 62 = .ok (.aload_n 0, 1) := by decide +kernel
theorem dX7_proofDay_63 : decode cX7_proofDay 63 = .ok (.getfield 10, 3) := by decide +kernel
theorem dX7_proofDay_66 : decode cX7_proofDay 66 = .ok (.getfield 142, 3) := by decide +kernel
theorem dX7_proofDay_69 : decode cX7_proofDay 69 = .ok (.getfield 212, 3) := by decide +kernel
theorem dX7_proofDay_72 : decode cX7_proofDay 72 = .ok (.iload 4, 2) := by decide +kernel
theorem dX7_proofDay_74 : decode cX7_proofDay 74 = .ok (.iaload, 1) := by decide +kernel
theorem dX7_proofDay_75 : decode cX7_proofDay 75 = .ok (.ifCond .le 55, 3) := by decide +kernel
theorem dX7_proofDay_78 : decode cX7_proofDay 78 = .ok (.aload_n 0, 1) := by decide +kernel
theorem dX7_proofDay_79 : decode cX7_proofDay 79 = .ok (.getfield 10, 3) := by decide +kernel
theorem dX7_proofDay_82 : decode cX7_proofDay 82 = .ok (.getfield 142, 3) := by decide +kernel
theorem dX7_proofDay_85 : decode cX7_proofDay 85 = .ok (.iload 4, 2) := by decide +kernel
theorem dX7_proofDay_87 : decode cX7_proofDay 87 = .ok (.invokevirtual 228, 3) := by decide +kernel
theorem dX7_proofDay_90 : decode cX7_proofDay 90 = .ok (.istore 5, 2) := by decide +kernel
theorem dX7_proofDay_92 : decode cX7_proofDay 92 = .ok (.aload_n 0, 1) := by decide +kernel
theorem dX7_proofDay_93 : decode cX7_proofDay 93 = .ok (.iload_n 1, 1) := by decide +kernel
theorem dX7_proofDay_94 : decode cX7_proofDay 94 = .ok (.iload 5, 2) := by decide +kernel
theorem dX7_proofDay_96 : decode cX7_proofDay 96 = .ok (.invokevirtual 247, 3) := by decide +kernel
theorem dX7_proofDay_99 : decode cX7_proofDay 99 = .ok (.istore 6, 2) := by decide +kernel
theorem dX7_proofDay_101 : decode cX7_proofDay 101 = .ok (.iload_n 2, 1) := by decide +kernel
theorem dX7_proofDay_102 : decode cX7_proofDay 102 = .ok (.iconst (-1), 1) := by decide +kernel
theorem dX7_proofDay_103 : decode cX7_proofDay 103 = .ok (.if_icmp .eq 21, 3) := by decide +kernel
theorem dX7_proofDay_106 : decode cX7_proofDay 106 = .ok (.iload 6, 2) := by decide +kernel
theorem dX7_proofDay_108 : decode cX7_proofDay 108 = .ok (.iload_n 3, 1) := by decide +kernel
theorem dX7_proofDay_109 : decode cX7_proofDay 109 = .ok (.if_icmp .gt 15, 3) := by decide +kernel
theorem dX7_proofDay_112 : decode cX7_proofDay 112 = .ok (.iload 6, 2) := by decide +kernel
theorem dX7_proofDay_114 : decode cX7_proofDay 114 = .ok (.iload_n 3, 1) := by decide +kernel
theorem dX7_proofDay_115 : decode cX7_proofDay 115 = .ok (.if_icmp .ne 15, 3) := by decide +kernel
theorem dX7_proofDay_118 : decode cX7_proofDay 118 = .ok (.iload 5, 2) := by decide +kernel
theorem dX7_proofDay_120 : decode cX7_proofDay 120 = .ok (.iload_n 2, 1) := by decide +kernel
theorem dX7_proofDay_121 : decode cX7_proofDay 121 = .ok (.if_icmp .ge 9, 3) := by decide +kernel
theorem dX7_proofDay_124 : decode cX7_proofDay 124 = .ok (.iload 5, 2) := by decide +kernel
theorem dX7_proofDay_126 : decode cX7_proofDay 126 = .ok (.istore_n 2, 1) := by decide +kernel
theorem dX7_proofDay_127 : decode cX7_proofDay 127 = .ok (.iload 6, 2) := by decide +kernel
theorem dX7_proofDay_129 : decode cX7_proofDay 129 = .ok (.istore_n 3, 1) := by decide +kernel
theorem dX7_proofDay_130 : decode cX7_proofDay 130 = .ok (.iinc 4 1, 3) := by decide +kernel
theorem dX7_proofDay_133 : decode cX7_proofDay 133 = .ok (.goto (-103), 3) := by decide +kernel
theorem dX7_proofDay_136 : decode cX7_proofDay 136 = .ok (.iload_n 2, 1) := by decide +kernel
theorem dX7_proofDay_137 : decode cX7_proofDay 137 = .ok (.ireturn, 1) := by decide +kernel
theorem dX7_difference_0 : decode cX7_difference 0 = .ok (.aload_n 0, 1) := by decide +kernel
theorem dX7_difference_1 : decode cX7_difference 1 = .ok (.iload_n 1, 1) := by decide +kernel
theorem dX7_difference_2 : decode cX7_difference 2 = .ok (.invokevirtual 110, 3) := by decide +kernel
theorem dX7_difference_5 : decode cX7_difference 5 = .ok (.iload_n 2, 1) := by decide +kernel
theorem dX7_difference_6 : decode cX7_difference 6 = .ok (.iconst 0, 1) := by decide +kernel
theorem dX7_difference_7 : decode cX7_difference 7 = .ok (.sipush 3000, 3) := by decide +kernel
theorem dX7_difference_10 : decode cX7_difference 10 = .ok (.invokestatic 54, 3) := by decide +kernel
theorem dX7_difference_13 : decode cX7_difference 13 = .ok (.aload_n 0, 1) := by decide +kernel
theorem dX7_difference_14 : decode cX7_difference 14 = .ok (.iload_n 1, 1) := by decide +kernel
theorem dX7_difference_15 : decode cX7_difference 15 = .ok (.iload_n 2, 1) := by decide +kernel
theorem dX7_difference_16 : decode cX7_difference 16 = .ok (.invokevirtual 247, 3) := by decide +kernel
theorem dX7_difference_19 : decode cX7_difference 19 = .ok (.ireturn, 1) := by decide +kernel
theorem dX7_pickCount_0 : decode cX7_pickCount 0 = .ok (.aload_n 0, 1) := by decide +kernel
theorem dX7_pickCount_1 : decode cX7_pickCount 1 = .ok (.getfield 10, 3) := by decide +kernel
theorem dX7_pickCount_4 : decode cX7_pickCount 4 = .ok (.getfield 41, 3) := by decide +kernel
theorem dX7_pickCount_7 : decode cX7_pickCount 7 = .ok (.getfield 231, 3) := by decide +kernel
theorem dX7_pickCount_10 : decode cX7_pickCount 10 = .ok (.invokestatic 250, 3) := by decide +kernel
theorem dX7_pickCount_13 : decode cX7_pickCount 13 = .ok (.ireturn, 1) := by decide +kernel
theorem dX7_pickLength_0 : decode cX7_pickLength 0 = .ok (.iload_n 1, 1) := by decide +kernel
theorem dX7_pickLength_1 : decode cX7_pickLength 1 = .ok (.iconst 0, 1) := by decide +kernel
theorem dX7_pickLength_2 : decode cX7_pickLength 2 = .ok (.iconst 2, 1) := by decide +kernel
theorem dX7_pickLength_3 : decode cX7_pickLength 3 = .ok (.invokestatic 54, 3) := by decide +kernel
theorem dX7_pickLength_6 : decode cX7_pickLength 6 = .ok (.iload_n 1, 1) := by decide +kernel
theorem dX7_pickLength_7 : decode cX7_pickLength 7 = .ok (.ifCond .ne 18, 3) := by decide +kernel
theorem dX7_pickLength_10 : decode cX7_pickLength 10 = .ok (.aload_n 0, 1) := by decide +kernel
theorem dX7_pickLength_11 : decode cX7_pickLength 11 = .ok (.getfield 30, 3) := by decide +kernel
theorem dX7_pickLength_14 : decode cX7_pickLength 14 = .ok (.aload_n 0, 1) := by decide +kernel
theorem dX7_pickLength_15 : decode cX7_pickLength 15 = .ok (.getfield 10, 3) := by decide +kernel
theorem dX7_pickLength_18 : decode cX7_pickLength 18 = .ok (.getfield 41, 3) := by decide +kernel
theorem dX7_pickLength_21 : decode cX7_pickLength 21 = .ok (.invokevirtual 256, 3) := by decide +kernel
theorem dX7_pickLength_24 : decode cX7_pickLength 24 = .ok (.ireturn, 1) := by decide +kernel
theorem dX7_pickLength_25 : decode cX7_pickLength 25 = .ok (.iload_n 1, 1) := by decide +kernel
theorem dX7_pickLength_26 : decode cX7_pickLength 26 = .ok (.iconst 1, 1) := by decide +kernel
theorem dX7_pickLength_27 : decode cX7_pickLength 27 = .ok (.if_icmp .ne 18, 3) := by decide +kernel
theorem dX7_pickLength_30 : decode cX7_pickLength 30 = .ok (.aload_n 0, 1) := by decide +kernel
theorem dX7_pickLength_31 : decode cX7_pickLength 31 = .ok (.getfield 30, 3) := by decide +kernel
theorem dX7_pickLength_34 : decode cX7_pickLength 34 = .ok (.aload_n 0, 1) := by decide +kernel
theorem dX7_pickLength_35 : decode cX7_pickLength 35 = .ok (.getfield 10, 3) := by decide +kernel
theorem dX7_pickLength_38 : decode cX7_pickLength 38 = .ok (.getfield 41, 3) := by decide +kernel
theorem dX7_pickLength_41 : decode cX7_pickLength 41 = .ok (.invokevirtual 260, 3) := by decide +kernel
theorem dX7_pickLength_44 : decode cX7_pickLength 44 = .ok (.ireturn, 1) := by decide +kernel
theorem dX7_pickLength_45 : decode cX7_pickLength 45 = .ok (.aload_n 0, 1) := by decide +kernel
theorem dX7_pickLength_46 : decode cX7_pickLength 46 = .ok (.getfield 10, 3) := by decide +kernel
theorem dX7_pickLength_49 : decode cX7_pickLength 49 = .ok (.getfield 41, 3) := by decide +kernel
theorem dX7_pickLength_52 : decode cX7_pickLength 52 = .ok (.getfield 231, 3) := by decide +kernel
theorem dX7_pickLength_55 : decode cX7_pickLength 55 = .ok (.invokestatic 250, 3) := by decide +kernel
theorem dX7_pickLength_58 : decode cX7_pickLength 58 = .ok (.bipush 10, 2) := by decide +kernel
theorem dX7_pickLength_60 : decode cX7_pickLength 60 = .ok (.if_icmp .gt 7, 3) := by decide +kernel
theorem dX7_pickLength_63 : decode cX7_pickLength 63 = .ok (.iconst 1, 1) := by decide +kernel
theorem dX7_pickLength_64 : decode cX7_pickLength 64 = .ok (.goto 4, 3) := by decide +kernel
theorem dX7_pickLength_67 : decode cX7_pickLength 67 = .ok (.iconst 0, 1) := by decide +kernel
theorem dX7_pickLength_68 : decode cX7_pickLength 68 = .ok (.invokestatic 71, 3) := by decide +kernel
theorem dX7_pickLength_71 : decode cX7_pickLength 71 = .ok (.aload_n 0, 1) := by decide +kernel
theorem dX7_pickLength_72 : decode cX7_pickLength 72 = .ok (.getfield 30, 3) := by decide +kernel
theorem dX7_pickLength_75 : decode cX7_pickLength 75 = .ok (.aload_n 0, 1) := by decide +kernel
theorem dX7_pickLength_76 : decode cX7_pickLength 76 = .ok (.getfield 10, 3) := by decide +kernel
theorem dX7_pickLength_79 : decode cX7_pickLength 79 = .ok (.getfield 41, 3) := by decide +kernel
theorem dX7_pickLength_82 : decode cX7_pickLength 82 = .ok (.invokevirtual 263, 3) := by decide +kernel
theorem dX7_pickLength_85 : decode cX7_pickLength 85 = .ok (.ireturn, 1) := by decide +kernel
theorem dX7_addItem_0 : decode cX7_addItem 0 = .ok (.iload_n 1, 1) := by decide +kernel
theorem dX7_addItem_1 : decode cX7_addItem 1 = .ok (.iconst 1, 1) := by decide +kernel
theorem dX7_addItem_2 : decode cX7_addItem 2 = .ok (.bipush 20, 2) := by decide +kernel
theorem dX7_addItem_4 : decode cX7_addItem 4 = .ok (.invokestatic 54, 3) := by decide +kernel
theorem dX7_addItem_7 : decode cX7_addItem 7 = .ok (.aload_n 0, 1) := by decide +kernel
theorem dX7_addItem_8 : decode cX7_addItem 8 = .ok (.getfield 10, 3) := by decide +kernel
theorem dX7_addItem_11 : decode cX7_addItem 11 = .ok (.getfield 266, 3) := by decide +kernel
theorem dX7_addItem_14 : decode cX7_addItem 14 = .ok (.bipush 8, 2) := by decide +kernel
theorem dX7_addItem_16 : decode cX7_addItem 16 = .ok (.if_icmp .ge 7, 3) := by decide +kernel
theorem dX7_addItem_19 : decode cX7_addItem 19 = .ok (.iconst 1, 1) := by decide +kernel
theorem dX7_addItem_20 : decode cX7_addItem 20 = .ok (.goto 4, 3) := by decide +kernel
theorem dX7_addItem_23 : decode cX7_addItem 23 = .ok (.iconst 0, 1) := by decide +kernel
theorem dX7_addItem_24 : decode cX7_addItem 24 = .ok (.invokestatic 71, 3) := by decide +kernel
theorem dX7_addItem_27 : decode cX7_addItem 27 = .ok (.aload_n 0, 1) := by decide +kernel
theorem dX7_addItem_28 : decode cX7_addItem 28 = .ok (.invokevirtual 58, 3) := by decide +kernel
theorem dX7_addItem_31 : decode cX7_addItem 31 = .ok (.aload_n 0, 1) := by decide +kernel
theorem dX7_addItem_32 : decode cX7_addItem 32 = .ok (.getfield 10, 3) := by decide +kernel
theorem dX7_addItem_35 : decode cX7_addItem 35 = .ok (.getfield 269, 3) := by decide +kernel
theorem dX7_addItem_38 : decode cX7_addItem 38 = .ok (.aload_n 0, 1) := by decide +kernel
theorem dX7_addItem_39 : decode cX7_addItem 39 = .ok (.getfield 10, 3) := by decide +kernel
theorem dX7_addItem_42 : decode cX7_addItem 42 = .ok (.getfield 266, 3) := by decide +kernel
theorem dX7_addItem_45 : decode cX7_addItem 45 = .ok (.iload_n 1, 1) := by decide +kernel
theorem dX7_addItem_46 : decode cX7_addItem 46 = .ok (.iastore, 1) := by decide +kernel
theorem dX7_addItem_47 : decode cX7_addItem 47 = .ok (.aload_n 0, 1) := by decide +kernel
theorem dX7_addItem_48 : decode cX7_addItem 48 = .ok (.getfield 10, 3) := by decide +kernel
theorem dX7_addItem_51 : decode cX7_addItem 51 = .ok (.dup, 1) := by decide +kernel
theorem dX7_addItem_52 : decode cX7_addItem 52 = .ok (.getfield 266, 3) := by decide +kernel
theorem dX7_addItem_55 : decode cX7_addItem 55 = .ok (.iconst 1, 1) := by decide +kernel
theorem dX7_addItem_56 : decode cX7_addItem 56 = .ok (.iadd, 1) := by decide +kernel
theorem dX7_addItem_57 : decode cX7_addItem 57 = .ok (.putfield 266, 3) := by decide +kernel
theorem dX7_addItem_60 : decode cX7_addItem 60 = .ok (.aload_n 0, 1) := by decide +kernel
theorem dX7_addItem_61 : decode cX7_addItem 61 = .ok (.getfield 10, 3) := by decide +kernel
theorem dX7_addItem_64 : decode cX7_addItem 64 = .ok (.getfield 266, 3) := by decide +kernel
theorem dX7_addItem_67 : decode cX7_addItem 67 = .ok (.ireturn, 1) := by decide +kernel
theorem dX7_clearItems_0 : decode cX7_clearItems 0 = .ok (.aload_n 0, 1) := by decide +kernel
theorem dX7_clearItems_1 : decode cX7_clearItems 1 = .ok (.invokevirtual 58, 3) := by decide +kernel
theorem dX7_clearItems_4 : decode cX7_clearItems 4 = .ok (.aload_n 0, 1) := by decide +kernel
theorem dX7_clearItems_5 : decode cX7_clearItems 5 = .ok (.getfield 10, 3) := by decide +kernel
theorem dX7_clearItems_8 : decode cX7_clearItems 8 = .ok (.getfield 266, 3) := by decide +kernel
theorem dX7_clearItems_11 : decode cX7_clearItems 11 = .ok (.istore_n 1, 1) := by decide +kernel
theorem dX7_clearItems_12 : decode cX7_clearItems 12 = .ok (.aload_n 0, 1) := by decide +kernel
theorem dX7_clearItems_13 : decode cX7_clearItems 13 = .ok (.getfield 10, 3) := by decide +kernel
theorem dX7_clearItems_16 : decode cX7_clearItems 16 = .ok (.iconst 0, 1) := by decide +kernel
theorem dX7_clearItems_17 : decode cX7_clearItems 17 = .ok (.putfield 266, 3) := by decide +kernel
theorem dX7_clearItems_20 : decode cX7_clearItems 20 = .ok (.iload_n 1, 1) := by decide +kernel
theorem dX7_clearItems_21 : decode cX7_clearItems 21 = .ok (.ireturn, 1) := by decide +kernel
theorem dX7_boxes_0 : decode cX7_boxes 0 = .ok (.iload_n 1, 1) := by decide +kernel
theorem dX7_boxes_1 : decode cX7_boxes 1 = .ok (.iconst 1, 1) := by decide +kernel
theorem dX7_boxes_2 : decode cX7_boxes 2 = .ok (.bipush 40, 2) := by decide +kernel
theorem dX7_boxes_4 : decode cX7_boxes 4 = .ok (.invokestatic 54, 3) := by decide +kernel
theorem dX7_boxes_7 : decode cX7_boxes 7 = .ok (.iconst 0, 1) := by decide +kernel
theorem dX7_boxes_8 : decode cX7_boxes 8 = .ok (.istore_n 2, 1) := by decide +kernel
theorem dX7_boxes_9 : decode cX7_boxes 9 = .ok (.iload_n 2, 1) := by decide +kernel
theorem dX7_boxes_10 : decode cX7_boxes 10 = .ok (.aload_n 0, 1) := by decide +kernel
theorem dX7_boxes_11 : decode cX7_boxes 11 = .ok (.getfield 10, 3) := by decide +kernel
theorem dX7_boxes_14 : decode cX7_boxes 14 = .ok (.getfield 266, 3) := by decide +kernel
theorem dX7_boxes_17 : decode cX7_boxes 17 = .ok (.if_icmp .ge 23, 3) := by decide +kernel
theorem dX7_boxes_20 : decode cX7_boxes 20 = .ok (.aload_n 0, 1) := by decide +kernel
theorem dX7_boxes_21 : decode cX7_boxes 21 = .ok (.getfield 10, 3) := by decide +kernel
theorem dX7_boxes_24 : decode cX7_boxes 24 = .ok (.getfield 269, 3) := by decide +kernel
theorem dX7_boxes_27 : decode cX7_boxes 27 = .ok (.iload_n 2, 1) := by decide +kernel
theorem dX7_boxes_28 : decode cX7_boxes 28 = .ok (.iaload, 1) := by decide +kernel
theorem dX7_boxes_29 : decode cX7_boxes 29 = .ok (.iconst 1, 1) := by decide +kernel
theorem dX7_boxes_30 : decode cX7_boxes 30 = .ok (.iload_n 1, 1) := by decide +kernel
theorem dX7_boxes_31 : decode cX7_boxes 31 = .ok (.invokestatic 54, 3) := by decide +kernel
theorem dX7_boxes_34 : decode cX7_boxes 34 = .ok (.iinc 2 1, 3) := by decide +kernel
theorem dX7_boxes_37 : decode cX7_boxes 37 = .ok (.goto (-28), 3) := by decide +kernel
theorem dX7_boxes_40 : decode cX7_boxes 40 = .ok (.aload_n 0, 1) := by decide +kernel
theorem dX7_boxes_41 : decode cX7_boxes 41 = .ok (.iload_n 1, 1) := by decide +kernel
theorem dX7_boxes_42 : decode cX7_boxes 42 = .ok (.invokevirtual 272, 3) := by decide +kernel
theorem dX7_boxes_45 : decode cX7_boxes 45 = .ok (.ireturn, 1) := by decide +kernel
theorem dX7_boxBound_0 : decode cX7_boxBound 0 = .ok (.iload_n 1, 1) := by decide +kernel
theorem dX7_boxBound_1 : decode cX7_boxBound 1 = .ok (.iconst 1, 1) := by decide +kernel
theorem dX7_boxBound_2 : decode cX7_boxBound 2 = .ok (.bipush 40, 2) := by decide +kernel
theorem dX7_boxBound_4 : decode cX7_boxBound 4 = .ok (.invokestatic 54, 3) := by decide +kernel
theorem dX7_boxBound_7 : decode cX7_boxBound 7 = .ok (.iconst 0, 1) := by decide +kernel
theorem dX7_boxBound_8 : decode cX7_boxBound 8 = .ok (.istore_n 2, 1) := by decide +kernel
theorem dX7_boxBound_9 : decode cX7_boxBound 9 = .ok (.iconst 0, 1) := by decide +kernel
theorem dX7_boxBound_10 : decode cX7_boxBound 10 = .ok (.istore_n 3, 1) := by decide +kernel
theorem dX7_boxBound_11 : decode cX7_boxBound 11 = .ok (.iload_n 3, 1) := by decide +kernel
theorem dX7_boxBound_12 : decode cX7_boxBound 12 = .ok (.aload_n 0, 1) := by decide +kernel
theorem dX7_boxBound_13 : decode cX7_boxBound 13 = .ok (.getfield 10, 3) := by decide +kernel
theorem dX7_boxBound_16 : decode cX7_boxBound 16 = .ok (.getfield 266, 3) := by decide +kernel
theorem dX7_boxBound_19 : decode cX7_boxBound 19 = .ok (.if_icmp .ge 21, 3) := by decide +kernel
theorem dX7_boxBound_22 : decode cX7_boxBound 22 = .ok (.iload_n 2, 1) := by decide +kernel
theorem dX7_boxBound_23 : decode cX7_boxBound 23 = .ok (.aload_n 0, 1) := by decide +kernel
theorem dX7_boxBound_24 : decode cX7_boxBound 24 = .ok (.getfield 10, 3) := by decide +kernel
theorem dX7_boxBound_27 : decode cX7_boxBound 27 = .ok (.getfield 269, 3) := by decide +kernel
theorem dX7_boxBound_30 : decode cX7_boxBound 30 = .ok (.iload_n 3, 1) := by decide +kernel
theorem dX7_boxBound_31 : decode cX7_boxBound 31 = .ok (.iaload, 1) := by decide +kernel
theorem dX7_boxBound_32 : decode cX7_boxBound 32 = .ok (.iadd, 1) := by decide +kernel
theorem dX7_boxBound_33 : decode cX7_boxBound 33 = .ok (.istore_n 2, 1) := by decide +kernel
theorem dX7_boxBound_34 : decode cX7_boxBound 34 = .ok (.iinc 3 1, 3) := by decide +kernel
theorem dX7_boxBound_37 : decode cX7_boxBound 37 = .ok (.goto (-26), 3) := by decide +kernel
theorem dX7_boxBound_40 : decode cX7_boxBound 40 = .ok (.iload_n 2, 1) := by decide +kernel
theorem dX7_boxBound_41 : decode cX7_boxBound 41 = .ok (.iload_n 1, 1) := by decide +kernel
theorem dX7_boxBound_42 : decode cX7_boxBound 42 = .ok (.iadd, 1) := by decide +kernel
theorem dX7_boxBound_43 : decode cX7_boxBound 43 = .ok (.iconst 1, 1) := by decide +kernel
theorem dX7_boxBound_44 : decode cX7_boxBound 44 = .ok (.isub, 1) := by decide +kernel
theorem dX7_boxBound_45 : decode cX7_boxBound 45 = .ok (.iload_n 1, 1) := by decide +kernel
theorem dX7_boxBound_46 : decode cX7_boxBound 46 = .ok (.idiv, 1) := by decide +kernel
theorem dX7_boxBound_47 : decode cX7_boxBound 47 = .ok (.ireturn, 1) := by decide +kernel
theorem dX7_setWants_0 : decode cX7_setWants 0 = .ok (.iload_n 1, 1) := by decide +kernel
theorem dX7_setWants_1 : decode cX7_setWants 1 = .ok (.iconst 0, 1) := by decide +kernel
theorem dX7_setWants_2 : decode cX7_setWants 2 = .ok (.bipush 9, 2) := by decide +kernel
theorem dX7_setWants_4 : decode cX7_setWants 4 = .ok (.invokestatic 54, 3) := by decide +kernel
theorem dX7_setWants_7 : decode cX7_setWants 7 = .ok (.iload_n 2, 1) := by decide +kernel
theorem dX7_setWants_8 : decode cX7_setWants 8 = .ok (.iconst 0, 1) := by decide +kernel
theorem dX7_setWants_9 : decode cX7_setWants 9 = .ok (.bipush 9, 2) := by decide +kernel
theorem dX7_setWants_11 : decode cX7_setWants 11 = .ok (.invokestatic 54, 3) := by decide +kernel
theorem dX7_setWants_14 : decode cX7_setWants 14 = .ok (.iload_n 3, 1) := by decide +kernel
theorem dX7_setWants_15 : decode cX7_setWants 15 = .ok (.iconst 0, 1) := by decide +kernel
theorem dX7_setWants_16 : decode cX7_setWants 16 = .ok (.bipush 9, 2) := by decide +kernel
theorem dX7_setWants_18 : decode cX7_setWants 18 = .ok (.invokestatic 54, 3) := by decide +kernel
theorem dX7_setWants_21 : decode cX7_setWants 21 = .ok (.iload 4, 2) := by decide +kernel
theorem dX7_setWants_23 : decode cX7_setWants 23 = .ok (.iconst 0, 1) := by decide +kernel
theorem dX7_setWants_24 : decode cX7_setWants 24 = .ok (.bipush 9, 2) := by decide +kernel
theorem dX7_setWants_26 : decode cX7_setWants 26 = .ok (.invokestatic 54, 3) := by decide +kernel
theorem dX7_setWants_29 : decode cX7_setWants 29 = .ok (.iload 5, 2) := by decide +kernel
theorem dX7_setWants_31 : decode cX7_setWants 31 = .ok (.iconst 0, 1) := by decide +kernel
theorem dX7_setWants_32 : decode cX7_setWants 32 = .ok (.bipush 9, 2) := by decide +kernel
theorem dX7_setWants_34 : decode cX7_setWants 34 = .ok (.invokestatic 54, 3) := by decide +kernel
theorem dX7_setWants_37 : decode cX7_setWants 37 = .ok (.iload_n 1, 1) := by decide +kernel
theorem dX7_setWants_38 : decode cX7_setWants 38 = .ok (.iload_n 2, 1) := by decide +kernel
theorem dX7_setWants_39 : decode cX7_setWants 39 = .ok (.iadd, 1) := by decide +kernel
theorem dX7_setWants_40 : decode cX7_setWants 40 = .ok (.iload_n 3, 1) := by decide +kernel
theorem dX7_setWants_41 : decode cX7_setWants 41 = .ok (.iadd, 1) := by decide +kernel
theorem dX7_setWants_42 : decode cX7_setWants 42 = .ok (.iload 4, 2) := by decide +kernel
theorem dX7_setWants_44 : decode cX7_setWants 44 = .ok (.iadd, 1) := by decide +kernel
theorem dX7_setWants_45 : decode cX7_setWants 45 = .ok (.iload 5, 2) := by decide +kernel
theorem dX7_setWants_47 : decode cX7_setWants 47 = .ok (.iadd, 1) := by decide +kernel
theorem dX7_setWants_48 : decode cX7_setWants 48 = .ok (.istore 6, 2) := by decide +kernel
theorem dX7_setWants_50 : decode cX7_setWants 50 = .ok (.iload 6, 2) := by decide +kernel
theorem dX7_setWants_52 : decode cX7_setWants 52 = .ok (.ifCond .ne 14, 3) := by decide +kernel
theorem dX7_setWants_55 : decode cX7_setWants 55 = .ok (.new 196, 3) := by decide +kernel
theorem dX7_setWants_58 : decode cX7_setWants 58 = .ok (.dup, 1) := by decide +kernel
theorem dX7_setWants_59 : decode cX7_setWants 59 = .ok (.ldc_w 275, 3) := by decide +kernel
theorem dX7_setWants_62 : decode cX7_setWants 62 = .ok (.invokespecial 200, 3) := by decide +kernel
theorem dX7_setWants_65 : decode cX7_setWants 65 = .ok (.athrow, 1) := by decide +kernel
theorem dX7_setWants_66 : decode cX7_setWants 66 = .ok (.aload_n 0, 1) := by decide +kernel
theorem dX7_setWants_67 : decode cX7_setWants 67 = .ok (.invokevirtual 58, 3) := by decide +kernel
theorem dX7_setWants_70 : decode cX7_setWants 70 = .ok (.aload_n 0, 1) := by decide +kernel
theorem dX7_setWants_71 : decode cX7_setWants 71 = .ok (.getfield 10, 3) := by decide +kernel
theorem dX7_setWants_74 : decode cX7_setWants 74 = .ok (.getfield 51, 3) := by decide +kernel
theorem dX7_setWants_77 : decode cX7_setWants 77 = .ok (.iconst 0, 1) := by decide +kernel
theorem dX7_setWants_78 : decode cX7_setWants 78 = .ok (.iload_n 1, 1) := by decide +kernel
theorem dX7_setWants_79 : decode cX7_setWants 79 = .ok (.iastore, 1) := by decide +kernel
theorem dX7_setWants_80 : decode cX7_setWants 80 = .ok (.aload_n 0, 1) := by decide +kernel
theorem dX7_setWants_81 : decode cX7_setWants 81 = .ok (.getfield 10, 3) := by decide +kernel
theorem dX7_setWants_84 : decode cX7_setWants 84 = .ok (.getfield 51, 3) := by decide +kernel
theorem dX7_setWants_87 : decode cX7_setWants 87 = .ok (.iconst 1, 1) := by decide +kernel
theorem dX7_setWants_88 : decode cX7_setWants 88 = .ok (.iload_n 2, 1) := by decide +kernel
theorem dX7_setWants_89 : decode cX7_setWants 89 = .ok (.iastore, 1) := by decide +kernel
theorem dX7_setWants_90 : decode cX7_setWants 90 = .ok (.aload_n 0, 1) := by decide +kernel
theorem dX7_setWants_91 : decode cX7_setWants 91 = .ok (.getfield 10, 3) := by decide +kernel
theorem dX7_setWants_94 : decode cX7_setWants 94 = .ok (.getfield 51, 3) := by decide +kernel
theorem dX7_setWants_97 : decode cX7_setWants 97 = .ok (.iconst 2, 1) := by decide +kernel
theorem dX7_setWants_98 : decode cX7_setWants 98 = .ok (.iload_n 3, 1) := by decide +kernel
theorem dX7_setWants_99 : decode cX7_setWants 99 = .ok (.iastore, 1) := by decide +kernel
theorem dX7_setWants_100 : decode cX7_setWants 100 = .ok (.aload_n 0, 1) := by decide +kernel
theorem dX7_setWants_101 : decode cX7_setWants 101 = .ok (.getfield 10, 3) := by decide +kernel
theorem dX7_setWants_104 : decode cX7_setWants 104 = .ok (.getfield 51, 3) := by decide +kernel
theorem dX7_setWants_107 : decode cX7_setWants 107 = .ok (.iconst 3, 1) := by decide +kernel
theorem dX7_setWants_108 : decode cX7_setWants 108 = .ok (.iload 4, 2) := by decide +kernel
theorem dX7_setWants_110 : decode cX7_setWants 110 = .ok (.iastore, 1) := by decide +kernel
theorem dX7_setWants_111 : decode cX7_setWants 111 = .ok (.aload_n 0, 1) := by decide +kernel
theorem dX7_setWants_112 : decode cX7_setWants 112 = .ok (.getfield 10, 3) := by decide +kernel
theorem dX7_setWants_115 : decode cX7_setWants 115 = .ok (.getfield 51, 3) := by decide +kernel
theorem dX7_setWants_118 : decode cX7_setWants 118 = .ok (.iconst 4, 1) := by decide +kernel
theorem dX7_setWants_119 : decode cX7_setWants 119 = .ok (.iload 5, 2) := by decide +kernel
theorem dX7_setWants_121 : decode cX7_setWants 121 = .ok (.iastore, 1) := by decide +kernel
theorem dX7_setWants_122 : decode cX7_setWants 122 = .ok (.iload 6, 2) := by decide +kernel
theorem dX7_setWants_124 : decode cX7_setWants 124 = .ok (.ireturn, 1) := by decide +kernel
theorem dX7_setCosts_0 : decode cX7_setCosts 0 = .ok (.iload_n 1, 1) := by decide +kernel
theorem dX7_setCosts_1 : decode cX7_setCosts 1 = .ok (.iconst 0, 1) := by decide +kernel
theorem dX7_setCosts_2 : decode cX7_setCosts 2 = .ok (.bipush 99, 2) := by decide +kernel
theorem dX7_setCosts_4 : decode cX7_setCosts 4 = .ok (.invokestatic 54, 3) := by decide +kernel
theorem dX7_setCosts_7 : decode cX7_setCosts 7 = .ok (.iload_n 2, 1) := by decide +kernel
theorem dX7_setCosts_8 : decode cX7_setCosts 8 = .ok (.iconst 0, 1) := by decide +kernel
theorem dX7_setCosts_9 : decode cX7_setCosts 9 = .ok (.bipush 20, 2) := by decide +kernel
theorem dX7_setCosts_11 : decode cX7_setCosts 11 = .ok (.invokestatic 54, 3) := by decide +kernel
theorem dX7_setCosts_14 : decode cX7_setCosts 14 = .ok (.iload_n 3, 1) := by decide +kernel
theorem dX7_setCosts_15 : decode cX7_setCosts 15 = .ok (.iconst 0, 1) := by decide +kernel
theorem dX7_setCosts_16 : decode cX7_setCosts 16 = .ok (.bipush 20, 2) := by decide +kernel
theorem dX7_setCosts_18 : decode cX7_setCosts 18 = .ok (.invokestatic 54, 3) := by decide +kernel
theorem dX7_setCosts_21 : decode cX7_setCosts 21 = .ok (.iload 4, 2) := by decide +kernel
theorem dX7_setCosts_23 : decode cX7_setCosts 23 = .ok (.iload_n 2, 1) := by decide +kernel
theorem dX7_setCosts_24 : decode cX7_setCosts 24 = .ok (.iconst 1, 1) := by decide +kernel
theorem dX7_setCosts_25 : decode cX7_setCosts 25 = .ok (.iadd, 1) := by decide +kernel
theorem dX7_setCosts_26 : decode cX7_setCosts 26 = .ok (.bipush 60, 2) := by decide +kernel
theorem dX7_setCosts_28 : decode cX7_setCosts 28 = .ok (.invokestatic 54, 3) := by decide +kernel
theorem dX7_setCosts_31 : decode cX7_setCosts 31 = .ok (.iload 5, 2) := by decide +kernel
theorem dX7_setCosts_33 : decode cX7_setCosts 33 = .ok (.iconst 0, 1) := by decide +kernel
theorem dX7_setCosts_34 : decode cX7_setCosts 34 = .ok (.bipush 20, 2) := by decide +kernel
theorem dX7_setCosts_36 : decode cX7_setCosts 36 = .ok (.invokestatic 54, 3) := by decide +kernel
theorem dX7_setCosts_39 : decode cX7_setCosts 39 = .ok (.aload_n 0, 1) := by decide +kernel
theorem dX7_setCosts_40 : decode cX7_setCosts 40 = .ok (.invokevirtual 58, 3) := by decide +kernel
theorem dX7_setCosts_43 : decode cX7_setCosts 43 = .ok (.aload_n 0, 1) := by decide +kernel
theorem dX7_setCosts_44 : decode cX7_setCosts 44 = .ok (.getfield 10, 3) := by decide +kernel
theorem dX7_setCosts_47 : decode cX7_setCosts 47 = .ok (.getfield 51, 3) := by decide +kernel
theorem dX7_setCosts_50 : decode cX7_setCosts 50 = .ok (.bipush 9, 2) := by decide +kernel
theorem dX7_setCosts_52 : decode cX7_setCosts 52 = .ok (.iaload, 1) := by decide +kernel
theorem dX7_setCosts_53 : decode cX7_setCosts 53 = .ok (.istore 6, 2) := by decide +kernel
theorem dX7_setCosts_55 : decode cX7_setCosts 55 = .ok (.aload_n 0, 1) := by decide +kernel
theorem dX7_setCosts_56 : decode cX7_setCosts 56 = .ok (.getfield 10, 3) := by decide +kernel
theorem dX7_setCosts_59 : decode cX7_setCosts 59 = .ok (.getfield 51, 3) := by decide +kernel
theorem dX7_setCosts_62 : decode cX7_setCosts 62 = .ok (.iconst 5, 1) := by decide +kernel
theorem dX7_setCosts_63 : decode cX7_setCosts 63 = .ok (.iload_n 1, 1) := by decide +kernel
theorem dX7_setCosts_64 : decode cX7_setCosts 64 = .ok (.iastore, 1) := by decide +kernel
theorem dX7_setCosts_65 : decode cX7_setCosts 65 = .ok (.aload_n 0, 1) := by decide +kernel
theorem dX7_setCosts_66 : decode cX7_setCosts 66 = .ok (.getfield 10, 3) := by decide +kernel
theorem dX7_setCosts_69 : decode cX7_setCosts 69 = .ok (.getfield 51, 3) := by decide +kernel
theorem dX7_setCosts_72 : decode cX7_setCosts 72 = .ok (.bipush 6, 2) := by decide +kernel
theorem dX7_setCosts_74 : decode cX7_setCosts 74 = .ok (.iload_n 2, 1) := by decide +kernel
theorem dX7_setCosts_75 : decode cX7_setCosts 75 = .ok (.iastore, 1) := by decide +kernel
theorem dX7_setCosts_76 : decode cX7_setCosts 76 = .ok (.aload_n 0, 1) := by decide +kernel
theorem dX7_setCosts_77 : decode cX7_setCosts 77 = .ok (.getfield 10, 3) := by decide +kernel
theorem dX7_setCosts_80 : decode cX7_setCosts 80 = .ok (.getfield 51, 3) := by decide +kernel
theorem dX7_setCosts_83 : decode cX7_setCosts 83 = .ok (.bipush 7, 2) := by decide +kernel
theorem dX7_setCosts_85 : decode cX7_setCosts 85 = .ok (.iload_n 3, 1) := by decide +kernel
theorem dX7_setCosts_86 : decode cX7_setCosts 86 = .ok (.iastore, 1) := by decide +kernel
theorem dX7_setCosts_87 : decode cX7_setCosts 87 = .ok (.aload_n 0, 1) := by decide +kernel
theorem dX7_setCosts_88 : decode cX7_setCosts 88 = .ok (.getfield 10, 3) := by decide +kernel
theorem dX7_setCosts_91 : decode cX7_setCosts 91 = .ok (.getfield 51, 3) := by decide +kernel
theorem dX7_setCosts_94 : decode cX7_setCosts 94 = .ok (.bipush 8, 2) := by decide +kernel
theorem dX7_setCosts_96 : decode cX7_setCosts 96 = .ok (.iload 4, 2) := by decide +kernel
theorem dX7_setCosts_98 : decode cX7_setCosts 98 = .ok (.iastore, 1) := by decide +kernel
theorem dX7_setCosts_99 : decode cX7_setCosts 99 = .ok (.aload_n 0, 1) := by decide +kernel
theorem dX7_setCosts_100 : decode cX7_setCosts 100 = .ok (.getfield 10, 3) := by decide +kernel
theorem dX7_setCosts_103 : decode cX7_setCosts 103 = .ok (.getfield 51, 3) := by decide +kernel
theorem dX7_setCosts_106 : decode cX7_setCosts 106 = .ok (.bipush 9, 2) := by decide +kernel
theorem dX7_setCosts_108 : decode cX7_setCosts 108 = .ok (.iload 5, 2) := by decide +kernel
theorem dX7_setCosts_110 : decode cX7_setCosts 110 = .ok (.iastore, 1) := by decide +kernel
theorem dX7_setCosts_111 : decode cX7_setCosts 111 = .ok (.iload 6, 2) := by decide +kernel
theorem dX7_setCosts_113 : decode cX7_setCosts 113 = .ok (.ireturn, 1) := by decide +kernel
theorem dX7_lowBound_0 : decode cX7_lowBound 0 = .ok (.iload_n 1, 1) := by decide +kernel
theorem dX7_lowBound_1 : decode cX7_lowBound 1 = .ok (.iconst 1, 1) := by decide +kernel
theorem dX7_lowBound_2 : decode cX7_lowBound 2 = .ok (.iconst 5, 1) := by decide +kernel
theorem dX7_lowBound_3 : decode cX7_lowBound 3 = .ok (.invokestatic 54, 3) := by decide +kernel
theorem dX7_lowBound_6 : decode cX7_lowBound 6 = .ok (.aload_n 0, 1) := by decide +kernel
theorem dX7_lowBound_7 : decode cX7_lowBound 7 = .ok (.getfield 23, 3) := by decide +kernel
theorem dX7_lowBound_10 : decode cX7_lowBound 10 = .ok (.aload_n 0, 1) := by decide +kernel
theorem dX7_lowBound_11 : decode cX7_lowBound 11 = .ok (.getfield 10, 3) := by decide +kernel
theorem dX7_lowBound_14 : decode cX7_lowBound 14 = .ok (.getfield 51, 3) := by decide +kernel
theorem dX7_lowBound_17 : decode cX7_lowBound 17 = .ok (.invokevirtual 277, 3) := by decide +kernel
theorem dX7_lowBound_20 : decode cX7_lowBound 20 = .ok (.aload_n 0, 1) := by decide +kernel
theorem dX7_lowBound_21 : decode cX7_lowBound 21 = .ok (.getfield 23, 3) := by decide +kernel
theorem dX7_lowBound_24 : decode cX7_lowBound 24 = .ok (.getfield 280, 3) := by decide +kernel
theorem dX7_lowBound_27 : decode cX7_lowBound 27 = .ok (.iload_n 1, 1) := by decide +kernel
theorem dX7_lowBound_28 : decode cX7_lowBound 28 = .ok (.iaload, 1) := by decide +kernel
theorem dX7_lowBound_29 : decode cX7_lowBound 29 = .ok (.ireturn, 1) := by decide +kernel
theorem dX7_highBound_0 : decode cX7_highBound 0 = .ok (.iload_n 1, 1) := by decide +kernel
theorem dX7_highBound_1 : decode cX7_highBound 1 = .ok (.iconst 1, 1) := by decide +kernel
theorem dX7_highBound_2 : decode cX7_highBound 2 = .ok (.iconst 5, 1) := by decide +kernel
theorem dX7_highBound_3 : decode cX7_highBound 3 = .ok (.invokestatic 54, 3) := by decide +kernel
theorem dX7_highBound_6 : decode cX7_highBound 6 = .ok (.aload_n 0, 1) := by decide +kernel
theorem dX7_highBound_7 : decode cX7_highBound 7 = .ok (.getfield 23, 3) := by decide +kernel
theorem dX7_highBound_10 : decode cX7_highBound 10 = .ok (.aload_n 0, 1) := by decide +kernel
theorem dX7_highBound_11 : decode cX7_highBound 11 = .ok (.getfield 10, 3) := by decide +kernel
theorem dX7_highBound_14 : decode cX7_highBound 14 = .ok (.getfield 51, 3) := by decide +kernel
theorem dX7_highBound_17 : decode cX7_highBound 17 = .ok (.invokevirtual 277, 3) := by decide +kernel
theorem dX7_highBound_20 : decode cX7_highBound 20 = .ok (.aload_n 0, 1) := by decide +kernel
theorem dX7_highBound_21 : decode cX7_highBound 21 = .ok (.getfield 23, 3) := by decide +kernel
theorem dX7_highBound_24 : decode cX7_highBound 24 = .ok (.getfield 283, 3) := by decide +kernel
theorem dX7_highBound_27 : decode cX7_highBound 27 = .ok (.iload_n 1, 1) := by decide +kernel
theorem dX7_highBound_28 : decode cX7_highBound 28 = .ok (.iaload, 1) := by decide +kernel
theorem dX7_highBound_29 : decode cX7_highBound 29 = .ok (.ireturn, 1) := by decide +kernel
theorem dX7_bestAct_0 : decode cX7_bestAct 0 = .ok (.iload_n 1, 1) := by decide +kernel
theorem dX7_bestAct_1 : decode cX7_bestAct 1 = .ok (.iconst 1, 1) := by decide +kernel
theorem dX7_bestAct_2 : decode cX7_bestAct 2 = .ok (.iconst 5, 1) := by decide +kernel
theorem dX7_bestAct_3 : decode cX7_bestAct 3 = .ok (.invokestatic 54, 3) := by decide +kernel
theorem dX7_bestAct_6 : decode cX7_bestAct 6 = .ok (.iload_n 2, 1) := by decide +kernel
theorem dX7_bestAct_7 : decode cX7_bestAct 7 = .ok (.bipush (-20), 2) := by decide +kernel
theorem dX7_bestAct_9 : decode cX7_bestAct 9 = .ok (.aload_n 0, 1) := by decide +kernel
theorem dX7_bestAct_10 : decode cX7_bestAct 10 = .ok (.getfield 10, 3) := by decide +kernel
theorem dX7_bestAct_13 : decode cX7_bestAct 13 = .ok (.getfield 51, 3) := by decide +kernel
theorem dX7_bestAct_16 : decode cX7_bestAct 16 = .ok (.bipush 9, 2) := by decide +kernel
theorem dX7_bestAct_18 : decode cX7_bestAct 18 = .ok (.iaload, 1) := by decide +kernel
theorem dX7_bestAct_19 : decode cX7_bestAct 19 = .ok (.invokestatic 54, 3) := by decide +kernel
theorem dX7_bestAct_22 : decode cX7_bestAct 22 = .ok (.aload_n 0, 1) := by decide +kernel
theorem dX7_bestAct_23 : decode cX7_bestAct 23 = .ok (.getfield 23, 3) := by decide +kernel
theorem dX7_bestAct_26 : decode cX7_bestAct 26 = .ok (.aload_n 0, 1) := by decide +kernel
theorem dX7_bestAct_27 : decode cX7_bestAct 27 = .ok (.getfield 10, 3) := by decide +kernel
theorem dX7_bestAct_30 : decode cX7_bestAct 30 = .ok (.getfield 51, 3) := by decide +kernel
theorem dX7_bestAct_33 : decode cX7_bestAct 33 = .ok (.invokevirtual 277, 3) := by decide +kernel
theorem dX7_bestAct_36 : decode cX7_bestAct 36 = .ok (.aload_n 0, 1) := by decide +kernel
theorem dX7_bestAct_37 : decode cX7_bestAct 37 = .ok (.getfield 23, 3) := by decide +kernel
theorem dX7_bestAct_40 : decode cX7_bestAct 40 = .ok (.getfield 286, 3) := by decide +kernel
theorem dX7_bestAct_43 : decode cX7_bestAct 43 = .ok (.iload_n 1, 1) := by decide +kernel
theorem dX7_bestAct_44 : decode cX7_bestAct 44 = .ok (.iload_n 2, 1) := by decide +kernel
theorem dX7_bestAct_45 : decode cX7_bestAct 45 = .ok (.invokestatic 289, 3) := by decide +kernel
theorem dX7_bestAct_48 : decode cX7_bestAct 48 = .ok (.iaload, 1) := by decide +kernel
theorem dX7_bestAct_49 : decode cX7_bestAct 49 = .ok (.ireturn, 1) := by decide +kernel
theorem dX7_planCost_0 : decode cX7_planCost 0 = .ok (.iload_n 1, 1) := by decide +kernel
theorem dX7_planCost_1 : decode cX7_planCost 1 = .ok (.iconst 1, 1) := by decide +kernel
theorem dX7_planCost_2 : decode cX7_planCost 2 = .ok (.iconst 5, 1) := by decide +kernel
theorem dX7_planCost_3 : decode cX7_planCost 3 = .ok (.invokestatic 54, 3) := by decide +kernel
theorem dX7_planCost_6 : decode cX7_planCost 6 = .ok (.iload_n 2, 1) := by decide +kernel
theorem dX7_planCost_7 : decode cX7_planCost 7 = .ok (.bipush (-20), 2) := by decide +kernel
theorem dX7_planCost_9 : decode cX7_planCost 9 = .ok (.aload_n 0, 1) := by decide +kernel
theorem dX7_planCost_10 : decode cX7_planCost 10 = .ok (.getfield 10, 3) := by decide +kernel
theorem dX7_planCost_13 : decode cX7_planCost 13 = .ok (.getfield 51, 3) := by decide +kernel
theorem dX7_planCost_16 : decode cX7_planCost 16 = .ok (.bipush 9, 2) := by decide +kernel
theorem dX7_planCost_18 : decode cX7_planCost 18 = .ok (.iaload, 1) := by decide +kernel
theorem dX7_planCost_19 : decode cX7_planCost 19 = .ok (.invokestatic 54, 3) := by decide +kernel
theorem dX7_planCost_22 : decode cX7_planCost 22 = .ok (.aload_n 0, 1) := by decide +kernel
theorem dX7_planCost_23 : decode cX7_planCost 23 = .ok (.getfield 23, 3) := by decide +kernel
theorem dX7_planCost_26 : decode cX7_planCost 26 = .ok (.aload_n 0, 1) := by decide +kernel
theorem dX7_planCost_27 : decode cX7_planCost 27 = .ok (.getfield 10, 3) := by decide +kernel
theorem dX7_planCost_30 : decode cX7_planCost 30 = .ok (.getfield 51, 3) := by decide +kernel
theorem dX7_planCost_33 : decode cX7_planCost 33 = .ok (.invokevirtual 277, 3) := by decide +kernel
theorem dX7_planCost_36 : decode cX7_planCost 36 = .ok (.aload_n 0, 1) := by decide +kernel
theorem dX7_planCost_37 : decode cX7_planCost 37 = .ok (.getfield 23, 3) := by decide +kernel
theorem dX7_planCost_40 : decode cX7_planCost 40 = .ok (.getfield 292, 3) := by decide +kernel
theorem dX7_planCost_43 : decode cX7_planCost 43 = .ok (.iload_n 1, 1) := by decide +kernel
theorem dX7_planCost_44 : decode cX7_planCost 44 = .ok (.iload_n 2, 1) := by decide +kernel
theorem dX7_planCost_45 : decode cX7_planCost 45 = .ok (.invokestatic 289, 3) := by decide +kernel
theorem dX7_planCost_48 : decode cX7_planCost 48 = .ok (.laload, 1) := by decide +kernel
theorem dX7_planCost_49 : decode cX7_planCost 49 = .ok (.lstore 4, 2) := by decide +kernel
theorem dX7_planCost_51 : decode cX7_planCost 51 = .ok (.aload_n 0, 1) := by decide +kernel
theorem dX7_planCost_52 : decode cX7_planCost 52 = .ok (.getfield 23, 3) := by decide +kernel
theorem dX7_planCost_55 : decode cX7_planCost 55 = .ok (.getfield 295, 3) := by decide +kernel
theorem dX7_planCost_58 : decode cX7_planCost 58 = .ok (.iload_n 1, 1) := by decide +kernel
theorem dX7_planCost_59 : decode cX7_planCost 59 = .ok (.laload, 1) := by decide +kernel
theorem dX7_planCost_60 : decode cX7_planCost 60 = .ok (.lstore 6, 2) := by decide +kernel
theorem dX7_planCost_62 : decode cX7_planCost 62 = .ok (.lload 4, 2) := by decide +kernel
theorem dX7_planCost_64 : decode cX7_planCost 64 = .ok (.lload 6, 2) := by decide +kernel
theorem dX7_planCost_66 : decode cX7_planCost 66 = .ok (.invokestatic 298, 3) := by decide +kernel
theorem dX7_planCost_69 : decode cX7_planCost 69 = .ok (.lstore 8, 2) := by decide +kernel
theorem dX7_planCost_71 : decode cX7_planCost 71 = .ok (.lload 8, 2) := by decide +kernel
theorem dX7_planCost_73 : decode cX7_planCost 73 = .ok (.lconst 0, 1) := by decide +kernel
theorem dX7_planCost_74 : decode cX7_planCost 74 = .ok (.lcmp, 1) := by decide +kernel
theorem dX7_planCost_75 : decode cX7_planCost 75 = .ok (.ifCond .ne 5, 3) := by decide +kernel
theorem dX7_planCost_78 : decode cX7_planCost 78 = .ok (.lconst 0, 1) := by decide +kernel
theorem dX7_planCost_79 : decode cX7_planCost 79 = .ok (.lreturn, 1) := by decide +kernel
theorem dX7_planCost_80 : decode cX7_planCost 80 = .ok (.iload_n 3, 1) := by decide +kernel
theorem dX7_planCost_81 : decode cX7_planCost 81 = .ok (.ifCond .eq 11, 3) := by decide +kernel
theorem dX7_planCost_84 : decode cX7_planCost 84 = .ok (.lload 6, 2) := by decide +kernel
theorem dX7_planCost_86 : decode cX7_planCost 86 = .ok (.lload 8, 2) := by decide +kernel
theorem dX7_planCost_88 : decode cX7_planCost 88 = .ok (.ldiv, 1) := by decide +kernel
theorem dX7_planCost_89 : decode cX7_planCost 89 = .ok (.goto 8, 3) := by decide +kernel
theorem dX7_planCost_92 : decode cX7_planCost 92 = .ok (.lload 4, 2) := by decide +kernel
theorem dX7_planCost_94 : decode cX7_planCost 94 = .ok (.lload 8, 2) := by decide +kernel
theorem dX7_planCost_96 : decode cX7_planCost 96 = .ok (.ldiv, 1) := by decide +kernel
theorem dX7_planCost_97 : decode cX7_planCost 97 = .ok (.lreturn, 1) := by decide +kernel
theorem dX7_book_0 : decode cX7_book 0 = .ok (.iload_n 1, 1) := by decide +kernel
theorem dX7_book_1 : decode cX7_book 1 = .ok (.iconst 0, 1) := by decide +kernel
theorem dX7_book_2 : decode cX7_book 2 = .ok (.bipush 6, 2) := by decide +kernel
theorem dX7_book_4 : decode cX7_book 4 = .ok (.invokestatic 54, 3) := by decide +kernel
theorem dX7_book_7 : decode cX7_book 7 = .ok (.iload_n 1, 1) := by decide +kernel
theorem dX7_book_8 : decode cX7_book 8 = .ok (.bipush 6, 2) := by decide +kernel
theorem dX7_book_10 : decode cX7_book 10 = .ok (.if_icmp .ne 16, 3) := by decide +kernel
theorem dX7_book_13 : decode cX7_book 13 = .ok (.aload_n 0, 1) := by decide +kernel
theorem dX7_book_14 : decode cX7_book 14 = .ok (.getfield 10, 3) := by decide +kernel
theorem dX7_book_17 : decode cX7_book 17 = .ok (.getfield 41, 3) := by decide +kernel
theorem dX7_book_20 : decode cX7_book 20 = .ok (.invokevirtual 302, 3) := by decide +kernel
theorem dX7_book_23 : decode cX7_book 23 = .ok (.goto 12, 3) := by decide +kernel
theorem dX7_book_26 : decode cX7_book 26 = .ok (.aload_n 0, 1) := by decide +kernel
theorem dX7_book_27 : decode cX7_book 27 = .ok (.getfield 10, 3) := by decide +kernel
theorem dX7_book_30 : decode cX7_book 30 = .ok (.getfield 91, 3) := by decide +kernel
theorem dX7_book_33 : decode cX7_book 33 = .ok (.iload_n 1, 1) := by decide +kernel
theorem dX7_book_34 : decode cX7_book 34 = .ok (.iaload, 1) := by decide +kernel
theorem dX7_book_35 : decode cX7_book 35 = .ok (.ireturn, 1) := by decide +kernel
theorem dX7_undo_0 : decode cX7_undo 0 = .ok (.aload_n 0, 1) := by decide +kernel
theorem dX7_undo_1 : decode cX7_undo 1 = .ok (.getfield 305, 3) := by decide +kernel
theorem dX7_undo_4 : decode cX7_undo 4 = .ok (.ifCond .le 7, 3) := by decide +kernel
theorem dX7_undo_7 : decode cX7_undo 7 = .ok (.iconst 1, 1) := by decide +kernel
theorem dX7_undo_8 : decode cX7_undo 8 = .ok (.goto 4, 3) := by decide +kernel
theorem dX7_undo_11 : decode cX7_undo 11 = .ok (.iconst 0, 1) := by decide +kernel
theorem dX7_undo_12 : decode cX7_undo 12 = .ok (.invokestatic 71, 3) := by decide +kernel
theorem dX7_undo_15 : decode cX7_undo 15 = .ok (.aload_n 0, 1) := by decide +kernel
theorem dX7_undo_16 : decode cX7_undo 16 = .ok (.getfield 308, 3) := by decide +kernel
theorem dX7_undo_19 : decode cX7_undo 19 = .ok (.bipush 8, 2) := by decide +kernel
theorem dX7_undo_21 : decode cX7_undo 21 = .ok (.iadd, 1) := by decide +kernel
theorem dX7_undo_22 : decode cX7_undo 22 = .ok (.iconst 1, 1) := by decide +kernel
theorem dX7_undo_23 : decode cX7_undo 23 = .ok (.isub, 1) := by decide +kernel
theorem dX7_undo_24 : decode cX7_undo 24 = .ok (.bipush 8, 2) := by decide +kernel
theorem dX7_undo_26 : decode cX7_undo 26 = .ok (.irem, 1) := by decide +kernel
theorem dX7_undo_27 : decode cX7_undo 27 = .ok (.istore_n 1, 1) := by decide +kernel
theorem dX7_undo_28 : decode cX7_undo 28 = .ok (.aload_n 0, 1) := by decide +kernel
theorem dX7_undo_29 : decode cX7_undo 29 = .ok (.getfield 16, 3) := by decide +kernel
theorem dX7_undo_32 : decode cX7_undo 32 = .ok (.iload_n 1, 1) := by decide +kernel
theorem dX7_undo_33 : decode cX7_undo 33 = .ok (.aaload, 1) := by decide +kernel
theorem dX7_undo_34 : decode cX7_undo 34 = .ok (.astore_n 2, 1) := by decide +kernel
theorem dX7_undo_35 : decode cX7_undo 35 = .ok (.aload_n 2, 1) := by decide +kernel
theorem dX7_undo_36 : decode cX7_undo 36 = .ok (.ifnull 11, 3) := by decide +kernel
theorem dX7_undo_39 : decode cX7_undo 39 = .ok (.aload_n 0, 1) := by decide +kernel
theorem dX7_undo_40 : decode cX7_undo 40 = .ok (.getfield 10, 3) := by decide +kernel
theorem dX7_undo_43 : decode cX7_undo 43 = .ok (.aload_n 2, 1) := by decide +kernel
theorem dX7_undo_44 : decode cX7_undo 44 = .ok (.invokevirtual 311, 3) := by decide +kernel
theorem dX7_undo_47 : decode cX7_undo 47 = .ok (.aload_n 0, 1) := by decide +kernel
theorem dX7_undo_48 : decode cX7_undo 48 = .ok (.iload_n 1, 1) := by decide +kernel
theorem dX7_undo_49 : decode cX7_undo 49 = .ok (.putfield 308, 3) := by decide +kernel
theorem dX7_undo_52 : decode cX7_undo 52 = .ok (.aload_n 0, 1) := by decide +kernel
theorem dX7_undo_53 : decode cX7_undo 53 = .ok (.dup, 1) := by decide +kernel
theorem dX7_undo_54 : decode cX7_undo 54 = .ok (.getfield 305, 3) := by decide +kernel
theorem dX7_undo_57 : decode cX7_undo 57 = .ok (.iconst 1, 1) := by decide +kernel
theorem dX7_undo_58 : decode cX7_undo 58 = .ok (.isub, 1) := by decide +kernel
theorem dX7_undo_59 : decode cX7_undo 59 = .ok (.putfield 305, 3) := by decide +kernel
theorem dX7_undo_62 : decode cX7_undo 62 = .ok (.aload_n 0, 1) := by decide +kernel
theorem dX7_undo_63 : decode cX7_undo 63 = .ok (.getfield 305, 3) := by decide +kernel
theorem dX7_undo_66 : decode cX7_undo 66 = .ok (.ireturn, 1) := by decide +kernel
theorem dX7_checksum_0 : decode cX7_checksum 0 = .ok (.ldc2_w 315, 3) := by decide +kernel
theorem dX7_checksum_3 : decode cX7_checksum 3 = .ok (.aload_n 0, 1) := by decide +kernel
theorem dX7_checksum_4 : decode cX7_checksum 4 = .ok (.getfield 10, 3) := by decide +kernel
theorem dX7_checksum_7 : decode cX7_checksum 7 = .ok (.getfield 68, 3) := by decide +kernel
theorem dX7_checksum_10 : decode cX7_checksum 10 = .ok (.i2l, 1) := by decide +kernel
theorem dX7_checksum_11 : decode cX7_checksum 11 = .ok (.ladd, 1) := by decide +kernel
theorem dX7_checksum_12 : decode cX7_checksum 12 = .ok (.lstore_n 1, 1) := by decide +kernel
theorem dX7_checksum_13 : decode cX7_checksum 13 = .ok (.iconst 0, 1) := by decide +kernel
theorem dX7_checksum_14 : decode cX7_checksum 14 = .ok (.istore_n 3, 1) := by decide +kernel
theorem dX7_checksum_15 : decode cX7_checksum 15 = .ok (.iload_n 3, 1) := by decide +kernel
theorem dX7_checksum_16 : decode cX7_checksum 16 = .ok (.aload_n 0, 1) := by decide +kernel
theorem dX7_checksum_17 : decode cX7_checksum 17 = .ok (.getfield 10, 3) := by decide +kernel
theorem dX7_checksum_20 : decode cX7_checksum 20 = .ok (.getfield 41, 3) := by decide +kernel
theorem dX7_checksum_23 : decode cX7_checksum 23 = .ok (.getfield 64, 3) := by decide +kernel
theorem dX7_checksum_26 : decode cX7_checksum 26 = .ok (.if_icmp .ge 49, 3) := by decide +kernel
theorem dX7_checksum_29 : decode cX7_checksum 29 = .ok (.ldc2_w 317, 3) := by decide +kernel
theorem dX7_checksum_32 : decode cX7_checksum 32 = .ok (.lload_n 1, 1) := by decide +kernel
theorem dX7_checksum_33 : decode cX7_checksum 33 = .ok (.lmul, 1) := by decide +kernel
theorem dX7_checksum_34 : decode cX7_checksum 34 = .ok (.aload_n 0, 1) := by decide +kernel
theorem dX7_checksum_35 : decode cX7_checksum 35 = .ok (.getfield 10, 3) := by decide +kernel
theorem dX7_checksum_38 : decode cX7_checksum 38 = .ok (.getfield 41, 3) := by decide +kernel
theorem dX7_checksum_41 : decode cX7_checksum 41 = .ok (.getfield 164, 3) := by decide +kernel
theorem dX7_checksum_44 : decode cX7_checksum 44 = .ok (.iload_n 3, 1) := by decide +kernel
theorem dX7_checksum_45 : decode cX7_checksum 45 = .ok (.iaload, 1) := by decide +kernel
theorem dX7_checksum_46 : decode cX7_checksum 46 = .ok (.i2l, 1) := by decide +kernel
theorem dX7_checksum_47 : decode cX7_checksum 47 = .ok (.ladd, 1) := by decide +kernel
theorem dX7_checksum_48 : decode cX7_checksum 48 = .ok (.lstore_n 1, 1) := by decide +kernel
theorem dX7_checksum_49 : decode cX7_checksum 49 = .ok (.ldc2_w 317, 3) := by decide +kernel
theorem dX7_checksum_52 : decode cX7_checksum 52 = .ok (.lload_n 1, 1) := by decide +kernel
theorem dX7_checksum_53 : decode cX7_checksum 53 = .ok (.lmul, 1) := by decide +kernel
theorem dX7_checksum_54 : decode cX7_checksum 54 = .ok (.aload_n 0, 1) := by decide +kernel
theorem dX7_checksum_55 : decode cX7_checksum 55 = .ok (.getfield 10, 3) := by decide +kernel
theorem dX7_checksum_58 : decode cX7_checksum 58 = .ok (.getfield 41, 3) := by decide +kernel
theorem dX7_checksum_61 : decode cX7_checksum 61 = .ok (.getfield 167, 3) := by decide +kernel
theorem dX7_checksum_64 : decode cX7_checksum 64 = .ok (.iload_n 3, 1) := by decide +kernel
theorem dX7_checksum_65 : decode cX7_checksum 65 = .ok (.iaload, 1) := by decide +kernel
theorem dX7_checksum_66 : decode cX7_checksum 66 = .ok (.i2l, 1) := by decide +kernel
theorem dX7_checksum_67 : decode cX7_checksum 67 = .ok (.ladd, 1) := by decide +kernel
theorem dX7_checksum_68 : decode cX7_checksum 68 = .ok (.lstore_n 1, 1) := by decide +kernel
theorem dX7_checksum_69 : decode cX7_checksum 69 = .ok (.iinc 3 1, 3) := by decide +kernel
theorem dX7_checksum_72 : decode cX7_checksum 72 = .ok (.goto (-57), 3) := by decide +kernel
theorem dX7_checksum_75 : decode cX7_checksum 75 = .ok (.iconst 0, 1) := by decide +kernel
theorem dX7_checksum_76 : decode cX7_checksum 76 = .ok (.istore_n 3, 1) := by decide +kernel
theorem dX7_checksum_77 : decode cX7_checksum 77 = .ok (.iload_n 3, 1) := by decide +kernel
theorem dX7_checksum_78 : decode cX7_checksum 78 = .ok (.aload_n 0, 1) := by decide +kernel
theorem dX7_checksum_79 : decode cX7_checksum 79 = .ok (.getfield 10, 3) := by decide +kernel
theorem dX7_checksum_82 : decode cX7_checksum 82 = .ok (.getfield 142, 3) := by decide +kernel
theorem dX7_checksum_85 : decode cX7_checksum 85 = .ok (.getfield 155, 3) := by decide +kernel
theorem dX7_checksum_88 : decode cX7_checksum 88 = .ok (.if_icmp .ge 48, 3) := by decide +kernel
theorem dX7_checksum_91 : decode cX7_checksum 91 = .ok (.ldc2_w 317, 3) := by decide +kernel
theorem dX7_checksum_94 : decode cX7_checksum 94 = .ok (.lload_n 1, 1) := by decide +kernel
theorem dX7_checksum_95 : decode cX7_checksum 95 = .ok (.lmul, 1) := by decide +kernel
theorem dX7_checksum_96 : decode cX7_checksum 96 = .ok (.aload_n 0, 1) := by decide +kernel
theorem dX7_checksum_97 : decode cX7_checksum 97 = .ok (.getfield 10, 3) := by decide +kernel
theorem dX7_checksum_100 : decode cX7_checksum 100 = .ok (.getfield 142, 3) := by decide +kernel
theorem dX7_checksum_103 : decode cX7_checksum 103 = .ok (.getfield 212, 3) := by decide +kernel
theorem dX7_checksum_106 : decode cX7_checksum 106 = .ok (.iload_n 3, 1) := by decide +kernel
theorem dX7_checksum_107 : decode cX7_checksum 107 = .ok (.iaload, 1) := by decide +kernel
theorem dX7_checksum_108 : decode cX7_checksum 108 = .ok (.i2l, 1) := by decide +kernel
theorem dX7_checksum_109 : decode cX7_checksum 109 = .ok (.ladd, 1) := by decide +kernel
theorem dX7_checksum_110 : decode cX7_checksum 110 = .ok (.lstore_n 1, 1) := by decide +kernel
theorem dX7_checksum_111 : decode cX7_checksum 111 = .ok (.ldc2_w 317, 3) := by decide +kernel
theorem dX7_checksum_114 : decode cX7_checksum 114 = .ok (.lload_n 1, 1) := by decide +kernel
theorem dX7_checksum_115 : decode cX7_checksum 115 = .ok (.lmul, 1) := by decide +kernel
theorem dX7_checksum_116 : decode cX7_checksum 116 = .ok (.aload_n 0, 1) := by decide +kernel
theorem dX7_checksum_117 : decode cX7_checksum 117 = .ok (.getfield 10, 3) := by decide +kernel
theorem dX7_checksum_120 : decode cX7_checksum 120 = .ok (.getfield 142, 3) := by decide +kernel
theorem dX7_checksum_123 : decode cX7_checksum 123 = .ok (.iload_n 3, 1) := by decide +kernel
theorem dX7_checksum_124 : decode cX7_checksum 124 = .ok (.invokevirtual 215, 3) := by decide +kernel
theorem dX7_checksum_127 : decode cX7_checksum 127 = .ok (.i2l, 1) := by decide +kernel
theorem dX7_checksum_128 : decode cX7_checksum 128 = .ok (.ladd, 1) := by decide +kernel
theorem dX7_checksum_129 : decode cX7_checksum 129 = .ok (.lstore_n 1, 1) := by decide +kernel
theorem dX7_checksum_130 : decode cX7_checksum 130 = .ok (.iinc 3 1, 3) := by decide +kernel
theorem dX7_checksum_133 : decode cX7_checksum 133 = .ok (.goto (-56), 3) := by decide +kernel
theorem dX7_checksum_136 : decode cX7_checksum 136 = .ok (.lload_n 1, 1) := by decide +kernel
theorem dX7_checksum_137 : decode cX7_checksum 137 = .ok (.lreturn, 1) := by decide +kernel
theorem dX7_errors_0 : decode cX7_errors 0 = .ok (.iconst 0, 1) := by decide +kernel
theorem dX7_errors_1 : decode cX7_errors 1 = .ok (.istore_n 1, 1) := by decide +kernel
theorem dX7_errors_2 : decode cX7_errors 2 = .ok (.iconst 0, 1) := by decide +kernel
theorem dX7_errors_3 : decode cX7_errors 3 = .ok (.istore_n 2, 1) := by decide +kernel
theorem dX7_errors_4 : decode cX7_errors 4 = .ok (.iload_n 2, 1) := by decide +kernel
theorem dX7_errors_5 : decode cX7_errors 5 = .ok (.aload_n 0, 1) := by decide +kernel
theorem dX7_errors_6 : decode cX7_errors 6 = .ok (.getfield 10, 3) := by decide +kernel
theorem dX7_errors_9 : decode cX7_errors 9 = .ok (.getfield 107, 3) := by decide +kernel
theorem dX7_errors_12 : decode cX7_errors 12 = .ok (.if_icmp .ge 25, 3) := by decide +kernel
theorem dX7_errors_15 : decode cX7_errors 15 = .ok (.aload_n 0, 1) := by decide +kernel
theorem dX7_errors_16 : decode cX7_errors 16 = .ok (.iload_n 2, 1) := by decide +kernel
theorem dX7_errors_17 : decode cX7_errors 17 = .ok (.invokevirtual 242, 3) := by decide +kernel
theorem dX7_errors_20 : decode cX7_errors 20 = .ok (.aload_n 0, 1) := by decide +kernel
theorem dX7_errors_21 : decode cX7_errors 21 = .ok (.iload_n 2, 1) := by decide +kernel
theorem dX7_errors_22 : decode cX7_errors 22 = .ok (.invokevirtual 319, 3) := by decide +kernel
theorem dX7_errors_25 : decode cX7_errors 25 = .ok (.if_icmp .eq 6, 3) := by decide +kernel
theorem dX7_errors_28 : decode cX7_errors 28 = .ok (.iinc 1 1, 3) := by decide +kernel
theorem dX7_errors_31 : decode cX7_errors 31 = .ok (.iinc 2 1, 3) := by decide +kernel
theorem dX7_errors_34 : decode cX7_errors 34 = .ok (.goto (-30), 3) := by decide +kernel
theorem dX7_errors_37 : decode cX7_errors 37 = .ok (.aload_n 0, 1) := by decide +kernel
theorem dX7_errors_38 : decode cX7_errors 38 = .ok (.invokevirtual 322, 3) := by decide +kernel
theorem dX7_errors_41 : decode cX7_errors 41 = .ok (.ifCond .ne 6, 3) := by decide +kernel
theorem dX7_errors_44 : decode cX7_errors 44 = .ok (.iinc 1 1, 3) := by decide +kernel
theorem dX7_errors_47 : decode cX7_errors 47 = .ok (.aload_n 0, 1) := by decide +kernel
theorem dX7_errors_48 : decode cX7_errors 48 = .ok (.getfield 23, 3) := by decide +kernel
theorem dX7_errors_51 : decode cX7_errors 51 = .ok (.aload_n 0, 1) := by decide +kernel
theorem dX7_errors_52 : decode cX7_errors 52 = .ok (.getfield 10, 3) := by decide +kernel
theorem dX7_errors_55 : decode cX7_errors 55 = .ok (.getfield 51, 3) := by decide +kernel
theorem dX7_errors_58 : decode cX7_errors 58 = .ok (.invokevirtual 277, 3) := by decide +kernel
theorem dX7_errors_61 : decode cX7_errors 61 = .ok (.iload_n 1, 1) := by decide +kernel
theorem dX7_errors_62 : decode cX7_errors 62 = .ok (.aload_n 0, 1) := by decide +kernel
theorem dX7_errors_63 : decode cX7_errors 63 = .ok (.getfield 23, 3) := by decide +kernel
theorem dX7_errors_66 : decode cX7_errors 66 = .ok (.invokevirtual 326, 3) := by decide +kernel
theorem dX7_errors_69 : decode cX7_errors 69 = .ok (.iadd, 1) := by decide +kernel
theorem dX7_errors_70 : decode cX7_errors 70 = .ok (.ireturn, 1) := by decide +kernel
theorem dX7_needRange_0 : decode cX7_needRange 0 = .ok (.iload_n 0, 1) := by decide +kernel
theorem dX7_needRange_1 : decode cX7_needRange 1 = .ok (.iload_n 1, 1) := by decide +kernel
theorem dX7_needRange_2 : decode cX7_needRange 2 = .ok (.if_icmp .lt 8, 3) := by decide +kernel
theorem dX7_needRange_5 : decode cX7_needRange 5 = .ok (.iload_n 0, 1) := by decide +kernel
theorem dX7_needRange_6 : decode cX7_needRange 6 = .ok (.iload_n 2, 1) := by decide +kernel
theorem dX7_needRange_7 : decode cX7_needRange 7 = .ok (.if_icmp .le 14, 3) := by decide +kernel
theorem dX7_needRange_10 : decode cX7_needRange 10 = .ok (.new 196, 3) := by decide +kernel
theorem dX7_needRange_13 : decode cX7_needRange 13 = .ok (.dup, 1) := by decide +kernel
theorem dX7_needRange_14 : decode cX7_needRange 14 = .ok (.ldc_w 329, 3) := by decide +kernel
theorem dX7_needRange_17 : decode cX7_needRange 17 = .ok (.invokespecial 200, 3) := by decide +kernel
theorem dX7_needRange_20 : decode cX7_needRange 20 = .ok (.athrow, 1) := by decide +kernel
theorem dX7_needRange_21 : decode cX7_needRange 21 = .ok (.return_, 1) := by decide +kernel
theorem dX7_needState_0 : decode cX7_needState 0 = .ok (.iload_n 0, 1) := by decide +kernel
theorem dX7_needState_1 : decode cX7_needState 1 = .ok (.ifCond .ne 14, 3) := by decide +kernel
theorem dX7_needState_4 : decode cX7_needState 4 = .ok (.new 331, 3) := by decide +kernel
theorem dX7_needState_7 : decode cX7_needState 7 = .ok (.dup, 1) := by decide +kernel
theorem dX7_needState_8 : decode cX7_needState 8 = .ok (.ldc_w 333, 3) := by decide +kernel
theorem dX7_needState_11 : decode cX7_needState 11 = .ok (.invokespecial 335, 3) := by decide +kernel
theorem dX7_needState_14 : decode cX7_needState 14 = .ok (.athrow, 1) := by decide +kernel
theorem dX7_needState_15 : decode cX7_needState 15 = .ok (.return_, 1) := by decide +kernel
theorem dX7_needProduct_0 : decode cX7_needProduct 0 = .ok (.iload_n 1, 1) := by decide +kernel
theorem dX7_needProduct_1 : decode cX7_needProduct 1 = .ok (.ifCond .lt 14, 3) := by decide +kernel
theorem dX7_needProduct_4 : decode cX7_needProduct 4 = .ok (.iload_n 1, 1) := by decide +kernel
theorem dX7_needProduct_5 : decode cX7_needProduct 5 = .ok (.aload_n 0, 1) := by decide +kernel
theorem dX7_needProduct_6 : decode cX7_needProduct 6 = .ok (.getfield 10, 3) := by decide +kernel
theorem dX7_needProduct_9 : decode cX7_needProduct 9 = .ok (.getfield 107, 3) := by decide +kernel
theorem dX7_needProduct_12 : decode cX7_needProduct 12 = .ok (.if_icmp .lt 14, 3) := by decide +kernel
theorem dX7_needProduct_15 : decode cX7_needProduct 15 = .ok (.new 201, 3) := by decide +kernel
theorem dX7_needProduct_18 : decode cX7_needProduct 18 = .ok (.dup, 1) := by decide +kernel
theorem dX7_needProduct_19 : decode cX7_needProduct 19 = .ok (.ldc_w 336, 3) := by decide +kernel
theorem dX7_needProduct_22 : decode cX7_needProduct 22 = .ok (.invokespecial 205, 3) := by decide +kernel
theorem dX7_needProduct_25 : decode cX7_needProduct 25 = .ok (.athrow, 1) := by decide +kernel
theorem dX7_needProduct_26 : decode cX7_needProduct 26 = .ok (.return_, 1) := by decide +kernel
theorem dX7_needLot_0 : decode cX7_needLot 0 = .ok (.aload_n 0, 1) := by decide +kernel
theorem dX7_needLot_1 : decode cX7_needLot 1 = .ok (.getfield 10, 3) := by decide +kernel
theorem dX7_needLot_4 : decode cX7_needLot 4 = .ok (.getfield 75, 3) := by decide +kernel
theorem dX7_needLot_7 : decode cX7_needLot 7 = .ok (.iload_n 1, 1) := by decide +kernel
theorem dX7_needLot_8 : decode cX7_needLot 8 = .ok (.invokevirtual 338, 3) := by decide +kernel
theorem dX7_needLot_11 : decode cX7_needLot 11 = .ok (.ifCond .ne 14, 3) := by decide +kernel
theorem dX7_needLot_14 : decode cX7_needLot 14 = .ok (.new 201, 3) := by decide +kernel
theorem dX7_needLot_17 : decode cX7_needLot 17 = .ok (.dup, 1) := by decide +kernel
theorem dX7_needLot_18 : decode cX7_needLot 18 = .ok (.ldc_w 341, 3) := by decide +kernel
theorem dX7_needLot_21 : decode cX7_needLot 21 = .ok (.invokespecial 205, 3) := by decide +kernel
theorem dX7_needLot_24 : decode cX7_needLot 24 = .ok (.athrow, 1) := by decide +kernel
theorem dX7_needLot_25 : decode cX7_needLot 25 = .ok (.return_, 1) := by decide +kernel
theorem dX7_needPlace_0 : decode cX7_needPlace 0 = .ok (.aload_n 0, 1) := by decide +kernel
theorem dX7_needPlace_1 : decode cX7_needPlace 1 = .ok (.getfield 10, 3) := by decide +kernel
theorem dX7_needPlace_4 : decode cX7_needPlace 4 = .ok (.getfield 41, 3) := by decide +kernel
theorem dX7_needPlace_7 : decode cX7_needPlace 7 = .ok (.iload_n 1, 1) := by decide +kernel
theorem dX7_needPlace_8 : decode cX7_needPlace 8 = .ok (.invokevirtual 343, 3) := by decide +kernel
theorem dX7_needPlace_11 : decode cX7_needPlace 11 = .ok (.ifCond .ne 14, 3) := by decide +kernel
theorem dX7_needPlace_14 : decode cX7_needPlace 14 = .ok (.new 201, 3) := by decide +kernel
theorem dX7_needPlace_17 : decode cX7_needPlace 17 = .ok (.dup, 1) := by decide +kernel
theorem dX7_needPlace_18 : decode cX7_needPlace 18 = .ok (.ldc_w 344, 3) := by decide +kernel
theorem dX7_needPlace_21 : decode cX7_needPlace 21 = .ok (.invokespecial 205, 3) := by decide +kernel
theorem dX7_needPlace_24 : decode cX7_needPlace 24 = .ok (.athrow, 1) := by decide +kernel
theorem dX7_needPlace_25 : decode cX7_needPlace 25 = .ok (.return_, 1) := by decide +kernel
theorem dX7_needOrder_0 : decode cX7_needOrder 0 = .ok (.aload_n 0, 1) := by decide +kernel
theorem dX7_needOrder_1 : decode cX7_needOrder 1 = .ok (.getfield 10, 3) := by decide +kernel
theorem dX7_needOrder_4 : decode cX7_needOrder 4 = .ok (.getfield 142, 3) := by decide +kernel
theorem dX7_needOrder_7 : decode cX7_needOrder 7 = .ok (.iload_n 1, 1) := by decide +kernel
theorem dX7_needOrder_8 : decode cX7_needOrder 8 = .ok (.invokevirtual 346, 3) := by decide +kernel
theorem dX7_needOrder_11 : decode cX7_needOrder 11 = .ok (.ifCond .ne 14, 3) := by decide +kernel
theorem dX7_needOrder_14 : decode cX7_needOrder 14 = .ok (.new 201, 3) := by decide +kernel
theorem dX7_needOrder_17 : decode cX7_needOrder 17 = .ok (.dup, 1) := by decide +kernel
theorem dX7_needOrder_18 : decode cX7_needOrder 18 = .ok (.ldc_w 347, 3) := by decide +kernel
theorem dX7_needOrder_21 : decode cX7_needOrder 21 = .ok (.invokespecial 205, 3) := by decide +kernel
theorem dX7_needOrder_24 : decode cX7_needOrder 24 = .ok (.athrow, 1) := by decide +kernel
theorem dX7_needOrder_25 : decode cX7_needOrder 25 = .ok (.return_, 1) := by decide +kernel
theorem dX7_remember_0 : decode cX7_remember 0 = .ok (.aload_n 0, 1) := by decide +kernel
theorem dX7_remember_1 : decode cX7_remember 1 = .ok (.getfield 16, 3) := by decide +kernel
theorem dX7_remember_4 : decode cX7_remember 4 = .ok (.aload_n 0, 1) := by decide +kernel
theorem dX7_remember_5 : decode cX7_remember 5 = .ok (.getfield 308, 3) := by decide +kernel
theorem dX7_remember_8 : decode cX7_remember 8 = .ok (.aaload, 1) := by decide +kernel
theorem dX7_remember_9 : decode cX7_remember 9 = .ok (.astore_n 1, 1) := by decide +kernel
theorem dX7_remember_10 : decode cX7_remember 10 = .ok (.aload_n 1, 1) := by decide +kernel
theorem dX7_remember_11 : decode cX7_remember 11 = .ok (.ifnonnull 21, 3) := by decide +kernel
theorem dX7_remember_14 : decode cX7_remember 14 = .ok (.new 7, 3) := by decide +kernel
theorem dX7_remember_17 : decode cX7_remember 17 = .ok (.dup, 1) := by decide +kernel
theorem dX7_remember_18 : decode cX7_remember 18 = .ok (.invokespecial 9, 3) := by decide +kernel
theorem dX7_remember_21 : decode cX7_remember 21 = .ok (.astore_n 1, 1) := by decide +kernel
theorem dX7_remember_22 : decode cX7_remember 22 = .ok (.aload_n 0, 1) := by decide +kernel
theorem dX7_remember_23 : decode cX7_remember 23 = .ok (.getfield 16, 3) := by decide +kernel
theorem dX7_remember_26 : decode cX7_remember 26 = .ok (.aload_n 0, 1) := by decide +kernel
theorem dX7_remember_27 : decode cX7_remember 27 = .ok (.getfield 308, 3) := by decide +kernel
theorem dX7_remember_30 : decode cX7_remember 30 = .ok (.aload_n 1, 1) := by decide +kernel
theorem dX7_remember_31 : decode cX7_remember 31 = .ok (.aastore, 1) := by decide +kernel
theorem dX7_remember_32 : decode cX7_remember 32 = .ok (.aload_n 1, 1) := by decide +kernel
theorem dX7_remember_33 : decode cX7_remember 33 = .ok (.aload_n 0, 1) := by decide +kernel
theorem dX7_remember_34 : decode cX7_remember 34 = .ok (.getfield 10, 3) := by decide +kernel
theorem dX7_remember_37 : decode cX7_remember 37 = .ok (.invokevirtual 311, 3) := by decide +kernel
theorem dX7_remember_40 : decode cX7_remember 40 = .ok (.aload_n 0, 1) := by decide +kernel
theorem dX7_remember_41 : decode cX7_remember 41 = .ok (.aload_n 0, 1) := by decide +kernel
theorem dX7_remember_42 : decode cX7_remember 42 = .ok (.getfield 308, 3) := by decide +kernel
theorem dX7_remember_45 : decode cX7_remember 45 = .ok (.iconst 1, 1) := by decide +kernel
theorem dX7_remember_46 : decode cX7_remember 46 = .ok (.iadd, 1) := by decide +kernel
theorem dX7_remember_47 : decode cX7_remember 47 = .ok (.bipush 8, 2) := by decide +kernel
theorem dX7_remember_49 : decode cX7_remember 49 = .ok (.irem, 1) := by decide +kernel
theorem dX7_remember_50 : decode cX7_remember 50 = .ok (.putfield 308, 3) := by decide +kernel
theorem dX7_remember_53 : decode cX7_remember 53 = .ok (.aload_n 0, 1) := by decide +kernel
theorem dX7_remember_54 : decode cX7_remember 54 = .ok (.aload_n 0, 1) := by decide +kernel
theorem dX7_remember_55 : decode cX7_remember 55 = .ok (.getfield 305, 3) := by decide +kernel
theorem dX7_remember_58 : decode cX7_remember 58 = .ok (.iconst 1, 1) := by decide +kernel
theorem dX7_remember_59 : decode cX7_remember 59 = .ok (.iadd, 1) := by decide +kernel
theorem dX7_remember_60 : decode cX7_remember 60 = .ok (.bipush 8, 2) := by decide +kernel
theorem dX7_remember_62 : decode cX7_remember 62 = .ok (.invokestatic 349, 3) := by decide +kernel
theorem dX7_remember_65 : decode cX7_remember 65 = .ok (.putfield 305, 3) := by decide +kernel
theorem dX7_remember_68 : decode cX7_remember 68 = .ok (.return_, 1) := by decide +kernel
theorem dX7_serve_0 : decode cX7_serve 0 = .ok (.aload_n 0, 1) := by decide +kernel
theorem dX7_serve_1 : decode cX7_serve 1 = .ok (.getfield 10, 3) := by decide +kernel
theorem dX7_serve_4 : decode cX7_serve 4 = .ok (.getfield 142, 3) := by decide +kernel
theorem dX7_serve_7 : decode cX7_serve 7 = .ok (.iload_n 1, 1) := by decide +kernel
theorem dX7_serve_8 : decode cX7_serve 8 = .ok (.invokevirtual 346, 3) := by decide +kernel
theorem dX7_serve_11 : decode cX7_serve 11 = .ok (.ifCond .ne 5, 3) := by decide +kernel
theorem dX7_serve_14 : decode cX7_serve 14 = .ok (.iconst 0, 1) := by decide +kernel
theorem dX7_serve_15 : decode cX7_serve 15 = .ok (.ireturn, 1) := by decide +kernel
theorem dX7_serve_16 : decode cX7_serve 16 = .ok (.aload_n 0, 1) := by decide +kernel
theorem dX7_serve_17 : decode cX7_serve 17 = .ok (.getfield 10, 3) := by decide +kernel
theorem dX7_serve_20 : decode cX7_serve 20 = .ok (.getfield 142, 3) := by decide +kernel
theorem dX7_serve_23 : decode cX7_serve 23 = .ok (.getfield 212, 3) := by decide +kernel
theorem dX7_serve_26 : decode cX7_serve 26 = .ok (.iload_n 1, 1) := by decide +kernel
theorem dX7_serve_27 : decode cX7_serve 27 = .ok (.iaload, 1) := by decide +kernel
theorem dX7_serve_28 : decode cX7_serve 28 = .ok (.istore_n 3, 1) := by decide +kernel
theorem dX7_serve_29 : decode cX7_serve 29 = .ok (.iconst 0, 1) := by decide +kernel
theorem dX7_serve_30 : decode cX7_serve 30 = .ok (.istore 4, 2) := by decide +kernel
theorem dX7_serve_32 : decode cX7_serve 32 = .ok (.iconst 0, 1) := by decide +kernel
theorem dX7_serve_33 : decode cX7_serve 33 = .ok (.istore 5, 2) := by decide +kernel
theorem dX7_serve_35 : decode cX7_serve 35 = .ok (.iload 5, 2) := by decide +kernel
theorem dX7_serve_37 : decode cX7_serve 37 = .ok (.aload_n 0, 1) := by decide +kernel
theorem dX7_serve_38 : decode cX7_serve 38 = .ok (.getfield 10, 3) := by decide +kernel
theorem dX7_serve_41 : decode cX7_serve 41 = .ok (.getfield 75, 3) := by decide +kernel
theorem dX7_serve_44 : decode cX7_serve 44 = .ok (.getfield 79, 3) := by decide +kernel
theorem dX7_serve_47 : decode cX7_serve 47 = .ok (.if_icmp .ge 141, 3) := by decide +kernel
theorem dX7_serve_50 : decode cX7_serve 50 = .ok (.iload 4, 2) := by decide +kernel
theorem dX7_serve_52 : decode cX7_serve 52 = .ok (.iload_n 3, 1) := by decide +kernel
theorem dX7_serve_53 : decode cX7_serve 53 = .ok (.if_icmp .ge 135, 3) := by decide +kernel
theorem dX7_serve_56 : decode cX7_serve 56 = .ok (.aload_n 0, 1) := by decide +kernel
theorem dX7_serve_57 : decode cX7_serve 57 = .ok (.getfield 10, 3) := by decide +kernel
theorem dX7_serve_60 : decode cX7_serve 60 = .ok (.getfield 75, 3) := by decide +kernel
theorem dX7_serve_63 : decode cX7_serve 63 = .ok (.getfield 354, 3) := by decide +kernel
theorem dX7_serve_66 : decode cX7_serve 66 = .ok (.iload 5, 2) := by decide +kernel
theorem dX7_serve_68 : decode cX7_serve 68 = .ok (.iaload, 1) := by decide +kernel
theorem dX7_serve_69 : decode cX7_serve 69 = .ok (.istore 6, 2) := by decide +kernel
theorem dX7_serve_71 : decode cX7_serve 71 = .ok (.aload_n 0, 1) := by decide +kernel
theorem dX7_serve_72 : decode cX7_serve 72 = .ok (.getfield 10, 3) := by decide +kernel
theorem dX7_serve_75 : decode cX7_serve 75 = .ok (.getfield 75, 3) := by decide +kernel
theorem dX7_serve_78 : decode cX7_serve 78 = .ok (.iload 6, 2) := by decide +kernel
theorem dX7_serve_80 : decode cX7_serve 80 = .ok (.aload_n 0, 1) := by decide +kernel
theorem dX7_serve_81 : decode cX7_serve 81 = .ok (.getfield 10, 3) := by decide +kernel
theorem dX7_serve_84 : decode cX7_serve 84 = .ok (.getfield 142, 3) := by decide +kernel
theorem dX7_serve_87 : decode cX7_serve 87 = .ok (.getfield 224, 3) := by decide +kernel
theorem dX7_serve_90 : decode cX7_serve 90 = .ok (.iload_n 1, 1) := by decide +kernel
theorem dX7_serve_91 : decode cX7_serve 91 = .ok (.iaload, 1) := by decide +kernel
theorem dX7_serve_92 : decode cX7_serve 92 = .ok (.aload_n 0, 1) := by decide +kernel
theorem dX7_serve_93 : decode cX7_serve 93 = .ok (.getfield 10, 3) := by decide +kernel
theorem dX7_serve_96 : decode cX7_serve 96 = .ok (.getfield 142, 3) := by decide +kernel
theorem dX7_serve_99 : decode cX7_serve 99 = .ok (.iload_n 1, 1) := by decide +kernel
theorem dX7_serve_100 : decode cX7_serve 100 = .ok (.invokevirtual 228, 3) := by decide +kernel
theorem dX7_serve_103 : decode cX7_serve 103 = .ok (.invokevirtual 357, 3) := by decide +kernel
theorem dX7_serve_106 : decode cX7_serve 106 = .ok (.ifCond .eq 76, 3) := by decide +kernel
theorem dX7_serve_109 : decode cX7_serve 109 = .ok (.iload_n 3, 1) := by decide +kernel
theorem dX7_serve_110 : decode cX7_serve 110 = .ok (.iload 4, 2) := by decide +kernel
theorem dX7_serve_112 : decode cX7_serve 112 = .ok (.isub, 1) := by decide +kernel
theorem dX7_serve_113 : decode cX7_serve 113 = .ok (.aload_n 0, 1) := by decide +kernel
theorem dX7_serve_114 : decode cX7_serve 114 = .ok (.getfield 34, 3) := by decide +kernel
theorem dX7_serve_117 : decode cX7_serve 117 = .ok (.iload 6, 2) := by decide +kernel
theorem dX7_serve_119 : decode cX7_serve 119 = .ok (.iaload, 1) := by decide +kernel
theorem dX7_serve_120 : decode cX7_serve 120 = .ok (.invokestatic 349, 3) := by decide +kernel
theorem dX7_serve_123 : decode cX7_serve 123 = .ok (.istore 7, 2) := by decide +kernel
theorem dX7_serve_125 : decode cX7_serve 125 = .ok (.aload_n 0, 1) := by decide +kernel
theorem dX7_serve_126 : decode cX7_serve 126 = .ok (.getfield 34, 3) := by decide +kernel
theorem dX7_serve_129 : decode cX7_serve 129 = .ok (.iload 6, 2) := by decide +kernel
theorem dX7_serve_131 : decode cX7_serve 131 = .ok (.dup2, 1) := by decide +kernel
theorem dX7_serve_132 : decode cX7_serve 132 = .ok (.iaload, 1) := by decide +kernel
theorem dX7_serve_133 : decode cX7_serve 133 = .ok (.iload 7, 2) := by decide +kernel
theorem dX7_serve_135 : decode cX7_serve 135 = .ok (.isub, 1) := by decide +kernel
theorem dX7_serve_136 : decode cX7_serve 136 = .ok (.iastore, 1) := by decide +kernel
theorem dX7_serve_137 : decode cX7_serve 137 = .ok (.iload 4, 2) := by decide +kernel
theorem dX7_serve_139 : decode cX7_serve 139 = .ok (.iload 7, 2) := by decide +kernel
theorem dX7_serve_141 : decode cX7_serve 141 = .ok (.iadd, 1) := by decide +kernel
theorem dX7_serve_142 : decode cX7_serve 142 = .ok (.istore 4, 2) := by decide +kernel
theorem dX7_serve_144 : decode cX7_serve 144 = .ok (.iload_n 2, 1) := by decide +kernel
theorem dX7_serve_145 : decode cX7_serve 145 = .ok (.ifCond .eq 37, 3) := by decide +kernel
theorem dX7_serve_148 : decode cX7_serve 148 = .ok (.iload 7, 2) := by decide +kernel
theorem dX7_serve_150 : decode cX7_serve 150 = .ok (.ifCond .le 32, 3) := by decide +kernel
theorem dX7_serve_153 : decode cX7_serve 153 = .ok (.aload_n 0, 1) := by decide +kernel
theorem dX7_serve_154 : decode cX7_serve 154 = .ok (.getfield 10, 3) := by decide +kernel
theorem dX7_serve_157 : decode cX7_serve 157 = .ok (.getfield 41, 3) := by decide +kernel
theorem dX7_serve_160 : decode cX7_serve 160 = .ok (.iload 6, 2) := by decide +kernel
theorem dX7_serve_162 : decode cX7_serve 162 = .ok (.iload 7, 2) := by decide +kernel
theorem dX7_serve_164 : decode cX7_serve 164 = .ok (.invokevirtual 361, 3) := by decide +kernel
theorem dX7_serve_167 : decode cX7_serve 167 = .ok (.aload_n 0, 1) := by decide +kernel
theorem dX7_serve_168 : decode cX7_serve 168 = .ok (.getfield 10, 3) := by decide +kernel
theorem dX7_serve_171 : decode cX7_serve 171 = .ok (.getfield 142, 3) := by decide +kernel
theorem dX7_serve_174 : decode cX7_serve 174 = .ok (.iload_n 1, 1) := by decide +kernel
theorem dX7_serve_175 : decode cX7_serve 175 = .ok (.iload 6, 2) := by decide +kernel
theorem dX7_serve_177 : decode cX7_serve 177 = .ok (.iload 7, 2) := by decide +kernel
theorem dX7_serve_179 : decode cX7_serve 179 = .ok (.invokevirtual 365, 3) := by decide +kernel
theorem dX7_serve_182 : decode cX7_serve 182 = .ok (.iinc 5 1, 3) := by decide +kernel
theorem dX7_serve_185 : decode cX7_serve 185 = .ok (.goto (-150), 3) := by decide +kernel
theorem dX7_serve_188 : decode cX7_serve 188 = .ok (.iload 4, 2) := by decide +kernel
theorem dX7_serve_190 : decode cX7_serve 190 = .ok (.ireturn, 1) := by decide +kernel
theorem dX7_leftOpen_0 : decode cX7_leftOpen 0 = .ok (.aload_n 0, 1) := by decide +kernel
theorem dX7_leftOpen_1 : decode cX7_leftOpen 1 = .ok (.getfield 10, 3) := by decide +kernel
theorem dX7_leftOpen_4 : decode cX7_leftOpen 4 = .ok (.getfield 41, 3) := by decide +kernel
theorem dX7_leftOpen_7 : decode cX7_leftOpen 7 = .ok (.aload_n 0, 1) := by decide +kernel
theorem dX7_leftOpen_8 : decode cX7_leftOpen 8 = .ok (.getfield 34, 3) := by decide +kernel
theorem dX7_leftOpen_11 : decode cX7_leftOpen 11 = .ok (.invokevirtual 151, 3) := by decide +kernel
theorem dX7_leftOpen_14 : decode cX7_leftOpen 14 = .ok (.iconst 0, 1) := by decide +kernel
theorem dX7_leftOpen_15 : decode cX7_leftOpen 15 = .ok (.istore_n 2, 1) := by decide +kernel
theorem dX7_leftOpen_16 : decode cX7_leftOpen 16 = .ok (.iconst 0, 1) := by decide +kernel
theorem dX7_leftOpen_17 : decode cX7_leftOpen 17 = .ok (.istore_n 3, 1) := by decide +kernel
theorem dX7_leftOpen_18 : decode cX7_leftOpen 18 = .ok (.iload_n 3, 1) := by decide +kernel
theorem dX7_leftOpen_19 : decode cX7_leftOpen 19 = .ok (.aload_n 0, 1) := by decide +kernel
theorem dX7_leftOpen_20 : decode cX7_leftOpen 20 = .ok (.getfield 10, 3) := by decide +kernel
theorem dX7_leftOpen_23 : decode cX7_leftOpen 23 = .ok (.getfield 142, 3) := by decide +kernel
theorem dX7_leftOpen_26 : decode cX7_leftOpen 26 = .ok (.getfield 155, 3) := by decide +kernel
theorem dX7_leftOpen_29 : decode cX7_leftOpen 29 = .ok (.if_icmp .ge 63, 3) := by decide +kernel
theorem dX7_leftOpen_32 : decode cX7_leftOpen 32 = .ok (.aload_n 0, 1) := by decide +kernel
theorem dX7_leftOpen_33 : decode cX7_leftOpen 33 = .ok (.getfield 10, 3) := by decide +kernel
theorem dX7_leftOpen_36 : decode cX7_leftOpen 36 = .ok (.getfield 142, 3) := by decide +kernel
theorem dX7_leftOpen_39 : decode cX7_leftOpen 39 = .ok (.getfield 235, 3) := by decide +kernel
theorem dX7_leftOpen_42 : decode cX7_leftOpen 42 = .ok (.iload_n 3, 1) := by decide +kernel
theorem dX7_leftOpen_43 : decode cX7_leftOpen 43 = .ok (.iaload, 1) := by decide +kernel
theorem dX7_leftOpen_44 : decode cX7_leftOpen 44 = .ok (.istore 4, 2) := by decide +kernel
theorem dX7_leftOpen_46 : decode cX7_leftOpen 46 = .ok (.aload_n 0, 1) := by decide +kernel
theorem dX7_leftOpen_47 : decode cX7_leftOpen 47 = .ok (.getfield 10, 3) := by decide +kernel
theorem dX7_leftOpen_50 : decode cX7_leftOpen 50 = .ok (.getfield 142, 3) := by decide +kernel
theorem dX7_leftOpen_53 : decode cX7_leftOpen 53 = .ok (.iload 4, 2) := by decide +kernel
theorem dX7_leftOpen_55 : decode cX7_leftOpen 55 = .ok (.iload_n 1, 1) := by decide +kernel
theorem dX7_leftOpen_56 : decode cX7_leftOpen 56 = .ok (.invokevirtual 368, 3) := by decide +kernel
theorem dX7_leftOpen_59 : decode cX7_leftOpen 59 = .ok (.ifCond .eq 27, 3) := by decide +kernel
theorem dX7_leftOpen_62 : decode cX7_leftOpen 62 = .ok (.iload_n 2, 1) := by decide +kernel
theorem dX7_leftOpen_63 : decode cX7_leftOpen 63 = .ok (.aload_n 0, 1) := by decide +kernel
theorem dX7_leftOpen_64 : decode cX7_leftOpen 64 = .ok (.getfield 10, 3) := by decide +kernel
theorem dX7_leftOpen_67 : decode cX7_leftOpen 67 = .ok (.getfield 142, 3) := by decide +kernel
theorem dX7_leftOpen_70 : decode cX7_leftOpen 70 = .ok (.getfield 212, 3) := by decide +kernel
theorem dX7_leftOpen_73 : decode cX7_leftOpen 73 = .ok (.iload 4, 2) := by decide +kernel
theorem dX7_leftOpen_75 : decode cX7_leftOpen 75 = .ok (.iaload, 1) := by decide +kernel
theorem dX7_leftOpen_76 : decode cX7_leftOpen 76 = .ok (.aload_n 0, 1) := by decide +kernel
theorem dX7_leftOpen_77 : decode cX7_leftOpen 77 = .ok (.iload 4, 2) := by decide +kernel
theorem dX7_leftOpen_79 : decode cX7_leftOpen 79 = .ok (.iconst 0, 1) := by decide +kernel
theorem dX7_leftOpen_80 : decode cX7_leftOpen 80 = .ok (.invokevirtual 238, 3) := by decide +kernel
theorem dX7_leftOpen_83 : decode cX7_leftOpen 83 = .ok (.isub, 1) := by decide +kernel
theorem dX7_leftOpen_84 : decode cX7_leftOpen 84 = .ok (.iadd, 1) := by decide +kernel
theorem dX7_leftOpen_85 : decode cX7_leftOpen 85 = .ok (.istore_n 2, 1) := by decide +kernel
theorem dX7_leftOpen_86 : decode cX7_leftOpen 86 = .ok (.iinc 3 1, 3) := by decide +kernel
theorem dX7_leftOpen_89 : decode cX7_leftOpen 89 = .ok (.goto (-71), 3) := by decide +kernel
theorem dX7_leftOpen_92 : decode cX7_leftOpen 92 = .ok (.iload_n 2, 1) := by decide +kernel
theorem dX7_leftOpen_93 : decode cX7_leftOpen 93 = .ok (.ireturn, 1) := by decide +kernel
theorem dX7_lackAt_0 : decode cX7_lackAt 0 = .ok (.aload_n 0, 1) := by decide +kernel
theorem dX7_lackAt_1 : decode cX7_lackAt 1 = .ok (.getfield 10, 3) := by decide +kernel
theorem dX7_lackAt_4 : decode cX7_lackAt 4 = .ok (.getfield 142, 3) := by decide +kernel
theorem dX7_lackAt_7 : decode cX7_lackAt 7 = .ok (.iload_n 1, 1) := by decide +kernel
theorem dX7_lackAt_8 : decode cX7_lackAt 8 = .ok (.iload_n 2, 1) := by decide +kernel
theorem dX7_lackAt_9 : decode cX7_lackAt 9 = .ok (.invokevirtual 372, 3) := by decide +kernel
theorem dX7_lackAt_12 : decode cX7_lackAt 12 = .ok (.istore_n 3, 1) := by decide +kernel
theorem dX7_lackAt_13 : decode cX7_lackAt 13 = .ok (.aload_n 0, 1) := by decide +kernel
theorem dX7_lackAt_14 : decode cX7_lackAt 14 = .ok (.getfield 10, 3) := by decide +kernel
theorem dX7_lackAt_17 : decode cX7_lackAt 17 = .ok (.getfield 41, 3) := by decide +kernel
theorem dX7_lackAt_20 : decode cX7_lackAt 20 = .ok (.aload_n 0, 1) := by decide +kernel
theorem dX7_lackAt_21 : decode cX7_lackAt 21 = .ok (.getfield 34, 3) := by decide +kernel
theorem dX7_lackAt_24 : decode cX7_lackAt 24 = .ok (.invokevirtual 151, 3) := by decide +kernel
theorem dX7_lackAt_27 : decode cX7_lackAt 27 = .ok (.iconst 0, 1) := by decide +kernel
theorem dX7_lackAt_28 : decode cX7_lackAt 28 = .ok (.istore 4, 2) := by decide +kernel
theorem dX7_lackAt_30 : decode cX7_lackAt 30 = .ok (.iload 4, 2) := by decide +kernel
theorem dX7_lackAt_32 : decode cX7_lackAt 32 = .ok (.aload_n 0, 1) := by decide +kernel
theorem dX7_lackAt_33 : decode cX7_lackAt 33 = .ok (.getfield 10, 3) := by decide +kernel
theorem dX7_lackAt_36 : decode cX7_lackAt 36 = .ok (.getfield 75, 3) := by decide +kernel
theorem dX7_lackAt_39 : decode cX7_lackAt 39 = .ok (.getfield 79, 3) := by decide +kernel
theorem dX7_lackAt_42 : decode cX7_lackAt 42 = .ok (.if_icmp .ge 36, 3) := by decide +kernel
theorem dX7_lackAt_45 : decode cX7_lackAt 45 = .ok (.aload_n 0, 1) := by decide +kernel
theorem dX7_lackAt_46 : decode cX7_lackAt 46 = .ok (.getfield 10, 3) := by decide +kernel
theorem dX7_lackAt_49 : decode cX7_lackAt 49 = .ok (.getfield 75, 3) := by decide +kernel
theorem dX7_lackAt_52 : decode cX7_lackAt 52 = .ok (.iload 4, 2) := by decide +kernel
theorem dX7_lackAt_54 : decode cX7_lackAt 54 = .ok (.iload_n 1, 1) := by decide +kernel
theorem dX7_lackAt_55 : decode cX7_lackAt 55 = .ok (.iload_n 2, 1) := by decide +kernel
theorem dX7_lackAt_56 : decode cX7_lackAt 56 = .ok (.invokevirtual 357, 3) := by decide +kernel
theorem dX7_lackAt_59 : decode cX7_lackAt 59 = .ok (.ifCond .eq 13, 3) := by decide +kernel
theorem dX7_lackAt_62 : decode cX7_lackAt 62 = .ok (.iload_n 3, 1) := by decide +kernel
theorem dX7_lackAt_63 : decode cX7_lackAt 63 = .ok (.aload_n 0, 1) := by decide +kernel
theorem dX7_lackAt_64 : decode cX7_lackAt 64 = .ok (.getfield 34, 3) := by decide +kernel
theorem dX7_lackAt_67 : decode cX7_lackAt 67 = .ok (.iload 4, 2) := by decide +kernel
theorem dX7_lackAt_69 : decode cX7_lackAt 69 = .ok (.iaload, 1) := by decide +kernel
theorem dX7_lackAt_70 : decode cX7_lackAt 70 = .ok (.isub, 1) := by decide +kernel
theorem dX7_lackAt_71 : decode cX7_lackAt 71 = .ok (.istore_n 3, 1) := by decide +kernel
theorem dX7_lackAt_72 : decode cX7_lackAt 72 = .ok (.iinc 4 1, 3) := by decide +kernel
theorem dX7_lackAt_75 : decode cX7_lackAt 75 = .ok (.goto (-45), 3) := by decide +kernel
theorem dX7_lackAt_78 : decode cX7_lackAt 78 = .ok (.iload_n 3, 1) := by decide +kernel
theorem dX7_lackAt_79 : decode cX7_lackAt 79 = .ok (.ireturn, 1) := by decide +kernel
theorem dX7_greatestLack_0 : decode cX7_greatestLack 0 = .ok (.iconst 0, 1) := by decide +kernel
theorem dX7_greatestLack_1 : decode cX7_greatestLack 1 = .ok (.istore_n 2, 1) := by decide +kernel
theorem dX7_greatestLack_2 : decode cX7_greatestLack 2 = .ok (.iconst 0, 1) := by decide +kernel
theorem dX7_greatestLack_3 : decode cX7_greatestLack 3 = .ok (.istore_n 3, 1) := by decide +kernel
theorem dX7_greatestLack_4 : decode cX7_greatestLack 4 = .ok (.iload_n 3, 1) := by decide +kernel
theorem dX7_greatestLack_5 : decode cX7_greatestLack 5 = .ok (.aload_n 0, 1) := by decide +kernel
theorem dX7_greatestLack_6 : decode cX7_greatestLack 6 = .ok (.getfield 10, 3) := by decide +kernel
theorem dX7_greatestLack_9 : decode cX7_greatestLack 9 = .ok (.getfield 142, 3) := by decide +kernel
theorem dX7_greatestLack_12 : decode cX7_greatestLack 12 = .ok (.getfield 155, 3) := by decide +kernel
theorem dX7_greatestLack_15 : decode cX7_greatestLack 15 = .ok (.if_icmp .ge 45, 3) := by decide +kernel
theorem dX7_greatestLack_18 : decode cX7_greatestLack 18 = .ok (.aload_n 0, 1) := by decide +kernel
theorem dX7_greatestLack_19 : decode cX7_greatestLack 19 = .ok (.getfield 10, 3) := by decide +kernel
theorem dX7_greatestLack_22 : decode cX7_greatestLack 22 = .ok (.getfield 142, 3) := by decide +kernel
theorem dX7_greatestLack_25 : decode cX7_greatestLack 25 = .ok (.iload_n 3, 1) := by decide +kernel
theorem dX7_greatestLack_26 : decode cX7_greatestLack 26 = .ok (.iload_n 1, 1) := by decide +kernel
theorem dX7_greatestLack_27 : decode cX7_greatestLack 27 = .ok (.invokevirtual 368, 3) := by decide +kernel
theorem dX7_greatestLack_30 : decode cX7_greatestLack 30 = .ok (.ifCond .eq 24, 3) := by decide +kernel
theorem dX7_greatestLack_33 : decode cX7_greatestLack 33 = .ok (.iload_n 2, 1) := by decide +kernel
theorem dX7_greatestLack_34 : decode cX7_greatestLack 34 = .ok (.aload_n 0, 1) := by decide +kernel
theorem dX7_greatestLack_35 : decode cX7_greatestLack 35 = .ok (.iload_n 1, 1) := by decide +kernel
theorem dX7_greatestLack_36 : decode cX7_greatestLack 36 = .ok (.aload_n 0, 1) := by decide +kernel
theorem dX7_greatestLack_37 : decode cX7_greatestLack 37 = .ok (.getfield 10, 3) := by decide +kernel
theorem dX7_greatestLack_40 : decode cX7_greatestLack 40 = .ok (.getfield 142, 3) := by decide +kernel
theorem dX7_greatestLack_43 : decode cX7_greatestLack 43 = .ok (.iload_n 3, 1) := by decide +kernel
theorem dX7_greatestLack_44 : decode cX7_greatestLack 44 = .ok (.invokevirtual 228, 3) := by decide +kernel
theorem dX7_greatestLack_47 : decode cX7_greatestLack 47 = .ok (.invokevirtual 247, 3) := by decide +kernel
theorem dX7_greatestLack_50 : decode cX7_greatestLack 50 = .ok (.invokestatic 375, 3) := by decide +kernel
theorem dX7_greatestLack_53 : decode cX7_greatestLack 53 = .ok (.istore_n 2, 1) := by decide +kernel
theorem dX7_greatestLack_54 : decode cX7_greatestLack 54 = .ok (.iinc 3 1, 3) := by decide +kernel
theorem dX7_greatestLack_57 : decode cX7_greatestLack 57 = .ok (.goto (-53), 3) := by decide +kernel
theorem dX7_greatestLack_60 : decode cX7_greatestLack 60 = .ok (.iload_n 2, 1) := by decide +kernel
theorem dX7_greatestLack_61 : decode cX7_greatestLack 61 = .ok (.ireturn, 1) := by decide +kernel
theorem dX7_doBooksAddUp_0 : decode cX7_doBooksAddUp 0 = .ok (.aload_n 0, 1) := by decide +kernel
theorem dX7_doBooksAddUp_1 : decode cX7_doBooksAddUp 1 = .ok (.getfield 10, 3) := by decide +kernel
theorem dX7_doBooksAddUp_4 : decode cX7_doBooksAddUp 4 = .ok (.getfield 91, 3) := by decide +kernel
theorem dX7_doBooksAddUp_7 : decode cX7_doBooksAddUp 7 = .ok (.iconst 0, 1) := by decide +kernel
theorem dX7_doBooksAddUp_8 : decode cX7_doBooksAddUp 8 = .ok (.iaload, 1) := by decide +kernel
theorem dX7_doBooksAddUp_9 : decode cX7_doBooksAddUp 9 = .ok (.aload_n 0, 1) := by decide +kernel
theorem dX7_doBooksAddUp_10 : decode cX7_doBooksAddUp 10 = .ok (.getfield 10, 3) := by decide +kernel
theorem dX7_doBooksAddUp_13 : decode cX7_doBooksAddUp 13 = .ok (.getfield 91, 3) := by decide +kernel
theorem dX7_doBooksAddUp_16 : decode cX7_doBooksAddUp 16 = .ok (.iconst 2, 1) := by decide +kernel
theorem dX7_doBooksAddUp_17 : decode cX7_doBooksAddUp 17 = .ok (.iaload, 1) := by decide +kernel
theorem dX7_doBooksAddUp_18 : decode cX7_doBooksAddUp 18 = .ok (.iadd, 1) := by decide +kernel
theorem dX7_doBooksAddUp_19 : decode cX7_doBooksAddUp 19 = .ok (.aload_n 0, 1) := by decide +kernel
theorem dX7_doBooksAddUp_20 : decode cX7_doBooksAddUp 20 = .ok (.getfield 10, 3) := by decide +kernel
theorem dX7_doBooksAddUp_23 : decode cX7_doBooksAddUp 23 = .ok (.getfield 91, 3) := by decide +kernel
theorem dX7_doBooksAddUp_26 : decode cX7_doBooksAddUp 26 = .ok (.iconst 5, 1) := by decide +kernel
theorem dX7_doBooksAddUp_27 : decode cX7_doBooksAddUp 27 = .ok (.iaload, 1) := by decide +kernel
theorem dX7_doBooksAddUp_28 : decode cX7_doBooksAddUp 28 = .ok (.iadd, 1) := by decide +kernel
theorem dX7_doBooksAddUp_29 : decode cX7_doBooksAddUp 29 = .ok (.istore_n 1, 1) := by decide +kernel
theorem dX7_doBooksAddUp_30 : decode cX7_doBooksAddUp 30 = .ok (.aload_n 0, 1) := by decide +kernel
theorem dX7_doBooksAddUp_31 : decode cX7_doBooksAddUp 31 = .ok (.getfield 10, 3) := by decide +kernel
theorem dX7_doBooksAddUp_34 : decode cX7_doBooksAddUp 34 = .ok (.getfield 91, 3) := by decide +kernel
theorem dX7_doBooksAddUp_37 : decode cX7_doBooksAddUp 37 = .ok (.iconst 1, 1) := by decide +kernel
theorem dX7_doBooksAddUp_38 : decode cX7_doBooksAddUp 38 = .ok (.iaload, 1) := by decide +kernel
theorem dX7_doBooksAddUp_39 : decode cX7_doBooksAddUp 39 = .ok (.aload_n 0, 1) := by decide +kernel
theorem dX7_doBooksAddUp_40 : decode cX7_doBooksAddUp 40 = .ok (.getfield 10, 3) := by decide +kernel
theorem dX7_doBooksAddUp_43 : decode cX7_doBooksAddUp 43 = .ok (.getfield 91, 3) := by decide +kernel
theorem dX7_doBooksAddUp_46 : decode cX7_doBooksAddUp 46 = .ok (.iconst 3, 1) := by decide +kernel
theorem dX7_doBooksAddUp_47 : decode cX7_doBooksAddUp 47 = .ok (.iaload, 1) := by decide +kernel
theorem dX7_doBooksAddUp_48 : decode cX7_doBooksAddUp 48 = .ok (.iadd, 1) := by decide +kernel
theorem dX7_doBooksAddUp_49 : decode cX7_doBooksAddUp 49 = .ok (.aload_n 0, 1) := by decide +kernel
theorem dX7_doBooksAddUp_50 : decode cX7_doBooksAddUp 50 = .ok (.getfield 10, 3) := by decide +kernel
theorem dX7_doBooksAddUp_53 : decode cX7_doBooksAddUp 53 = .ok (.getfield 91, 3) := by decide +kernel
theorem dX7_doBooksAddUp_56 : decode cX7_doBooksAddUp 56 = .ok (.iconst 4, 1) := by decide +kernel
theorem dX7_doBooksAddUp_57 : decode cX7_doBooksAddUp 57 = .ok (.iaload, 1) := by decide +kernel
theorem dX7_doBooksAddUp_58 : decode cX7_doBooksAddUp 58 = .ok (.iadd, 1) := by decide +kernel
theorem dX7_doBooksAddUp_59 : decode cX7_doBooksAddUp 59 = .ok (.istore_n 2, 1) := by decide +kernel
theorem dX7_doBooksAddUp_60 : decode cX7_doBooksAddUp 60 = .ok (.iload_n 1, 1) := by decide +kernel
theorem dX7_doBooksAddUp_61 : decode cX7_doBooksAddUp 61 = .ok (.iload_n 2, 1) := by decide +kernel
theorem dX7_doBooksAddUp_62 : decode cX7_doBooksAddUp 62 = .ok (.isub, 1) := by decide +kernel
theorem dX7_doBooksAddUp_63 : decode cX7_doBooksAddUp 63 = .ok (.aload_n 0, 1) := by decide +kernel
theorem dX7_doBooksAddUp_64 : decode cX7_doBooksAddUp 64 = .ok (.getfield 10, 3) := by decide +kernel
theorem dX7_doBooksAddUp_67 : decode cX7_doBooksAddUp 67 = .ok (.getfield 41, 3) := by decide +kernel
theorem dX7_doBooksAddUp_70 : decode cX7_doBooksAddUp 70 = .ok (.invokevirtual 302, 3) := by decide +kernel
theorem dX7_doBooksAddUp_73 : decode cX7_doBooksAddUp 73 = .ok (.if_icmp .ne 7, 3) := by decide +kernel
theorem dX7_doBooksAddUp_76 : decode cX7_doBooksAddUp 76 = .ok (.iconst 1, 1) := by decide +kernel
theorem dX7_doBooksAddUp_77 : decode cX7_doBooksAddUp 77 = .ok (.goto 4, 3) := by decide +kernel
theorem dX7_doBooksAddUp_80 : decode cX7_doBooksAddUp 80 = .ok (.iconst 0, 1) := by decide +kernel
theorem dX7_doBooksAddUp_81 : decode cX7_doBooksAddUp 81 = .ok (.ireturn, 1) := by decide +kernel
theorem dX7_placesForReturn_0 : decode cX7_placesForReturn 0 = .ok (.iconst 0, 1) := by decide +kernel
theorem dX7_placesForReturn_1 : decode cX7_placesForReturn 1 = .ok (.istore_n 3, 1) := by decide +kernel
theorem dX7_placesForReturn_2 : decode cX7_placesForReturn 2 = .ok (.iload_n 2, 1) := by decide +kernel
theorem dX7_placesForReturn_3 : decode cX7_placesForReturn 3 = .ok (.istore 4, 2) := by decide +kernel
theorem dX7_placesForReturn_5 : decode cX7_placesForReturn 5 = .ok (.ldc_w 378, 3) := by decide +kernel
theorem dX7_placesForReturn_8 : decode cX7_placesForReturn 8 = .ok (.istore 5, 2) := by decide +kernel
theorem dX7_placesForReturn_10 : decode cX7_placesForReturn 10 = .ok (.iconst 0, 1) := by decide +kernel
theorem dX7_placesForReturn_11 : decode cX7_placesForReturn 11 = .ok (.istore 6, 2) := by decide +kernel
theorem dX7_placesForReturn_13 : decode cX7_placesForReturn 13 = .ok (.iload 6, 2) := by decide +kernel
theorem dX7_placesForReturn_15 : decode cX7_placesForReturn 15 = .ok (.bipush 24, 2) := by decide +kernel
theorem dX7_placesForReturn_17 : decode cX7_placesForReturn 17 = .ok (.if_icmp .ge 139, 3) := by decide +kernel
theorem dX7_placesForReturn_20 : decode cX7_placesForReturn 20 = .ok (.iload 4, 2) := by decide +kernel
theorem dX7_placesForReturn_22 : decode cX7_placesForReturn 22 = .ok (.ifCond .le 134, 3) := by decide +kernel
theorem dX7_placesForReturn_25 : decode cX7_placesForReturn 25 = .ok (.aload_n 0, 1) := by decide +kernel
theorem dX7_placesForReturn_26 : decode cX7_placesForReturn 26 = .ok (.getfield 10, 3) := by decide +kernel
theorem dX7_placesForReturn_29 : decode cX7_placesForReturn 29 = .ok (.getfield 142, 3) := by decide +kernel
theorem dX7_placesForReturn_32 : decode cX7_placesForReturn 32 = .ok (.iload_n 1, 1) := by decide +kernel
theorem dX7_placesForReturn_33 : decode cX7_placesForReturn 33 = .ok (.iload 5, 2) := by decide +kernel
theorem dX7_placesForReturn_35 : decode cX7_placesForReturn 35 = .ok (.invokevirtual 379, 3) := by decide +kernel
theorem dX7_placesForReturn_38 : decode cX7_placesForReturn 38 = .ok (.istore 7, 2) := by decide +kernel
theorem dX7_placesForReturn_40 : decode cX7_placesForReturn 40 = .ok (.aload_n 0, 1) := by decide +kernel
theorem dX7_placesForReturn_41 : decode cX7_placesForReturn 41 = .ok (.getfield 10, 3) := by decide +kernel
theorem dX7_placesForReturn_44 : decode cX7_placesForReturn 44 = .ok (.getfield 75, 3) := by decide +kernel
theorem dX7_placesForReturn_47 : decode cX7_placesForReturn 47 = .ok (.iload 7, 2) := by decide +kernel
theorem dX7_placesForReturn_49 : decode cX7_placesForReturn 49 = .ok (.invokevirtual 338, 3) := by decide +kernel
theorem dX7_placesForReturn_52 : decode cX7_placesForReturn 52 = .ok (.ifCond .ne 6, 3) := by decide +kernel
theorem dX7_placesForReturn_55 : decode cX7_placesForReturn 55 = .ok (.goto 101, 3) := by decide +kernel
theorem dX7_placesForReturn_58 : decode cX7_placesForReturn 58 = .ok (.iload 4, 2) := by decide +kernel
theorem dX7_placesForReturn_60 : decode cX7_placesForReturn 60 = .ok (.aload_n 0, 1) := by decide +kernel
theorem dX7_placesForReturn_61 : decode cX7_placesForReturn 61 = .ok (.getfield 10, 3) := by decide +kernel
theorem dX7_placesForReturn_64 : decode cX7_placesForReturn 64 = .ok (.getfield 142, 3) := by decide +kernel
theorem dX7_placesForReturn_67 : decode cX7_placesForReturn 67 = .ok (.iload_n 1, 1) := by decide +kernel
theorem dX7_placesForReturn_68 : decode cX7_placesForReturn 68 = .ok (.iload 7, 2) := by decide +kernel
theorem dX7_placesForReturn_70 : decode cX7_placesForReturn 70 = .ok (.invokevirtual 156, 3) := by decide +kernel
theorem dX7_placesForReturn_73 : decode cX7_placesForReturn 73 = .ok (.invokestatic 349, 3) := by decide +kernel
theorem dX7_placesForReturn_76 : decode cX7_placesForReturn 76 = .ok (.istore 8, 2) := by decide +kernel
theorem dX7_placesForReturn_78 : decode cX7_placesForReturn 78 = .ok (.aload_n 0, 1) := by decide +kernel
theorem dX7_placesForReturn_79 : decode cX7_placesForReturn 79 = .ok (.getfield 10, 3) := by decide +kernel
theorem dX7_placesForReturn_82 : decode cX7_placesForReturn 82 = .ok (.getfield 75, 3) := by decide +kernel
theorem dX7_placesForReturn_85 : decode cX7_placesForReturn 85 = .ok (.iload 7, 2) := by decide +kernel
theorem dX7_placesForReturn_87 : decode cX7_placesForReturn 87 = .ok (.aload_n 0, 1) := by decide +kernel
theorem dX7_placesForReturn_88 : decode cX7_placesForReturn 88 = .ok (.getfield 10, 3) := by decide +kernel
theorem dX7_placesForReturn_91 : decode cX7_placesForReturn 91 = .ok (.getfield 68, 3) := by decide +kernel
theorem dX7_placesForReturn_94 : decode cX7_placesForReturn 94 = .ok (.invokevirtual 382, 3) := by decide +kernel
theorem dX7_placesForReturn_97 : decode cX7_placesForReturn 97 = .ok (.ifCond .ne 31, 3) := by decide +kernel
theorem dX7_placesForReturn_100 : decode cX7_placesForReturn 100 = .ok (.iload_n 3, 1) := by decide +kernel
theorem dX7_placesForReturn_101 : decode cX7_placesForReturn 101 = .ok (.aload_n 0, 1) := by decide +kernel
theorem dX7_placesForReturn_102 : decode cX7_placesForReturn 102 = .ok (.getfield 10, 3) := by decide +kernel
theorem dX7_placesForReturn_105 : decode cX7_placesForReturn 105 = .ok (.getfield 41, 3) := by decide +kernel
theorem dX7_placesForReturn_108 : decode cX7_placesForReturn 108 = .ok (.iload 8, 2) := by decide +kernel
theorem dX7_placesForReturn_110 : decode cX7_placesForReturn 110 = .ok (.aload_n 0, 1) := by decide +kernel
theorem dX7_placesForReturn_111 : decode cX7_placesForReturn 111 = .ok (.getfield 10, 3) := by decide +kernel
theorem dX7_placesForReturn_114 : decode cX7_placesForReturn 114 = .ok (.getfield 41, 3) := by decide +kernel
theorem dX7_placesForReturn_117 : decode cX7_placesForReturn 117 = .ok (.iload 7, 2) := by decide +kernel
theorem dX7_placesForReturn_119 : decode cX7_placesForReturn 119 = .ok (.invokevirtual 385, 3) := by decide +kernel
theorem dX7_placesForReturn_122 : decode cX7_placesForReturn 122 = .ok (.isub, 1) := by decide +kernel
theorem dX7_placesForReturn_123 : decode cX7_placesForReturn 123 = .ok (.invokevirtual 114, 3) := by decide +kernel
theorem dX7_placesForReturn_126 : decode cX7_placesForReturn 126 = .ok (.iadd, 1) := by decide +kernel
theorem dX7_placesForReturn_127 : decode cX7_placesForReturn 127 = .ok (.istore_n 3, 1) := by decide +kernel
theorem dX7_placesForReturn_128 : decode cX7_placesForReturn 128 = .ok (.iload 4, 2) := by decide +kernel
theorem dX7_placesForReturn_130 : decode cX7_placesForReturn 130 = .ok (.iload 8, 2) := by decide +kernel
theorem dX7_placesForReturn_132 : decode cX7_placesForReturn 132 = .ok (.isub, 1) := by decide +kernel
theorem dX7_placesForReturn_133 : decode cX7_placesForReturn 133 = .ok (.istore 4, 2) := by decide +kernel
theorem dX7_placesForReturn_135 : decode cX7_placesForReturn 135 = .ok (.aload_n 0, 1) := by decide +kernel
theorem dX7_placesForReturn_136 : decode cX7_placesForReturn 136 = .ok (.getfield 10, 3) := by decide +kernel
theorem dX7_placesForReturn_139 : decode cX7_placesForReturn 139 = .ok (.getfield 142, 3) := by decide +kernel
theorem dX7_placesForReturn_142 : decode cX7_placesForReturn 142 = .ok (.iload_n 1, 1) := by decide +kernel
theorem dX7_placesForReturn_143 : decode cX7_placesForReturn 143 = .ok (.iload 7, 2) := by decide +kernel
theorem dX7_placesForReturn_145 : decode cX7_placesForReturn 145 = .ok (.invokevirtual 388, 3) := by decide +kernel
theorem dX7_placesForReturn_148 : decode cX7_placesForReturn 148 = .ok (.istore 5, 2) := by decide +kernel
theorem dX7_placesForReturn_150 : decode cX7_placesForReturn 150 = .ok (.iinc 6 1, 3) := by decide +kernel
theorem dX7_placesForReturn_153 : decode cX7_placesForReturn 153 = .ok (.goto (-140), 3) := by decide +kernel
theorem dX7_placesForReturn_156 : decode cX7_placesForReturn 156 = .ok (.iload_n 3, 1) := by decide +kernel
theorem dX7_placesForReturn_157 : decode cX7_placesForReturn 157 = .ok (.ireturn, 1) := by decide +kernel
theorem dX7_takeBack_0 : decode cX7_takeBack 0 = .ok (.iconst 0, 1) := by decide +kernel
theorem dX7_takeBack_1 : decode cX7_takeBack 1 = .ok (.istore_n 3, 1) := by decide +kernel
theorem dX7_takeBack_2 : decode cX7_takeBack 2 = .ok (.iload_n 2, 1) := by decide +kernel
theorem dX7_takeBack_3 : decode cX7_takeBack 3 = .ok (.istore 4, 2) := by decide +kernel
theorem dX7_takeBack_5 : decode cX7_takeBack 5 = .ok (.iconst 0, 1) := by decide +kernel
theorem dX7_takeBack_6 : decode cX7_takeBack 6 = .ok (.istore 5, 2) := by decide +kernel
theorem dX7_takeBack_8 : decode cX7_takeBack 8 = .ok (.iload 5, 2) := by decide +kernel
theorem dX7_takeBack_10 : decode cX7_takeBack 10 = .ok (.bipush 24, 2) := by decide +kernel
theorem dX7_takeBack_12 : decode cX7_takeBack 12 = .ok (.if_icmp .ge 152, 3) := by decide +kernel
theorem dX7_takeBack_15 : decode cX7_takeBack 15 = .ok (.iload 4, 2) := by decide +kernel
theorem dX7_takeBack_17 : decode cX7_takeBack 17 = .ok (.ifCond .le 147, 3) := by decide +kernel
theorem dX7_takeBack_20 : decode cX7_takeBack 20 = .ok (.aload_n 0, 1) := by decide +kernel
theorem dX7_takeBack_21 : decode cX7_takeBack 21 = .ok (.getfield 10, 3) := by decide +kernel
theorem dX7_takeBack_24 : decode cX7_takeBack 24 = .ok (.getfield 142, 3) := by decide +kernel
theorem dX7_takeBack_27 : decode cX7_takeBack 27 = .ok (.iload_n 1, 1) := by decide +kernel
theorem dX7_takeBack_28 : decode cX7_takeBack 28 = .ok (.ldc_w 378, 3) := by decide +kernel
theorem dX7_takeBack_31 : decode cX7_takeBack 31 = .ok (.invokevirtual 379, 3) := by decide +kernel
theorem dX7_takeBack_34 : decode cX7_takeBack 34 = .ok (.istore 6, 2) := by decide +kernel
theorem dX7_takeBack_36 : decode cX7_takeBack 36 = .ok (.aload_n 0, 1) := by decide +kernel
theorem dX7_takeBack_37 : decode cX7_takeBack 37 = .ok (.getfield 10, 3) := by decide +kernel
theorem dX7_takeBack_40 : decode cX7_takeBack 40 = .ok (.getfield 75, 3) := by decide +kernel
theorem dX7_takeBack_43 : decode cX7_takeBack 43 = .ok (.iload 6, 2) := by decide +kernel
theorem dX7_takeBack_45 : decode cX7_takeBack 45 = .ok (.invokevirtual 338, 3) := by decide +kernel
theorem dX7_takeBack_48 : decode cX7_takeBack 48 = .ok (.ifCond .ne 6, 3) := by decide +kernel
theorem dX7_takeBack_51 : decode cX7_takeBack 51 = .ok (.goto 113, 3) := by decide +kernel
theorem dX7_takeBack_54 : decode cX7_takeBack 54 = .ok (.iload 4, 2) := by decide +kernel
theorem dX7_takeBack_56 : decode cX7_takeBack 56 = .ok (.aload_n 0, 1) := by decide +kernel
theorem dX7_takeBack_57 : decode cX7_takeBack 57 = .ok (.getfield 10, 3) := by decide +kernel
theorem dX7_takeBack_60 : decode cX7_takeBack 60 = .ok (.getfield 142, 3) := by decide +kernel
theorem dX7_takeBack_63 : decode cX7_takeBack 63 = .ok (.iload_n 1, 1) := by decide +kernel
theorem dX7_takeBack_64 : decode cX7_takeBack 64 = .ok (.iload 6, 2) := by decide +kernel
theorem dX7_takeBack_66 : decode cX7_takeBack 66 = .ok (.invokevirtual 156, 3) := by decide +kernel
theorem dX7_takeBack_69 : decode cX7_takeBack 69 = .ok (.invokestatic 349, 3) := by decide +kernel
theorem dX7_takeBack_72 : decode cX7_takeBack 72 = .ok (.istore 7, 2) := by decide +kernel
theorem dX7_takeBack_74 : decode cX7_takeBack 74 = .ok (.aload_n 0, 1) := by decide +kernel
theorem dX7_takeBack_75 : decode cX7_takeBack 75 = .ok (.getfield 10, 3) := by decide +kernel
theorem dX7_takeBack_78 : decode cX7_takeBack 78 = .ok (.getfield 142, 3) := by decide +kernel
theorem dX7_takeBack_81 : decode cX7_takeBack 81 = .ok (.iload_n 1, 1) := by decide +kernel
theorem dX7_takeBack_82 : decode cX7_takeBack 82 = .ok (.iload 6, 2) := by decide +kernel
theorem dX7_takeBack_84 : decode cX7_takeBack 84 = .ok (.iload 7, 2) := by decide +kernel
theorem dX7_takeBack_86 : decode cX7_takeBack 86 = .ok (.invokevirtual 391, 3) := by decide +kernel
theorem dX7_takeBack_89 : decode cX7_takeBack 89 = .ok (.iload 4, 2) := by decide +kernel
theorem dX7_takeBack_91 : decode cX7_takeBack 91 = .ok (.iload 7, 2) := by decide +kernel
theorem dX7_takeBack_93 : decode cX7_takeBack 93 = .ok (.isub, 1) := by decide +kernel
theorem dX7_takeBack_94 : decode cX7_takeBack 94 = .ok (.istore 4, 2) := by decide +kernel
theorem dX7_takeBack_96 : decode cX7_takeBack 96 = .ok (.aload_n 0, 1) := by decide +kernel
theorem dX7_takeBack_97 : decode cX7_takeBack 97 = .ok (.getfield 10, 3) := by decide +kernel
theorem dX7_takeBack_100 : decode cX7_takeBack 100 = .ok (.getfield 75, 3) := by decide +kernel
theorem dX7_takeBack_103 : decode cX7_takeBack 103 = .ok (.iload 6, 2) := by decide +kernel
theorem dX7_takeBack_105 : decode cX7_takeBack 105 = .ok (.aload_n 0, 1) := by decide +kernel
theorem dX7_takeBack_106 : decode cX7_takeBack 106 = .ok (.getfield 10, 3) := by decide +kernel
theorem dX7_takeBack_109 : decode cX7_takeBack 109 = .ok (.getfield 68, 3) := by decide +kernel
theorem dX7_takeBack_112 : decode cX7_takeBack 112 = .ok (.invokevirtual 382, 3) := by decide +kernel
theorem dX7_takeBack_115 : decode cX7_takeBack 115 = .ok (.ifCond .eq 11, 3) := by decide +kernel
theorem dX7_takeBack_118 : decode cX7_takeBack 118 = .ok (.iload_n 3, 1) := by decide +kernel
theorem dX7_takeBack_119 : decode cX7_takeBack 119 = .ok (.iload 7, 2) := by decide +kernel
theorem dX7_takeBack_121 : decode cX7_takeBack 121 = .ok (.iadd, 1) := by decide +kernel
theorem dX7_takeBack_122 : decode cX7_takeBack 122 = .ok (.istore_n 3, 1) := by decide +kernel
theorem dX7_takeBack_123 : decode cX7_takeBack 123 = .ok (.goto 35, 3) := by decide +kernel
theorem dX7_takeBack_126 : decode cX7_takeBack 126 = .ok (.aload_n 0, 1) := by decide +kernel
theorem dX7_takeBack_127 : decode cX7_takeBack 127 = .ok (.getfield 10, 3) := by decide +kernel
theorem dX7_takeBack_130 : decode cX7_takeBack 130 = .ok (.getfield 41, 3) := by decide +kernel
theorem dX7_takeBack_133 : decode cX7_takeBack 133 = .ok (.iload 6, 2) := by decide +kernel
theorem dX7_takeBack_135 : decode cX7_takeBack 135 = .ok (.iload 7, 2) := by decide +kernel
theorem dX7_takeBack_137 : decode cX7_takeBack 137 = .ok (.iconst 3, 1) := by decide +kernel
theorem dX7_takeBack_138 : decode cX7_takeBack 138 = .ok (.invokevirtual 393, 3) := by decide +kernel
theorem dX7_takeBack_141 : decode cX7_takeBack 141 = .ok (.istore 8, 2) := by decide +kernel
theorem dX7_takeBack_143 : decode cX7_takeBack 143 = .ok (.aload_n 0, 1) := by decide +kernel
theorem dX7_takeBack_144 : decode cX7_takeBack 144 = .ok (.getfield 10, 3) := by decide +kernel
theorem dX7_takeBack_147 : decode cX7_takeBack 147 = .ok (.getfield 41, 3) := by decide +kernel
theorem dX7_takeBack_150 : decode cX7_takeBack 150 = .ok (.iload 6, 2) := by decide +kernel
theorem dX7_takeBack_152 : decode cX7_takeBack 152 = .ok (.iload 8, 2) := by decide +kernel
theorem dX7_takeBack_154 : decode cX7_takeBack 154 = .ok (.iconst 3, 1) := by decide +kernel
theorem dX7_takeBack_155 : decode cX7_takeBack 155 = .ok (.invokevirtual 124, 3) := by decide +kernel
theorem dX7_takeBack_158 : decode cX7_takeBack 158 = .ok (.iinc 5 1, 3) := by decide +kernel
theorem dX7_takeBack_161 : decode cX7_takeBack 161 = .ok (.goto (-153), 3) := by decide +kernel
theorem dX7_takeBack_164 : decode cX7_takeBack 164 = .ok (.iload_n 3, 1) := by decide +kernel
theorem dX7_takeBack_165 : decode cX7_takeBack 165 = .ok (.ireturn, 1) := by decide +kernel
theorem dX7_fewestBoxes_0 : decode cX7_fewestBoxes 0 = .ok (.iconst 1, 1) := by decide +kernel
theorem dX7_fewestBoxes_1 : decode cX7_fewestBoxes 1 = .ok (.aload_n 0, 1) := by decide +kernel
theorem dX7_fewestBoxes_2 : decode cX7_fewestBoxes 2 = .ok (.getfield 10, 3) := by decide +kernel
theorem dX7_fewestBoxes_5 : decode cX7_fewestBoxes 5 = .ok (.getfield 266, 3) := by decide +kernel
theorem dX7_fewestBoxes_8 : decode cX7_fewestBoxes 8 = .ok (.ishl, 1) := by decide +kernel
theorem dX7_fewestBoxes_9 : decode cX7_fewestBoxes 9 = .ok (.istore_n 2, 1) := by decide +kernel
theorem dX7_fewestBoxes_10 : decode cX7_fewestBoxes 10 = .ok (.aload_n 0, 1) := by decide +kernel
theorem dX7_fewestBoxes_11 : decode cX7_fewestBoxes 11 = .ok (.getfield 38, 3) := by decide +kernel
theorem dX7_fewestBoxes_14 : decode cX7_fewestBoxes 14 = .ok (.iconst 0, 1) := by decide +kernel
theorem dX7_fewestBoxes_15 : decode cX7_fewestBoxes 15 = .ok (.iload_n 1, 1) := by decide +kernel
theorem dX7_fewestBoxes_16 : decode cX7_fewestBoxes 16 = .ok (.iastore, 1) := by decide +kernel
theorem dX7_fewestBoxes_17 : decode cX7_fewestBoxes 17 = .ok (.iconst 1, 1) := by decide +kernel
theorem dX7_fewestBoxes_18 : decode cX7_fewestBoxes 18 = .ok (.istore_n 3, 1) := by decide +kernel
theorem dX7_fewestBoxes_19 : decode cX7_fewestBoxes 19 = .ok (.iload_n 3, 1) := by decide +kernel
theorem dX7_fewestBoxes_20 : decode cX7_fewestBoxes 20 = .ok (.iload_n 2, 1) := by decide +kernel
theorem dX7_fewestBoxes_21 : decode cX7_fewestBoxes 21 = .ok (.if_icmp .ge 95, 3) := by decide +kernel
theorem dX7_fewestBoxes_24 : decode cX7_fewestBoxes 24 = .ok (.iload_n 3, 1) := by decide +kernel
theorem dX7_fewestBoxes_25 : decode cX7_fewestBoxes 25 = .ok (.aload_n 0, 1) := by decide +kernel
theorem dX7_fewestBoxes_26 : decode cX7_fewestBoxes 26 = .ok (.getfield 38, 3) := by decide +kernel
theorem dX7_fewestBoxes_29 : decode cX7_fewestBoxes 29 = .ok (.arraylength, 1) := by decide +kernel
theorem dX7_fewestBoxes_30 : decode cX7_fewestBoxes 30 = .ok (.if_icmp .ge 86, 3) := by decide +kernel
theorem dX7_fewestBoxes_33 : decode cX7_fewestBoxes 33 = .ok (.ldc_w 378, 3) := by decide +kernel
theorem dX7_fewestBoxes_36 : decode cX7_fewestBoxes 36 = .ok (.istore 4, 2) := by decide +kernel
theorem dX7_fewestBoxes_38 : decode cX7_fewestBoxes 38 = .ok (.iconst 0, 1) := by decide +kernel
theorem dX7_fewestBoxes_39 : decode cX7_fewestBoxes 39 = .ok (.istore 5, 2) := by decide +kernel
theorem dX7_fewestBoxes_41 : decode cX7_fewestBoxes 41 = .ok (.iload 5, 2) := by decide +kernel
theorem dX7_fewestBoxes_43 : decode cX7_fewestBoxes 43 = .ok (.aload_n 0, 1) := by decide +kernel
theorem dX7_fewestBoxes_44 : decode cX7_fewestBoxes 44 = .ok (.getfield 10, 3) := by decide +kernel
theorem dX7_fewestBoxes_47 : decode cX7_fewestBoxes 47 = .ok (.getfield 266, 3) := by decide +kernel
theorem dX7_fewestBoxes_50 : decode cX7_fewestBoxes 50 = .ok (.if_icmp .ge 52, 3) := by decide +kernel
theorem dX7_fewestBoxes_53 : decode cX7_fewestBoxes 53 = .ok (.iload_n 3, 1) := by decide +kernel
theorem dX7_fewestBoxes_54 : decode cX7_fewestBoxes 54 = .ok (.iconst 1, 1) := by decide +kernel
theorem dX7_fewestBoxes_55 : decode cX7_fewestBoxes 55 = .ok (.iload 5, 2) := by decide +kernel
theorem dX7_fewestBoxes_57 : decode cX7_fewestBoxes 57 = .ok (.ishl, 1) := by decide +kernel
theorem dX7_fewestBoxes_58 : decode cX7_fewestBoxes 58 = .ok (.iand, 1) := by decide +kernel
theorem dX7_fewestBoxes_59 : decode cX7_fewestBoxes 59 = .ok (.ifCond .eq 37, 3) := by decide +kernel
theorem dX7_fewestBoxes_62 : decode cX7_fewestBoxes 62 = .ok (.iload 4, 2) := by decide +kernel
theorem dX7_fewestBoxes_64 : decode cX7_fewestBoxes 64 = .ok (.aload_n 0, 1) := by decide +kernel
theorem dX7_fewestBoxes_65 : decode cX7_fewestBoxes 65 = .ok (.getfield 38, 3) := by decide +kernel
theorem dX7_fewestBoxes_68 : decode cX7_fewestBoxes 68 = .ok (.iload_n 3, 1) := by decide +kernel
theorem dX7_fewestBoxes_69 : decode cX7_fewestBoxes 69 = .ok (.iconst 1, 1) := by decide +kernel
theorem dX7_fewestBoxes_70 : decode cX7_fewestBoxes 70 = .ok (.iload 5, 2) := by decide +kernel
theorem dX7_fewestBoxes_72 : decode cX7_fewestBoxes 72 = .ok (.ishl, 1) := by decide +kernel
theorem dX7_fewestBoxes_73 : decode cX7_fewestBoxes 73 = .ok (.iconst (-1), 1) := by decide +kernel
theorem dX7_fewestBoxes_74 : decode cX7_fewestBoxes 74 = .ok (.ixor, 1) := by decide +kernel
theorem dX7_fewestBoxes_75 : decode cX7_fewestBoxes 75 = .ok (.iand, 1) := by decide +kernel
theorem dX7_fewestBoxes_76 : decode cX7_fewestBoxes 76 = .ok (.iaload, 1) := by decide +kernel
theorem dX7_fewestBoxes_77 : decode cX7_fewestBoxes 77 = .ok (.aload_n 0, 1) := by decide +kernel
theorem dX7_fewestBoxes_78 : decode cX7_fewestBoxes 78 = .ok (.getfield 10, 3) := by decide +kernel
theorem dX7_fewestBoxes_81 : decode cX7_fewestBoxes 81 = .ok (.getfield 269, 3) := by decide +kernel
theorem dX7_fewestBoxes_84 : decode cX7_fewestBoxes 84 = .ok (.iload 5, 2) := by decide +kernel
theorem dX7_fewestBoxes_86 : decode cX7_fewestBoxes 86 = .ok (.iaload, 1) := by decide +kernel
theorem dX7_fewestBoxes_87 : decode cX7_fewestBoxes 87 = .ok (.iload_n 1, 1) := by decide +kernel
theorem dX7_fewestBoxes_88 : decode cX7_fewestBoxes 88 = .ok (.invokestatic 396, 3) := by decide +kernel
theorem dX7_fewestBoxes_91 : decode cX7_fewestBoxes 91 = .ok (.invokestatic 349, 3) := by decide +kernel
theorem dX7_fewestBoxes_94 : decode cX7_fewestBoxes 94 = .ok (.istore 4, 2) := by decide +kernel
theorem dX7_fewestBoxes_96 : decode cX7_fewestBoxes 96 = .ok (.iinc 5 1, 3) := by decide +kernel
theorem dX7_fewestBoxes_99 : decode cX7_fewestBoxes 99 = .ok (.goto (-58), 3) := by decide +kernel
theorem dX7_fewestBoxes_102 : decode cX7_fewestBoxes 102 = .ok (.aload_n 0, 1) := by decide +kernel
theorem dX7_fewestBoxes_103 : decode cX7_fewestBoxes 103 = .ok (.getfield 38, 3) := by decide +kernel
theorem dX7_fewestBoxes_106 : decode cX7_fewestBoxes 106 = .ok (.iload_n 3, 1) := by decide +kernel
theorem dX7_fewestBoxes_107 : decode cX7_fewestBoxes 107 = .ok (.iload 4, 2) := by decide +kernel
theorem dX7_fewestBoxes_109 : decode cX7_fewestBoxes 109 = .ok (.iastore, 1) := by decide +kernel
theorem dX7_fewestBoxes_110 : decode cX7_fewestBoxes 110 = .ok (.iinc 3 1, 3) := by decide +kernel
theorem dX7_fewestBoxes_113 : decode cX7_fewestBoxes 113 = .ok (.goto (-94), 3) := by decide +kernel
theorem dX7_fewestBoxes_116 : decode cX7_fewestBoxes 116 = .ok (.aload_n 0, 1) := by decide +kernel
theorem dX7_fewestBoxes_117 : decode cX7_fewestBoxes 117 = .ok (.getfield 38, 3) := by decide +kernel
theorem dX7_fewestBoxes_120 : decode cX7_fewestBoxes 120 = .ok (.iload_n 2, 1) := by decide +kernel
theorem dX7_fewestBoxes_121 : decode cX7_fewestBoxes 121 = .ok (.iconst 1, 1) := by decide +kernel
theorem dX7_fewestBoxes_122 : decode cX7_fewestBoxes 122 = .ok (.isub, 1) := by decide +kernel
theorem dX7_fewestBoxes_123 : decode cX7_fewestBoxes 123 = .ok (.iaload, 1) := by decide +kernel
theorem dX7_fewestBoxes_124 : decode cX7_fewestBoxes 124 = .ok (.bipush 64, 2) := by decide +kernel
theorem dX7_fewestBoxes_126 : decode cX7_fewestBoxes 126 = .ok (.idiv, 1) := by decide +kernel
theorem dX7_fewestBoxes_127 : decode cX7_fewestBoxes 127 = .ok (.ireturn, 1) := by decide +kernel
theorem dX7_withItem_0 : decode cX7_withItem 0 = .ok (.iload_n 0, 1) := by decide +kernel
theorem dX7_withItem_1 : decode cX7_withItem 1 = .ok (.bipush 64, 2) := by decide +kernel
theorem dX7_withItem_3 : decode cX7_withItem 3 = .ok (.irem, 1) := by decide +kernel
theorem dX7_withItem_4 : decode cX7_withItem 4 = .ok (.iload_n 1, 1) := by decide +kernel
theorem dX7_withItem_5 : decode cX7_withItem 5 = .ok (.iadd, 1) := by decide +kernel
theorem dX7_withItem_6 : decode cX7_withItem 6 = .ok (.iload_n 2, 1) := by decide +kernel
theorem dX7_withItem_7 : decode cX7_withItem 7 = .ok (.if_icmp .gt 7, 3) := by decide +kernel
theorem dX7_withItem_10 : decode cX7_withItem 10 = .ok (.iconst 1, 1) := by decide +kernel
theorem dX7_withItem_11 : decode cX7_withItem 11 = .ok (.goto 4, 3) := by decide +kernel
theorem dX7_withItem_14 : decode cX7_withItem 14 = .ok (.iconst 0, 1) := by decide +kernel
theorem dX7_withItem_15 : decode cX7_withItem 15 = .ok (.istore_n 3, 1) := by decide +kernel
theorem dX7_withItem_16 : decode cX7_withItem 16 = .ok (.iload_n 3, 1) := by decide +kernel
theorem dX7_withItem_17 : decode cX7_withItem 17 = .ok (.ifCond .eq 9, 3) := by decide +kernel
theorem dX7_withItem_20 : decode cX7_withItem 20 = .ok (.iload_n 0, 1) := by decide +kernel
theorem dX7_withItem_21 : decode cX7_withItem 21 = .ok (.iload_n 1, 1) := by decide +kernel
theorem dX7_withItem_22 : decode cX7_withItem 22 = .ok (.iadd, 1) := by decide +kernel
theorem dX7_withItem_23 : decode cX7_withItem 23 = .ok (.goto 14, 3) := by decide +kernel
theorem dX7_withItem_26 : decode cX7_withItem 26 = .ok (.iload_n 0, 1) := by decide +kernel
theorem dX7_withItem_27 : decode cX7_withItem 27 = .ok (.bipush 64, 2) := by decide +kernel
theorem dX7_withItem_29 : decode cX7_withItem 29 = .ok (.idiv, 1) := by decide +kernel
theorem dX7_withItem_30 : decode cX7_withItem 30 = .ok (.iconst 1, 1) := by decide +kernel
theorem dX7_withItem_31 : decode cX7_withItem 31 = .ok (.iadd, 1) := by decide +kernel
theorem dX7_withItem_32 : decode cX7_withItem 32 = .ok (.bipush 64, 2) := by decide +kernel
theorem dX7_withItem_34 : decode cX7_withItem 34 = .ok (.imul, 1) := by decide +kernel
theorem dX7_withItem_35 : decode cX7_withItem 35 = .ok (.iload_n 1, 1) := by decide +kernel
theorem dX7_withItem_36 : decode cX7_withItem 36 = .ok (.iadd, 1) := by decide +kernel
theorem dX7_withItem_37 : decode cX7_withItem 37 = .ok (.ireturn, 1) := by decide +kernel
theorem dX7_commonDivisor_0 : decode cX7_commonDivisor 0 = .ok (.lload_n 0, 1) := by decide +kernel
theorem dX7_commonDivisor_1 : decode cX7_commonDivisor 1 = .ok (.lstore 4, 2) := by decide +kernel
theorem dX7_commonDivisor_3 : decode cX7_commonDivisor 3 = .ok (.lload_n 2, 1) := by decide +kernel
theorem dX7_commonDivisor_4 : decode cX7_commonDivisor 4 = .ok (.lstore 6, 2) := by decide +kernel
theorem dX7_commonDivisor_6 : decode cX7_commonDivisor 6 = .ok (.iconst 0, 1) := by decide +kernel
theorem dX7_commonDivisor_7 : decode cX7_commonDivisor 7 = .ok (.istore 8, 2) := by decide +kernel
theorem dX7_commonDivisor_9 : decode cX7_commonDivisor 9 = .ok (.iload 8, 2) := by decide +kernel
theorem dX7_commonDivisor_11 : decode cX7_commonDivisor 11 = .ok (.sipush 1000, 3) := by decide +kernel
theorem dX7_commonDivisor_14 : decode cX7_commonDivisor 14 = .ok (.if_icmp .ge 31, 3) := by decide +kernel
theorem dX7_commonDivisor_17 : decode cX7_commonDivisor 17 = .ok (.lload 6, 2) := by decide +kernel
theorem dX7_commonDivisor_19 : decode cX7_commonDivisor 19 = .ok (.lconst 0, 1) := by decide +kernel
theorem dX7_commonDivisor_20 : decode cX7_commonDivisor 20 = .ok (.lcmp, 1) := by decide +kernel
theorem dX7_commonDivisor_21 : decode cX7_commonDivisor 21 = .ok (.ifCond .eq 24, 3) := by decide +kernel
theorem dX7_commonDivisor_24 : decode cX7_commonDivisor 24 = .ok (.lload 4, 2) := by decide +kernel
theorem dX7_commonDivisor_26 : decode cX7_commonDivisor 26 = .ok (.lload 6, 2) := by decide +kernel
theorem dX7_commonDivisor_28 : decode cX7_commonDivisor 28 = .ok (.lrem, 1) := by decide +kernel
theorem dX7_commonDivisor_29 : decode cX7_commonDivisor 29 = .ok (.lstore 9, 2) := by decide +kernel
theorem dX7_commonDivisor_31 : decode cX7_commonDivisor 31 = .ok (.lload 6, 2) := by decide +kernel
theorem dX7_commonDivisor_33 : decode cX7_commonDivisor 33 = .ok (.lstore 4, 2) := by decide +kernel
theorem dX7_commonDivisor_35 : decode cX7_commonDivisor 35 = .ok (.lload 9, 2) := by decide +kernel
theorem dX7_commonDivisor_37 : decode cX7_commonDivisor 37 = .ok (.lstore 6, 2) := by decide +kernel
theorem dX7_commonDivisor_39 : decode cX7_commonDivisor 39 = .ok (.iinc 8 1, 3) := by decide +kernel
theorem dX7_commonDivisor_42 : decode cX7_commonDivisor 42 = .ok (.goto (-33), 3) := by decide +kernel
theorem dX7_commonDivisor_45 : decode cX7_commonDivisor 45 = .ok (.lload 4, 2) := by decide +kernel
theorem dX7_commonDivisor_47 : decode cX7_commonDivisor 47 = .ok (.lreturn, 1) := by decide +kernel
theorem dX8_init_0 : decode cX8_init 0 = .ok (.aload_n 0, 1) := by decide +kernel
theorem dX8_init_1 : decode cX8_init 1 = .ok (.invokespecial 1, 3) := by decide +kernel
theorem dX8_init_4 : decode cX8_init 4 = .ok (.aload_n 0, 1) := by decide +kernel
theorem dX8_init_5 : decode cX8_init 5 = .ok (.bipush 17, 2) := by decide +kernel
theorem dX8_init_7 : decode cX8_init 7 = .ok (.putfield 7, 3) := by decide +kernel
theorem dX8_init_10 : decode cX8_init 10 = .ok (.aload_n 1, 1) := by decide +kernel
theorem dX8_init_11 : decode cX8_init 11 = .ok (.astore_n 2, 1) := by decide +kernel
theorem dX8_init_12 : decode cX8_init 12 = .ok (.aload_n 2, 1) := by decide +kernel
theorem dX8_init_13 : decode cX8_init 13 = .ok (.arraylength, 1) := by decide +kernel
theorem dX8_init_14 : decode cX8_init 14 = .ok (.istore_n 3, 1) := by decide +kernel
theorem dX8_init_15 : decode cX8_init 15 = .ok (.iconst 0, 1) := by decide +kernel
theorem dX8_init_16 : decode cX8_init 16 = .ok (.istore 4, 2) := by decide +kernel
theorem dX8_init_18 : decode cX8_init 18 = .ok (.iload 4, 2) := by decide +kernel
theorem dX8_init_20 : decode cX8_init 20 = .ok (.iload_n 3, 1) := by decide +kernel
theorem dX8_init_21 : decode cX8_init 21 = .ok (.if_icmp .ge 31, 3) := by decide +kernel
theorem dX8_init_24 : decode cX8_init 24 = .ok (.aload_n 2, 1) := by decide +kernel
theorem dX8_init_25 : decode cX8_init 25 = .ok (.iload 4, 2) := by decide +kernel
theorem dX8_init_27 : decode cX8_init 27 = .ok (.iaload, 1) := by decide +kernel
theorem dX8_init_28 : decode cX8_init 28 = .ok (.istore 5, 2) := by decide +kernel
theorem dX8_init_30 : decode cX8_init 30 = .ok (.aload_n 0, 1) := by decide +kernel
theorem dX8_init_31 : decode cX8_init 31 = .ok (.aload_n 0, 1) := by decide +kernel
theorem dX8_init_32 : decode cX8_init 32 = .ok (.getfield 7, 3) := by decide +kernel
theorem dX8_init_35 : decode cX8_init 35 = .ok (.iload 5, 2) := by decide +kernel
theorem dX8_init_37 : decode cX8_init 37 = .ok (.ixor, 1) := by decide +kernel
theorem dX8_init_38 : decode cX8_init 38 = .ok (.ldc 13, 2) := by decide +kernel
theorem dX8_init_40 : decode cX8_init 40 = .ok (.imul, 1) := by decide +kernel
theorem dX8_init_41 : decode cX8_init 41 = .ok (.iconst 1, 1) := by decide +kernel
theorem dX8_init_42 : decode cX8_init 42 = .ok (.iadd, 1) := by decide +kernel
theorem dX8_init_43 : decode cX8_init 43 = .ok (.putfield 7, 3) := by decide +kernel
theorem dX8_init_46 : decode cX8_init 46 = .ok (.iinc 4 1, 3) := by decide +kernel
theorem dX8_init_49 : decode cX8_init 49 = .ok (.goto (-31), 3) := by decide +kernel
theorem dX8_init_52 : decode cX8_init 52 = .ok (.return_, 1) := by decide +kernel
theorem dX8_next_0 : decode cX8_next 0 = .ok (.aload_n 0, 1) := by decide +kernel
theorem dX8_next_1 : decode cX8_next 1 = .ok (.aload_n 0, 1) := by decide +kernel
theorem dX8_next_2 : decode cX8_next 2 = .ok (.getfield 7, 3) := by decide +kernel
theorem dX8_next_5 : decode cX8_next 5 = .ok (.ldc 14, 2) := by decide +kernel
theorem dX8_next_7 : decode cX8_next 7 = .ok (.imul, 1) := by decide +kernel
theorem dX8_next_8 : decode cX8_next 8 = .ok (.sipush 12345, 3) := by decide +kernel
theorem dX8_next_11 : decode cX8_next 11 = .ok (.iadd, 1) := by decide +kernel
theorem dX8_next_12 : decode cX8_next 12 = .ok (.putfield 7, 3) := by decide +kernel
theorem dX8_next_15 : decode cX8_next 15 = .ok (.aload_n 0, 1) := by decide +kernel
theorem dX8_next_16 : decode cX8_next 16 = .ok (.getfield 7, 3) := by decide +kernel
theorem dX8_next_19 : decode cX8_next 19 = .ok (.bipush 16, 2) := by decide +kernel
theorem dX8_next_21 : decode cX8_next 21 = .ok (.iushr, 1) := by decide +kernel
theorem dX8_next_22 : decode cX8_next 22 = .ok (.iload_n 1, 1) := by decide +kernel
theorem dX8_next_23 : decode cX8_next 23 = .ok (.irem, 1) := by decide +kernel
theorem dX8_next_24 : decode cX8_next 24 = .ok (.ireturn, 1) := by decide +kernel
theorem dJ13_bitCount_95d88_0 : decode cJ13_bitCount_95d88 0 = .ok (.lload_n 0, 1) := by decide +kernel
theorem dJ13_bitCount_95d88_1 : decode cJ13_bitCount_95d88 1 = .ok (.lload_n 0, 1) := by decide +kernel
theorem dJ13_bitCount_95d88_2 : decode cJ13_bitCount_95d88 2 = .ok (.iconst 1, 1) := by decide +kernel
theorem dJ13_bitCount_95d88_3 : decode cJ13_bitCount_95d88 3 = .ok (.lushr, 1) := by decide +kernel
theorem dJ13_bitCount_95d88_4 : decode cJ13_bitCount_95d88 4 = .ok (.ldc2_w 314, 3) := by decide +kernel
theorem dJ13_bitCount_95d88_7 : decode cJ13_bitCount_95d88 7 = .ok (.land, 1) := by decide +kernel
theorem dJ13_bitCount_95d88_8 : decode cJ13_bitCount_95d88 8 = .ok (.lsub, 1) := by decide +kernel
theorem dJ13_bitCount_95d88_9 : decode cJ13_bitCount_95d88 9 = .ok (.lstore_n 0, 1) := by decide +kernel
theorem dJ13_bitCount_95d88_10 : decode cJ13_bitCount_95d88 10 = .ok (.lload_n 0, 1) := by decide +kernel
theorem dJ13_bitCount_95d88_11 : decode cJ13_bitCount_95d88 11 = .ok (.ldc2_w 316, 3) := by decide +kernel
theorem dJ13_bitCount_95d88_14 : decode cJ13_bitCount_95d88 14 = .ok (.land, 1) := by decide +kernel
theorem dJ13_bitCount_95d88_15 : decode cJ13_bitCount_95d88 15 = .ok (.lload_n 0, 1) := by decide +kernel
theorem dJ13_bitCount_95d88_16 : decode cJ13_bitCount_95d88 16 = .ok (.iconst 2, 1) := by decide +kernel
theorem dJ13_bitCount_95d88_17 : decode cJ13_bitCount_95d88 17 = .ok (.lushr, 1) := by decide +kernel
theorem dJ13_bitCount_95d88_18 : decode cJ13_bitCount_95d88 18 = .ok (.ldc2_w 316, 3) := by decide +kernel
theorem dJ13_bitCount_95d88_21 : decode cJ13_bitCount_95d88 21 = .ok (.land, 1) := by decide +kernel
theorem dJ13_bitCount_95d88_22 : decode cJ13_bitCount_95d88 22 = .ok (.ladd, 1) := by decide +kernel
theorem dJ13_bitCount_95d88_23 : decode cJ13_bitCount_95d88 23 = .ok (.lstore_n 0, 1) := by decide +kernel
theorem dJ13_bitCount_95d88_24 : decode cJ13_bitCount_95d88 24 = .ok (.lload_n 0, 1) := by decide +kernel
theorem dJ13_bitCount_95d88_25 : decode cJ13_bitCount_95d88 25 = .ok (.lload_n 0, 1) := by decide +kernel
theorem dJ13_bitCount_95d88_26 : decode cJ13_bitCount_95d88 26 = .ok (.iconst 4, 1) := by decide +kernel
theorem dJ13_bitCount_95d88_27 : decode cJ13_bitCount_95d88 27 = .ok (.lushr, 1) := by decide +kernel
theorem dJ13_bitCount_95d88_28 : decode cJ13_bitCount_95d88 28 = .ok (.ladd, 1) := by decide +kernel
theorem dJ13_bitCount_95d88_29 : decode cJ13_bitCount_95d88 29 = .ok (.ldc2_w 318, 3) := by decide +kernel
theorem dJ13_bitCount_95d88_32 : decode cJ13_bitCount_95d88 32 = .ok (.land, 1) := by decide +kernel
theorem dJ13_bitCount_95d88_33 : decode cJ13_bitCount_95d88 33 = .ok (.lstore_n 0, 1) := by decide +kernel
theorem dJ13_bitCount_95d88_34 : decode cJ13_bitCount_95d88 34 = .ok (.lload_n 0, 1) := by decide +kernel
theorem dJ13_bitCount_95d88_35 : decode cJ13_bitCount_95d88 35 = .ok (.lload_n 0, 1) := by decide +kernel
theorem dJ13_bitCount_95d88_36 : decode cJ13_bitCount_95d88 36 = .ok (.bipush 8, 2) := by decide +kernel
theorem dJ13_bitCount_95d88_38 : decode cJ13_bitCount_95d88 38 = .ok (.lushr, 1) := by decide +kernel
theorem dJ13_bitCount_95d88_39 : decode cJ13_bitCount_95d88 39 = .ok (.ladd, 1) := by decide +kernel
theorem dJ13_bitCount_95d88_40 : decode cJ13_bitCount_95d88 40 = .ok (.lstore_n 0, 1) := by decide +kernel
theorem dJ13_bitCount_95d88_41 : decode cJ13_bitCount_95d88 41 = .ok (.lload_n 0, 1) := by decide +kernel
theorem dJ13_bitCount_95d88_42 : decode cJ13_bitCount_95d88 42 = .ok (.lload_n 0, 1) := by decide +kernel
theorem dJ13_bitCount_95d88_43 : decode cJ13_bitCount_95d88 43 = .ok (.bipush 16, 2) := by decide +kernel
theorem dJ13_bitCount_95d88_45 : decode cJ13_bitCount_95d88 45 = .ok (.lushr, 1) := by decide +kernel
theorem dJ13_bitCount_95d88_46 : decode cJ13_bitCount_95d88 46 = .ok (.ladd, 1) := by decide +kernel
theorem dJ13_bitCount_95d88_47 : decode cJ13_bitCount_95d88 47 = .ok (.lstore_n 0, 1) := by decide +kernel
theorem dJ13_bitCount_95d88_48 : decode cJ13_bitCount_95d88 48 = .ok (.lload_n 0, 1) := by decide +kernel
theorem dJ13_bitCount_95d88_49 : decode cJ13_bitCount_95d88 49 = .ok (.lload_n 0, 1) := by decide +kernel
theorem dJ13_bitCount_95d88_50 : decode cJ13_bitCount_95d88 50 = .ok (.bipush 32, 2) := by decide +kernel
theorem dJ13_bitCount_95d88_52 : decode cJ13_bitCount_95d88 52 = .ok (.lushr, 1) := by decide +kernel
theorem dJ13_bitCount_95d88_53 : decode cJ13_bitCount_95d88 53 = .ok (.ladd, 1) := by decide +kernel
theorem dJ13_bitCount_95d88_54 : decode cJ13_bitCount_95d88 54 = .ok (.lstore_n 0, 1) := by decide +kernel
theorem dJ13_bitCount_95d88_55 : decode cJ13_bitCount_95d88 55 = .ok (.lload_n 0, 1) := by decide +kernel
theorem dJ13_bitCount_95d88_56 : decode cJ13_bitCount_95d88 56 = .ok (.l2i, 1) := by decide +kernel
theorem dJ13_bitCount_95d88_57 : decode cJ13_bitCount_95d88 57 = .ok (.bipush 127, 2) := by decide +kernel
theorem dJ13_bitCount_95d88_59 : decode cJ13_bitCount_95d88 59 = .ok (.iand, 1) := by decide +kernel
theorem dJ13_bitCount_95d88_60 : decode cJ13_bitCount_95d88 60 = .ok (.ireturn, 1) := by decide +kernel
theorem dJ9_abs_0f7a4_0 : decode cJ9_abs_0f7a4 0 = .ok (.iload_n 0, 1) := by decide +kernel
theorem dJ9_abs_0f7a4_1 : decode cJ9_abs_0f7a4 1 = .ok (.ifCond .ge 8, 3) := by decide +kernel
theorem dJ9_abs_0f7a4_4 : decode cJ9_abs_0f7a4 4 = .ok (.iload_n 0, 1) := by decide +kernel
theorem dJ9_abs_0f7a4_5 : decode cJ9_abs_0f7a4 5 = .ok (.ineg, 1) := by decide +kernel
theorem dJ9_abs_0f7a4_6 : decode cJ9_abs_0f7a4 6 = .ok (.goto 4, 3) := by decide +kernel
theorem dJ9_abs_0f7a4_9 : decode cJ9_abs_0f7a4 9 = .ok (.iload_n 0, 1) := by decide +kernel
theorem dJ9_abs_0f7a4_10 : decode cJ9_abs_0f7a4 10 = .ok (.ireturn, 1) := by decide +kernel
theorem dJ9_max_7cf53_0 : decode cJ9_max_7cf53 0 = .ok (.iload_n 0, 1) := by decide +kernel
theorem dJ9_max_7cf53_1 : decode cJ9_max_7cf53 1 = .ok (.iload_n 1, 1) := by decide +kernel
theorem dJ9_max_7cf53_2 : decode cJ9_max_7cf53 2 = .ok (.if_icmp .lt 7, 3) := by decide +kernel
theorem dJ9_max_7cf53_5 : decode cJ9_max_7cf53 5 = .ok (.iload_n 0, 1) := by decide +kernel
theorem dJ9_max_7cf53_6 : decode cJ9_max_7cf53 6 = .ok (.goto 4, 3) := by decide +kernel
theorem dJ9_max_7cf53_9 : decode cJ9_max_7cf53 9 = .ok (.iload_n 1, 1) := by decide +kernel
theorem dJ9_max_7cf53_10 : decode cJ9_max_7cf53 10 = .ok (.ireturn, 1) := by decide +kernel
theorem dJ9_min_7cf53_0 : decode cJ9_min_7cf53 0 = .ok (.iload_n 0, 1) := by decide +kernel
theorem dJ9_min_7cf53_1 : decode cJ9_min_7cf53 1 = .ok (.iload_n 1, 1) := by decide +kernel
theorem dJ9_min_7cf53_2 : decode cJ9_min_7cf53 2 = .ok (.if_icmp .gt 7, 3) := by decide +kernel
theorem dJ9_min_7cf53_5 : decode cJ9_min_7cf53 5 = .ok (.iload_n 0, 1) := by decide +kernel
theorem dJ9_min_7cf53_6 : decode cJ9_min_7cf53 6 = .ok (.goto 4, 3) := by decide +kernel
theorem dJ9_min_7cf53_9 : decode cJ9_min_7cf53 9 = .ok (.iload_n 1, 1) := by decide +kernel
theorem dJ9_min_7cf53_10 : decode cJ9_min_7cf53 10 = .ok (.ireturn, 1) := by decide +kernel
theorem dL_init_0 : decode cL_init 0 = .ok (.aload_n 0, 1) := by decide +kernel
theorem dL_init_1 : decode cL_init 1 = .ok (.invokespecial 1, 3) := by decide +kernel
theorem dL_init_4 : decode cL_init 4 = .ok (.aload_n 0, 1) := by decide +kernel
theorem dL_init_5 : decode cL_init 5 = .ok (.new 7, 3) := by decide +kernel
theorem dL_init_8 : decode cL_init 8 = .ok (.dup, 1) := by decide +kernel
theorem dL_init_9 : decode cL_init 9 = .ok (.invokespecial 9, 3) := by decide +kernel
theorem dL_init_12 : decode cL_init 12 = .ok (.putfield 10, 3) := by decide +kernel
theorem dL_init_15 : decode cL_init 15 = .ok (.aload_n 0, 1) := by decide +kernel
theorem dL_init_16 : decode cL_init 16 = .ok (.new 16, 3) := by decide +kernel
theorem dL_init_19 : decode cL_init 19 = .ok (.dup, 1) := by decide +kernel
theorem dL_init_20 : decode cL_init 20 = .ok (.aload_n 1, 1) := by decide +kernel
theorem dL_init_21 : decode cL_init 21 = .ok (.invokespecial 18, 3) := by decide +kernel
theorem dL_init_24 : decode cL_init 24 = .ok (.putfield 21, 3) := by decide +kernel
theorem dL_init_27 : decode cL_init 27 = .ok (.return_, 1) := by decide +kernel
theorem dL_isDrawn_0 : decode cL_isDrawn 0 = .ok (.aload_n 0, 1) := by decide +kernel
theorem dL_isDrawn_1 : decode cL_isDrawn 1 = .ok (.iconst 1, 1) := by decide +kernel
theorem dL_isDrawn_2 : decode cL_isDrawn 2 = .ok (.aload_n 0, 1) := by decide +kernel
theorem dL_isDrawn_3 : decode cL_isDrawn 3 = .ok (.getfield 21, 3) := by decide +kernel
theorem dL_isDrawn_6 : decode cL_isDrawn 6 = .ok (.iconst 5, 1) := by decide +kernel
theorem dL_isDrawn_7 : decode cL_isDrawn 7 = .ok (.invokevirtual 25, 3) := by decide +kernel
theorem dL_isDrawn_10 : decode cL_isDrawn 10 = .ok (.iadd, 1) := by decide +kernel
theorem dL_isDrawn_11 : decode cL_isDrawn 11 = .ok (.putfield 29, 3) := by decide +kernel
theorem dL_isDrawn_14 : decode cL_isDrawn 14 = .ok (.aload_n 0, 1) := by decide +kernel
theorem dL_isDrawn_15 : decode cL_isDrawn 15 = .ok (.iconst 1, 1) := by decide +kernel
theorem dL_isDrawn_16 : decode cL_isDrawn 16 = .ok (.aload_n 0, 1) := by decide +kernel
theorem dL_isDrawn_17 : decode cL_isDrawn 17 = .ok (.getfield 21, 3) := by decide +kernel
theorem dL_isDrawn_20 : decode cL_isDrawn 20 = .ok (.bipush 6, 2) := by decide +kernel
theorem dL_isDrawn_22 : decode cL_isDrawn 22 = .ok (.invokevirtual 25, 3) := by decide +kernel
theorem dL_isDrawn_25 : decode cL_isDrawn 25 = .ok (.iadd, 1) := by decide +kernel
theorem dL_isDrawn_26 : decode cL_isDrawn 26 = .ok (.putfield 33, 3) := by decide +kernel
theorem dL_isDrawn_29 : decode cL_isDrawn 29 = .ok (.iconst 1, 1) := by decide +kernel
theorem dL_isDrawn_30 : decode cL_isDrawn 30 = .ok (.aload_n 0, 1) := by decide +kernel
theorem dL_isDrawn_31 : decode cL_isDrawn 31 = .ok (.getfield 21, 3) := by decide +kernel
theorem dL_isDrawn_34 : decode cL_isDrawn 34 = .ok (.bipush 9, 2) := by decide +kernel
theorem dL_isDrawn_36 : decode cL_isDrawn 36 = .ok (.invokevirtual 25, 3) := by decide +kernel
theorem dL_isDrawn_39 : decode cL_isDrawn 39 = .ok (.iadd, 1) := by decide +kernel
theorem dL_isDrawn_40 : decode cL_isDrawn 40 = .ok (.istore_n 1, 1) := by decide +kernel
theorem dL_isDrawn_41 : decode cL_isDrawn 41 = .ok (.aload_n 0, 1) := by decide +kernel
theorem dL_isDrawn_42 : decode cL_isDrawn 42 = .ok (.iconst 1, 1) := by decide +kernel
theorem dL_isDrawn_43 : decode cL_isDrawn 43 = .ok (.aload_n 0, 1) := by decide +kernel
theorem dL_isDrawn_44 : decode cL_isDrawn 44 = .ok (.getfield 21, 3) := by decide +kernel
theorem dL_isDrawn_47 : decode cL_isDrawn 47 = .ok (.iconst 5, 1) := by decide +kernel
theorem dL_isDrawn_48 : decode cL_isDrawn 48 = .ok (.invokevirtual 25, 3) := by decide +kernel
theorem dL_isDrawn_51 : decode cL_isDrawn 51 = .ok (.iadd, 1) := by decide +kernel
theorem dL_isDrawn_52 : decode cL_isDrawn 52 = .ok (.putfield 36, 3) := by decide +kernel
theorem dL_isDrawn_55 : decode cL_isDrawn 55 = .ok (.aload_n 0, 1) := by decide +kernel
theorem dL_isDrawn_56 : decode cL_isDrawn 56 = .ok (.iconst 1, 1) := by decide +kernel
theorem dL_isDrawn_57 : decode cL_isDrawn 57 = .ok (.aload_n 0, 1) := by decide +kernel
theorem dL_isDrawn_58 : decode cL_isDrawn 58 = .ok (.getfield 21, 3) := by decide +kernel
theorem dL_isDrawn_61 : decode cL_isDrawn 61 = .ok (.iconst 2, 1) := by decide +kernel
theorem dL_isDrawn_62 : decode cL_isDrawn 62 = .ok (.invokevirtual 25, 3) := by decide +kernel
theorem dL_isDrawn_65 : decode cL_isDrawn 65 = .ok (.iadd, 1) := by decide +kernel
theorem dL_isDrawn_66 : decode cL_isDrawn 66 = .ok (.putfield 39, 3) := by decide +kernel
theorem dL_isDrawn_69 : decode cL_isDrawn 69 = .ok (.aload_n 0, 1) := by decide +kernel
theorem dL_isDrawn_70 : decode cL_isDrawn 70 = .ok (.getfield 10, 3) := by decide +kernel
theorem dL_isDrawn_73 : decode cL_isDrawn 73 = .ok (.aload_n 0, 1) := by decide +kernel
theorem dL_isDrawn_74 : decode cL_isDrawn 74 = .ok (.getfield 29, 3) := by decide +kernel
theorem dL_isDrawn_77 : decode cL_isDrawn 77 = .ok (.aload_n 0, 1) := by decide +kernel
theorem dL_isDrawn_78 : decode cL_isDrawn 78 = .ok (.getfield 33, 3) := by decide +kernel
theorem dL_isDrawn_81 : decode cL_isDrawn 81 = .ok (.iload_n 1, 1) := by decide +kernel
theorem dL_isDrawn_82 : decode cL_isDrawn 82 = .ok (.aload_n 0, 1) := by decide +kernel
theorem dL_isDrawn_83 : decode cL_isDrawn 83 = .ok (.getfield 36, 3) := by decide +kernel
theorem dL_isDrawn_86 : decode cL_isDrawn 86 = .ok (.invokevirtual 42, 3) := by decide +kernel
theorem dL_isDrawn_89 : decode cL_isDrawn 89 = .ok (.aload_n 0, 1) := by decide +kernel
theorem dL_isDrawn_90 : decode cL_isDrawn 90 = .ok (.getfield 29, 3) := by decide +kernel
theorem dL_isDrawn_93 : decode cL_isDrawn 93 = .ok (.aload_n 0, 1) := by decide +kernel
theorem dL_isDrawn_94 : decode cL_isDrawn 94 = .ok (.getfield 33, 3) := by decide +kernel
theorem dL_isDrawn_97 : decode cL_isDrawn 97 = .ok (.imul, 1) := by decide +kernel
theorem dL_isDrawn_98 : decode cL_isDrawn 98 = .ok (.if_icmp .eq 5, 3) := by decide +kernel
theorem dL_isDrawn_101 : decode cL_isDrawn 101 = .ok (.iconst 0, 1) := by decide +kernel
theorem dL_isDrawn_102 : decode cL_isDrawn 102 = .ok (.ireturn, 1) := by decide +kernel
theorem dL_isDrawn_103 : decode cL_isDrawn 103 = .ok (.iconst 0, 1) := by decide +kernel
theorem dL_isDrawn_104 : decode cL_isDrawn 104 = .ok (.istore_n 2, 1) := by decide +kernel
theorem dL_isDrawn_105 : decode cL_isDrawn 105 = .ok (.iload_n 2, 1) := by decide +kernel
theorem dL_isDrawn_106 : decode cL_isDrawn 106 = .ok (.aload_n 0, 1) := by decide +kernel
theorem dL_isDrawn_107 : decode cL_isDrawn 107 = .ok (.getfield 39, 3) := by decide +kernel
theorem dL_isDrawn_110 : decode cL_isDrawn 110 = .ok (.if_icmp .ge 22, 3) := by decide +kernel
theorem dL_isDrawn_113 : decode cL_isDrawn 113 = .ok (.aload_n 0, 1) := by decide +kernel
theorem dL_isDrawn_114 : decode cL_isDrawn 114 = .ok (.getfield 10, 3) := by decide +kernel
theorem dL_isDrawn_117 : decode cL_isDrawn 117 = .ok (.invokevirtual 46, 3) := by decide +kernel
theorem dL_isDrawn_120 : decode cL_isDrawn 120 = .ok (.iload_n 2, 1) := by decide +kernel
theorem dL_isDrawn_121 : decode cL_isDrawn 121 = .ok (.if_icmp .eq 5, 3) := by decide +kernel
theorem dL_isDrawn_124 : decode cL_isDrawn 124 = .ok (.iconst 0, 1) := by decide +kernel
theorem dL_isDrawn_125 : decode cL_isDrawn 125 = .ok (.ireturn, 1) := by decide +kernel
theorem dL_isDrawn_126 : decode cL_isDrawn 126 = .ok (.iinc 2 1, 3) := by decide +kernel
theorem dL_isDrawn_129 : decode cL_isDrawn 129 = .ok (.goto (-24), 3) := by decide +kernel
theorem dL_isDrawn_132 : decode cL_isDrawn 132 = .ok (.iconst 3, 1) := by decide +kernel
theorem dL_isDrawn_133 : decode cL_isDrawn 133 = .ok (.aload_n 0, 1) := by decide +kernel
theorem dL_isDrawn_134 : decode cL_isDrawn 134 = .ok (.getfield 21, 3) := by decide +kernel
theorem dL_isDrawn_137 : decode cL_isDrawn 137 = .ok (.iconst 4, 1) := by decide +kernel
theorem dL_isDrawn_138 : decode cL_isDrawn 138 = .ok (.invokevirtual 25, 3) := by decide +kernel
theorem dL_isDrawn_141 : decode cL_isDrawn 141 = .ok (.iadd, 1) := by decide +kernel
theorem dL_isDrawn_142 : decode cL_isDrawn 142 = .ok (.istore_n 2, 1) := by decide +kernel
theorem dL_isDrawn_143 : decode cL_isDrawn 143 = .ok (.iload_n 2, 1) := by decide +kernel
theorem dL_isDrawn_144 : decode cL_isDrawn 144 = .ok (.ifCond .le 93, 3) := by decide +kernel
theorem dL_isDrawn_147 : decode cL_isDrawn 147 = .ok (.iconst 1, 1) := by decide +kernel
theorem dL_isDrawn_148 : decode cL_isDrawn 148 = .ok (.aload_n 0, 1) := by decide +kernel
theorem dL_isDrawn_149 : decode cL_isDrawn 149 = .ok (.getfield 21, 3) := by decide +kernel
theorem dL_isDrawn_152 : decode cL_isDrawn 152 = .ok (.iconst 2, 1) := by decide +kernel
theorem dL_isDrawn_153 : decode cL_isDrawn 153 = .ok (.iload_n 1, 1) := by decide +kernel
theorem dL_isDrawn_154 : decode cL_isDrawn 154 = .ok (.imul, 1) := by decide +kernel
theorem dL_isDrawn_155 : decode cL_isDrawn 155 = .ok (.invokevirtual 25, 3) := by decide +kernel
theorem dL_isDrawn_158 : decode cL_isDrawn 158 = .ok (.iadd, 1) := by decide +kernel
theorem dL_isDrawn_159 : decode cL_isDrawn 159 = .ok (.istore_n 3, 1) := by decide +kernel
theorem dL_isDrawn_160 : decode cL_isDrawn 160 = .ok (.aload_n 0, 1) := by decide +kernel
theorem dL_isDrawn_161 : decode cL_isDrawn 161 = .ok (.invokevirtual 50, 3) := by decide +kernel
theorem dL_isDrawn_164 : decode cL_isDrawn 164 = .ok (.iload_n 1, 1) := by decide +kernel
theorem dL_isDrawn_165 : decode cL_isDrawn 165 = .ok (.imul, 1) := by decide +kernel
theorem dL_isDrawn_166 : decode cL_isDrawn 166 = .ok (.iload_n 3, 1) := by decide +kernel
theorem dL_isDrawn_167 : decode cL_isDrawn 167 = .ok (.if_icmp .ge 6, 3) := by decide +kernel
theorem dL_isDrawn_170 : decode cL_isDrawn 170 = .ok (.goto 61, 3) := by decide +kernel
theorem dL_isDrawn_173 : decode cL_isDrawn 173 = .ok (.aload_n 0, 1) := by decide +kernel
theorem dL_isDrawn_174 : decode cL_isDrawn 174 = .ok (.getfield 10, 3) := by decide +kernel
theorem dL_isDrawn_177 : decode cL_isDrawn 177 = .ok (.aload_n 0, 1) := by decide +kernel
theorem dL_isDrawn_178 : decode cL_isDrawn 178 = .ok (.getfield 21, 3) := by decide +kernel
theorem dL_isDrawn_181 : decode cL_isDrawn 181 = .ok (.aload_n 0, 1) := by decide +kernel
theorem dL_isDrawn_182 : decode cL_isDrawn 182 = .ok (.getfield 39, 3) := by decide +kernel
theorem dL_isDrawn_185 : decode cL_isDrawn 185 = .ok (.invokevirtual 25, 3) := by decide +kernel
theorem dL_isDrawn_188 : decode cL_isDrawn 188 = .ok (.iload_n 3, 1) := by decide +kernel
theorem dL_isDrawn_189 : decode cL_isDrawn 189 = .ok (.iconst 5, 1) := by decide +kernel
theorem dL_isDrawn_190 : decode cL_isDrawn 190 = .ok (.aload_n 0, 1) := by decide +kernel
theorem dL_isDrawn_191 : decode cL_isDrawn 191 = .ok (.getfield 21, 3) := by decide +kernel
theorem dL_isDrawn_194 : decode cL_isDrawn 194 = .ok (.bipush 40, 2) := by decide +kernel
theorem dL_isDrawn_196 : decode cL_isDrawn 196 = .ok (.invokevirtual 25, 3) := by decide +kernel
theorem dL_isDrawn_199 : decode cL_isDrawn 199 = .ok (.iadd, 1) := by decide +kernel
theorem dL_isDrawn_200 : decode cL_isDrawn 200 = .ok (.aload_n 0, 1) := by decide +kernel
theorem dL_isDrawn_201 : decode cL_isDrawn 201 = .ok (.getfield 21, 3) := by decide +kernel
theorem dL_isDrawn_204 : decode cL_isDrawn 204 = .ok (.bipush 50, 2) := by decide +kernel
theorem dL_isDrawn_206 : decode cL_isDrawn 206 = .ok (.invokevirtual 25, 3) := by decide +kernel
theorem dL_isDrawn_209 : decode cL_isDrawn 209 = .ok (.invokevirtual 53, 3) := by decide +kernel
theorem dL_isDrawn_212 : decode cL_isDrawn 212 = .ok (.aload_n 0, 1) := by decide +kernel
theorem dL_isDrawn_213 : decode cL_isDrawn 213 = .ok (.getfield 56, 3) := by decide +kernel
theorem dL_isDrawn_216 : decode cL_isDrawn 216 = .ok (.if_icmp .eq 5, 3) := by decide +kernel
theorem dL_isDrawn_219 : decode cL_isDrawn 219 = .ok (.iconst 0, 1) := by decide +kernel
theorem dL_isDrawn_220 : decode cL_isDrawn 220 = .ok (.ireturn, 1) := by decide +kernel
theorem dL_isDrawn_221 : decode cL_isDrawn 221 = .ok (.aload_n 0, 1) := by decide +kernel
theorem dL_isDrawn_222 : decode cL_isDrawn 222 = .ok (.dup, 1) := by decide +kernel
theorem dL_isDrawn_223 : decode cL_isDrawn 223 = .ok (.getfield 56, 3) := by decide +kernel
theorem dL_isDrawn_226 : decode cL_isDrawn 226 = .ok (.iconst 1, 1) := by decide +kernel
theorem dL_isDrawn_227 : decode cL_isDrawn 227 = .ok (.iadd, 1) := by decide +kernel
theorem dL_isDrawn_228 : decode cL_isDrawn 228 = .ok (.putfield 56, 3) := by decide +kernel
theorem dL_isDrawn_231 : decode cL_isDrawn 231 = .ok (.iinc 2 (-1), 3) := by decide +kernel
theorem dL_isDrawn_234 : decode cL_isDrawn 234 = .ok (.goto (-91), 3) := by decide +kernel
theorem dL_isDrawn_237 : decode cL_isDrawn 237 = .ok (.iconst 2, 1) := by decide +kernel
theorem dL_isDrawn_238 : decode cL_isDrawn 238 = .ok (.aload_n 0, 1) := by decide +kernel
theorem dL_isDrawn_239 : decode cL_isDrawn 239 = .ok (.getfield 21, 3) := by decide +kernel
theorem dL_isDrawn_242 : decode cL_isDrawn 242 = .ok (.bipush 6, 2) := by decide +kernel
theorem dL_isDrawn_244 : decode cL_isDrawn 244 = .ok (.invokevirtual 25, 3) := by decide +kernel
theorem dL_isDrawn_247 : decode cL_isDrawn 247 = .ok (.iadd, 1) := by decide +kernel
theorem dL_isDrawn_248 : decode cL_isDrawn 248 = .ok (.istore_n 2, 1) := by decide +kernel
theorem dL_isDrawn_249 : decode cL_isDrawn 249 = .ok (.iload_n 2, 1) := by decide +kernel
theorem dL_isDrawn_250 : decode cL_isDrawn 250 = .ok (.ifCond .le 84, 3) := by decide +kernel
theorem dL_isDrawn_253 : decode cL_isDrawn 253 = .ok (.aload_n 0, 1) := by decide +kernel
theorem dL_isDrawn_254 : decode cL_isDrawn 254 = .ok (.getfield 10, 3) := by decide +kernel
theorem dL_isDrawn_257 : decode cL_isDrawn 257 = .ok (.aload_n 0, 1) := by decide +kernel
theorem dL_isDrawn_258 : decode cL_isDrawn 258 = .ok (.getfield 21, 3) := by decide +kernel
theorem dL_isDrawn_261 : decode cL_isDrawn 261 = .ok (.bipush 8, 2) := by decide +kernel
theorem dL_isDrawn_263 : decode cL_isDrawn 263 = .ok (.invokevirtual 25, 3) := by decide +kernel
theorem dL_isDrawn_266 : decode cL_isDrawn 266 = .ok (.aload_n 0, 1) := by decide +kernel
theorem dL_isDrawn_267 : decode cL_isDrawn 267 = .ok (.getfield 21, 3) := by decide +kernel
theorem dL_isDrawn_270 : decode cL_isDrawn 270 = .ok (.aload_n 0, 1) := by decide +kernel
theorem dL_isDrawn_271 : decode cL_isDrawn 271 = .ok (.getfield 39, 3) := by decide +kernel
theorem dL_isDrawn_274 : decode cL_isDrawn 274 = .ok (.invokevirtual 25, 3) := by decide +kernel
theorem dL_isDrawn_277 : decode cL_isDrawn 277 = .ok (.iconst 1, 1) := by decide +kernel
theorem dL_isDrawn_278 : decode cL_isDrawn 278 = .ok (.aload_n 0, 1) := by decide +kernel
theorem dL_isDrawn_279 : decode cL_isDrawn 279 = .ok (.getfield 21, 3) := by decide +kernel
theorem dL_isDrawn_282 : decode cL_isDrawn 282 = .ok (.bipush 8, 2) := by decide +kernel
theorem dL_isDrawn_284 : decode cL_isDrawn 284 = .ok (.invokevirtual 25, 3) := by decide +kernel
theorem dL_isDrawn_287 : decode cL_isDrawn 287 = .ok (.iadd, 1) := by decide +kernel
theorem dL_isDrawn_288 : decode cL_isDrawn 288 = .ok (.aload_n 0, 1) := by decide +kernel
theorem dL_isDrawn_289 : decode cL_isDrawn 289 = .ok (.getfield 21, 3) := by decide +kernel
theorem dL_isDrawn_292 : decode cL_isDrawn 292 = .ok (.bipush 30, 2) := by decide +kernel
theorem dL_isDrawn_294 : decode cL_isDrawn 294 = .ok (.invokevirtual 25, 3) := by decide +kernel
theorem dL_isDrawn_297 : decode cL_isDrawn 297 = .ok (.aload_n 0, 1) := by decide +kernel
theorem dL_isDrawn_298 : decode cL_isDrawn 298 = .ok (.getfield 21, 3) := by decide +kernel
theorem dL_isDrawn_301 : decode cL_isDrawn 301 = .ok (.bipush 25, 2) := by decide +kernel
theorem dL_isDrawn_303 : decode cL_isDrawn 303 = .ok (.invokevirtual 25, 3) := by decide +kernel
theorem dL_isDrawn_306 : decode cL_isDrawn 306 = .ok (.invokevirtual 59, 3) := by decide +kernel
theorem dL_isDrawn_309 : decode cL_isDrawn 309 = .ok (.aload_n 0, 1) := by decide +kernel
theorem dL_isDrawn_310 : decode cL_isDrawn 310 = .ok (.getfield 63, 3) := by decide +kernel
theorem dL_isDrawn_313 : decode cL_isDrawn 313 = .ok (.if_icmp .eq 5, 3) := by decide +kernel
theorem dL_isDrawn_316 : decode cL_isDrawn 316 = .ok (.iconst 0, 1) := by decide +kernel
theorem dL_isDrawn_317 : decode cL_isDrawn 317 = .ok (.ireturn, 1) := by decide +kernel
theorem dL_isDrawn_318 : decode cL_isDrawn 318 = .ok (.aload_n 0, 1) := by decide +kernel
theorem dL_isDrawn_319 : decode cL_isDrawn 319 = .ok (.dup, 1) := by decide +kernel
theorem dL_isDrawn_320 : decode cL_isDrawn 320 = .ok (.getfield 63, 3) := by decide +kernel
theorem dL_isDrawn_323 : decode cL_isDrawn 323 = .ok (.iconst 1, 1) := by decide +kernel
theorem dL_isDrawn_324 : decode cL_isDrawn 324 = .ok (.iadd, 1) := by decide +kernel
theorem dL_isDrawn_325 : decode cL_isDrawn 325 = .ok (.putfield 63, 3) := by decide +kernel
theorem dL_isDrawn_328 : decode cL_isDrawn 328 = .ok (.iinc 2 (-1), 3) := by decide +kernel
theorem dL_isDrawn_331 : decode cL_isDrawn 331 = .ok (.goto (-82), 3) := by decide +kernel
theorem dL_isDrawn_334 : decode cL_isDrawn 334 = .ok (.aload_n 0, 1) := by decide +kernel
theorem dL_isDrawn_335 : decode cL_isDrawn 335 = .ok (.getfield 56, 3) := by decide +kernel
theorem dL_isDrawn_338 : decode cL_isDrawn 338 = .ok (.ifCond .le 38, 3) := by decide +kernel
theorem dL_isDrawn_341 : decode cL_isDrawn 341 = .ok (.aload_n 0, 1) := by decide +kernel
theorem dL_isDrawn_342 : decode cL_isDrawn 342 = .ok (.getfield 21, 3) := by decide +kernel
theorem dL_isDrawn_345 : decode cL_isDrawn 345 = .ok (.iconst 3, 1) := by decide +kernel
theorem dL_isDrawn_346 : decode cL_isDrawn 346 = .ok (.invokevirtual 25, 3) := by decide +kernel
theorem dL_isDrawn_349 : decode cL_isDrawn 349 = .ok (.ifCond .ne 27, 3) := by decide +kernel
theorem dL_isDrawn_352 : decode cL_isDrawn 352 = .ok (.aload_n 0, 1) := by decide +kernel
theorem dL_isDrawn_353 : decode cL_isDrawn 353 = .ok (.getfield 10, 3) := by decide +kernel
theorem dL_isDrawn_356 : decode cL_isDrawn 356 = .ok (.aload_n 0, 1) := by decide +kernel
theorem dL_isDrawn_357 : decode cL_isDrawn 357 = .ok (.getfield 21, 3) := by decide +kernel
theorem dL_isDrawn_360 : decode cL_isDrawn 360 = .ok (.aload_n 0, 1) := by decide +kernel
theorem dL_isDrawn_361 : decode cL_isDrawn 361 = .ok (.getfield 56, 3) := by decide +kernel
theorem dL_isDrawn_364 : decode cL_isDrawn 364 = .ok (.invokevirtual 25, 3) := by decide +kernel
theorem dL_isDrawn_367 : decode cL_isDrawn 367 = .ok (.iconst 1, 1) := by decide +kernel
theorem dL_isDrawn_368 : decode cL_isDrawn 368 = .ok (.invokevirtual 66, 3) := by decide +kernel
theorem dL_isDrawn_371 : decode cL_isDrawn 371 = .ok (.ifCond .eq 5, 3) := by decide +kernel
theorem dL_isDrawn_374 : decode cL_isDrawn 374 = .ok (.iconst 0, 1) := by decide +kernel
theorem dL_isDrawn_375 : decode cL_isDrawn 375 = .ok (.ireturn, 1) := by decide +kernel
theorem dL_isDrawn_376 : decode cL_isDrawn 376 = .ok (.aload_n 0, 1) := by decide +kernel
theorem dL_isDrawn_377 : decode cL_isDrawn 377 = .ok (.getfield 21, 3) := by decide +kernel
theorem dL_isDrawn_380 : decode cL_isDrawn 380 = .ok (.iconst 3, 1) := by decide +kernel
theorem dL_isDrawn_381 : decode cL_isDrawn 381 = .ok (.invokevirtual 25, 3) := by decide +kernel
theorem dL_isDrawn_384 : decode cL_isDrawn 384 = .ok (.ifCond .gt 24, 3) := by decide +kernel
theorem dL_isDrawn_387 : decode cL_isDrawn 387 = .ok (.aload_n 0, 1) := by decide +kernel
theorem dL_isDrawn_388 : decode cL_isDrawn 388 = .ok (.getfield 10, 3) := by decide +kernel
theorem dL_isDrawn_391 : decode cL_isDrawn 391 = .ok (.iconst 1, 1) := by decide +kernel
theorem dL_isDrawn_392 : decode cL_isDrawn 392 = .ok (.aload_n 0, 1) := by decide +kernel
theorem dL_isDrawn_393 : decode cL_isDrawn 393 = .ok (.getfield 21, 3) := by decide +kernel
theorem dL_isDrawn_396 : decode cL_isDrawn 396 = .ok (.bipush 15, 2) := by decide +kernel
theorem dL_isDrawn_398 : decode cL_isDrawn 398 = .ok (.invokevirtual 25, 3) := by decide +kernel
theorem dL_isDrawn_401 : decode cL_isDrawn 401 = .ok (.iadd, 1) := by decide +kernel
theorem dL_isDrawn_402 : decode cL_isDrawn 402 = .ok (.invokevirtual 70, 3) := by decide +kernel
theorem dL_isDrawn_405 : decode cL_isDrawn 405 = .ok (.ifCond .lt 7, 3) := by decide +kernel
theorem dL_isDrawn_408 : decode cL_isDrawn 408 = .ok (.iconst 1, 1) := by decide +kernel
theorem dL_isDrawn_409 : decode cL_isDrawn 409 = .ok (.goto 4, 3) := by decide +kernel
theorem dL_isDrawn_412 : decode cL_isDrawn 412 = .ok (.iconst 0, 1) := by decide +kernel
theorem dL_isDrawn_413 : decode cL_isDrawn 413 = .ok (.ireturn, 1) := by decide +kernel
theorem dL_free_0 : decode cL_free 0 = .ok (.iconst 0, 1) := by decide +kernel
theorem dL_free_1 : decode cL_free 1 = .ok (.istore_n 1, 1) := by decide +kernel
theorem dL_free_2 : decode cL_free 2 = .ok (.iconst 0, 1) := by decide +kernel
theorem dL_free_3 : decode cL_free 3 = .ok (.istore_n 2, 1) := by decide +kernel
theorem dL_free_4 : decode cL_free 4 = .ok (.iload_n 2, 1) := by decide +kernel
theorem dL_free_5 : decode cL_free 5 = .ok (.aload_n 0, 1) := by decide +kernel
theorem dL_free_6 : decode cL_free 6 = .ok (.getfield 29, 3) := by decide +kernel
theorem dL_free_9 : decode cL_free 9 = .ok (.aload_n 0, 1) := by decide +kernel
theorem dL_free_10 : decode cL_free 10 = .ok (.getfield 33, 3) := by decide +kernel
theorem dL_free_13 : decode cL_free 13 = .ok (.imul, 1) := by decide +kernel
theorem dL_free_14 : decode cL_free 14 = .ok (.if_icmp .ge 24, 3) := by decide +kernel
theorem dL_free_17 : decode cL_free 17 = .ok (.aload_n 0, 1) := by decide +kernel
theorem dL_free_18 : decode cL_free 18 = .ok (.getfield 10, 3) := by decide +kernel
theorem dL_free_21 : decode cL_free 21 = .ok (.iload_n 2, 1) := by decide +kernel
theorem dL_free_22 : decode cL_free 22 = .ok (.iconst 1, 1) := by decide +kernel
theorem dL_free_23 : decode cL_free 23 = .ok (.invokevirtual 73, 3) := by decide +kernel
theorem dL_free_26 : decode cL_free 26 = .ok (.ifCond .ne 6, 3) := by decide +kernel
theorem dL_free_29 : decode cL_free 29 = .ok (.iinc 1 1, 3) := by decide +kernel
theorem dL_free_32 : decode cL_free 32 = .ok (.iinc 2 1, 3) := by decide +kernel
theorem dL_free_35 : decode cL_free 35 = .ok (.goto (-31), 3) := by decide +kernel
theorem dL_free_38 : decode cL_free 38 = .ok (.iload_n 1, 1) := by decide +kernel
theorem dL_free_39 : decode cL_free 39 = .ok (.ireturn, 1) := by decide +kernel
theorem dL_isBooked_0 : decode cL_isBooked 0 = .ok (.iconst 0, 1) := by decide +kernel
theorem dL_isBooked_1 : decode cL_isBooked 1 = .ok (.istore_n 1, 1) := by decide +kernel
theorem dL_isBooked_2 : decode cL_isBooked 2 = .ok (.iconst 0, 1) := by decide +kernel
theorem dL_isBooked_3 : decode cL_isBooked 3 = .ok (.istore_n 2, 1) := by decide +kernel
theorem dL_isBooked_4 : decode cL_isBooked 4 = .ok (.iload_n 2, 1) := by decide +kernel
theorem dL_isBooked_5 : decode cL_isBooked 5 = .ok (.aload_n 0, 1) := by decide +kernel
theorem dL_isBooked_6 : decode cL_isBooked 6 = .ok (.getfield 29, 3) := by decide +kernel
theorem dL_isBooked_9 : decode cL_isBooked 9 = .ok (.aload_n 0, 1) := by decide +kernel
theorem dL_isBooked_10 : decode cL_isBooked 10 = .ok (.getfield 33, 3) := by decide +kernel
theorem dL_isBooked_13 : decode cL_isBooked 13 = .ok (.imul, 1) := by decide +kernel
theorem dL_isBooked_14 : decode cL_isBooked 14 = .ok (.if_icmp .ge 21, 3) := by decide +kernel
theorem dL_isBooked_17 : decode cL_isBooked 17 = .ok (.iload_n 1, 1) := by decide +kernel
theorem dL_isBooked_18 : decode cL_isBooked 18 = .ok (.aload_n 0, 1) := by decide +kernel
theorem dL_isBooked_19 : decode cL_isBooked 19 = .ok (.getfield 10, 3) := by decide +kernel
theorem dL_isBooked_22 : decode cL_isBooked 22 = .ok (.iload_n 2, 1) := by decide +kernel
theorem dL_isBooked_23 : decode cL_isBooked 23 = .ok (.iconst 1, 1) := by decide +kernel
theorem dL_isBooked_24 : decode cL_isBooked 24 = .ok (.invokevirtual 73, 3) := by decide +kernel
theorem dL_isBooked_27 : decode cL_isBooked 27 = .ok (.iadd, 1) := by decide +kernel
theorem dL_isBooked_28 : decode cL_isBooked 28 = .ok (.istore_n 1, 1) := by decide +kernel
theorem dL_isBooked_29 : decode cL_isBooked 29 = .ok (.iinc 2 1, 3) := by decide +kernel
theorem dL_isBooked_32 : decode cL_isBooked 32 = .ok (.goto (-28), 3) := by decide +kernel
theorem dL_isBooked_35 : decode cL_isBooked 35 = .ok (.iconst 0, 1) := by decide +kernel
theorem dL_isBooked_36 : decode cL_isBooked 36 = .ok (.istore_n 2, 1) := by decide +kernel
theorem dL_isBooked_37 : decode cL_isBooked 37 = .ok (.iconst 0, 1) := by decide +kernel
theorem dL_isBooked_38 : decode cL_isBooked 38 = .ok (.istore_n 3, 1) := by decide +kernel
theorem dL_isBooked_39 : decode cL_isBooked 39 = .ok (.iload_n 3, 1) := by decide +kernel
theorem dL_isBooked_40 : decode cL_isBooked 40 = .ok (.aload_n 0, 1) := by decide +kernel
theorem dL_isBooked_41 : decode cL_isBooked 41 = .ok (.getfield 39, 3) := by decide +kernel
theorem dL_isBooked_44 : decode cL_isBooked 44 = .ok (.if_icmp .ge 20, 3) := by decide +kernel
theorem dL_isBooked_47 : decode cL_isBooked 47 = .ok (.iload_n 2, 1) := by decide +kernel
theorem dL_isBooked_48 : decode cL_isBooked 48 = .ok (.aload_n 0, 1) := by decide +kernel
theorem dL_isBooked_49 : decode cL_isBooked 49 = .ok (.getfield 10, 3) := by decide +kernel
theorem dL_isBooked_52 : decode cL_isBooked 52 = .ok (.iload_n 3, 1) := by decide +kernel
theorem dL_isBooked_53 : decode cL_isBooked 53 = .ok (.invokevirtual 77, 3) := by decide +kernel
theorem dL_isBooked_56 : decode cL_isBooked 56 = .ok (.iadd, 1) := by decide +kernel
theorem dL_isBooked_57 : decode cL_isBooked 57 = .ok (.istore_n 2, 1) := by decide +kernel
theorem dL_isBooked_58 : decode cL_isBooked 58 = .ok (.iinc 3 1, 3) := by decide +kernel
theorem dL_isBooked_61 : decode cL_isBooked 61 = .ok (.goto (-22), 3) := by decide +kernel
theorem dL_isBooked_64 : decode cL_isBooked 64 = .ok (.aload_n 0, 1) := by decide +kernel
theorem dL_isBooked_65 : decode cL_isBooked 65 = .ok (.getfield 10, 3) := by decide +kernel
theorem dL_isBooked_68 : decode cL_isBooked 68 = .ok (.bipush 6, 2) := by decide +kernel
theorem dL_isBooked_70 : decode cL_isBooked 70 = .ok (.invokevirtual 80, 3) := by decide +kernel
theorem dL_isBooked_73 : decode cL_isBooked 73 = .ok (.iload_n 1, 1) := by decide +kernel
theorem dL_isBooked_74 : decode cL_isBooked 74 = .ok (.if_icmp .ne 69, 3) := by decide +kernel
theorem dL_isBooked_77 : decode cL_isBooked 77 = .ok (.iload_n 2, 1) := by decide +kernel
theorem dL_isBooked_78 : decode cL_isBooked 78 = .ok (.iload_n 1, 1) := by decide +kernel
theorem dL_isBooked_79 : decode cL_isBooked 79 = .ok (.if_icmp .ne 64, 3) := by decide +kernel
theorem dL_isBooked_82 : decode cL_isBooked 82 = .ok (.aload_n 0, 1) := by decide +kernel
theorem dL_isBooked_83 : decode cL_isBooked 83 = .ok (.getfield 10, 3) := by decide +kernel
theorem dL_isBooked_86 : decode cL_isBooked 86 = .ok (.iconst 0, 1) := by decide +kernel
theorem dL_isBooked_87 : decode cL_isBooked 87 = .ok (.invokevirtual 80, 3) := by decide +kernel
theorem dL_isBooked_90 : decode cL_isBooked 90 = .ok (.aload_n 0, 1) := by decide +kernel
theorem dL_isBooked_91 : decode cL_isBooked 91 = .ok (.getfield 10, 3) := by decide +kernel
theorem dL_isBooked_94 : decode cL_isBooked 94 = .ok (.iconst 2, 1) := by decide +kernel
theorem dL_isBooked_95 : decode cL_isBooked 95 = .ok (.invokevirtual 80, 3) := by decide +kernel
theorem dL_isBooked_98 : decode cL_isBooked 98 = .ok (.iadd, 1) := by decide +kernel
theorem dL_isBooked_99 : decode cL_isBooked 99 = .ok (.aload_n 0, 1) := by decide +kernel
theorem dL_isBooked_100 : decode cL_isBooked 100 = .ok (.getfield 10, 3) := by decide +kernel
theorem dL_isBooked_103 : decode cL_isBooked 103 = .ok (.iconst 5, 1) := by decide +kernel
theorem dL_isBooked_104 : decode cL_isBooked 104 = .ok (.invokevirtual 80, 3) := by decide +kernel
theorem dL_isBooked_107 : decode cL_isBooked 107 = .ok (.iadd, 1) := by decide +kernel
theorem dL_isBooked_108 : decode cL_isBooked 108 = .ok (.aload_n 0, 1) := by decide +kernel
theorem dL_isBooked_109 : decode cL_isBooked 109 = .ok (.getfield 10, 3) := by decide +kernel
theorem dL_isBooked_112 : decode cL_isBooked 112 = .ok (.iconst 1, 1) := by decide +kernel
theorem dL_isBooked_113 : decode cL_isBooked 113 = .ok (.invokevirtual 80, 3) := by decide +kernel
theorem dL_isBooked_116 : decode cL_isBooked 116 = .ok (.isub, 1) := by decide +kernel
theorem dL_isBooked_117 : decode cL_isBooked 117 = .ok (.aload_n 0, 1) := by decide +kernel
theorem dL_isBooked_118 : decode cL_isBooked 118 = .ok (.getfield 10, 3) := by decide +kernel
theorem dL_isBooked_121 : decode cL_isBooked 121 = .ok (.iconst 3, 1) := by decide +kernel
theorem dL_isBooked_122 : decode cL_isBooked 122 = .ok (.invokevirtual 80, 3) := by decide +kernel
theorem dL_isBooked_125 : decode cL_isBooked 125 = .ok (.isub, 1) := by decide +kernel
theorem dL_isBooked_126 : decode cL_isBooked 126 = .ok (.aload_n 0, 1) := by decide +kernel
theorem dL_isBooked_127 : decode cL_isBooked 127 = .ok (.getfield 10, 3) := by decide +kernel
theorem dL_isBooked_130 : decode cL_isBooked 130 = .ok (.iconst 4, 1) := by decide +kernel
theorem dL_isBooked_131 : decode cL_isBooked 131 = .ok (.invokevirtual 80, 3) := by decide +kernel
theorem dL_isBooked_134 : decode cL_isBooked 134 = .ok (.isub, 1) := by decide +kernel
theorem dL_isBooked_135 : decode cL_isBooked 135 = .ok (.iload_n 1, 1) := by decide +kernel
theorem dL_isBooked_136 : decode cL_isBooked 136 = .ok (.if_icmp .ne 7, 3) := by decide +kernel
theorem dL_isBooked_139 : decode cL_isBooked 139 = .ok (.iconst 1, 1) := by decide +kernel
theorem dL_isBooked_140 : decode cL_isBooked 140 = .ok (.goto 4, 3) := by decide +kernel
theorem dL_isBooked_143 : decode cL_isBooked 143 = .ok (.iconst 0, 1) := by decide +kernel
theorem dL_isBooked_144 : decode cL_isBooked 144 = .ok (.ireturn, 1) := by decide +kernel
theorem dL_isProved_0 : decode cL_isProved 0 = .ok (.aload_n 0, 1) := by decide +kernel
theorem dL_isProved_1 : decode cL_isProved 1 = .ok (.getfield 10, 3) := by decide +kernel
theorem dL_isProved_4 : decode cL_isProved 4 = .ok (.iload_n 1, 1) := by decide +kernel
theorem dL_isProved_5 : decode cL_isProved 5 = .ok (.invokevirtual 83, 3) := by decide +kernel
theorem dL_isProved_8 : decode cL_isProved 8 = .ok (.istore_n 2, 1) := by decide +kernel
theorem dL_isProved_9 : decode cL_isProved 9 = .ok (.iconst 0, 1) := by decide +kernel
theorem dL_isProved_10 : decode cL_isProved 10 = .ok (.istore_n 3, 1) := by decide +kernel
theorem dL_isProved_11 : decode cL_isProved 11 = .ok (.iconst 0, 1) := by decide +kernel
theorem dL_isProved_12 : decode cL_isProved 12 = .ok (.istore 4, 2) := by decide +kernel
theorem dL_isProved_14 : decode cL_isProved 14 = .ok (.iload 4, 2) := by decide +kernel
theorem dL_isProved_16 : decode cL_isProved 16 = .ok (.aload_n 0, 1) := by decide +kernel
theorem dL_isProved_17 : decode cL_isProved 17 = .ok (.getfield 63, 3) := by decide +kernel
theorem dL_isProved_20 : decode cL_isProved 20 = .ok (.if_icmp .ge 46, 3) := by decide +kernel
theorem dL_isProved_23 : decode cL_isProved 23 = .ok (.aload_n 0, 1) := by decide +kernel
theorem dL_isProved_24 : decode cL_isProved 24 = .ok (.getfield 10, 3) := by decide +kernel
theorem dL_isProved_27 : decode cL_isProved 27 = .ok (.iload 4, 2) := by decide +kernel
theorem dL_isProved_29 : decode cL_isProved 29 = .ok (.iconst 1, 1) := by decide +kernel
theorem dL_isProved_30 : decode cL_isProved 30 = .ok (.invokevirtual 86, 3) := by decide +kernel
theorem dL_isProved_33 : decode cL_isProved 33 = .ok (.iload_n 1, 1) := by decide +kernel
theorem dL_isProved_34 : decode cL_isProved 34 = .ok (.if_icmp .ne 26, 3) := by decide +kernel
theorem dL_isProved_37 : decode cL_isProved 37 = .ok (.iload_n 3, 1) := by decide +kernel
theorem dL_isProved_38 : decode cL_isProved 38 = .ok (.aload_n 0, 1) := by decide +kernel
theorem dL_isProved_39 : decode cL_isProved 39 = .ok (.getfield 10, 3) := by decide +kernel
theorem dL_isProved_42 : decode cL_isProved 42 = .ok (.iload_n 1, 1) := by decide +kernel
theorem dL_isProved_43 : decode cL_isProved 43 = .ok (.aload_n 0, 1) := by decide +kernel
theorem dL_isProved_44 : decode cL_isProved 44 = .ok (.getfield 10, 3) := by decide +kernel
theorem dL_isProved_47 : decode cL_isProved 47 = .ok (.iload 4, 2) := by decide +kernel
theorem dL_isProved_49 : decode cL_isProved 49 = .ok (.iconst 5, 1) := by decide +kernel
theorem dL_isProved_50 : decode cL_isProved 50 = .ok (.invokevirtual 86, 3) := by decide +kernel
theorem dL_isProved_53 : decode cL_isProved 53 = .ok (.invokevirtual 89, 3) := by decide +kernel
theorem dL_isProved_56 : decode cL_isProved 56 = .ok (.invokestatic 92, 3) := by decide +kernel
theorem dL_isProved_59 : decode cL_isProved 59 = .ok (.istore_n 3, 1) := by decide +kernel
theorem dL_isProved_60 : decode cL_isProved 60 = .ok (.iinc 4 1, 3) := by decide +kernel
theorem dL_isProved_63 : decode cL_isProved 63 = .ok (.goto (-49), 3) := by decide +kernel
theorem dL_isProved_66 : decode cL_isProved 66 = .ok (.iload_n 2, 1) := by decide +kernel
theorem dL_isProved_67 : decode cL_isProved 67 = .ok (.iload_n 3, 1) := by decide +kernel
theorem dL_isProved_68 : decode cL_isProved 68 = .ok (.if_icmp .eq 5, 3) := by decide +kernel
theorem dL_isProved_71 : decode cL_isProved 71 = .ok (.iconst 0, 1) := by decide +kernel
theorem dL_isProved_72 : decode cL_isProved 72 = .ok (.ireturn, 1) := by decide +kernel
theorem dL_isProved_73 : decode cL_isProved 73 = .ok (.iload_n 2, 1) := by decide +kernel
theorem dL_isProved_74 : decode cL_isProved 74 = .ok (.ifCond .ne 5, 3) := by decide +kernel
theorem dL_isProved_77 : decode cL_isProved 77 = .ok (.iconst 1, 1) := by decide +kernel
theorem dL_isProved_78 : decode cL_isProved 78 = .ok (.ireturn, 1) := by decide +kernel
theorem dL_isProved_79 : decode cL_isProved 79 = .ok (.aload_n 0, 1) := by decide +kernel
theorem dL_isProved_80 : decode cL_isProved 80 = .ok (.getfield 10, 3) := by decide +kernel
theorem dL_isProved_83 : decode cL_isProved 83 = .ok (.iload_n 1, 1) := by decide +kernel
theorem dL_isProved_84 : decode cL_isProved 84 = .ok (.invokevirtual 97, 3) := by decide +kernel
theorem dL_isProved_87 : decode cL_isProved 87 = .ok (.istore 4, 2) := by decide +kernel
theorem dL_isProved_89 : decode cL_isProved 89 = .ok (.aload_n 0, 1) := by decide +kernel
theorem dL_isProved_90 : decode cL_isProved 90 = .ok (.getfield 10, 3) := by decide +kernel
theorem dL_isProved_93 : decode cL_isProved 93 = .ok (.iload_n 1, 1) := by decide +kernel
theorem dL_isProved_94 : decode cL_isProved 94 = .ok (.iload 4, 2) := by decide +kernel
theorem dL_isProved_96 : decode cL_isProved 96 = .ok (.invokevirtual 89, 3) := by decide +kernel
theorem dL_isProved_99 : decode cL_isProved 99 = .ok (.iload_n 2, 1) := by decide +kernel
theorem dL_isProved_100 : decode cL_isProved 100 = .ok (.if_icmp .eq 5, 3) := by decide +kernel
theorem dL_isProved_103 : decode cL_isProved 103 = .ok (.iconst 0, 1) := by decide +kernel
theorem dL_isProved_104 : decode cL_isProved 104 = .ok (.ireturn, 1) := by decide +kernel
theorem dL_isProved_105 : decode cL_isProved 105 = .ok (.iconst 0, 1) := by decide +kernel
theorem dL_isProved_106 : decode cL_isProved 106 = .ok (.istore 5, 2) := by decide +kernel
theorem dL_isProved_108 : decode cL_isProved 108 = .ok (.iload 5, 2) := by decide +kernel
theorem dL_isProved_110 : decode cL_isProved 110 = .ok (.iconst 5, 1) := by decide +kernel
theorem dL_isProved_111 : decode cL_isProved 111 = .ok (.if_icmp .ge 32, 3) := by decide +kernel
theorem dL_isProved_114 : decode cL_isProved 114 = .ok (.aload_n 0, 1) := by decide +kernel
theorem dL_isProved_115 : decode cL_isProved 115 = .ok (.getfield 10, 3) := by decide +kernel
theorem dL_isProved_118 : decode cL_isProved 118 = .ok (.iload_n 1, 1) := by decide +kernel
theorem dL_isProved_119 : decode cL_isProved 119 = .ok (.aload_n 0, 1) := by decide +kernel
theorem dL_isProved_120 : decode cL_isProved 120 = .ok (.getfield 21, 3) := by decide +kernel
theorem dL_isProved_123 : decode cL_isProved 123 = .ok (.bipush 90, 2) := by decide +kernel
theorem dL_isProved_125 : decode cL_isProved 125 = .ok (.invokevirtual 25, 3) := by decide +kernel
theorem dL_isProved_128 : decode cL_isProved 128 = .ok (.invokevirtual 89, 3) := by decide +kernel
theorem dL_isProved_131 : decode cL_isProved 131 = .ok (.iload_n 2, 1) := by decide +kernel
theorem dL_isProved_132 : decode cL_isProved 132 = .ok (.if_icmp .le 5, 3) := by decide +kernel
theorem dL_isProved_135 : decode cL_isProved 135 = .ok (.iconst 0, 1) := by decide +kernel
theorem dL_isProved_136 : decode cL_isProved 136 = .ok (.ireturn, 1) := by decide +kernel
theorem dL_isProved_137 : decode cL_isProved 137 = .ok (.iinc 5 1, 3) := by decide +kernel
theorem dL_isProved_140 : decode cL_isProved 140 = .ok (.goto (-32), 3) := by decide +kernel
theorem dL_isProved_143 : decode cL_isProved 143 = .ok (.iconst 0, 1) := by decide +kernel
theorem dL_isProved_144 : decode cL_isProved 144 = .ok (.istore 5, 2) := by decide +kernel
theorem dL_isProved_146 : decode cL_isProved 146 = .ok (.iload 5, 2) := by decide +kernel
theorem dL_isProved_148 : decode cL_isProved 148 = .ok (.aload_n 0, 1) := by decide +kernel
theorem dL_isProved_149 : decode cL_isProved 149 = .ok (.getfield 63, 3) := by decide +kernel
theorem dL_isProved_152 : decode cL_isProved 152 = .ok (.if_icmp .ge 87, 3) := by decide +kernel
theorem dL_isProved_155 : decode cL_isProved 155 = .ok (.aload_n 0, 1) := by decide +kernel
theorem dL_isProved_156 : decode cL_isProved 156 = .ok (.getfield 10, 3) := by decide +kernel
theorem dL_isProved_159 : decode cL_isProved 159 = .ok (.iload 5, 2) := by decide +kernel
theorem dL_isProved_161 : decode cL_isProved 161 = .ok (.iconst 1, 1) := by decide +kernel
theorem dL_isProved_162 : decode cL_isProved 162 = .ok (.invokevirtual 86, 3) := by decide +kernel
theorem dL_isProved_165 : decode cL_isProved 165 = .ok (.iload_n 1, 1) := by decide +kernel
theorem dL_isProved_166 : decode cL_isProved 166 = .ok (.if_icmp .ne 35, 3) := by decide +kernel
theorem dL_isProved_169 : decode cL_isProved 169 = .ok (.aload_n 0, 1) := by decide +kernel
theorem dL_isProved_170 : decode cL_isProved 170 = .ok (.getfield 10, 3) := by decide +kernel
theorem dL_isProved_173 : decode cL_isProved 173 = .ok (.iload 5, 2) := by decide +kernel
theorem dL_isProved_175 : decode cL_isProved 175 = .ok (.iconst 2, 1) := by decide +kernel
theorem dL_isProved_176 : decode cL_isProved 176 = .ok (.invokevirtual 86, 3) := by decide +kernel
theorem dL_isProved_179 : decode cL_isProved 179 = .ok (.ifCond .le 22, 3) := by decide +kernel
theorem dL_isProved_182 : decode cL_isProved 182 = .ok (.aload_n 0, 1) := by decide +kernel
theorem dL_isProved_183 : decode cL_isProved 183 = .ok (.getfield 10, 3) := by decide +kernel
theorem dL_isProved_186 : decode cL_isProved 186 = .ok (.iload 5, 2) := by decide +kernel
theorem dL_isProved_188 : decode cL_isProved 188 = .ok (.iconst 5, 1) := by decide +kernel
theorem dL_isProved_189 : decode cL_isProved 189 = .ok (.invokevirtual 86, 3) := by decide +kernel
theorem dL_isProved_192 : decode cL_isProved 192 = .ok (.iload 4, 2) := by decide +kernel
theorem dL_isProved_194 : decode cL_isProved 194 = .ok (.if_icmp .ge 7, 3) := by decide +kernel
theorem dL_isProved_197 : decode cL_isProved 197 = .ok (.iconst 1, 1) := by decide +kernel
theorem dL_isProved_198 : decode cL_isProved 198 = .ok (.goto 4, 3) := by decide +kernel
theorem dL_isProved_201 : decode cL_isProved 201 = .ok (.iconst 0, 1) := by decide +kernel
theorem dL_isProved_202 : decode cL_isProved 202 = .ok (.istore 6, 2) := by decide +kernel
theorem dL_isProved_204 : decode cL_isProved 204 = .ok (.iload 6, 2) := by decide +kernel
theorem dL_isProved_206 : decode cL_isProved 206 = .ok (.ifCond .eq 27, 3) := by decide +kernel
theorem dL_isProved_209 : decode cL_isProved 209 = .ok (.aload_n 0, 1) := by decide +kernel
theorem dL_isProved_210 : decode cL_isProved 210 = .ok (.getfield 10, 3) := by decide +kernel
theorem dL_isProved_213 : decode cL_isProved 213 = .ok (.iload_n 1, 1) := by decide +kernel
theorem dL_isProved_214 : decode cL_isProved 214 = .ok (.aload_n 0, 1) := by decide +kernel
theorem dL_isProved_215 : decode cL_isProved 215 = .ok (.getfield 10, 3) := by decide +kernel
theorem dL_isProved_218 : decode cL_isProved 218 = .ok (.iload 5, 2) := by decide +kernel
theorem dL_isProved_220 : decode cL_isProved 220 = .ok (.iconst 5, 1) := by decide +kernel
theorem dL_isProved_221 : decode cL_isProved 221 = .ok (.invokevirtual 86, 3) := by decide +kernel
theorem dL_isProved_224 : decode cL_isProved 224 = .ok (.invokevirtual 89, 3) := by decide +kernel
theorem dL_isProved_227 : decode cL_isProved 227 = .ok (.iload_n 2, 1) := by decide +kernel
theorem dL_isProved_228 : decode cL_isProved 228 = .ok (.if_icmp .lt 5, 3) := by decide +kernel
theorem dL_isProved_231 : decode cL_isProved 231 = .ok (.iconst 0, 1) := by decide +kernel
theorem dL_isProved_232 : decode cL_isProved 232 = .ok (.ireturn, 1) := by decide +kernel
theorem dL_isProved_233 : decode cL_isProved 233 = .ok (.iinc 5 1, 3) := by decide +kernel
theorem dL_isProved_236 : decode cL_isProved 236 = .ok (.goto (-90), 3) := by decide +kernel
theorem dL_isProved_239 : decode cL_isProved 239 = .ok (.iconst 1, 1) := by decide +kernel
theorem dL_isProved_240 : decode cL_isProved 240 = .ok (.ireturn, 1) := by decide +kernel
theorem dL_isWave_0 : decode cL_isWave 0 = .ok (.aload_n 0, 1) := by decide +kernel
theorem dL_isWave_1 : decode cL_isWave 1 = .ok (.getfield 39, 3) := by decide +kernel
theorem dL_isWave_4 : decode cL_isWave 4 = .ok (.newarray .int, 2) := by decide +kernel
theorem dL_isWave_6 : decode cL_isWave 6 = .ok (.astore_n 1, 1) := by decide +kernel
theorem dL_isWave_7 : decode cL_isWave 7 = .ok (.iconst 0, 1) := by decide +kernel
theorem dL_isWave_8 : decode cL_isWave 8 = .ok (.istore_n 2, 1) := by decide +kernel
theorem dL_isWave_9 : decode cL_isWave 9 = .ok (.iconst 0, 1) := by decide +kernel
theorem dL_isWave_10 : decode cL_isWave 10 = .ok (.istore_n 3, 1) := by decide +kernel
theorem dL_isWave_11 : decode cL_isWave 11 = .ok (.iload_n 3, 1) := by decide +kernel
theorem dL_isWave_12 : decode cL_isWave 12 = .ok (.aload_n 0, 1) := by decide +kernel
theorem dL_isWave_13 : decode cL_isWave 13 = .ok (.getfield 39, 3) := by decide +kernel
theorem dL_isWave_16 : decode cL_isWave 16 = .ok (.if_icmp .ge 30, 3) := by decide +kernel
theorem dL_isWave_19 : decode cL_isWave 19 = .ok (.aload_n 0, 1) := by decide +kernel
theorem dL_isWave_20 : decode cL_isWave 20 = .ok (.iload_n 3, 1) := by decide +kernel
theorem dL_isWave_21 : decode cL_isWave 21 = .ok (.invokevirtual 100, 3) := by decide +kernel
theorem dL_isWave_24 : decode cL_isWave 24 = .ok (.ifCond .ne 5, 3) := by decide +kernel
theorem dL_isWave_27 : decode cL_isWave 27 = .ok (.iconst 0, 1) := by decide +kernel
theorem dL_isWave_28 : decode cL_isWave 28 = .ok (.ireturn, 1) := by decide +kernel
theorem dL_isWave_29 : decode cL_isWave 29 = .ok (.aload_n 1, 1) := by decide +kernel
theorem dL_isWave_30 : decode cL_isWave 30 = .ok (.iload_n 3, 1) := by decide +kernel
theorem dL_isWave_31 : decode cL_isWave 31 = .ok (.aload_n 0, 1) := by decide +kernel
theorem dL_isWave_32 : decode cL_isWave 32 = .ok (.getfield 10, 3) := by decide +kernel
theorem dL_isWave_35 : decode cL_isWave 35 = .ok (.iload_n 3, 1) := by decide +kernel
theorem dL_isWave_36 : decode cL_isWave 36 = .ok (.invokevirtual 83, 3) := by decide +kernel
theorem dL_isWave_39 : decode cL_isWave 39 = .ok (.iastore, 1) := by decide +kernel
theorem dL_isWave_40 : decode cL_isWave 40 = .ok (.iinc 3 1, 3) := by decide +kernel
theorem dL_isWave_43 : decode cL_isWave 43 = .ok (.goto (-32), 3) := by decide +kernel
theorem dL_isWave_46 : decode cL_isWave 46 = .ok (.iconst 0, 1) := by decide +kernel
theorem dL_isWave_47 : decode cL_isWave 47 = .ok (.istore_n 3, 1) := by decide +kernel
theorem dL_isWave_48 : decode cL_isWave 48 = .ok (.iload_n 3, 1) := by decide +kernel
theorem dL_isWave_49 : decode cL_isWave 49 = .ok (.aload_n 0, 1) := by decide +kernel
theorem dL_isWave_50 : decode cL_isWave 50 = .ok (.getfield 63, 3) := by decide +kernel
theorem dL_isWave_53 : decode cL_isWave 53 = .ok (.if_icmp .ge 21, 3) := by decide +kernel
theorem dL_isWave_56 : decode cL_isWave 56 = .ok (.iload_n 2, 1) := by decide +kernel
theorem dL_isWave_57 : decode cL_isWave 57 = .ok (.aload_n 0, 1) := by decide +kernel
theorem dL_isWave_58 : decode cL_isWave 58 = .ok (.getfield 10, 3) := by decide +kernel
theorem dL_isWave_61 : decode cL_isWave 61 = .ok (.iload_n 3, 1) := by decide +kernel
theorem dL_isWave_62 : decode cL_isWave 62 = .ok (.iconst 2, 1) := by decide +kernel
theorem dL_isWave_63 : decode cL_isWave 63 = .ok (.invokevirtual 86, 3) := by decide +kernel
theorem dL_isWave_66 : decode cL_isWave 66 = .ok (.iadd, 1) := by decide +kernel
theorem dL_isWave_67 : decode cL_isWave 67 = .ok (.istore_n 2, 1) := by decide +kernel
theorem dL_isWave_68 : decode cL_isWave 68 = .ok (.iinc 3 1, 3) := by decide +kernel
theorem dL_isWave_71 : decode cL_isWave 71 = .ok (.goto (-23), 3) := by decide +kernel
theorem dL_isWave_74 : decode cL_isWave 74 = .ok (.aload_n 0, 1) := by decide +kernel
theorem dL_isWave_75 : decode cL_isWave 75 = .ok (.getfield 10, 3) := by decide +kernel
theorem dL_isWave_78 : decode cL_isWave 78 = .ok (.iconst 1, 1) := by decide +kernel
theorem dL_isWave_79 : decode cL_isWave 79 = .ok (.invokevirtual 80, 3) := by decide +kernel
theorem dL_isWave_82 : decode cL_isWave 82 = .ok (.istore_n 3, 1) := by decide +kernel
theorem dL_isWave_83 : decode cL_isWave 83 = .ok (.aload_n 0, 1) := by decide +kernel
theorem dL_isWave_84 : decode cL_isWave 84 = .ok (.getfield 10, 3) := by decide +kernel
theorem dL_isWave_87 : decode cL_isWave 87 = .ok (.invokevirtual 104, 3) := by decide +kernel
theorem dL_isWave_90 : decode cL_isWave 90 = .ok (.istore 4, 2) := by decide +kernel
theorem dL_isWave_92 : decode cL_isWave 92 = .ok (.aload_n 0, 1) := by decide +kernel
theorem dL_isWave_93 : decode cL_isWave 93 = .ok (.getfield 10, 3) := by decide +kernel
theorem dL_isWave_96 : decode cL_isWave 96 = .ok (.iconst 1, 1) := by decide +kernel
theorem dL_isWave_97 : decode cL_isWave 97 = .ok (.invokevirtual 80, 3) := by decide +kernel
theorem dL_isWave_100 : decode cL_isWave 100 = .ok (.iload_n 3, 1) := by decide +kernel
theorem dL_isWave_101 : decode cL_isWave 101 = .ok (.iload 4, 2) := by decide +kernel
theorem dL_isWave_103 : decode cL_isWave 103 = .ok (.iadd, 1) := by decide +kernel
theorem dL_isWave_104 : decode cL_isWave 104 = .ok (.if_icmp .ne 10, 3) := by decide +kernel
theorem dL_isWave_107 : decode cL_isWave 107 = .ok (.aload_n 0, 1) := by decide +kernel
theorem dL_isWave_108 : decode cL_isWave 108 = .ok (.invokevirtual 107, 3) := by decide +kernel
theorem dL_isWave_111 : decode cL_isWave 111 = .ok (.ifCond .ne 5, 3) := by decide +kernel
theorem dL_isWave_114 : decode cL_isWave 114 = .ok (.iconst 0, 1) := by decide +kernel
theorem dL_isWave_115 : decode cL_isWave 115 = .ok (.ireturn, 1) := by decide +kernel
theorem dL_isWave_116 : decode cL_isWave 116 = .ok (.iconst 0, 1) := by decide +kernel
theorem dL_isWave_117 : decode cL_isWave 117 = .ok (.istore 5, 2) := by decide +kernel
theorem dL_isWave_119 : decode cL_isWave 119 = .ok (.iload 5, 2) := by decide +kernel
theorem dL_isWave_121 : decode cL_isWave 121 = .ok (.aload_n 0, 1) := by decide +kernel
theorem dL_isWave_122 : decode cL_isWave 122 = .ok (.getfield 63, 3) := by decide +kernel
theorem dL_isWave_125 : decode cL_isWave 125 = .ok (.if_icmp .ge 148, 3) := by decide +kernel
theorem dL_isWave_128 : decode cL_isWave 128 = .ok (.aload_n 1, 1) := by decide +kernel
theorem dL_isWave_129 : decode cL_isWave 129 = .ok (.aload_n 0, 1) := by decide +kernel
theorem dL_isWave_130 : decode cL_isWave 130 = .ok (.getfield 10, 3) := by decide +kernel
theorem dL_isWave_133 : decode cL_isWave 133 = .ok (.iload 5, 2) := by decide +kernel
theorem dL_isWave_135 : decode cL_isWave 135 = .ok (.iconst 1, 1) := by decide +kernel
theorem dL_isWave_136 : decode cL_isWave 136 = .ok (.invokevirtual 86, 3) := by decide +kernel
theorem dL_isWave_139 : decode cL_isWave 139 = .ok (.dup2, 1) := by decide +kernel
theorem dL_isWave_140 : decode cL_isWave 140 = .ok (.iaload, 1) := by decide +kernel
theorem dL_isWave_141 : decode cL_isWave 141 = .ok (.aload_n 0, 1) := by decide +kernel
theorem dL_isWave_142 : decode cL_isWave 142 = .ok (.getfield 10, 3) := by decide +kernel
theorem dL_isWave_145 : decode cL_isWave 145 = .ok (.iload 5, 2) := by decide +kernel
theorem dL_isWave_147 : decode cL_isWave 147 = .ok (.iconst 2, 1) := by decide +kernel
theorem dL_isWave_148 : decode cL_isWave 148 = .ok (.invokevirtual 86, 3) := by decide +kernel
theorem dL_isWave_151 : decode cL_isWave 151 = .ok (.isub, 1) := by decide +kernel
theorem dL_isWave_152 : decode cL_isWave 152 = .ok (.iastore, 1) := by decide +kernel
theorem dL_isWave_153 : decode cL_isWave 153 = .ok (.iload_n 2, 1) := by decide +kernel
theorem dL_isWave_154 : decode cL_isWave 154 = .ok (.aload_n 0, 1) := by decide +kernel
theorem dL_isWave_155 : decode cL_isWave 155 = .ok (.getfield 10, 3) := by decide +kernel
theorem dL_isWave_158 : decode cL_isWave 158 = .ok (.iload 5, 2) := by decide +kernel
theorem dL_isWave_160 : decode cL_isWave 160 = .ok (.iconst 2, 1) := by decide +kernel
theorem dL_isWave_161 : decode cL_isWave 161 = .ok (.invokevirtual 86, 3) := by decide +kernel
theorem dL_isWave_164 : decode cL_isWave 164 = .ok (.isub, 1) := by decide +kernel
theorem dL_isWave_165 : decode cL_isWave 165 = .ok (.istore_n 2, 1) := by decide +kernel
theorem dL_isWave_166 : decode cL_isWave 166 = .ok (.aload_n 0, 1) := by decide +kernel
theorem dL_isWave_167 : decode cL_isWave 167 = .ok (.getfield 10, 3) := by decide +kernel
theorem dL_isWave_170 : decode cL_isWave 170 = .ok (.iload 5, 2) := by decide +kernel
theorem dL_isWave_172 : decode cL_isWave 172 = .ok (.invokevirtual 111, 3) := by decide +kernel
theorem dL_isWave_175 : decode cL_isWave 175 = .ok (.istore 6, 2) := by decide +kernel
theorem dL_isWave_177 : decode cL_isWave 177 = .ok (.iconst 0, 1) := by decide +kernel
theorem dL_isWave_178 : decode cL_isWave 178 = .ok (.istore 7, 2) := by decide +kernel
theorem dL_isWave_180 : decode cL_isWave 180 = .ok (.iload 7, 2) := by decide +kernel
theorem dL_isWave_182 : decode cL_isWave 182 = .ok (.aload_n 0, 1) := by decide +kernel
theorem dL_isWave_183 : decode cL_isWave 183 = .ok (.getfield 56, 3) := by decide +kernel
theorem dL_isWave_186 : decode cL_isWave 186 = .ok (.if_icmp .ge 81, 3) := by decide +kernel
theorem dL_isWave_189 : decode cL_isWave 189 = .ok (.iload 6, 2) := by decide +kernel
theorem dL_isWave_191 : decode cL_isWave 191 = .ok (.iload 7, 2) := by decide +kernel
theorem dL_isWave_193 : decode cL_isWave 193 = .ok (.ishr, 1) := by decide +kernel
theorem dL_isWave_194 : decode cL_isWave 194 = .ok (.iconst 1, 1) := by decide +kernel
theorem dL_isWave_195 : decode cL_isWave 195 = .ok (.iand, 1) := by decide +kernel
theorem dL_isWave_196 : decode cL_isWave 196 = .ok (.iconst 1, 1) := by decide +kernel
theorem dL_isWave_197 : decode cL_isWave 197 = .ok (.if_icmp .ne 64, 3) := by decide +kernel
theorem dL_isWave_200 : decode cL_isWave 200 = .ok (.aload_n 0, 1) := by decide +kernel
theorem dL_isWave_201 : decode cL_isWave 201 = .ok (.getfield 10, 3) := by decide +kernel
theorem dL_isWave_204 : decode cL_isWave 204 = .ok (.iload 7, 2) := by decide +kernel
theorem dL_isWave_206 : decode cL_isWave 206 = .ok (.iconst 2, 1) := by decide +kernel
theorem dL_isWave_207 : decode cL_isWave 207 = .ok (.invokevirtual 114, 3) := by decide +kernel
theorem dL_isWave_210 : decode cL_isWave 210 = .ok (.aload_n 0, 1) := by decide +kernel
theorem dL_isWave_211 : decode cL_isWave 211 = .ok (.getfield 10, 3) := by decide +kernel
theorem dL_isWave_214 : decode cL_isWave 214 = .ok (.iload 5, 2) := by decide +kernel
theorem dL_isWave_216 : decode cL_isWave 216 = .ok (.iconst 5, 1) := by decide +kernel
theorem dL_isWave_217 : decode cL_isWave 217 = .ok (.invokevirtual 86, 3) := by decide +kernel
theorem dL_isWave_220 : decode cL_isWave 220 = .ok (.if_icmp .lt 39, 3) := by decide +kernel
theorem dL_isWave_223 : decode cL_isWave 223 = .ok (.aload_n 0, 1) := by decide +kernel
theorem dL_isWave_224 : decode cL_isWave 224 = .ok (.getfield 10, 3) := by decide +kernel
theorem dL_isWave_227 : decode cL_isWave 227 = .ok (.iload 7, 2) := by decide +kernel
theorem dL_isWave_229 : decode cL_isWave 229 = .ok (.iconst 0, 1) := by decide +kernel
theorem dL_isWave_230 : decode cL_isWave 230 = .ok (.invokevirtual 114, 3) := by decide +kernel
theorem dL_isWave_233 : decode cL_isWave 233 = .ok (.aload_n 0, 1) := by decide +kernel
theorem dL_isWave_234 : decode cL_isWave 234 = .ok (.getfield 10, 3) := by decide +kernel
theorem dL_isWave_237 : decode cL_isWave 237 = .ok (.iload 5, 2) := by decide +kernel
theorem dL_isWave_239 : decode cL_isWave 239 = .ok (.iconst 1, 1) := by decide +kernel
theorem dL_isWave_240 : decode cL_isWave 240 = .ok (.invokevirtual 86, 3) := by decide +kernel
theorem dL_isWave_243 : decode cL_isWave 243 = .ok (.if_icmp .ne 16, 3) := by decide +kernel
theorem dL_isWave_246 : decode cL_isWave 246 = .ok (.aload_n 0, 1) := by decide +kernel
theorem dL_isWave_247 : decode cL_isWave 247 = .ok (.getfield 10, 3) := by decide +kernel
theorem dL_isWave_250 : decode cL_isWave 250 = .ok (.iload 7, 2) := by decide +kernel
theorem dL_isWave_252 : decode cL_isWave 252 = .ok (.iconst 4, 1) := by decide +kernel
theorem dL_isWave_253 : decode cL_isWave 253 = .ok (.invokevirtual 114, 3) := by decide +kernel
theorem dL_isWave_256 : decode cL_isWave 256 = .ok (.ifCond .eq 5, 3) := by decide +kernel
theorem dL_isWave_259 : decode cL_isWave 259 = .ok (.iconst 0, 1) := by decide +kernel
theorem dL_isWave_260 : decode cL_isWave 260 = .ok (.ireturn, 1) := by decide +kernel
theorem dL_isWave_261 : decode cL_isWave 261 = .ok (.iinc 7 1, 3) := by decide +kernel
theorem dL_isWave_264 : decode cL_isWave 264 = .ok (.goto (-84), 3) := by decide +kernel
theorem dL_isWave_267 : decode cL_isWave 267 = .ok (.iinc 5 1, 3) := by decide +kernel
theorem dL_isWave_270 : decode cL_isWave 270 = .ok (.goto (-151), 3) := by decide +kernel
theorem dL_isWave_273 : decode cL_isWave 273 = .ok (.iconst 0, 1) := by decide +kernel
theorem dL_isWave_274 : decode cL_isWave 274 = .ok (.istore 5, 2) := by decide +kernel
theorem dL_isWave_276 : decode cL_isWave 276 = .ok (.iload 5, 2) := by decide +kernel
theorem dL_isWave_278 : decode cL_isWave 278 = .ok (.aload_n 0, 1) := by decide +kernel
theorem dL_isWave_279 : decode cL_isWave 279 = .ok (.getfield 39, 3) := by decide +kernel
theorem dL_isWave_282 : decode cL_isWave 282 = .ok (.if_icmp .ge 18, 3) := by decide +kernel
theorem dL_isWave_285 : decode cL_isWave 285 = .ok (.aload_n 1, 1) := by decide +kernel
theorem dL_isWave_286 : decode cL_isWave 286 = .ok (.iload 5, 2) := by decide +kernel
theorem dL_isWave_288 : decode cL_isWave 288 = .ok (.iaload, 1) := by decide +kernel
theorem dL_isWave_289 : decode cL_isWave 289 = .ok (.ifCond .eq 5, 3) := by decide +kernel
theorem dL_isWave_292 : decode cL_isWave 292 = .ok (.iconst 0, 1) := by decide +kernel
theorem dL_isWave_293 : decode cL_isWave 293 = .ok (.ireturn, 1) := by decide +kernel
theorem dL_isWave_294 : decode cL_isWave 294 = .ok (.iinc 5 1, 3) := by decide +kernel
theorem dL_isWave_297 : decode cL_isWave 297 = .ok (.goto (-21), 3) := by decide +kernel
theorem dL_isWave_300 : decode cL_isWave 300 = .ok (.iload_n 2, 1) := by decide +kernel
theorem dL_isWave_301 : decode cL_isWave 301 = .ok (.iload 4, 2) := by decide +kernel
theorem dL_isWave_303 : decode cL_isWave 303 = .ok (.if_icmp .ne 7, 3) := by decide +kernel
theorem dL_isWave_306 : decode cL_isWave 306 = .ok (.iconst 1, 1) := by decide +kernel
theorem dL_isWave_307 : decode cL_isWave 307 = .ok (.goto 4, 3) := by decide +kernel
theorem dL_isWave_310 : decode cL_isWave 310 = .ok (.iconst 0, 1) := by decide +kernel
theorem dL_isWave_311 : decode cL_isWave 311 = .ok (.ireturn, 1) := by decide +kernel
theorem dL_between_0 : decode cL_between 0 = .ok (.iload_n 1, 1) := by decide +kernel
theorem dL_between_1 : decode cL_between 1 = .ok (.iload_n 3, 1) := by decide +kernel
theorem dL_between_2 : decode cL_between 2 = .ok (.if_icmp .ne 11, 3) := by decide +kernel
theorem dL_between_5 : decode cL_between 5 = .ok (.iload_n 2, 1) := by decide +kernel
theorem dL_between_6 : decode cL_between 6 = .ok (.iload 4, 2) := by decide +kernel
theorem dL_between_8 : decode cL_between 8 = .ok (.isub, 1) := by decide +kernel
theorem dL_between_9 : decode cL_between 9 = .ok (.invokestatic 117, 3) := by decide +kernel
theorem dL_between_12 : decode cL_between 12 = .ok (.ireturn, 1) := by decide +kernel
theorem dL_between_13 : decode cL_between 13 = .ok (.aload_n 0, 1) := by decide +kernel
theorem dL_between_14 : decode cL_between 14 = .ok (.getfield 36, 3) := by decide +kernel
theorem dL_between_17 : decode cL_between 17 = .ok (.iload_n 1, 1) := by decide +kernel
theorem dL_between_18 : decode cL_between 18 = .ok (.iload_n 3, 1) := by decide +kernel
theorem dL_between_19 : decode cL_between 19 = .ok (.isub, 1) := by decide +kernel
theorem dL_between_20 : decode cL_between 20 = .ok (.invokestatic 117, 3) := by decide +kernel
theorem dL_between_23 : decode cL_between 23 = .ok (.imul, 1) := by decide +kernel
theorem dL_between_24 : decode cL_between 24 = .ok (.iload_n 2, 1) := by decide +kernel
theorem dL_between_25 : decode cL_between 25 = .ok (.iload 4, 2) := by decide +kernel
theorem dL_between_27 : decode cL_between 27 = .ok (.iadd, 1) := by decide +kernel
theorem dL_between_28 : decode cL_between 28 = .ok (.iconst 2, 1) := by decide +kernel
theorem dL_between_29 : decode cL_between 29 = .ok (.aload_n 0, 1) := by decide +kernel
theorem dL_between_30 : decode cL_between 30 = .ok (.getfield 33, 3) := by decide +kernel
theorem dL_between_33 : decode cL_between 33 = .ok (.iconst 1, 1) := by decide +kernel
theorem dL_between_34 : decode cL_between 34 = .ok (.iadd, 1) := by decide +kernel
theorem dL_between_35 : decode cL_between 35 = .ok (.imul, 1) := by decide +kernel
theorem dL_between_36 : decode cL_between 36 = .ok (.iload_n 2, 1) := by decide +kernel
theorem dL_between_37 : decode cL_between 37 = .ok (.isub, 1) := by decide +kernel
theorem dL_between_38 : decode cL_between 38 = .ok (.iload 4, 2) := by decide +kernel
theorem dL_between_40 : decode cL_between 40 = .ok (.isub, 1) := by decide +kernel
theorem dL_between_41 : decode cL_between 41 = .ok (.invokestatic 120, 3) := by decide +kernel
theorem dL_between_44 : decode cL_between 44 = .ok (.iadd, 1) := by decide +kernel
theorem dL_between_45 : decode cL_between 45 = .ok (.ireturn, 1) := by decide +kernel
theorem dL_least_0 : decode cL_least 0 = .ok (.ldc 125, 2) := by decide +kernel
theorem dL_least_2 : decode cL_least 2 = .ok (.istore 5, 2) := by decide +kernel
theorem dL_least_4 : decode cL_least 4 = .ok (.iconst 1, 1) := by decide +kernel
theorem dL_least_5 : decode cL_least 5 = .ok (.istore 6, 2) := by decide +kernel
theorem dL_least_7 : decode cL_least 7 = .ok (.iconst 0, 1) := by decide +kernel
theorem dL_least_8 : decode cL_least 8 = .ok (.istore 7, 2) := by decide +kernel
theorem dL_least_10 : decode cL_least 10 = .ok (.iload 7, 2) := by decide +kernel
theorem dL_least_12 : decode cL_least 12 = .ok (.aload_n 1, 1) := by decide +kernel
theorem dL_least_13 : decode cL_least 13 = .ok (.arraylength, 1) := by decide +kernel
theorem dL_least_14 : decode cL_least 14 = .ok (.if_icmp .ge 83, 3) := by decide +kernel
theorem dL_least_17 : decode cL_least 17 = .ok (.iload_n 2, 1) := by decide +kernel
theorem dL_least_18 : decode cL_least 18 = .ok (.iload 7, 2) := by decide +kernel
theorem dL_least_20 : decode cL_least 20 = .ok (.ishr, 1) := by decide +kernel
theorem dL_least_21 : decode cL_least 21 = .ok (.iconst 1, 1) := by decide +kernel
theorem dL_least_22 : decode cL_least 22 = .ok (.iand, 1) := by decide +kernel
theorem dL_least_23 : decode cL_least 23 = .ok (.iconst 1, 1) := by decide +kernel
theorem dL_least_24 : decode cL_least 24 = .ok (.if_icmp .ne 6, 3) := by decide +kernel
theorem dL_least_27 : decode cL_least 27 = .ok (.goto 64, 3) := by decide +kernel
theorem dL_least_30 : decode cL_least 30 = .ok (.iconst 0, 1) := by decide +kernel
theorem dL_least_31 : decode cL_least 31 = .ok (.istore 6, 2) := by decide +kernel
theorem dL_least_33 : decode cL_least 33 = .ok (.aload_n 1, 1) := by decide +kernel
theorem dL_least_34 : decode cL_least 34 = .ok (.iload 7, 2) := by decide +kernel
theorem dL_least_36 : decode cL_least 36 = .ok (.iaload, 1) := by decide +kernel
theorem dL_least_37 : decode cL_least 37 = .ok (.aload_n 0, 1) := by decide +kernel
theorem dL_least_38 : decode cL_least 38 = .ok (.getfield 33, 3) := by decide +kernel
theorem dL_least_41 : decode cL_least 41 = .ok (.idiv, 1) := by decide +kernel
theorem dL_least_42 : decode cL_least 42 = .ok (.istore 8, 2) := by decide +kernel
theorem dL_least_44 : decode cL_least 44 = .ok (.aload_n 1, 1) := by decide +kernel
theorem dL_least_45 : decode cL_least 45 = .ok (.iload 7, 2) := by decide +kernel
theorem dL_least_47 : decode cL_least 47 = .ok (.iaload, 1) := by decide +kernel
theorem dL_least_48 : decode cL_least 48 = .ok (.aload_n 0, 1) := by decide +kernel
theorem dL_least_49 : decode cL_least 49 = .ok (.getfield 33, 3) := by decide +kernel
theorem dL_least_52 : decode cL_least 52 = .ok (.irem, 1) := by decide +kernel
theorem dL_least_53 : decode cL_least 53 = .ok (.iconst 1, 1) := by decide +kernel
theorem dL_least_54 : decode cL_least 54 = .ok (.iadd, 1) := by decide +kernel
theorem dL_least_55 : decode cL_least 55 = .ok (.istore 9, 2) := by decide +kernel
theorem dL_least_57 : decode cL_least 57 = .ok (.iload 5, 2) := by decide +kernel
theorem dL_least_59 : decode cL_least 59 = .ok (.aload_n 0, 1) := by decide +kernel
theorem dL_least_60 : decode cL_least 60 = .ok (.iload_n 3, 1) := by decide +kernel
theorem dL_least_61 : decode cL_least 61 = .ok (.iload 4, 2) := by decide +kernel
theorem dL_least_63 : decode cL_least 63 = .ok (.iload 8, 2) := by decide +kernel
theorem dL_least_65 : decode cL_least 65 = .ok (.iload 9, 2) := by decide +kernel
theorem dL_least_67 : decode cL_least 67 = .ok (.invokevirtual 126, 3) := by decide +kernel
theorem dL_least_70 : decode cL_least 70 = .ok (.aload_n 0, 1) := by decide +kernel
theorem dL_least_71 : decode cL_least 71 = .ok (.aload_n 1, 1) := by decide +kernel
theorem dL_least_72 : decode cL_least 72 = .ok (.iload_n 2, 1) := by decide +kernel
theorem dL_least_73 : decode cL_least 73 = .ok (.iconst 1, 1) := by decide +kernel
theorem dL_least_74 : decode cL_least 74 = .ok (.iload 7, 2) := by decide +kernel
theorem dL_least_76 : decode cL_least 76 = .ok (.ishl, 1) := by decide +kernel
theorem dL_least_77 : decode cL_least 77 = .ok (.ior, 1) := by decide +kernel
theorem dL_least_78 : decode cL_least 78 = .ok (.iload 8, 2) := by decide +kernel
theorem dL_least_80 : decode cL_least 80 = .ok (.iload 9, 2) := by decide +kernel
theorem dL_least_82 : decode cL_least 82 = .ok (.invokevirtual 129, 3) := by decide +kernel
theorem dL_least_85 : decode cL_least 85 = .ok (.iadd, 1) := by decide +kernel
theorem dL_least_86 : decode cL_least 86 = .ok (.invokestatic 120, 3) := by decide +kernel
theorem dL_least_89 : decode cL_least 89 = .ok (.istore 5, 2) := by decide +kernel
theorem dL_least_91 : decode cL_least 91 = .ok (.iinc 7 1, 3) := by decide +kernel
theorem dL_least_94 : decode cL_least 94 = .ok (.goto (-84), 3) := by decide +kernel
theorem dL_least_97 : decode cL_least 97 = .ok (.iload 6, 2) := by decide +kernel
theorem dL_least_99 : decode cL_least 99 = .ok (.ifCond .eq 15, 3) := by decide +kernel
theorem dL_least_102 : decode cL_least 102 = .ok (.aload_n 0, 1) := by decide +kernel
theorem dL_least_103 : decode cL_least 103 = .ok (.iload_n 3, 1) := by decide +kernel
theorem dL_least_104 : decode cL_least 104 = .ok (.iload 4, 2) := by decide +kernel
theorem dL_least_106 : decode cL_least 106 = .ok (.iconst 0, 1) := by decide +kernel
theorem dL_least_107 : decode cL_least 107 = .ok (.iconst 0, 1) := by decide +kernel
theorem dL_least_108 : decode cL_least 108 = .ok (.invokevirtual 126, 3) := by decide +kernel
theorem dL_least_111 : decode cL_least 111 = .ok (.goto 5, 3) := by decide +kernel
theorem dL_least_114 : decode cL_least 114 = .ok (.iload 5, 2) := by decide +kernel
theorem dL_least_116 : decode cL_least 116 = .ok (.ireturn, 1) := by decide +kernel
theorem dL_isLeast_0 : decode cL_isLeast 0 = .ok (.iconst 0, 1) := by decide +kernel
theorem dL_isLeast_1 : decode cL_isLeast 1 = .ok (.istore_n 1, 1) := by decide +kernel
theorem dL_isLeast_2 : decode cL_isLeast 2 = .ok (.iconst 0, 1) := by decide +kernel
theorem dL_isLeast_3 : decode cL_isLeast 3 = .ok (.istore_n 2, 1) := by decide +kernel
theorem dL_isLeast_4 : decode cL_isLeast 4 = .ok (.iload_n 2, 1) := by decide +kernel
theorem dL_isLeast_5 : decode cL_isLeast 5 = .ok (.aload_n 0, 1) := by decide +kernel
theorem dL_isLeast_6 : decode cL_isLeast 6 = .ok (.getfield 29, 3) := by decide +kernel
theorem dL_isLeast_9 : decode cL_isLeast 9 = .ok (.aload_n 0, 1) := by decide +kernel
theorem dL_isLeast_10 : decode cL_isLeast 10 = .ok (.getfield 33, 3) := by decide +kernel
theorem dL_isLeast_13 : decode cL_isLeast 13 = .ok (.imul, 1) := by decide +kernel
theorem dL_isLeast_14 : decode cL_isLeast 14 = .ok (.if_icmp .ge 25, 3) := by decide +kernel
theorem dL_isLeast_17 : decode cL_isLeast 17 = .ok (.aload_n 0, 1) := by decide +kernel
theorem dL_isLeast_18 : decode cL_isLeast 18 = .ok (.getfield 10, 3) := by decide +kernel
theorem dL_isLeast_21 : decode cL_isLeast 21 = .ok (.iload_n 2, 1) := by decide +kernel
theorem dL_isLeast_22 : decode cL_isLeast 22 = .ok (.iconst 3, 1) := by decide +kernel
theorem dL_isLeast_23 : decode cL_isLeast 23 = .ok (.invokevirtual 73, 3) := by decide +kernel
theorem dL_isLeast_26 : decode cL_isLeast 26 = .ok (.iconst 2, 1) := by decide +kernel
theorem dL_isLeast_27 : decode cL_isLeast 27 = .ok (.if_icmp .ne 6, 3) := by decide +kernel
theorem dL_isLeast_30 : decode cL_isLeast 30 = .ok (.iinc 1 1, 3) := by decide +kernel
theorem dL_isLeast_33 : decode cL_isLeast 33 = .ok (.iinc 2 1, 3) := by decide +kernel
theorem dL_isLeast_36 : decode cL_isLeast 36 = .ok (.goto (-32), 3) := by decide +kernel
theorem dL_isLeast_39 : decode cL_isLeast 39 = .ok (.aload_n 0, 1) := by decide +kernel
theorem dL_isLeast_40 : decode cL_isLeast 40 = .ok (.getfield 10, 3) := by decide +kernel
theorem dL_isLeast_43 : decode cL_isLeast 43 = .ok (.invokevirtual 133, 3) := by decide +kernel
theorem dL_isLeast_46 : decode cL_isLeast 46 = .ok (.iload_n 1, 1) := by decide +kernel
theorem dL_isLeast_47 : decode cL_isLeast 47 = .ok (.if_icmp .eq 5, 3) := by decide +kernel
theorem dL_isLeast_50 : decode cL_isLeast 50 = .ok (.iconst 0, 1) := by decide +kernel
theorem dL_isLeast_51 : decode cL_isLeast 51 = .ok (.ireturn, 1) := by decide +kernel
theorem dL_isLeast_52 : decode cL_isLeast 52 = .ok (.iload_n 1, 1) := by decide +kernel
theorem dL_isLeast_53 : decode cL_isLeast 53 = .ok (.newarray .int, 2) := by decide +kernel
theorem dL_isLeast_55 : decode cL_isLeast 55 = .ok (.astore_n 2, 1) := by decide +kernel
theorem dL_isLeast_56 : decode cL_isLeast 56 = .ok (.aload_n 0, 1) := by decide +kernel
theorem dL_isLeast_57 : decode cL_isLeast 57 = .ok (.getfield 29, 3) := by decide +kernel
theorem dL_isLeast_60 : decode cL_isLeast 60 = .ok (.aload_n 0, 1) := by decide +kernel
theorem dL_isLeast_61 : decode cL_isLeast 61 = .ok (.getfield 33, 3) := by decide +kernel
theorem dL_isLeast_64 : decode cL_isLeast 64 = .ok (.imul, 1) := by decide +kernel
theorem dL_isLeast_65 : decode cL_isLeast 65 = .ok (.iconst 1, 1) := by decide +kernel
theorem dL_isLeast_66 : decode cL_isLeast 66 = .ok (.isub, 1) := by decide +kernel
theorem dL_isLeast_67 : decode cL_isLeast 67 = .ok (.istore_n 3, 1) := by decide +kernel
theorem dL_isLeast_68 : decode cL_isLeast 68 = .ok (.iload_n 3, 1) := by decide +kernel
theorem dL_isLeast_69 : decode cL_isLeast 69 = .ok (.ifCond .lt 32, 3) := by decide +kernel
theorem dL_isLeast_72 : decode cL_isLeast 72 = .ok (.aload_n 0, 1) := by decide +kernel
theorem dL_isLeast_73 : decode cL_isLeast 73 = .ok (.getfield 10, 3) := by decide +kernel
theorem dL_isLeast_76 : decode cL_isLeast 76 = .ok (.iload_n 3, 1) := by decide +kernel
theorem dL_isLeast_77 : decode cL_isLeast 77 = .ok (.iconst 3, 1) := by decide +kernel
theorem dL_isLeast_78 : decode cL_isLeast 78 = .ok (.invokevirtual 73, 3) := by decide +kernel
theorem dL_isLeast_81 : decode cL_isLeast 81 = .ok (.iconst 2, 1) := by decide +kernel
theorem dL_isLeast_82 : decode cL_isLeast 82 = .ok (.if_icmp .eq 6, 3) := by decide +kernel
theorem dL_isLeast_85 : decode cL_isLeast 85 = .ok (.goto 10, 3) := by decide +kernel
theorem dL_isLeast_88 : decode cL_isLeast 88 = .ok (.iinc 1 (-1), 3) := by decide +kernel
theorem dL_isLeast_91 : decode cL_isLeast 91 = .ok (.aload_n 2, 1) := by decide +kernel
theorem dL_isLeast_92 : decode cL_isLeast 92 = .ok (.iload_n 1, 1) := by decide +kernel
theorem dL_isLeast_93 : decode cL_isLeast 93 = .ok (.iload_n 3, 1) := by decide +kernel
theorem dL_isLeast_94 : decode cL_isLeast 94 = .ok (.iastore, 1) := by decide +kernel
theorem dL_isLeast_95 : decode cL_isLeast 95 = .ok (.iinc 3 (-1), 3) := by decide +kernel
theorem dL_isLeast_98 : decode cL_isLeast 98 = .ok (.goto (-30), 3) := by decide +kernel
theorem dL_isLeast_101 : decode cL_isLeast 101 = .ok (.aload_n 2, 1) := by decide +kernel
theorem dL_isLeast_102 : decode cL_isLeast 102 = .ok (.arraylength, 1) := by decide +kernel
theorem dL_isLeast_103 : decode cL_isLeast 103 = .ok (.bipush 10, 2) := by decide +kernel
theorem dL_isLeast_105 : decode cL_isLeast 105 = .ok (.if_icmp .le 20, 3) := by decide +kernel
theorem dL_isLeast_108 : decode cL_isLeast 108 = .ok (.aload_n 0, 1) := by decide +kernel
theorem dL_isLeast_109 : decode cL_isLeast 109 = .ok (.getfield 10, 3) := by decide +kernel
theorem dL_isLeast_112 : decode cL_isLeast 112 = .ok (.iconst 0, 1) := by decide +kernel
theorem dL_isLeast_113 : decode cL_isLeast 113 = .ok (.invokevirtual 136, 3) := by decide +kernel
theorem dL_isLeast_116 : decode cL_isLeast 116 = .ok (.ifCond .le 7, 3) := by decide +kernel
theorem dL_isLeast_119 : decode cL_isLeast 119 = .ok (.iconst 1, 1) := by decide +kernel
theorem dL_isLeast_120 : decode cL_isLeast 120 = .ok (.goto 4, 3) := by decide +kernel
theorem dL_isLeast_123 : decode cL_isLeast 123 = .ok (.iconst 0, 1) := by decide +kernel
theorem dL_isLeast_124 : decode cL_isLeast 124 = .ok (.ireturn, 1) := by decide +kernel
theorem dL_isLeast_125 : decode cL_isLeast 125 = .ok (.aload_n 0, 1) := by decide +kernel
theorem dL_isLeast_126 : decode cL_isLeast 126 = .ok (.getfield 10, 3) := by decide +kernel
theorem dL_isLeast_129 : decode cL_isLeast 129 = .ok (.iconst 2, 1) := by decide +kernel
theorem dL_isLeast_130 : decode cL_isLeast 130 = .ok (.invokevirtual 136, 3) := by decide +kernel
theorem dL_isLeast_133 : decode cL_isLeast 133 = .ok (.istore_n 3, 1) := by decide +kernel
theorem dL_isLeast_134 : decode cL_isLeast 134 = .ok (.aload_n 0, 1) := by decide +kernel
theorem dL_isLeast_135 : decode cL_isLeast 135 = .ok (.getfield 10, 3) := by decide +kernel
theorem dL_isLeast_138 : decode cL_isLeast 138 = .ok (.iconst 0, 1) := by decide +kernel
theorem dL_isLeast_139 : decode cL_isLeast 139 = .ok (.invokevirtual 136, 3) := by decide +kernel
theorem dL_isLeast_142 : decode cL_isLeast 142 = .ok (.iload_n 3, 1) := by decide +kernel
theorem dL_isLeast_143 : decode cL_isLeast 143 = .ok (.if_icmp .lt 15, 3) := by decide +kernel
theorem dL_isLeast_146 : decode cL_isLeast 146 = .ok (.aload_n 0, 1) := by decide +kernel
theorem dL_isLeast_147 : decode cL_isLeast 147 = .ok (.getfield 10, 3) := by decide +kernel
theorem dL_isLeast_150 : decode cL_isLeast 150 = .ok (.iconst 1, 1) := by decide +kernel
theorem dL_isLeast_151 : decode cL_isLeast 151 = .ok (.invokevirtual 136, 3) := by decide +kernel
theorem dL_isLeast_154 : decode cL_isLeast 154 = .ok (.iload_n 3, 1) := by decide +kernel
theorem dL_isLeast_155 : decode cL_isLeast 155 = .ok (.if_icmp .ge 5, 3) := by decide +kernel
theorem dL_isLeast_158 : decode cL_isLeast 158 = .ok (.iconst 0, 1) := by decide +kernel
theorem dL_isLeast_159 : decode cL_isLeast 159 = .ok (.ireturn, 1) := by decide +kernel
theorem dL_isLeast_160 : decode cL_isLeast 160 = .ok (.aload_n 2, 1) := by decide +kernel
theorem dL_isLeast_161 : decode cL_isLeast 161 = .ok (.arraylength, 1) := by decide +kernel
theorem dL_isLeast_162 : decode cL_isLeast 162 = .ok (.bipush 6, 2) := by decide +kernel
theorem dL_isLeast_164 : decode cL_isLeast 164 = .ok (.if_icmp .gt 24, 3) := by decide +kernel
theorem dL_isLeast_167 : decode cL_isLeast 167 = .ok (.iload_n 3, 1) := by decide +kernel
theorem dL_isLeast_168 : decode cL_isLeast 168 = .ok (.aload_n 2, 1) := by decide +kernel
theorem dL_isLeast_169 : decode cL_isLeast 169 = .ok (.arraylength, 1) := by decide +kernel
theorem dL_isLeast_170 : decode cL_isLeast 170 = .ok (.ifCond .ne 7, 3) := by decide +kernel
theorem dL_isLeast_173 : decode cL_isLeast 173 = .ok (.iconst 0, 1) := by decide +kernel
theorem dL_isLeast_174 : decode cL_isLeast 174 = .ok (.goto 11, 3) := by decide +kernel
theorem dL_isLeast_177 : decode cL_isLeast 177 = .ok (.aload_n 0, 1) := by decide +kernel
theorem dL_isLeast_178 : decode cL_isLeast 178 = .ok (.aload_n 2, 1) := by decide +kernel
theorem dL_isLeast_179 : decode cL_isLeast 179 = .ok (.iconst 0, 1) := by decide +kernel
theorem dL_isLeast_180 : decode cL_isLeast 180 = .ok (.iconst 0, 1) := by decide +kernel
theorem dL_isLeast_181 : decode cL_isLeast 181 = .ok (.iconst 0, 1) := by decide +kernel
theorem dL_isLeast_182 : decode cL_isLeast 182 = .ok (.invokevirtual 129, 3) := by decide +kernel
theorem dL_isLeast_185 : decode cL_isLeast 185 = .ok (.if_icmp .ne 7, 3) := by decide +kernel
theorem dL_isLeast_188 : decode cL_isLeast 188 = .ok (.iconst 1, 1) := by decide +kernel
theorem dL_isLeast_189 : decode cL_isLeast 189 = .ok (.goto 4, 3) := by decide +kernel
theorem dL_isLeast_192 : decode cL_isLeast 192 = .ok (.iconst 0, 1) := by decide +kernel
theorem dL_isLeast_193 : decode cL_isLeast 193 = .ok (.ireturn, 1) := by decide +kernel
theorem dL_isKnown_0 : decode cL_isKnown 0 = .ok (.iconst 0, 1) := by decide +kernel
theorem dL_isKnown_1 : decode cL_isKnown 1 = .ok (.istore_n 1, 1) := by decide +kernel
theorem dL_isKnown_2 : decode cL_isKnown 2 = .ok (.iload_n 1, 1) := by decide +kernel
theorem dL_isKnown_3 : decode cL_isKnown 3 = .ok (.aload_n 0, 1) := by decide +kernel
theorem dL_isKnown_4 : decode cL_isKnown 4 = .ok (.getfield 56, 3) := by decide +kernel
theorem dL_isKnown_7 : decode cL_isKnown 7 = .ok (.if_icmp .ge 100, 3) := by decide +kernel
theorem dL_isKnown_10 : decode cL_isKnown 10 = .ok (.iconst 0, 1) := by decide +kernel
theorem dL_isKnown_11 : decode cL_isKnown 11 = .ok (.istore_n 2, 1) := by decide +kernel
theorem dL_isKnown_12 : decode cL_isKnown 12 = .ok (.iconst 0, 1) := by decide +kernel
theorem dL_isKnown_13 : decode cL_isKnown 13 = .ok (.istore_n 3, 1) := by decide +kernel
theorem dL_isKnown_14 : decode cL_isKnown 14 = .ok (.iload_n 3, 1) := by decide +kernel
theorem dL_isKnown_15 : decode cL_isKnown 15 = .ok (.aload_n 0, 1) := by decide +kernel
theorem dL_isKnown_16 : decode cL_isKnown 16 = .ok (.getfield 63, 3) := by decide +kernel
theorem dL_isKnown_19 : decode cL_isKnown 19 = .ok (.if_icmp .ge 39, 3) := by decide +kernel
theorem dL_isKnown_22 : decode cL_isKnown 22 = .ok (.aload_n 0, 1) := by decide +kernel
theorem dL_isKnown_23 : decode cL_isKnown 23 = .ok (.getfield 10, 3) := by decide +kernel
theorem dL_isKnown_26 : decode cL_isKnown 26 = .ok (.iload_n 3, 1) := by decide +kernel
theorem dL_isKnown_27 : decode cL_isKnown 27 = .ok (.invokevirtual 111, 3) := by decide +kernel
theorem dL_isKnown_30 : decode cL_isKnown 30 = .ok (.iload_n 1, 1) := by decide +kernel
theorem dL_isKnown_31 : decode cL_isKnown 31 = .ok (.ishr, 1) := by decide +kernel
theorem dL_isKnown_32 : decode cL_isKnown 32 = .ok (.iconst 1, 1) := by decide +kernel
theorem dL_isKnown_33 : decode cL_isKnown 33 = .ok (.iand, 1) := by decide +kernel
theorem dL_isKnown_34 : decode cL_isKnown 34 = .ok (.iconst 1, 1) := by decide +kernel
theorem dL_isKnown_35 : decode cL_isKnown 35 = .ok (.if_icmp .ne 17, 3) := by decide +kernel
theorem dL_isKnown_38 : decode cL_isKnown 38 = .ok (.iload_n 2, 1) := by decide +kernel
theorem dL_isKnown_39 : decode cL_isKnown 39 = .ok (.iconst 1, 1) := by decide +kernel
theorem dL_isKnown_40 : decode cL_isKnown 40 = .ok (.aload_n 0, 1) := by decide +kernel
theorem dL_isKnown_41 : decode cL_isKnown 41 = .ok (.getfield 10, 3) := by decide +kernel
theorem dL_isKnown_44 : decode cL_isKnown 44 = .ok (.iload_n 3, 1) := by decide +kernel
theorem dL_isKnown_45 : decode cL_isKnown 45 = .ok (.iconst 0, 1) := by decide +kernel
theorem dL_isKnown_46 : decode cL_isKnown 46 = .ok (.invokevirtual 86, 3) := by decide +kernel
theorem dL_isKnown_49 : decode cL_isKnown 49 = .ok (.ishl, 1) := by decide +kernel
theorem dL_isKnown_50 : decode cL_isKnown 50 = .ok (.ior, 1) := by decide +kernel
theorem dL_isKnown_51 : decode cL_isKnown 51 = .ok (.istore_n 2, 1) := by decide +kernel
theorem dL_isKnown_52 : decode cL_isKnown 52 = .ok (.iinc 3 1, 3) := by decide +kernel
theorem dL_isKnown_55 : decode cL_isKnown 55 = .ok (.goto (-41), 3) := by decide +kernel
theorem dL_isKnown_58 : decode cL_isKnown 58 = .ok (.aload_n 0, 1) := by decide +kernel
theorem dL_isKnown_59 : decode cL_isKnown 59 = .ok (.getfield 10, 3) := by decide +kernel
theorem dL_isKnown_62 : decode cL_isKnown 62 = .ok (.iload_n 1, 1) := by decide +kernel
theorem dL_isKnown_63 : decode cL_isKnown 63 = .ok (.invokevirtual 139, 3) := by decide +kernel
theorem dL_isKnown_66 : decode cL_isKnown 66 = .ok (.iload_n 2, 1) := by decide +kernel
theorem dL_isKnown_67 : decode cL_isKnown 67 = .ok (.if_icmp .ne 32, 3) := by decide +kernel
theorem dL_isKnown_70 : decode cL_isKnown 70 = .ok (.aload_n 0, 1) := by decide +kernel
theorem dL_isKnown_71 : decode cL_isKnown 71 = .ok (.getfield 10, 3) := by decide +kernel
theorem dL_isKnown_74 : decode cL_isKnown 74 = .ok (.iload_n 1, 1) := by decide +kernel
theorem dL_isKnown_75 : decode cL_isKnown 75 = .ok (.iconst 5, 1) := by decide +kernel
theorem dL_isKnown_76 : decode cL_isKnown 76 = .ok (.invokevirtual 114, 3) := by decide +kernel
theorem dL_isKnown_79 : decode cL_isKnown 79 = .ok (.ifCond .ne 7, 3) := by decide +kernel
theorem dL_isKnown_82 : decode cL_isKnown 82 = .ok (.iconst 1, 1) := by decide +kernel
theorem dL_isKnown_83 : decode cL_isKnown 83 = .ok (.goto 4, 3) := by decide +kernel
theorem dL_isKnown_86 : decode cL_isKnown 86 = .ok (.iconst 0, 1) := by decide +kernel
theorem dL_isKnown_87 : decode cL_isKnown 87 = .ok (.iload_n 2, 1) := by decide +kernel
theorem dL_isKnown_88 : decode cL_isKnown 88 = .ok (.ifCond .ne 7, 3) := by decide +kernel
theorem dL_isKnown_91 : decode cL_isKnown 91 = .ok (.iconst 1, 1) := by decide +kernel
theorem dL_isKnown_92 : decode cL_isKnown 92 = .ok (.goto 4, 3) := by decide +kernel
theorem dL_isKnown_95 : decode cL_isKnown 95 = .ok (.iconst 0, 1) := by decide +kernel
theorem dL_isKnown_96 : decode cL_isKnown 96 = .ok (.if_icmp .eq 5, 3) := by decide +kernel
theorem dL_isKnown_99 : decode cL_isKnown 99 = .ok (.iconst 0, 1) := by decide +kernel
theorem dL_isKnown_100 : decode cL_isKnown 100 = .ok (.ireturn, 1) := by decide +kernel
theorem dL_isKnown_101 : decode cL_isKnown 101 = .ok (.iinc 1 1, 3) := by decide +kernel
theorem dL_isKnown_104 : decode cL_isKnown 104 = .ok (.goto (-102), 3) := by decide +kernel
theorem dL_isKnown_107 : decode cL_isKnown 107 = .ok (.iconst 1, 1) := by decide +kernel
theorem dL_isKnown_108 : decode cL_isKnown 108 = .ok (.ireturn, 1) := by decide +kernel
theorem dL_back_0 : decode cL_back 0 = .ok (.aload_n 0, 1) := by decide +kernel
theorem dL_back_1 : decode cL_back 1 = .ok (.iload_n 1, 1) := by decide +kernel
theorem dL_back_2 : decode cL_back 2 = .ok (.iload_n 2, 1) := by decide +kernel
theorem dL_back_3 : decode cL_back 3 = .ok (.invokevirtual 142, 3) := by decide +kernel
theorem dL_back_6 : decode cL_back 6 = .ok (.ireturn, 1) := by decide +kernel
theorem dL_back_7 : decode cL_back 7 = .ok (.astore_n 3, 1) := by decide +kernel
theorem dL_back_8 : decode cL_back 8 = .ok (.iconst (-1), 1) := by decide +kernel
theorem dL_back_9 : decode cL_back 9 = .ok (.ireturn, 1) := by decide +kernel
theorem dL_isReturned_0 : decode cL_isReturned 0 = .ok (.aload_n 0, 1) := by decide +kernel
theorem dL_isReturned_1 : decode cL_isReturned 1 = .ok (.getfield 56, 3) := by decide +kernel
theorem dL_isReturned_4 : decode cL_isReturned 4 = .ok (.ifCond .ne 7, 3) := by decide +kernel
theorem dL_isReturned_7 : decode cL_isReturned 7 = .ok (.iconst 0, 1) := by decide +kernel
theorem dL_isReturned_8 : decode cL_isReturned 8 = .ok (.goto 14, 3) := by decide +kernel
theorem dL_isReturned_11 : decode cL_isReturned 11 = .ok (.aload_n 0, 1) := by decide +kernel
theorem dL_isReturned_12 : decode cL_isReturned 12 = .ok (.getfield 21, 3) := by decide +kernel
theorem dL_isReturned_15 : decode cL_isReturned 15 = .ok (.aload_n 0, 1) := by decide +kernel
theorem dL_isReturned_16 : decode cL_isReturned 16 = .ok (.getfield 56, 3) := by decide +kernel
theorem dL_isReturned_19 : decode cL_isReturned 19 = .ok (.invokevirtual 25, 3) := by decide +kernel
theorem dL_isReturned_22 : decode cL_isReturned 22 = .ok (.istore_n 1, 1) := by decide +kernel
theorem dL_isReturned_23 : decode cL_isReturned 23 = .ok (.aload_n 0, 1) := by decide +kernel
theorem dL_isReturned_24 : decode cL_isReturned 24 = .ok (.getfield 56, 3) := by decide +kernel
theorem dL_isReturned_27 : decode cL_isReturned 27 = .ok (.ifCond .ne 7, 3) := by decide +kernel
theorem dL_isReturned_30 : decode cL_isReturned 30 = .ok (.iconst 0, 1) := by decide +kernel
theorem dL_isReturned_31 : decode cL_isReturned 31 = .ok (.goto 12, 3) := by decide +kernel
theorem dL_isReturned_34 : decode cL_isReturned 34 = .ok (.aload_n 0, 1) := by decide +kernel
theorem dL_isReturned_35 : decode cL_isReturned 35 = .ok (.getfield 10, 3) := by decide +kernel
theorem dL_isReturned_38 : decode cL_isReturned 38 = .ok (.iload_n 1, 1) := by decide +kernel
theorem dL_isReturned_39 : decode cL_isReturned 39 = .ok (.iconst 1, 1) := by decide +kernel
theorem dL_isReturned_40 : decode cL_isReturned 40 = .ok (.invokevirtual 114, 3) := by decide +kernel
theorem dL_isReturned_43 : decode cL_isReturned 43 = .ok (.istore_n 2, 1) := by decide +kernel
theorem dL_isReturned_44 : decode cL_isReturned 44 = .ok (.aload_n 0, 1) := by decide +kernel
theorem dL_isReturned_45 : decode cL_isReturned 45 = .ok (.getfield 56, 3) := by decide +kernel
theorem dL_isReturned_48 : decode cL_isReturned 48 = .ok (.ifCond .le 18, 3) := by decide +kernel
theorem dL_isReturned_51 : decode cL_isReturned 51 = .ok (.aload_n 0, 1) := by decide +kernel
theorem dL_isReturned_52 : decode cL_isReturned 52 = .ok (.getfield 21, 3) := by decide +kernel
theorem dL_isReturned_55 : decode cL_isReturned 55 = .ok (.iconst 2, 1) := by decide +kernel
theorem dL_isReturned_56 : decode cL_isReturned 56 = .ok (.invokevirtual 25, 3) := by decide +kernel
theorem dL_isReturned_59 : decode cL_isReturned 59 = .ok (.ifCond .ne 7, 3) := by decide +kernel
theorem dL_isReturned_62 : decode cL_isReturned 62 = .ok (.iconst 1, 1) := by decide +kernel
theorem dL_isReturned_63 : decode cL_isReturned 63 = .ok (.goto 4, 3) := by decide +kernel
theorem dL_isReturned_66 : decode cL_isReturned 66 = .ok (.iconst 0, 1) := by decide +kernel
theorem dL_isReturned_67 : decode cL_isReturned 67 = .ok (.istore_n 3, 1) := by decide +kernel
theorem dL_isReturned_68 : decode cL_isReturned 68 = .ok (.iload_n 3, 1) := by decide +kernel
theorem dL_isReturned_69 : decode cL_isReturned 69 = .ok (.ifCond .eq 42, 3) := by decide +kernel
theorem dL_isReturned_72 : decode cL_isReturned 72 = .ok (.aload_n 0, 1) := by decide +kernel
theorem dL_isReturned_73 : decode cL_isReturned 73 = .ok (.getfield 10, 3) := by decide +kernel
theorem dL_isReturned_76 : decode cL_isReturned 76 = .ok (.iload_n 1, 1) := by decide +kernel
theorem dL_isReturned_77 : decode cL_isReturned 77 = .ok (.invokevirtual 147, 3) := by decide +kernel
theorem dL_isReturned_80 : decode cL_isReturned 80 = .ok (.iload_n 2, 1) := by decide +kernel
theorem dL_isReturned_81 : decode cL_isReturned 81 = .ok (.if_icmp .ne 28, 3) := by decide +kernel
theorem dL_isReturned_84 : decode cL_isReturned 84 = .ok (.aload_n 0, 1) := by decide +kernel
theorem dL_isReturned_85 : decode cL_isReturned 85 = .ok (.getfield 10, 3) := by decide +kernel
theorem dL_isReturned_88 : decode cL_isReturned 88 = .ok (.iload_n 1, 1) := by decide +kernel
theorem dL_isReturned_89 : decode cL_isReturned 89 = .ok (.iconst 1, 1) := by decide +kernel
theorem dL_isReturned_90 : decode cL_isReturned 90 = .ok (.invokevirtual 114, 3) := by decide +kernel
theorem dL_isReturned_93 : decode cL_isReturned 93 = .ok (.ifCond .ne 16, 3) := by decide +kernel
theorem dL_isReturned_96 : decode cL_isReturned 96 = .ok (.aload_n 0, 1) := by decide +kernel
theorem dL_isReturned_97 : decode cL_isReturned 97 = .ok (.getfield 10, 3) := by decide +kernel
theorem dL_isReturned_100 : decode cL_isReturned 100 = .ok (.iload_n 1, 1) := by decide +kernel
theorem dL_isReturned_101 : decode cL_isReturned 101 = .ok (.iconst 4, 1) := by decide +kernel
theorem dL_isReturned_102 : decode cL_isReturned 102 = .ok (.invokevirtual 114, 3) := by decide +kernel
theorem dL_isReturned_105 : decode cL_isReturned 105 = .ok (.iconst 2, 1) := by decide +kernel
theorem dL_isReturned_106 : decode cL_isReturned 106 = .ok (.if_icmp .eq 5, 3) := by decide +kernel
theorem dL_isReturned_109 : decode cL_isReturned 109 = .ok (.iconst 0, 1) := by decide +kernel
theorem dL_isReturned_110 : decode cL_isReturned 110 = .ok (.ireturn, 1) := by decide +kernel
theorem dL_isReturned_111 : decode cL_isReturned 111 = .ok (.aload_n 0, 1) := by decide +kernel
theorem dL_isReturned_112 : decode cL_isReturned 112 = .ok (.getfield 21, 3) := by decide +kernel
theorem dL_isReturned_115 : decode cL_isReturned 115 = .ok (.aload_n 0, 1) := by decide +kernel
theorem dL_isReturned_116 : decode cL_isReturned 116 = .ok (.getfield 63, 3) := by decide +kernel
theorem dL_isReturned_119 : decode cL_isReturned 119 = .ok (.invokevirtual 25, 3) := by decide +kernel
theorem dL_isReturned_122 : decode cL_isReturned 122 = .ok (.istore 4, 2) := by decide +kernel
theorem dL_isReturned_124 : decode cL_isReturned 124 = .ok (.aload_n 0, 1) := by decide +kernel
theorem dL_isReturned_125 : decode cL_isReturned 125 = .ok (.getfield 10, 3) := by decide +kernel
theorem dL_isReturned_128 : decode cL_isReturned 128 = .ok (.iload 4, 2) := by decide +kernel
theorem dL_isReturned_130 : decode cL_isReturned 130 = .ok (.iconst 3, 1) := by decide +kernel
theorem dL_isReturned_131 : decode cL_isReturned 131 = .ok (.invokevirtual 86, 3) := by decide +kernel
theorem dL_isReturned_134 : decode cL_isReturned 134 = .ok (.istore 5, 2) := by decide +kernel
theorem dL_isReturned_136 : decode cL_isReturned 136 = .ok (.aload_n 0, 1) := by decide +kernel
theorem dL_isReturned_137 : decode cL_isReturned 137 = .ok (.getfield 10, 3) := by decide +kernel
theorem dL_isReturned_140 : decode cL_isReturned 140 = .ok (.invokevirtual 150, 3) := by decide +kernel
theorem dL_isReturned_143 : decode cL_isReturned 143 = .ok (.lstore 6, 2) := by decide +kernel
theorem dL_isReturned_145 : decode cL_isReturned 145 = .ok (.iconst 1, 1) := by decide +kernel
theorem dL_isReturned_146 : decode cL_isReturned 146 = .ok (.aload_n 0, 1) := by decide +kernel
theorem dL_isReturned_147 : decode cL_isReturned 147 = .ok (.getfield 21, 3) := by decide +kernel
theorem dL_isReturned_150 : decode cL_isReturned 150 = .ok (.iconst 4, 1) := by decide +kernel
theorem dL_isReturned_151 : decode cL_isReturned 151 = .ok (.invokevirtual 25, 3) := by decide +kernel
theorem dL_isReturned_154 : decode cL_isReturned 154 = .ok (.iadd, 1) := by decide +kernel
theorem dL_isReturned_155 : decode cL_isReturned 155 = .ok (.istore 8, 2) := by decide +kernel
theorem dL_isReturned_157 : decode cL_isReturned 157 = .ok (.aload_n 0, 1) := by decide +kernel
theorem dL_isReturned_158 : decode cL_isReturned 158 = .ok (.getfield 10, 3) := by decide +kernel
theorem dL_isReturned_161 : decode cL_isReturned 161 = .ok (.iload 4, 2) := by decide +kernel
theorem dL_isReturned_163 : decode cL_isReturned 163 = .ok (.iload 8, 2) := by decide +kernel
theorem dL_isReturned_165 : decode cL_isReturned 165 = .ok (.invokestatic 154, 3) := by decide +kernel
theorem dL_isReturned_168 : decode cL_isReturned 168 = .ok (.istore 9, 2) := by decide +kernel
theorem dL_isReturned_170 : decode cL_isReturned 170 = .ok (.iload 5, 2) := by decide +kernel
theorem dL_isReturned_172 : decode cL_isReturned 172 = .ok (.iload 8, 2) := by decide +kernel
theorem dL_isReturned_174 : decode cL_isReturned 174 = .ok (.if_icmp .ge 9, 3) := by decide +kernel
theorem dL_isReturned_177 : decode cL_isReturned 177 = .ok (.iload 9, 2) := by decide +kernel
theorem dL_isReturned_179 : decode cL_isReturned 179 = .ok (.iconst (-1), 1) := by decide +kernel
theorem dL_isReturned_180 : decode cL_isReturned 180 = .ok (.if_icmp .ne 22, 3) := by decide +kernel
theorem dL_isReturned_183 : decode cL_isReturned 183 = .ok (.iload 9, 2) := by decide +kernel
theorem dL_isReturned_185 : decode cL_isReturned 185 = .ok (.iconst (-1), 1) := by decide +kernel
theorem dL_isReturned_186 : decode cL_isReturned 186 = .ok (.if_icmp .ne 18, 3) := by decide +kernel
theorem dL_isReturned_189 : decode cL_isReturned 189 = .ok (.aload_n 0, 1) := by decide +kernel
theorem dL_isReturned_190 : decode cL_isReturned 190 = .ok (.getfield 10, 3) := by decide +kernel
theorem dL_isReturned_193 : decode cL_isReturned 193 = .ok (.invokevirtual 150, 3) := by decide +kernel
theorem dL_isReturned_196 : decode cL_isReturned 196 = .ok (.lload 6, 2) := by decide +kernel
theorem dL_isReturned_198 : decode cL_isReturned 198 = .ok (.lcmp, 1) := by decide +kernel
theorem dL_isReturned_199 : decode cL_isReturned 199 = .ok (.ifCond .eq 5, 3) := by decide +kernel
theorem dL_isReturned_202 : decode cL_isReturned 202 = .ok (.iconst 0, 1) := by decide +kernel
theorem dL_isReturned_203 : decode cL_isReturned 203 = .ok (.ireturn, 1) := by decide +kernel
theorem dL_isReturned_204 : decode cL_isReturned 204 = .ok (.iload 9, 2) := by decide +kernel
theorem dL_isReturned_206 : decode cL_isReturned 206 = .ok (.iconst (-1), 1) := by decide +kernel
theorem dL_isReturned_207 : decode cL_isReturned 207 = .ok (.if_icmp .eq 30, 3) := by decide +kernel
theorem dL_isReturned_210 : decode cL_isReturned 210 = .ok (.aload_n 0, 1) := by decide +kernel
theorem dL_isReturned_211 : decode cL_isReturned 211 = .ok (.getfield 10, 3) := by decide +kernel
theorem dL_isReturned_214 : decode cL_isReturned 214 = .ok (.iload 4, 2) := by decide +kernel
theorem dL_isReturned_216 : decode cL_isReturned 216 = .ok (.iconst 3, 1) := by decide +kernel
theorem dL_isReturned_217 : decode cL_isReturned 217 = .ok (.invokevirtual 86, 3) := by decide +kernel
theorem dL_isReturned_220 : decode cL_isReturned 220 = .ok (.iload 5, 2) := by decide +kernel
theorem dL_isReturned_222 : decode cL_isReturned 222 = .ok (.iload 8, 2) := by decide +kernel
theorem dL_isReturned_224 : decode cL_isReturned 224 = .ok (.isub, 1) := by decide +kernel
theorem dL_isReturned_225 : decode cL_isReturned 225 = .ok (.if_icmp .ne 10, 3) := by decide +kernel
theorem dL_isReturned_228 : decode cL_isReturned 228 = .ok (.iload 9, 2) := by decide +kernel
theorem dL_isReturned_230 : decode cL_isReturned 230 = .ok (.iload 8, 2) := by decide +kernel
theorem dL_isReturned_232 : decode cL_isReturned 232 = .ok (.if_icmp .le 5, 3) := by decide +kernel
theorem dL_isReturned_235 : decode cL_isReturned 235 = .ok (.iconst 0, 1) := by decide +kernel
theorem dL_isReturned_236 : decode cL_isReturned 236 = .ok (.ireturn, 1) := by decide +kernel
theorem dL_isReturned_237 : decode cL_isReturned 237 = .ok (.aload_n 0, 1) := by decide +kernel
theorem dL_isReturned_238 : decode cL_isReturned 238 = .ok (.invokevirtual 158, 3) := by decide +kernel
theorem dL_isReturned_241 : decode cL_isReturned 241 = .ok (.ifCond .eq 10, 3) := by decide +kernel
theorem dL_isReturned_244 : decode cL_isReturned 244 = .ok (.aload_n 0, 1) := by decide +kernel
theorem dL_isReturned_245 : decode cL_isReturned 245 = .ok (.invokevirtual 107, 3) := by decide +kernel
theorem dL_isReturned_248 : decode cL_isReturned 248 = .ok (.ifCond .ne 5, 3) := by decide +kernel
theorem dL_isReturned_251 : decode cL_isReturned 251 = .ok (.iconst 0, 1) := by decide +kernel
theorem dL_isReturned_252 : decode cL_isReturned 252 = .ok (.ireturn, 1) := by decide +kernel
theorem dL_isReturned_253 : decode cL_isReturned 253 = .ok (.aload_n 0, 1) := by decide +kernel
theorem dL_isReturned_254 : decode cL_isReturned 254 = .ok (.getfield 21, 3) := by decide +kernel
theorem dL_isReturned_257 : decode cL_isReturned 257 = .ok (.aload_n 0, 1) := by decide +kernel
theorem dL_isReturned_258 : decode cL_isReturned 258 = .ok (.getfield 29, 3) := by decide +kernel
theorem dL_isReturned_261 : decode cL_isReturned 261 = .ok (.aload_n 0, 1) := by decide +kernel
theorem dL_isReturned_262 : decode cL_isReturned 262 = .ok (.getfield 33, 3) := by decide +kernel
theorem dL_isReturned_265 : decode cL_isReturned 265 = .ok (.imul, 1) := by decide +kernel
theorem dL_isReturned_266 : decode cL_isReturned 266 = .ok (.invokevirtual 25, 3) := by decide +kernel
theorem dL_isReturned_269 : decode cL_isReturned 269 = .ok (.istore 10, 2) := by decide +kernel
theorem dL_isReturned_271 : decode cL_isReturned 271 = .ok (.aload_n 0, 1) := by decide +kernel
theorem dL_isReturned_272 : decode cL_isReturned 272 = .ok (.getfield 10, 3) := by decide +kernel
theorem dL_isReturned_275 : decode cL_isReturned 275 = .ok (.iload 10, 2) := by decide +kernel
theorem dL_isReturned_277 : decode cL_isReturned 277 = .ok (.iconst 1, 1) := by decide +kernel
theorem dL_isReturned_278 : decode cL_isReturned 278 = .ok (.invokevirtual 73, 3) := by decide +kernel
theorem dL_isReturned_281 : decode cL_isReturned 281 = .ok (.ifCond .ne 5, 3) := by decide +kernel
theorem dL_isReturned_284 : decode cL_isReturned 284 = .ok (.iconst 1, 1) := by decide +kernel
theorem dL_isReturned_285 : decode cL_isReturned 285 = .ok (.ireturn, 1) := by decide +kernel
theorem dL_isReturned_286 : decode cL_isReturned 286 = .ok (.aload_n 0, 1) := by decide +kernel
theorem dL_isReturned_287 : decode cL_isReturned 287 = .ok (.getfield 10, 3) := by decide +kernel
theorem dL_isReturned_290 : decode cL_isReturned 290 = .ok (.invokevirtual 150, 3) := by decide +kernel
theorem dL_isReturned_293 : decode cL_isReturned 293 = .ok (.lstore 6, 2) := by decide +kernel
theorem dL_isReturned_295 : decode cL_isReturned 295 = .ok (.aload_n 0, 1) := by decide +kernel
theorem dL_isReturned_296 : decode cL_isReturned 296 = .ok (.getfield 21, 3) := by decide +kernel
theorem dL_isReturned_299 : decode cL_isReturned 299 = .ok (.iconst 2, 1) := by decide +kernel
theorem dL_isReturned_300 : decode cL_isReturned 300 = .ok (.invokevirtual 25, 3) := by decide +kernel
theorem dL_isReturned_303 : decode cL_isReturned 303 = .ok (.ifCond .ne 7, 3) := by decide +kernel
theorem dL_isReturned_306 : decode cL_isReturned 306 = .ok (.iconst 0, 1) := by decide +kernel
theorem dL_isReturned_307 : decode cL_isReturned 307 = .ok (.goto 4, 3) := by decide +kernel
theorem dL_isReturned_310 : decode cL_isReturned 310 = .ok (.iconst 1, 1) := by decide +kernel
theorem dL_isReturned_311 : decode cL_isReturned 311 = .ok (.istore 11, 2) := by decide +kernel
theorem dL_isReturned_313 : decode cL_isReturned 313 = .ok (.aload_n 0, 1) := by decide +kernel
theorem dL_isReturned_314 : decode cL_isReturned 314 = .ok (.getfield 10, 3) := by decide +kernel
theorem dL_isReturned_317 : decode cL_isReturned 317 = .ok (.iload 10, 2) := by decide +kernel
theorem dL_isReturned_319 : decode cL_isReturned 319 = .ok (.iload 11, 2) := by decide +kernel
theorem dL_isReturned_321 : decode cL_isReturned 321 = .ok (.invokevirtual 161, 3) := by decide +kernel
theorem dL_isReturned_324 : decode cL_isReturned 324 = .ok (.istore 12, 2) := by decide +kernel
theorem dL_isReturned_326 : decode cL_isReturned 326 = .ok (.aload_n 0, 1) := by decide +kernel
theorem dL_isReturned_327 : decode cL_isReturned 327 = .ok (.getfield 10, 3) := by decide +kernel
theorem dL_isReturned_330 : decode cL_isReturned 330 = .ok (.iload 10, 2) := by decide +kernel
theorem dL_isReturned_332 : decode cL_isReturned 332 = .ok (.iconst 1, 1) := by decide +kernel
theorem dL_isReturned_333 : decode cL_isReturned 333 = .ok (.invokevirtual 73, 3) := by decide +kernel
theorem dL_isReturned_336 : decode cL_isReturned 336 = .ok (.iload 11, 2) := by decide +kernel
theorem dL_isReturned_338 : decode cL_isReturned 338 = .ok (.if_icmp .ne 42, 3) := by decide +kernel
theorem dL_isReturned_341 : decode cL_isReturned 341 = .ok (.aload_n 0, 1) := by decide +kernel
theorem dL_isReturned_342 : decode cL_isReturned 342 = .ok (.invokevirtual 107, 3) := by decide +kernel
theorem dL_isReturned_345 : decode cL_isReturned 345 = .ok (.ifCond .eq 35, 3) := by decide +kernel
theorem dL_isReturned_348 : decode cL_isReturned 348 = .ok (.aload_n 0, 1) := by decide +kernel
theorem dL_isReturned_349 : decode cL_isReturned 349 = .ok (.getfield 10, 3) := by decide +kernel
theorem dL_isReturned_352 : decode cL_isReturned 352 = .ok (.iload 10, 2) := by decide +kernel
theorem dL_isReturned_354 : decode cL_isReturned 354 = .ok (.iconst 0, 1) := by decide +kernel
theorem dL_isReturned_355 : decode cL_isReturned 355 = .ok (.invokevirtual 73, 3) := by decide +kernel
theorem dL_isReturned_358 : decode cL_isReturned 358 = .ok (.iconst (-1), 1) := by decide +kernel
theorem dL_isReturned_359 : decode cL_isReturned 359 = .ok (.if_icmp .ne 7, 3) := by decide +kernel
theorem dL_isReturned_362 : decode cL_isReturned 362 = .ok (.iconst 1, 1) := by decide +kernel
theorem dL_isReturned_363 : decode cL_isReturned 363 = .ok (.goto 4, 3) := by decide +kernel
theorem dL_isReturned_366 : decode cL_isReturned 366 = .ok (.iconst 0, 1) := by decide +kernel
theorem dL_isReturned_367 : decode cL_isReturned 367 = .ok (.iload 11, 2) := by decide +kernel
theorem dL_isReturned_369 : decode cL_isReturned 369 = .ok (.ifCond .ne 7, 3) := by decide +kernel
theorem dL_isReturned_372 : decode cL_isReturned 372 = .ok (.iconst 1, 1) := by decide +kernel
theorem dL_isReturned_373 : decode cL_isReturned 373 = .ok (.goto 4, 3) := by decide +kernel
theorem dL_isReturned_376 : decode cL_isReturned 376 = .ok (.iconst 0, 1) := by decide +kernel
theorem dL_isReturned_377 : decode cL_isReturned 377 = .ok (.if_icmp .eq 5, 3) := by decide +kernel
theorem dL_isReturned_380 : decode cL_isReturned 380 = .ok (.iconst 0, 1) := by decide +kernel
theorem dL_isReturned_381 : decode cL_isReturned 381 = .ok (.ireturn, 1) := by decide +kernel
theorem dL_isReturned_382 : decode cL_isReturned 382 = .ok (.aload_n 0, 1) := by decide +kernel
theorem dL_isReturned_383 : decode cL_isReturned 383 = .ok (.getfield 10, 3) := by decide +kernel
theorem dL_isReturned_386 : decode cL_isReturned 386 = .ok (.invokevirtual 164, 3) := by decide +kernel
theorem dL_isReturned_389 : decode cL_isReturned 389 = .ok (.ifCond .lt 45, 3) := by decide +kernel
theorem dL_isReturned_392 : decode cL_isReturned 392 = .ok (.aload_n 0, 1) := by decide +kernel
theorem dL_isReturned_393 : decode cL_isReturned 393 = .ok (.getfield 10, 3) := by decide +kernel
theorem dL_isReturned_396 : decode cL_isReturned 396 = .ok (.invokevirtual 150, 3) := by decide +kernel
theorem dL_isReturned_399 : decode cL_isReturned 399 = .ok (.lload 6, 2) := by decide +kernel
theorem dL_isReturned_401 : decode cL_isReturned 401 = .ok (.lcmp, 1) := by decide +kernel
theorem dL_isReturned_402 : decode cL_isReturned 402 = .ok (.ifCond .ne 32, 3) := by decide +kernel
theorem dL_isReturned_405 : decode cL_isReturned 405 = .ok (.aload_n 0, 1) := by decide +kernel
theorem dL_isReturned_406 : decode cL_isReturned 406 = .ok (.getfield 10, 3) := by decide +kernel
theorem dL_isReturned_409 : decode cL_isReturned 409 = .ok (.iload 10, 2) := by decide +kernel
theorem dL_isReturned_411 : decode cL_isReturned 411 = .ok (.iconst 1, 1) := by decide +kernel
theorem dL_isReturned_412 : decode cL_isReturned 412 = .ok (.invokevirtual 73, 3) := by decide +kernel
theorem dL_isReturned_415 : decode cL_isReturned 415 = .ok (.iload 11, 2) := by decide +kernel
theorem dL_isReturned_417 : decode cL_isReturned 417 = .ok (.iload 12, 2) := by decide +kernel
theorem dL_isReturned_419 : decode cL_isReturned 419 = .ok (.isub, 1) := by decide +kernel
theorem dL_isReturned_420 : decode cL_isReturned 420 = .ok (.if_icmp .ne 14, 3) := by decide +kernel
theorem dL_isReturned_423 : decode cL_isReturned 423 = .ok (.aload_n 0, 1) := by decide +kernel
theorem dL_isReturned_424 : decode cL_isReturned 424 = .ok (.invokevirtual 107, 3) := by decide +kernel
theorem dL_isReturned_427 : decode cL_isReturned 427 = .ok (.ifCond .eq 7, 3) := by decide +kernel
theorem dL_isReturned_430 : decode cL_isReturned 430 = .ok (.iconst 1, 1) := by decide +kernel
theorem dL_isReturned_431 : decode cL_isReturned 431 = .ok (.goto 4, 3) := by decide +kernel
theorem dL_isReturned_434 : decode cL_isReturned 434 = .ok (.iconst 0, 1) := by decide +kernel
theorem dL_isReturned_435 : decode cL_isReturned 435 = .ok (.ireturn, 1) := by decide +kernel
theorem dL_isBoxed_0 : decode cL_isBoxed 0 = .ok (.iconst 0, 1) := by decide +kernel
theorem dL_isBoxed_1 : decode cL_isBoxed 1 = .ok (.istore_n 1, 1) := by decide +kernel
theorem dL_isBoxed_2 : decode cL_isBoxed 2 = .ok (.aload_n 0, 1) := by decide +kernel
theorem dL_isBoxed_3 : decode cL_isBoxed 3 = .ok (.getfield 10, 3) := by decide +kernel
theorem dL_isBoxed_6 : decode cL_isBoxed 6 = .ok (.invokevirtual 167, 3) := by decide +kernel
theorem dL_isBoxed_9 : decode cL_isBoxed 9 = .ok (.istore_n 2, 1) := by decide +kernel
theorem dL_isBoxed_10 : decode cL_isBoxed 10 = .ok (.iconst 1, 1) := by decide +kernel
theorem dL_isBoxed_11 : decode cL_isBoxed 11 = .ok (.aload_n 0, 1) := by decide +kernel
theorem dL_isBoxed_12 : decode cL_isBoxed 12 = .ok (.getfield 21, 3) := by decide +kernel
theorem dL_isBoxed_15 : decode cL_isBoxed 15 = .ok (.bipush 8, 2) := by decide +kernel
theorem dL_isBoxed_17 : decode cL_isBoxed 17 = .ok (.invokevirtual 25, 3) := by decide +kernel
theorem dL_isBoxed_20 : decode cL_isBoxed 20 = .ok (.iadd, 1) := by decide +kernel
theorem dL_isBoxed_21 : decode cL_isBoxed 21 = .ok (.istore_n 2, 1) := by decide +kernel
theorem dL_isBoxed_22 : decode cL_isBoxed 22 = .ok (.iconst 1, 1) := by decide +kernel
theorem dL_isBoxed_23 : decode cL_isBoxed 23 = .ok (.istore_n 3, 1) := by decide +kernel
theorem dL_isBoxed_24 : decode cL_isBoxed 24 = .ok (.iload_n 3, 1) := by decide +kernel
theorem dL_isBoxed_25 : decode cL_isBoxed 25 = .ok (.iload_n 2, 1) := by decide +kernel
theorem dL_isBoxed_26 : decode cL_isBoxed 26 = .ok (.if_icmp .gt 44, 3) := by decide +kernel
theorem dL_isBoxed_29 : decode cL_isBoxed 29 = .ok (.iconst 1, 1) := by decide +kernel
theorem dL_isBoxed_30 : decode cL_isBoxed 30 = .ok (.aload_n 0, 1) := by decide +kernel
theorem dL_isBoxed_31 : decode cL_isBoxed 31 = .ok (.getfield 21, 3) := by decide +kernel
theorem dL_isBoxed_34 : decode cL_isBoxed 34 = .ok (.bipush 20, 2) := by decide +kernel
theorem dL_isBoxed_36 : decode cL_isBoxed 36 = .ok (.invokevirtual 25, 3) := by decide +kernel
theorem dL_isBoxed_39 : decode cL_isBoxed 39 = .ok (.iadd, 1) := by decide +kernel
theorem dL_isBoxed_40 : decode cL_isBoxed 40 = .ok (.istore 4, 2) := by decide +kernel
theorem dL_isBoxed_42 : decode cL_isBoxed 42 = .ok (.iload_n 1, 1) := by decide +kernel
theorem dL_isBoxed_43 : decode cL_isBoxed 43 = .ok (.iload 4, 2) := by decide +kernel
theorem dL_isBoxed_45 : decode cL_isBoxed 45 = .ok (.invokestatic 92, 3) := by decide +kernel
theorem dL_isBoxed_48 : decode cL_isBoxed 48 = .ok (.istore_n 1, 1) := by decide +kernel
theorem dL_isBoxed_49 : decode cL_isBoxed 49 = .ok (.aload_n 0, 1) := by decide +kernel
theorem dL_isBoxed_50 : decode cL_isBoxed 50 = .ok (.getfield 10, 3) := by decide +kernel
theorem dL_isBoxed_53 : decode cL_isBoxed 53 = .ok (.iload 4, 2) := by decide +kernel
theorem dL_isBoxed_55 : decode cL_isBoxed 55 = .ok (.invokevirtual 170, 3) := by decide +kernel
theorem dL_isBoxed_58 : decode cL_isBoxed 58 = .ok (.iload_n 3, 1) := by decide +kernel
theorem dL_isBoxed_59 : decode cL_isBoxed 59 = .ok (.if_icmp .eq 5, 3) := by decide +kernel
theorem dL_isBoxed_62 : decode cL_isBoxed 62 = .ok (.iconst 0, 1) := by decide +kernel
theorem dL_isBoxed_63 : decode cL_isBoxed 63 = .ok (.ireturn, 1) := by decide +kernel
theorem dL_isBoxed_64 : decode cL_isBoxed 64 = .ok (.iinc 3 1, 3) := by decide +kernel
theorem dL_isBoxed_67 : decode cL_isBoxed 67 = .ok (.goto (-43), 3) := by decide +kernel
theorem dL_isBoxed_70 : decode cL_isBoxed 70 = .ok (.iload_n 1, 1) := by decide +kernel
theorem dL_isBoxed_71 : decode cL_isBoxed 71 = .ok (.aload_n 0, 1) := by decide +kernel
theorem dL_isBoxed_72 : decode cL_isBoxed 72 = .ok (.getfield 21, 3) := by decide +kernel
theorem dL_isBoxed_75 : decode cL_isBoxed 75 = .ok (.bipush 41, 2) := by decide +kernel
theorem dL_isBoxed_77 : decode cL_isBoxed 77 = .ok (.iload_n 1, 1) := by decide +kernel
theorem dL_isBoxed_78 : decode cL_isBoxed 78 = .ok (.isub, 1) := by decide +kernel
theorem dL_isBoxed_79 : decode cL_isBoxed 79 = .ok (.invokevirtual 25, 3) := by decide +kernel
theorem dL_isBoxed_82 : decode cL_isBoxed 82 = .ok (.iadd, 1) := by decide +kernel
theorem dL_isBoxed_83 : decode cL_isBoxed 83 = .ok (.istore_n 3, 1) := by decide +kernel
theorem dL_isBoxed_84 : decode cL_isBoxed 84 = .ok (.aload_n 0, 1) := by decide +kernel
theorem dL_isBoxed_85 : decode cL_isBoxed 85 = .ok (.getfield 10, 3) := by decide +kernel
theorem dL_isBoxed_88 : decode cL_isBoxed 88 = .ok (.iload_n 3, 1) := by decide +kernel
theorem dL_isBoxed_89 : decode cL_isBoxed 89 = .ok (.invokevirtual 173, 3) := by decide +kernel
theorem dL_isBoxed_92 : decode cL_isBoxed 92 = .ok (.istore 4, 2) := by decide +kernel
theorem dL_isBoxed_94 : decode cL_isBoxed 94 = .ok (.iload 4, 2) := by decide +kernel
theorem dL_isBoxed_96 : decode cL_isBoxed 96 = .ok (.aload_n 0, 1) := by decide +kernel
theorem dL_isBoxed_97 : decode cL_isBoxed 97 = .ok (.getfield 10, 3) := by decide +kernel
theorem dL_isBoxed_100 : decode cL_isBoxed 100 = .ok (.iload_n 3, 1) := by decide +kernel
theorem dL_isBoxed_101 : decode cL_isBoxed 101 = .ok (.invokevirtual 176, 3) := by decide +kernel
theorem dL_isBoxed_104 : decode cL_isBoxed 104 = .ok (.if_icmp .lt 58, 3) := by decide +kernel
theorem dL_isBoxed_107 : decode cL_isBoxed 107 = .ok (.iload 4, 2) := by decide +kernel
theorem dL_isBoxed_109 : decode cL_isBoxed 109 = .ok (.iload_n 2, 1) := by decide +kernel
theorem dL_isBoxed_110 : decode cL_isBoxed 110 = .ok (.if_icmp .gt 52, 3) := by decide +kernel
theorem dL_isBoxed_113 : decode cL_isBoxed 113 = .ok (.aload_n 0, 1) := by decide +kernel
theorem dL_isBoxed_114 : decode cL_isBoxed 114 = .ok (.getfield 10, 3) := by decide +kernel
theorem dL_isBoxed_117 : decode cL_isBoxed 117 = .ok (.bipush 40, 2) := by decide +kernel
theorem dL_isBoxed_119 : decode cL_isBoxed 119 = .ok (.invokevirtual 173, 3) := by decide +kernel
theorem dL_isBoxed_122 : decode cL_isBoxed 122 = .ok (.iload 4, 2) := by decide +kernel
theorem dL_isBoxed_124 : decode cL_isBoxed 124 = .ok (.if_icmp .gt 38, 3) := by decide +kernel
theorem dL_isBoxed_127 : decode cL_isBoxed 127 = .ok (.iload 4, 2) := by decide +kernel
theorem dL_isBoxed_129 : decode cL_isBoxed 129 = .ok (.iconst 1, 1) := by decide +kernel
theorem dL_isBoxed_130 : decode cL_isBoxed 130 = .ok (.if_icmp .le 7, 3) := by decide +kernel
theorem dL_isBoxed_133 : decode cL_isBoxed 133 = .ok (.iconst 1, 1) := by decide +kernel
theorem dL_isBoxed_134 : decode cL_isBoxed 134 = .ok (.goto 4, 3) := by decide +kernel
theorem dL_isBoxed_137 : decode cL_isBoxed 137 = .ok (.iconst 0, 1) := by decide +kernel
theorem dL_isBoxed_138 : decode cL_isBoxed 138 = .ok (.aload_n 0, 1) := by decide +kernel
theorem dL_isBoxed_139 : decode cL_isBoxed 139 = .ok (.getfield 10, 3) := by decide +kernel
theorem dL_isBoxed_142 : decode cL_isBoxed 142 = .ok (.iload_n 3, 1) := by decide +kernel
theorem dL_isBoxed_143 : decode cL_isBoxed 143 = .ok (.invokevirtual 176, 3) := by decide +kernel
theorem dL_isBoxed_146 : decode cL_isBoxed 146 = .ok (.iconst 1, 1) := by decide +kernel
theorem dL_isBoxed_147 : decode cL_isBoxed 147 = .ok (.if_icmp .le 7, 3) := by decide +kernel
theorem dL_isBoxed_150 : decode cL_isBoxed 150 = .ok (.iconst 1, 1) := by decide +kernel
theorem dL_isBoxed_151 : decode cL_isBoxed 151 = .ok (.goto 4, 3) := by decide +kernel
theorem dL_isBoxed_154 : decode cL_isBoxed 154 = .ok (.iconst 0, 1) := by decide +kernel
theorem dL_isBoxed_155 : decode cL_isBoxed 155 = .ok (.if_icmp .ne 7, 3) := by decide +kernel
theorem dL_isBoxed_158 : decode cL_isBoxed 158 = .ok (.iconst 1, 1) := by decide +kernel
theorem dL_isBoxed_159 : decode cL_isBoxed 159 = .ok (.goto 4, 3) := by decide +kernel
theorem dL_isBoxed_162 : decode cL_isBoxed 162 = .ok (.iconst 0, 1) := by decide +kernel
theorem dL_isBoxed_163 : decode cL_isBoxed 163 = .ok (.ireturn, 1) := by decide +kernel
theorem dL_isPlanned_0 : decode cL_isPlanned 0 = .ok (.aload_n 0, 1) := by decide +kernel
theorem dL_isPlanned_1 : decode cL_isPlanned 1 = .ok (.getfield 21, 3) := by decide +kernel
theorem dL_isPlanned_4 : decode cL_isPlanned 4 = .ok (.bipush 6, 2) := by decide +kernel
theorem dL_isPlanned_6 : decode cL_isPlanned 6 = .ok (.invokevirtual 25, 3) := by decide +kernel
theorem dL_isPlanned_9 : decode cL_isPlanned 9 = .ok (.istore_n 1, 1) := by decide +kernel
theorem dL_isPlanned_10 : decode cL_isPlanned 10 = .ok (.aload_n 0, 1) := by decide +kernel
theorem dL_isPlanned_11 : decode cL_isPlanned 11 = .ok (.getfield 21, 3) := by decide +kernel
theorem dL_isPlanned_14 : decode cL_isPlanned 14 = .ok (.bipush 13, 2) := by decide +kernel
theorem dL_isPlanned_16 : decode cL_isPlanned 16 = .ok (.invokevirtual 25, 3) := by decide +kernel
theorem dL_isPlanned_19 : decode cL_isPlanned 19 = .ok (.istore_n 2, 1) := by decide +kernel
theorem dL_isPlanned_20 : decode cL_isPlanned 20 = .ok (.aload_n 0, 1) := by decide +kernel
theorem dL_isPlanned_21 : decode cL_isPlanned 21 = .ok (.getfield 21, 3) := by decide +kernel
theorem dL_isPlanned_24 : decode cL_isPlanned 24 = .ok (.iconst 2, 1) := by decide +kernel
theorem dL_isPlanned_25 : decode cL_isPlanned 25 = .ok (.invokevirtual 25, 3) := by decide +kernel
theorem dL_isPlanned_28 : decode cL_isPlanned 28 = .ok (.ifCond .ne 15, 3) := by decide +kernel
theorem dL_isPlanned_31 : decode cL_isPlanned 31 = .ok (.aload_n 0, 1) := by decide +kernel
theorem dL_isPlanned_32 : decode cL_isPlanned 32 = .ok (.getfield 21, 3) := by decide +kernel
theorem dL_isPlanned_35 : decode cL_isPlanned 35 = .ok (.bipush 12, 2) := by decide +kernel
theorem dL_isPlanned_37 : decode cL_isPlanned 37 = .ok (.invokevirtual 25, 3) := by decide +kernel
theorem dL_isPlanned_40 : decode cL_isPlanned 40 = .ok (.goto 12, 3) := by decide +kernel
theorem dL_isPlanned_43 : decode cL_isPlanned 43 = .ok (.aload_n 0, 1) := by decide +kernel
theorem dL_isPlanned_44 : decode cL_isPlanned 44 = .ok (.getfield 21, 3) := by decide +kernel
theorem dL_isPlanned_47 : decode cL_isPlanned 47 = .ok (.bipush 100, 2) := by decide +kernel
theorem dL_isPlanned_49 : decode cL_isPlanned 49 = .ok (.invokevirtual 25, 3) := by decide +kernel
theorem dL_isPlanned_52 : decode cL_isPlanned 52 = .ok (.istore_n 3, 1) := by decide +kernel
theorem dL_isPlanned_53 : decode cL_isPlanned 53 = .ok (.aload_n 0, 1) := by decide +kernel
theorem dL_isPlanned_54 : decode cL_isPlanned 54 = .ok (.getfield 10, 3) := by decide +kernel
theorem dL_isPlanned_57 : decode cL_isPlanned 57 = .ok (.aload_n 0, 1) := by decide +kernel
theorem dL_isPlanned_58 : decode cL_isPlanned 58 = .ok (.getfield 21, 3) := by decide +kernel
theorem dL_isPlanned_61 : decode cL_isPlanned 61 = .ok (.iconst 5, 1) := by decide +kernel
theorem dL_isPlanned_62 : decode cL_isPlanned 62 = .ok (.invokevirtual 25, 3) := by decide +kernel
theorem dL_isPlanned_65 : decode cL_isPlanned 65 = .ok (.aload_n 0, 1) := by decide +kernel
theorem dL_isPlanned_66 : decode cL_isPlanned 66 = .ok (.getfield 21, 3) := by decide +kernel
theorem dL_isPlanned_69 : decode cL_isPlanned 69 = .ok (.iconst 5, 1) := by decide +kernel
theorem dL_isPlanned_70 : decode cL_isPlanned 70 = .ok (.invokevirtual 25, 3) := by decide +kernel
theorem dL_isPlanned_73 : decode cL_isPlanned 73 = .ok (.aload_n 0, 1) := by decide +kernel
theorem dL_isPlanned_74 : decode cL_isPlanned 74 = .ok (.getfield 21, 3) := by decide +kernel
theorem dL_isPlanned_77 : decode cL_isPlanned 77 = .ok (.iconst 5, 1) := by decide +kernel
theorem dL_isPlanned_78 : decode cL_isPlanned 78 = .ok (.invokevirtual 25, 3) := by decide +kernel
theorem dL_isPlanned_81 : decode cL_isPlanned 81 = .ok (.iconst 1, 1) := by decide +kernel
theorem dL_isPlanned_82 : decode cL_isPlanned 82 = .ok (.aload_n 0, 1) := by decide +kernel
theorem dL_isPlanned_83 : decode cL_isPlanned 83 = .ok (.getfield 21, 3) := by decide +kernel
theorem dL_isPlanned_86 : decode cL_isPlanned 86 = .ok (.iconst 4, 1) := by decide +kernel
theorem dL_isPlanned_87 : decode cL_isPlanned 87 = .ok (.invokevirtual 25, 3) := by decide +kernel
theorem dL_isPlanned_90 : decode cL_isPlanned 90 = .ok (.iadd, 1) := by decide +kernel
theorem dL_isPlanned_91 : decode cL_isPlanned 91 = .ok (.aload_n 0, 1) := by decide +kernel
theorem dL_isPlanned_92 : decode cL_isPlanned 92 = .ok (.getfield 21, 3) := by decide +kernel
theorem dL_isPlanned_95 : decode cL_isPlanned 95 = .ok (.iconst 5, 1) := by decide +kernel
theorem dL_isPlanned_96 : decode cL_isPlanned 96 = .ok (.invokevirtual 25, 3) := by decide +kernel
theorem dL_isPlanned_99 : decode cL_isPlanned 99 = .ok (.invokevirtual 179, 3) := by decide +kernel
theorem dL_isPlanned_102 : decode cL_isPlanned 102 = .ok (.iconst 1, 1) := by decide +kernel
theorem dL_isPlanned_103 : decode cL_isPlanned 103 = .ok (.if_icmp .ge 5, 3) := by decide +kernel
theorem dL_isPlanned_106 : decode cL_isPlanned 106 = .ok (.iconst 0, 1) := by decide +kernel
theorem dL_isPlanned_107 : decode cL_isPlanned 107 = .ok (.ireturn, 1) := by decide +kernel
theorem dL_isPlanned_108 : decode cL_isPlanned 108 = .ok (.aload_n 0, 1) := by decide +kernel
theorem dL_isPlanned_109 : decode cL_isPlanned 109 = .ok (.getfield 10, 3) := by decide +kernel
theorem dL_isPlanned_112 : decode cL_isPlanned 112 = .ok (.iload_n 3, 1) := by decide +kernel
theorem dL_isPlanned_113 : decode cL_isPlanned 113 = .ok (.iload_n 1, 1) := by decide +kernel
theorem dL_isPlanned_114 : decode cL_isPlanned 114 = .ok (.aload_n 0, 1) := by decide +kernel
theorem dL_isPlanned_115 : decode cL_isPlanned 115 = .ok (.getfield 21, 3) := by decide +kernel
theorem dL_isPlanned_118 : decode cL_isPlanned 118 = .ok (.iconst 5, 1) := by decide +kernel
theorem dL_isPlanned_119 : decode cL_isPlanned 119 = .ok (.invokevirtual 25, 3) := by decide +kernel
theorem dL_isPlanned_122 : decode cL_isPlanned 122 = .ok (.iload_n 1, 1) := by decide +kernel
theorem dL_isPlanned_123 : decode cL_isPlanned 123 = .ok (.iconst 1, 1) := by decide +kernel
theorem dL_isPlanned_124 : decode cL_isPlanned 124 = .ok (.iadd, 1) := by decide +kernel
theorem dL_isPlanned_125 : decode cL_isPlanned 125 = .ok (.aload_n 0, 1) := by decide +kernel
theorem dL_isPlanned_126 : decode cL_isPlanned 126 = .ok (.getfield 21, 3) := by decide +kernel
theorem dL_isPlanned_129 : decode cL_isPlanned 129 = .ok (.bipush 12, 2) := by decide +kernel
theorem dL_isPlanned_131 : decode cL_isPlanned 131 = .ok (.invokevirtual 25, 3) := by decide +kernel
theorem dL_isPlanned_134 : decode cL_isPlanned 134 = .ok (.iadd, 1) := by decide +kernel
theorem dL_isPlanned_135 : decode cL_isPlanned 135 = .ok (.iload_n 2, 1) := by decide +kernel
theorem dL_isPlanned_136 : decode cL_isPlanned 136 = .ok (.invokevirtual 182, 3) := by decide +kernel
theorem dL_isPlanned_139 : decode cL_isPlanned 139 = .ok (.ifCond .ge 5, 3) := by decide +kernel
theorem dL_isPlanned_142 : decode cL_isPlanned 142 = .ok (.iconst 0, 1) := by decide +kernel
theorem dL_isPlanned_143 : decode cL_isPlanned 143 = .ok (.ireturn, 1) := by decide +kernel
theorem dL_isPlanned_144 : decode cL_isPlanned 144 = .ok (.iconst 1, 1) := by decide +kernel
theorem dL_isPlanned_145 : decode cL_isPlanned 145 = .ok (.aload_n 0, 1) := by decide +kernel
theorem dL_isPlanned_146 : decode cL_isPlanned 146 = .ok (.getfield 21, 3) := by decide +kernel
theorem dL_isPlanned_149 : decode cL_isPlanned 149 = .ok (.iconst 5, 1) := by decide +kernel
theorem dL_isPlanned_150 : decode cL_isPlanned 150 = .ok (.invokevirtual 25, 3) := by decide +kernel
theorem dL_isPlanned_153 : decode cL_isPlanned 153 = .ok (.iadd, 1) := by decide +kernel
theorem dL_isPlanned_154 : decode cL_isPlanned 154 = .ok (.istore 4, 2) := by decide +kernel
theorem dL_isPlanned_156 : decode cL_isPlanned 156 = .ok (.aload_n 0, 1) := by decide +kernel
theorem dL_isPlanned_157 : decode cL_isPlanned 157 = .ok (.getfield 10, 3) := by decide +kernel
theorem dL_isPlanned_160 : decode cL_isPlanned 160 = .ok (.iload 4, 2) := by decide +kernel
theorem dL_isPlanned_162 : decode cL_isPlanned 162 = .ok (.invokevirtual 185, 3) := by decide +kernel
theorem dL_isPlanned_165 : decode cL_isPlanned 165 = .ok (.istore 5, 2) := by decide +kernel
theorem dL_isPlanned_167 : decode cL_isPlanned 167 = .ok (.aload_n 0, 1) := by decide +kernel
theorem dL_isPlanned_168 : decode cL_isPlanned 168 = .ok (.getfield 10, 3) := by decide +kernel
theorem dL_isPlanned_171 : decode cL_isPlanned 171 = .ok (.iload 4, 2) := by decide +kernel
theorem dL_isPlanned_173 : decode cL_isPlanned 173 = .ok (.invokevirtual 188, 3) := by decide +kernel
theorem dL_isPlanned_176 : decode cL_isPlanned 176 = .ok (.istore 6, 2) := by decide +kernel
theorem dL_isPlanned_178 : decode cL_isPlanned 178 = .ok (.bipush (-20), 2) := by decide +kernel
theorem dL_isPlanned_180 : decode cL_isPlanned 180 = .ok (.istore 7, 2) := by decide +kernel
theorem dL_isPlanned_182 : decode cL_isPlanned 182 = .ok (.iload 7, 2) := by decide +kernel
theorem dL_isPlanned_184 : decode cL_isPlanned 184 = .ok (.iload_n 2, 1) := by decide +kernel
theorem dL_isPlanned_185 : decode cL_isPlanned 185 = .ok (.if_icmp .gt 39, 3) := by decide +kernel
theorem dL_isPlanned_188 : decode cL_isPlanned 188 = .ok (.aload_n 0, 1) := by decide +kernel
theorem dL_isPlanned_189 : decode cL_isPlanned 189 = .ok (.getfield 10, 3) := by decide +kernel
theorem dL_isPlanned_192 : decode cL_isPlanned 192 = .ok (.iload 4, 2) := by decide +kernel
theorem dL_isPlanned_194 : decode cL_isPlanned 194 = .ok (.iload 7, 2) := by decide +kernel
theorem dL_isPlanned_196 : decode cL_isPlanned 196 = .ok (.invokevirtual 191, 3) := by decide +kernel
theorem dL_isPlanned_199 : decode cL_isPlanned 199 = .ok (.iload 7, 2) := by decide +kernel
theorem dL_isPlanned_201 : decode cL_isPlanned 201 = .ok (.iload 5, 2) := by decide +kernel
theorem dL_isPlanned_203 : decode cL_isPlanned 203 = .ok (.if_icmp .ge 8, 3) := by decide +kernel
theorem dL_isPlanned_206 : decode cL_isPlanned 206 = .ok (.iload 6, 2) := by decide +kernel
theorem dL_isPlanned_208 : decode cL_isPlanned 208 = .ok (.goto 5, 3) := by decide +kernel
theorem dL_isPlanned_211 : decode cL_isPlanned 211 = .ok (.iload 7, 2) := by decide +kernel
theorem dL_isPlanned_213 : decode cL_isPlanned 213 = .ok (.if_icmp .eq 5, 3) := by decide +kernel
theorem dL_isPlanned_216 : decode cL_isPlanned 216 = .ok (.iconst 0, 1) := by decide +kernel
theorem dL_isPlanned_217 : decode cL_isPlanned 217 = .ok (.ireturn, 1) := by decide +kernel
theorem dL_isPlanned_218 : decode cL_isPlanned 218 = .ok (.iinc 7 1, 3) := by decide +kernel
theorem dL_isPlanned_221 : decode cL_isPlanned 221 = .ok (.goto (-39), 3) := by decide +kernel
theorem dL_isPlanned_224 : decode cL_isPlanned 224 = .ok (.iload 5, 2) := by decide +kernel
theorem dL_isPlanned_226 : decode cL_isPlanned 226 = .ok (.iconst 1, 1) := by decide +kernel
theorem dL_isPlanned_227 : decode cL_isPlanned 227 = .ok (.isub, 1) := by decide +kernel
theorem dL_isPlanned_228 : decode cL_isPlanned 228 = .ok (.bipush (-20), 2) := by decide +kernel
theorem dL_isPlanned_230 : decode cL_isPlanned 230 = .ok (.if_icmp .gt 16, 3) := by decide +kernel
theorem dL_isPlanned_233 : decode cL_isPlanned 233 = .ok (.iload 5, 2) := by decide +kernel
theorem dL_isPlanned_235 : decode cL_isPlanned 235 = .ok (.iload 6, 2) := by decide +kernel
theorem dL_isPlanned_237 : decode cL_isPlanned 237 = .ok (.if_icmp .gt 7, 3) := by decide +kernel
theorem dL_isPlanned_240 : decode cL_isPlanned 240 = .ok (.iconst 1, 1) := by decide +kernel
theorem dL_isPlanned_241 : decode cL_isPlanned 241 = .ok (.goto 4, 3) := by decide +kernel
theorem dL_isPlanned_244 : decode cL_isPlanned 244 = .ok (.iconst 0, 1) := by decide +kernel
theorem dL_isPlanned_245 : decode cL_isPlanned 245 = .ok (.ireturn, 1) := by decide +kernel
theorem dL_isPlanned_246 : decode cL_isPlanned 246 = .ok (.aload_n 0, 1) := by decide +kernel
theorem dL_isPlanned_247 : decode cL_isPlanned 247 = .ok (.getfield 10, 3) := by decide +kernel
theorem dL_isPlanned_250 : decode cL_isPlanned 250 = .ok (.iconst 1, 1) := by decide +kernel
theorem dL_isPlanned_251 : decode cL_isPlanned 251 = .ok (.bipush (-20), 2) := by decide +kernel
theorem dL_isPlanned_253 : decode cL_isPlanned 253 = .ok (.iconst 0, 1) := by decide +kernel
theorem dL_isPlanned_254 : decode cL_isPlanned 254 = .ok (.invokevirtual 194, 3) := by decide +kernel
theorem dL_isPlanned_257 : decode cL_isPlanned 257 = .ok (.aload_n 0, 1) := by decide +kernel
theorem dL_isPlanned_258 : decode cL_isPlanned 258 = .ok (.getfield 10, 3) := by decide +kernel
theorem dL_isPlanned_261 : decode cL_isPlanned 261 = .ok (.iconst 1, 1) := by decide +kernel
theorem dL_isPlanned_262 : decode cL_isPlanned 262 = .ok (.bipush (-19), 2) := by decide +kernel
theorem dL_isPlanned_264 : decode cL_isPlanned 264 = .ok (.iconst 1, 1) := by decide +kernel
theorem dL_isPlanned_265 : decode cL_isPlanned 265 = .ok (.invokevirtual 194, 3) := by decide +kernel
theorem dL_isPlanned_268 : decode cL_isPlanned 268 = .ok (.lmul, 1) := by decide +kernel
theorem dL_isPlanned_269 : decode cL_isPlanned 269 = .ok (.aload_n 0, 1) := by decide +kernel
theorem dL_isPlanned_270 : decode cL_isPlanned 270 = .ok (.getfield 10, 3) := by decide +kernel
theorem dL_isPlanned_273 : decode cL_isPlanned 273 = .ok (.iconst 1, 1) := by decide +kernel
theorem dL_isPlanned_274 : decode cL_isPlanned 274 = .ok (.bipush (-19), 2) := by decide +kernel
theorem dL_isPlanned_276 : decode cL_isPlanned 276 = .ok (.iconst 0, 1) := by decide +kernel
theorem dL_isPlanned_277 : decode cL_isPlanned 277 = .ok (.invokevirtual 194, 3) := by decide +kernel
theorem dL_isPlanned_280 : decode cL_isPlanned 280 = .ok (.aload_n 0, 1) := by decide +kernel
theorem dL_isPlanned_281 : decode cL_isPlanned 281 = .ok (.getfield 10, 3) := by decide +kernel
theorem dL_isPlanned_284 : decode cL_isPlanned 284 = .ok (.iconst 1, 1) := by decide +kernel
theorem dL_isPlanned_285 : decode cL_isPlanned 285 = .ok (.bipush (-20), 2) := by decide +kernel
theorem dL_isPlanned_287 : decode cL_isPlanned 287 = .ok (.iconst 1, 1) := by decide +kernel
theorem dL_isPlanned_288 : decode cL_isPlanned 288 = .ok (.invokevirtual 194, 3) := by decide +kernel
theorem dL_isPlanned_291 : decode cL_isPlanned 291 = .ok (.lmul, 1) := by decide +kernel
theorem dL_isPlanned_292 : decode cL_isPlanned 292 = .ok (.lsub, 1) := by decide +kernel
theorem dL_isPlanned_293 : decode cL_isPlanned 293 = .ok (.lstore 7, 2) := by decide +kernel
theorem dL_isPlanned_295 : decode cL_isPlanned 295 = .ok (.aload_n 0, 1) := by decide +kernel
theorem dL_isPlanned_296 : decode cL_isPlanned 296 = .ok (.getfield 10, 3) := by decide +kernel
theorem dL_isPlanned_299 : decode cL_isPlanned 299 = .ok (.iconst 1, 1) := by decide +kernel
theorem dL_isPlanned_300 : decode cL_isPlanned 300 = .ok (.bipush (-20), 2) := by decide +kernel
theorem dL_isPlanned_302 : decode cL_isPlanned 302 = .ok (.invokevirtual 191, 3) := by decide +kernel
theorem dL_isPlanned_305 : decode cL_isPlanned 305 = .ok (.bipush (-20), 2) := by decide +kernel
theorem dL_isPlanned_307 : decode cL_isPlanned 307 = .ok (.if_icmp .eq 22, 3) := by decide +kernel
theorem dL_isPlanned_310 : decode cL_isPlanned 310 = .ok (.aload_n 0, 1) := by decide +kernel
theorem dL_isPlanned_311 : decode cL_isPlanned 311 = .ok (.getfield 10, 3) := by decide +kernel
theorem dL_isPlanned_314 : decode cL_isPlanned 314 = .ok (.iconst 1, 1) := by decide +kernel
theorem dL_isPlanned_315 : decode cL_isPlanned 315 = .ok (.bipush (-19), 2) := by decide +kernel
theorem dL_isPlanned_317 : decode cL_isPlanned 317 = .ok (.invokevirtual 191, 3) := by decide +kernel
theorem dL_isPlanned_320 : decode cL_isPlanned 320 = .ok (.bipush (-19), 2) := by decide +kernel
theorem dL_isPlanned_322 : decode cL_isPlanned 322 = .ok (.if_icmp .eq 7, 3) := by decide +kernel
theorem dL_isPlanned_325 : decode cL_isPlanned 325 = .ok (.iconst 1, 1) := by decide +kernel
theorem dL_isPlanned_326 : decode cL_isPlanned 326 = .ok (.goto 4, 3) := by decide +kernel
theorem dL_isPlanned_329 : decode cL_isPlanned 329 = .ok (.iconst 0, 1) := by decide +kernel
theorem dL_isPlanned_330 : decode cL_isPlanned 330 = .ok (.istore 9, 2) := by decide +kernel
theorem dL_isPlanned_332 : decode cL_isPlanned 332 = .ok (.iload 5, 2) := by decide +kernel
theorem dL_isPlanned_334 : decode cL_isPlanned 334 = .ok (.iload 6, 2) := by decide +kernel
theorem dL_isPlanned_336 : decode cL_isPlanned 336 = .ok (.if_icmp .gt 44, 3) := by decide +kernel
theorem dL_isPlanned_339 : decode cL_isPlanned 339 = .ok (.iload 9, 2) := by decide +kernel
theorem dL_isPlanned_341 : decode cL_isPlanned 341 = .ok (.ifCond .eq 35, 3) := by decide +kernel
theorem dL_isPlanned_344 : decode cL_isPlanned 344 = .ok (.lload 7, 2) := by decide +kernel
theorem dL_isPlanned_346 : decode cL_isPlanned 346 = .ok (.iload_n 1, 1) := by decide +kernel
theorem dL_isPlanned_347 : decode cL_isPlanned 347 = .ok (.i2l, 1) := by decide +kernel
theorem dL_isPlanned_348 : decode cL_isPlanned 348 = .ok (.aload_n 0, 1) := by decide +kernel
theorem dL_isPlanned_349 : decode cL_isPlanned 349 = .ok (.getfield 10, 3) := by decide +kernel
theorem dL_isPlanned_352 : decode cL_isPlanned 352 = .ok (.iconst 1, 1) := by decide +kernel
theorem dL_isPlanned_353 : decode cL_isPlanned 353 = .ok (.bipush (-19), 2) := by decide +kernel
theorem dL_isPlanned_355 : decode cL_isPlanned 355 = .ok (.iconst 1, 1) := by decide +kernel
theorem dL_isPlanned_356 : decode cL_isPlanned 356 = .ok (.invokevirtual 194, 3) := by decide +kernel
theorem dL_isPlanned_359 : decode cL_isPlanned 359 = .ok (.lmul, 1) := by decide +kernel
theorem dL_isPlanned_360 : decode cL_isPlanned 360 = .ok (.aload_n 0, 1) := by decide +kernel
theorem dL_isPlanned_361 : decode cL_isPlanned 361 = .ok (.getfield 10, 3) := by decide +kernel
theorem dL_isPlanned_364 : decode cL_isPlanned 364 = .ok (.iconst 1, 1) := by decide +kernel
theorem dL_isPlanned_365 : decode cL_isPlanned 365 = .ok (.bipush (-20), 2) := by decide +kernel
theorem dL_isPlanned_367 : decode cL_isPlanned 367 = .ok (.iconst 1, 1) := by decide +kernel
theorem dL_isPlanned_368 : decode cL_isPlanned 368 = .ok (.invokevirtual 194, 3) := by decide +kernel
theorem dL_isPlanned_371 : decode cL_isPlanned 371 = .ok (.lmul, 1) := by decide +kernel
theorem dL_isPlanned_372 : decode cL_isPlanned 372 = .ok (.lcmp, 1) := by decide +kernel
theorem dL_isPlanned_373 : decode cL_isPlanned 373 = .ok (.ifCond .ne 7, 3) := by decide +kernel
theorem dL_isPlanned_376 : decode cL_isPlanned 376 = .ok (.iconst 1, 1) := by decide +kernel
theorem dL_isPlanned_377 : decode cL_isPlanned 377 = .ok (.goto 4, 3) := by decide +kernel
theorem dL_isPlanned_380 : decode cL_isPlanned 380 = .ok (.iconst 0, 1) := by decide +kernel
theorem dL_isPlanned_381 : decode cL_isPlanned 381 = .ok (.ireturn, 1) := by decide +kernel
theorem dL_holds_0 : decode cL_holds 0 = .ok (.aload_n 0, 1) := by decide +kernel
theorem dL_holds_1 : decode cL_holds 1 = .ok (.invokevirtual 198, 3) := by decide +kernel
theorem dL_holds_4 : decode cL_holds 4 = .ok (.ifCond .eq 38, 3) := by decide +kernel
theorem dL_holds_7 : decode cL_holds 7 = .ok (.aload_n 0, 1) := by decide +kernel
theorem dL_holds_8 : decode cL_holds 8 = .ok (.invokevirtual 107, 3) := by decide +kernel
theorem dL_holds_11 : decode cL_holds 11 = .ok (.ifCond .eq 31, 3) := by decide +kernel
theorem dL_holds_14 : decode cL_holds 14 = .ok (.aload_n 0, 1) := by decide +kernel
theorem dL_holds_15 : decode cL_holds 15 = .ok (.invokevirtual 201, 3) := by decide +kernel
theorem dL_holds_18 : decode cL_holds 18 = .ok (.ifCond .eq 24, 3) := by decide +kernel
theorem dL_holds_21 : decode cL_holds 21 = .ok (.aload_n 0, 1) := by decide +kernel
theorem dL_holds_22 : decode cL_holds 22 = .ok (.invokevirtual 204, 3) := by decide +kernel
theorem dL_holds_25 : decode cL_holds 25 = .ok (.ifCond .eq 17, 3) := by decide +kernel
theorem dL_holds_28 : decode cL_holds 28 = .ok (.aload_n 0, 1) := by decide +kernel
theorem dL_holds_29 : decode cL_holds 29 = .ok (.invokevirtual 158, 3) := by decide +kernel
theorem dL_holds_32 : decode cL_holds 32 = .ok (.ifCond .eq 10, 3) := by decide +kernel
theorem dL_holds_35 : decode cL_holds 35 = .ok (.aload_n 0, 1) := by decide +kernel
theorem dL_holds_36 : decode cL_holds 36 = .ok (.invokevirtual 207, 3) := by decide +kernel
theorem dL_holds_39 : decode cL_holds 39 = .ok (.ifCond .ne 5, 3) := by decide +kernel
theorem dL_holds_42 : decode cL_holds 42 = .ok (.iconst 0, 1) := by decide +kernel
theorem dL_holds_43 : decode cL_holds 43 = .ok (.ireturn, 1) := by decide +kernel
theorem dL_holds_44 : decode cL_holds 44 = .ok (.aload_n 0, 1) := by decide +kernel
theorem dL_holds_45 : decode cL_holds 45 = .ok (.invokevirtual 210, 3) := by decide +kernel
theorem dL_holds_48 : decode cL_holds 48 = .ok (.ifCond .eq 24, 3) := by decide +kernel
theorem dL_holds_51 : decode cL_holds 51 = .ok (.aload_n 0, 1) := by decide +kernel
theorem dL_holds_52 : decode cL_holds 52 = .ok (.invokevirtual 213, 3) := by decide +kernel
theorem dL_holds_55 : decode cL_holds 55 = .ok (.ifCond .eq 17, 3) := by decide +kernel
theorem dL_holds_58 : decode cL_holds 58 = .ok (.aload_n 0, 1) := by decide +kernel
theorem dL_holds_59 : decode cL_holds 59 = .ok (.getfield 10, 3) := by decide +kernel
theorem dL_holds_62 : decode cL_holds 62 = .ok (.invokevirtual 216, 3) := by decide +kernel
theorem dL_holds_65 : decode cL_holds 65 = .ok (.ifCond .ne 7, 3) := by decide +kernel
theorem dL_holds_68 : decode cL_holds 68 = .ok (.iconst 1, 1) := by decide +kernel
theorem dL_holds_69 : decode cL_holds 69 = .ok (.goto 4, 3) := by decide +kernel
theorem dL_holds_72 : decode cL_holds 72 = .ok (.iconst 0, 1) := by decide +kernel
theorem dL_holds_73 : decode cL_holds 73 = .ok (.ireturn, 1) := by decide +kernel
theorem dL_law_0 : decode cL_law 0 = .ok (.new 11, 3) := by decide +kernel
theorem dL_law_3 : decode cL_law 3 = .ok (.dup, 1) := by decide +kernel
theorem dL_law_4 : decode cL_law 4 = .ok (.aload_n 0, 1) := by decide +kernel
theorem dL_law_5 : decode cL_law 5 = .ok (.invokespecial 219, 3) := by decide +kernel
theorem dL_law_8 : decode cL_law 8 = .ok (.invokevirtual 220, 3) := by decide +kernel
theorem dL_law_11 : decode cL_law 11 = .ok (.ireturn, 1) := by decide +kernel
