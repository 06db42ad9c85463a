theorem dX0_init_0 : decode cX0_init 0 = .ok (.aload_n 0, 1) := by decide +kernel
theorem dX0_init_1 : decode cX0_init 1 = .ok (.iconst 4, 1) := by decide +kernel
theorem dX0_init_2 : decode cX0_init 2 = .ok (.iload_n 1, 1) := by decide +kernel
theorem dX0_init_3 : decode cX0_init 3 = .ok (.iload_n 2, 1) := by decide +kernel
theorem dX0_init_4 : decode cX0_init 4 = .ok (.aload_n 3, 1) := by decide +kernel
theorem dX0_init_5 : decode cX0_init 5 = .ok (.invokespecial 1, 3) := by decide +kernel
theorem dX0_init_8 : decode cX0_init 8 = .ok (.return_, 1) := by decide +kernel
theorem dX0_spun_0 : decode cX0_spun 0 = .ok (.aload_n 0, 1) := by decide +kernel
theorem dX0_spun_1 : decode cX0_spun 1 = .ok (.iload_n 1, 1) := by decide +kernel
theorem dX0_spun_2 : decode cX0_spun 2 = .ok (.iload_n 2, 1) := by decide +kernel
theorem dX0_spun_3 : decode cX0_spun 3 = .ok (.iload_n 3, 1) := by decide +kernel
theorem dX0_spun_4 : decode cX0_spun 4 = .ok (.iload 4, 2) := by decide +kernel
theorem dX0_spun_6 : decode cX0_spun 6 = .ok (.iload 5, 2) := by decide +kernel
theorem dX0_spun_8 : decode cX0_spun 8 = .ok (.invokespecial 7, 3) := by decide +kernel
theorem dX0_spun_11 : decode cX0_spun 11 = .ok (.iload 5, 2) := by decide +kernel
theorem dX0_spun_13 : decode cX0_spun 13 = .ok (.ifCond .eq 10, 3) := by decide +kernel
theorem dX0_spun_16 : decode cX0_spun 16 = .ok (.aload_n 0, 1) := by decide +kernel
theorem dX0_spun_17 : decode cX0_spun 17 = .ok (.getfield 11, 3) := by decide +kernel
theorem dX0_spun_20 : decode cX0_spun 20 = .ok (.goto 4, 3) := by decide +kernel
theorem dX0_spun_23 : decode cX0_spun 23 = .ok (.iconst 0, 1) := by decide +kernel
theorem dX0_spun_24 : decode cX0_spun 24 = .ok (.iadd, 1) := by decide +kernel
theorem dX0_spun_25 : decode cX0_spun 25 = .ok (.ireturn, 1) := by decide +kernel
theorem dX0_laid_0 : decode cX0_laid 0 = .ok (.aload_n 2, 1) := by decide +kernel
theorem dX0_laid_1 : decode cX0_laid 1 = .ok (.bipush 41, 2) := by decide +kernel
theorem dX0_laid_3 : decode cX0_laid 3 = .ok (.invokevirtual 17, 3) := by decide +kernel
theorem dX0_laid_6 : decode cX0_laid 6 = .ok (.aload_n 0, 1) := by decide +kernel
theorem dX0_laid_7 : decode cX0_laid 7 = .ok (.iload_n 1, 1) := by decide +kernel
theorem dX0_laid_8 : decode cX0_laid 8 = .ok (.iconst 1, 1) := by decide +kernel
theorem dX0_laid_9 : decode cX0_laid 9 = .ok (.isub, 1) := by decide +kernel
theorem dX0_laid_10 : decode cX0_laid 10 = .ok (.aload_n 2, 1) := by decide +kernel
theorem dX0_laid_11 : decode cX0_laid 11 = .ok (.invokespecial 23, 3) := by decide +kernel
theorem dX0_laid_14 : decode cX0_laid 14 = .ok (.aload_n 0, 1) := by decide +kernel
theorem dX0_laid_15 : decode cX0_laid 15 = .ok (.iconst 2, 1) := by decide +kernel
theorem dX0_laid_16 : decode cX0_laid 16 = .ok (.aload_n 2, 1) := by decide +kernel
theorem dX0_laid_17 : decode cX0_laid 17 = .ok (.invokevirtual 27, 3) := by decide +kernel
theorem dX0_laid_20 : decode cX0_laid 20 = .ok (.iadd, 1) := by decide +kernel
theorem dX0_laid_21 : decode cX0_laid 21 = .ok (.ireturn, 1) := by decide +kernel
theorem dX1_init_0 : decode cX1_init 0 = .ok (.aload_n 0, 1) := by decide +kernel
theorem dX1_init_1 : decode cX1_init 1 = .ok (.iload_n 1, 1) := by decide +kernel
theorem dX1_init_2 : decode cX1_init 2 = .ok (.iload_n 2, 1) := by decide +kernel
theorem dX1_init_3 : decode cX1_init 3 = .ok (.iload_n 3, 1) := by decide +kernel
theorem dX1_init_4 : decode cX1_init 4 = .ok (.aload 4, 2) := by decide +kernel
theorem dX1_init_6 : decode cX1_init 6 = .ok (.invokespecial 1, 3) := by decide +kernel
theorem dX1_init_9 : decode cX1_init 9 = .ok (.return_, 1) := by decide +kernel
theorem dX1_spun_0 : decode cX1_spun 0 = .ok (.iload_n 1, 1) := by decide +kernel
theorem dX1_spun_1 : decode cX1_spun 1 = .ok (.iload 4, 2) := by decide +kernel
theorem dX1_spun_3 : decode cX1_spun 3 = .ok (.invokestatic 7, 3) := by decide +kernel
theorem dX1_spun_6 : decode cX1_spun 6 = .ok (.iload 4, 2) := by decide +kernel
theorem dX1_spun_8 : decode cX1_spun 8 = .ok (.invokestatic 13, 3) := by decide +kernel
theorem dX1_spun_11 : decode cX1_spun 11 = .ok (.imul, 1) := by decide +kernel
theorem dX1_spun_12 : decode cX1_spun 12 = .ok (.bipush 10, 2) := by decide +kernel
theorem dX1_spun_14 : decode cX1_spun 14 = .ok (.iload_n 3, 1) := by decide +kernel
theorem dX1_spun_15 : decode cX1_spun 15 = .ok (.imul, 1) := by decide +kernel
theorem dX1_spun_16 : decode cX1_spun 16 = .ok (.invokestatic 16, 3) := by decide +kernel
theorem dX1_spun_19 : decode cX1_spun 19 = .ok (.iadd, 1) := by decide +kernel
theorem dX1_spun_20 : decode cX1_spun 20 = .ok (.ireturn, 1) := by decide +kernel
theorem dX1_laid_0 : decode cX1_laid 0 = .ok (.aload_n 2, 1) := by decide +kernel
theorem dX1_laid_1 : decode cX1_laid 1 = .ok (.bipush 31, 2) := by decide +kernel
theorem dX1_laid_3 : decode cX1_laid 3 = .ok (.invokevirtual 20, 3) := by decide +kernel
theorem dX1_laid_6 : decode cX1_laid 6 = .ok (.aload_n 0, 1) := by decide +kernel
theorem dX1_laid_7 : decode cX1_laid 7 = .ok (.iload_n 1, 1) := by decide +kernel
theorem dX1_laid_8 : decode cX1_laid 8 = .ok (.aload_n 2, 1) := by decide +kernel
theorem dX1_laid_9 : decode cX1_laid 9 = .ok (.invokespecial 26, 3) := by decide +kernel
theorem dX1_laid_12 : decode cX1_laid 12 = .ok (.bipush 7, 2) := by decide +kernel
theorem dX1_laid_14 : decode cX1_laid 14 = .ok (.ixor, 1) := by decide +kernel
theorem dX1_laid_15 : decode cX1_laid 15 = .ok (.ireturn, 1) := by decide +kernel
theorem dX2_init_0 : decode cX2_init 0 = .ok (.aload_n 0, 1) := by decide +kernel
theorem dX2_init_1 : decode cX2_init 1 = .ok (.iload_n 1, 1) := by decide +kernel
theorem dX2_init_2 : decode cX2_init 2 = .ok (.iload_n 2, 1) := by decide +kernel
theorem dX2_init_3 : decode cX2_init 3 = .ok (.iload_n 3, 1) := by decide +kernel
theorem dX2_init_4 : decode cX2_init 4 = .ok (.aload 4, 2) := by decide +kernel
theorem dX2_init_6 : decode cX2_init 6 = .ok (.invokespecial 1, 3) := by decide +kernel
theorem dX2_init_9 : decode cX2_init 9 = .ok (.return_, 1) := by decide +kernel
theorem dX2_spun_0 : decode cX2_spun 0 = .ok (.iload_n 1, 1) := by decide +kernel
theorem dX2_spun_1 : decode cX2_spun 1 = .ok (.iload_n 2, 1) := by decide +kernel
theorem dX2_spun_2 : decode cX2_spun 2 = .ok (.aload_n 0, 1) := by decide +kernel
theorem dX2_spun_3 : decode cX2_spun 3 = .ok (.getfield 7, 3) := by decide +kernel
theorem dX2_spun_6 : decode cX2_spun 6 = .ok (.imul, 1) := by decide +kernel
theorem dX2_spun_7 : decode cX2_spun 7 = .ok (.iload_n 3, 1) := by decide +kernel
theorem dX2_spun_8 : decode cX2_spun 8 = .ok (.invokestatic 13, 3) := by decide +kernel
theorem dX2_spun_11 : decode cX2_spun 11 = .ok (.iadd, 1) := by decide +kernel
theorem dX2_spun_12 : decode cX2_spun 12 = .ok (.ireturn, 1) := by decide +kernel
theorem dX2_wound_0 : decode cX2_wound 0 = .ok (.aload_n 2, 1) := by decide +kernel
theorem dX2_wound_1 : decode cX2_wound 1 = .ok (.bipush 21, 2) := by decide +kernel
theorem dX2_wound_3 : decode cX2_wound 3 = .ok (.invokevirtual 19, 3) := by decide +kernel
theorem dX2_wound_6 : decode cX2_wound 6 = .ok (.aload_n 0, 1) := by decide +kernel
theorem dX2_wound_7 : decode cX2_wound 7 = .ok (.iload_n 1, 1) := by decide +kernel
theorem dX2_wound_8 : decode cX2_wound 8 = .ok (.aload_n 2, 1) := by decide +kernel
theorem dX2_wound_9 : decode cX2_wound 9 = .ok (.invokespecial 25, 3) := by decide +kernel
theorem dX2_wound_12 : decode cX2_wound 12 = .ok (.ineg, 1) := by decide +kernel
theorem dX2_wound_13 : decode cX2_wound 13 = .ok (.ireturn, 1) := by decide +kernel
theorem dX3_init_0 : decode cX3_init 0 = .ok (.aload_n 0, 1) := by decide +kernel
theorem dX3_init_1 : decode cX3_init 1 = .ok (.invokespecial 3, 3) := by decide +kernel
theorem dX3_init_4 : decode cX3_init 4 = .ok (.aload_n 0, 1) := by decide +kernel
theorem dX3_init_5 : decode cX3_init 5 = .ok (.bipush 100, 2) := by decide +kernel
theorem dX3_init_7 : decode cX3_init 7 = .ok (.newarray .boolean, 2) := by decide +kernel
theorem dX3_init_9 : decode cX3_init 9 = .ok (.putfield 9, 3) := by decide +kernel
theorem dX3_init_12 : decode cX3_init 12 = .ok (.aload_n 0, 1) := by decide +kernel
theorem dX3_init_13 : decode cX3_init 13 = .ok (.iload_n 1, 1) := by decide +kernel
theorem dX3_init_14 : decode cX3_init 14 = .ok (.putfield 15, 3) := by decide +kernel
theorem dX3_init_17 : decode cX3_init 17 = .ok (.aload_n 0, 1) := by decide +kernel
theorem dX3_init_18 : decode cX3_init 18 = .ok (.iload_n 2, 1) := by decide +kernel
theorem dX3_init_19 : decode cX3_init 19 = .ok (.putfield 19, 3) := by decide +kernel
theorem dX3_init_22 : decode cX3_init 22 = .ok (.aload_n 0, 1) := by decide +kernel
theorem dX3_init_23 : decode cX3_init 23 = .ok (.iload_n 3, 1) := by decide +kernel
theorem dX3_init_24 : decode cX3_init 24 = .ok (.putfield 22, 3) := by decide +kernel
theorem dX3_init_27 : decode cX3_init 27 = .ok (.aload_n 0, 1) := by decide +kernel
theorem dX3_init_28 : decode cX3_init 28 = .ok (.aload 4, 2) := by decide +kernel
theorem dX3_init_30 : decode cX3_init 30 = .ok (.getfield 25, 3) := by decide +kernel
theorem dX3_init_33 : decode cX3_init 33 = .ok (.putfield 30, 3) := by decide +kernel
theorem dX3_init_36 : decode cX3_init 36 = .ok (.aload_n 0, 1) := by decide +kernel
theorem dX3_init_37 : decode cX3_init 37 = .ok (.aload 4, 2) := by decide +kernel
theorem dX3_init_39 : decode cX3_init 39 = .ok (.getfield 31, 3) := by decide +kernel
theorem dX3_init_42 : decode cX3_init 42 = .ok (.putfield 34, 3) := by decide +kernel
theorem dX3_init_45 : decode cX3_init 45 = .ok (.aload_n 0, 1) := by decide +kernel
theorem dX3_init_46 : decode cX3_init 46 = .ok (.aload 4, 2) := by decide +kernel
theorem dX3_init_48 : decode cX3_init 48 = .ok (.getfield 35, 3) := by decide +kernel
theorem dX3_init_51 : decode cX3_init 51 = .ok (.iconst 4, 1) := by decide +kernel
theorem dX3_init_52 : decode cX3_init 52 = .ok (.invokestatic 39, 3) := by decide +kernel
theorem dX3_init_55 : decode cX3_init 55 = .ok (.putfield 45, 3) := by decide +kernel
theorem dX3_init_58 : decode cX3_init 58 = .ok (.aload_n 0, 1) := by decide +kernel
theorem dX3_init_59 : decode cX3_init 59 = .ok (.aload 4, 2) := by decide +kernel
theorem dX3_init_61 : decode cX3_init 61 = .ok (.getfield 46, 3) := by decide +kernel
theorem dX3_init_64 : decode cX3_init 64 = .ok (.aload 4, 2) := by decide +kernel
theorem dX3_init_66 : decode cX3_init 66 = .ok (.getfield 49, 3) := by decide +kernel
theorem dX3_init_69 : decode cX3_init 69 = .ok (.invokestatic 39, 3) := by decide +kernel
theorem dX3_init_72 : decode cX3_init 72 = .ok (.putfield 52, 3) := by decide +kernel
theorem dX3_init_75 : decode cX3_init 75 = .ok (.iconst 0, 1) := by decide +kernel
theorem dX3_init_76 : decode cX3_init 76 = .ok (.istore 5, 2) := by decide +kernel
theorem dX3_init_78 : decode cX3_init 78 = .ok (.iload 5, 2) := by decide +kernel
theorem dX3_init_80 : decode cX3_init 80 = .ok (.bipush 100, 2) := by decide +kernel
theorem dX3_init_82 : decode cX3_init 82 = .ok (.if_icmp .ge 22, 3) := by decide +kernel
theorem dX3_init_85 : decode cX3_init 85 = .ok (.aload_n 0, 1) := by decide +kernel
theorem dX3_init_86 : decode cX3_init 86 = .ok (.getfield 9, 3) := by decide +kernel
theorem dX3_init_89 : decode cX3_init 89 = .ok (.iload 5, 2) := by decide +kernel
theorem dX3_init_91 : decode cX3_init 91 = .ok (.aload_n 0, 1) := by decide +kernel
theorem dX3_init_92 : decode cX3_init 92 = .ok (.iload 5, 2) := by decide +kernel
theorem dX3_init_94 : decode cX3_init 94 = .ok (.invokevirtual 53, 3) := by decide +kernel
theorem dX3_init_97 : decode cX3_init 97 = .ok (.bastore, 1) := by decide +kernel
theorem dX3_init_98 : decode cX3_init 98 = .ok (.iinc 5 1, 3) := by decide +kernel
theorem dX3_init_101 : decode cX3_init 101 = .ok (.goto (-23), 3) := by decide +kernel
theorem dX3_init_104 : decode cX3_init 104 = .ok (.return_, 1) := by decide +kernel
theorem dX3_isTestedAt_0 : decode cX3_isTestedAt 0 = .ok (.iconst 0, 1) := by decide +kernel
theorem dX3_isTestedAt_1 : decode cX3_isTestedAt 1 = .ok (.istore_n 2, 1) := by decide +kernel
theorem dX3_isTestedAt_2 : decode cX3_isTestedAt 2 = .ok (.iload_n 2, 1) := by decide +kernel
theorem dX3_isTestedAt_3 : decode cX3_isTestedAt 3 = .ok (.aload_n 0, 1) := by decide +kernel
theorem dX3_isTestedAt_4 : decode cX3_isTestedAt 4 = .ok (.getfield 52, 3) := by decide +kernel
theorem dX3_isTestedAt_7 : decode cX3_isTestedAt 7 = .ok (.arraylength, 1) := by decide +kernel
theorem dX3_isTestedAt_8 : decode cX3_isTestedAt 8 = .ok (.if_icmp .ge 59, 3) := by decide +kernel
theorem dX3_isTestedAt_11 : decode cX3_isTestedAt 11 = .ok (.aload_n 0, 1) := by decide +kernel
theorem dX3_isTestedAt_12 : decode cX3_isTestedAt 12 = .ok (.getfield 52, 3) := by decide +kernel
theorem dX3_isTestedAt_15 : decode cX3_isTestedAt 15 = .ok (.iload_n 2, 1) := by decide +kernel
theorem dX3_isTestedAt_16 : decode cX3_isTestedAt 16 = .ok (.iaload, 1) := by decide +kernel
theorem dX3_isTestedAt_17 : decode cX3_isTestedAt 17 = .ok (.bipush 8, 2) := by decide +kernel
theorem dX3_isTestedAt_19 : decode cX3_isTestedAt 19 = .ok (.ishr, 1) := by decide +kernel
theorem dX3_isTestedAt_20 : decode cX3_isTestedAt 20 = .ok (.istore_n 3, 1) := by decide +kernel
theorem dX3_isTestedAt_21 : decode cX3_isTestedAt 21 = .ok (.aload_n 0, 1) := by decide +kernel
theorem dX3_isTestedAt_22 : decode cX3_isTestedAt 22 = .ok (.getfield 52, 3) := by decide +kernel
theorem dX3_isTestedAt_25 : decode cX3_isTestedAt 25 = .ok (.iload_n 2, 1) := by decide +kernel
theorem dX3_isTestedAt_26 : decode cX3_isTestedAt 26 = .ok (.iaload, 1) := by decide +kernel
theorem dX3_isTestedAt_27 : decode cX3_isTestedAt 27 = .ok (.bipush 7, 2) := by decide +kernel
theorem dX3_isTestedAt_29 : decode cX3_isTestedAt 29 = .ok (.iand, 1) := by decide +kernel
theorem dX3_isTestedAt_30 : decode cX3_isTestedAt 30 = .ok (.ifCond .ne 31, 3) := by decide +kernel
theorem dX3_isTestedAt_33 : decode cX3_isTestedAt 33 = .ok (.aload_n 0, 1) := by decide +kernel
theorem dX3_isTestedAt_34 : decode cX3_isTestedAt 34 = .ok (.getfield 52, 3) := by decide +kernel
theorem dX3_isTestedAt_37 : decode cX3_isTestedAt 37 = .ok (.iload_n 2, 1) := by decide +kernel
theorem dX3_isTestedAt_38 : decode cX3_isTestedAt 38 = .ok (.iaload, 1) := by decide +kernel
theorem dX3_isTestedAt_39 : decode cX3_isTestedAt 39 = .ok (.iconst 3, 1) := by decide +kernel
theorem dX3_isTestedAt_40 : decode cX3_isTestedAt 40 = .ok (.ishr, 1) := by decide +kernel
theorem dX3_isTestedAt_41 : decode cX3_isTestedAt 41 = .ok (.bipush 7, 2) := by decide +kernel
theorem dX3_isTestedAt_43 : decode cX3_isTestedAt 43 = .ok (.iand, 1) := by decide +kernel
theorem dX3_isTestedAt_44 : decode cX3_isTestedAt 44 = .ok (.iconst 2, 1) := by decide +kernel
theorem dX3_isTestedAt_45 : decode cX3_isTestedAt 45 = .ok (.if_icmp .ne 16, 3) := by decide +kernel
theorem dX3_isTestedAt_48 : decode cX3_isTestedAt 48 = .ok (.iload_n 1, 1) := by decide +kernel
theorem dX3_isTestedAt_49 : decode cX3_isTestedAt 49 = .ok (.iload_n 3, 1) := by decide +kernel
theorem dX3_isTestedAt_50 : decode cX3_isTestedAt 50 = .ok (.iload_n 3, 1) := by decide +kernel
theorem dX3_isTestedAt_51 : decode cX3_isTestedAt 51 = .ok (.iconst 1, 1) := by decide +kernel
theorem dX3_isTestedAt_52 : decode cX3_isTestedAt 52 = .ok (.iadd, 1) := by decide +kernel
theorem dX3_isTestedAt_53 : decode cX3_isTestedAt 53 = .ok (.invokestatic 57, 3) := by decide +kernel
theorem dX3_isTestedAt_56 : decode cX3_isTestedAt 56 = .ok (.ifCond .eq 5, 3) := by decide +kernel
theorem dX3_isTestedAt_59 : decode cX3_isTestedAt 59 = .ok (.iconst 1, 1) := by decide +kernel
theorem dX3_isTestedAt_60 : decode cX3_isTestedAt 60 = .ok (.ireturn, 1) := by decide +kernel
theorem dX3_isTestedAt_61 : decode cX3_isTestedAt 61 = .ok (.iinc 2 1, 3) := by decide +kernel
theorem dX3_isTestedAt_64 : decode cX3_isTestedAt 64 = .ok (.goto (-62), 3) := by decide +kernel
theorem dX3_isTestedAt_67 : decode cX3_isTestedAt 67 = .ok (.iconst 0, 1) := by decide +kernel
theorem dX3_isTestedAt_68 : decode cX3_isTestedAt 68 = .ok (.ireturn, 1) := by decide +kernel
theorem dX3_baseIn_0 : decode cX3_baseIn 0 = .ok (.iload_n 2, 1) := by decide +kernel
theorem dX3_baseIn_1 : decode cX3_baseIn 1 = .ok (.invokestatic 61, 3) := by decide +kernel
theorem dX3_baseIn_4 : decode cX3_baseIn 4 = .ok (.istore_n 3, 1) := by decide +kernel
theorem dX3_baseIn_5 : decode cX3_baseIn 5 = .ok (.iload_n 2, 1) := by decide +kernel
theorem dX3_baseIn_6 : decode cX3_baseIn 6 = .ok (.invokestatic 65, 3) := by decide +kernel
theorem dX3_baseIn_9 : decode cX3_baseIn 9 = .ok (.istore 4, 2) := by decide +kernel
theorem dX3_baseIn_11 : decode cX3_baseIn 11 = .ok (.iload_n 2, 1) := by decide +kernel
theorem dX3_baseIn_12 : decode cX3_baseIn 12 = .ok (.invokestatic 68, 3) := by decide +kernel
theorem dX3_baseIn_15 : decode cX3_baseIn 15 = .ok (.istore 5, 2) := by decide +kernel
theorem dX3_baseIn_17 : decode cX3_baseIn 17 = .ok (.iconst 0, 1) := by decide +kernel
theorem dX3_baseIn_18 : decode cX3_baseIn 18 = .ok (.istore 6, 2) := by decide +kernel
theorem dX3_baseIn_20 : decode cX3_baseIn 20 = .ok (.iconst 0, 1) := by decide +kernel
theorem dX3_baseIn_21 : decode cX3_baseIn 21 = .ok (.istore 7, 2) := by decide +kernel
theorem dX3_baseIn_23 : decode cX3_baseIn 23 = .ok (.iconst 0, 1) := by decide +kernel
theorem dX3_baseIn_24 : decode cX3_baseIn 24 = .ok (.istore 8, 2) := by decide +kernel
theorem dX3_baseIn_26 : decode cX3_baseIn 26 = .ok (.iload 8, 2) := by decide +kernel
theorem dX3_baseIn_28 : decode cX3_baseIn 28 = .ok (.aload_n 0, 1) := by decide +kernel
theorem dX3_baseIn_29 : decode cX3_baseIn 29 = .ok (.getfield 52, 3) := by decide +kernel
theorem dX3_baseIn_32 : decode cX3_baseIn 32 = .ok (.arraylength, 1) := by decide +kernel
theorem dX3_baseIn_33 : decode cX3_baseIn 33 = .ok (.if_icmp .ge 188, 3) := by decide +kernel
theorem dX3_baseIn_36 : decode cX3_baseIn 36 = .ok (.aload_n 0, 1) := by decide +kernel
theorem dX3_baseIn_37 : decode cX3_baseIn 37 = .ok (.getfield 52, 3) := by decide +kernel
theorem dX3_baseIn_40 : decode cX3_baseIn 40 = .ok (.iload 8, 2) := by decide +kernel
theorem dX3_baseIn_42 : decode cX3_baseIn 42 = .ok (.iaload, 1) := by decide +kernel
theorem dX3_baseIn_43 : decode cX3_baseIn 43 = .ok (.bipush 8, 2) := by decide +kernel
theorem dX3_baseIn_45 : decode cX3_baseIn 45 = .ok (.ishr, 1) := by decide +kernel
theorem dX3_baseIn_46 : decode cX3_baseIn 46 = .ok (.istore 9, 2) := by decide +kernel
theorem dX3_baseIn_48 : decode cX3_baseIn 48 = .ok (.iload 7, 2) := by decide +kernel
theorem dX3_baseIn_50 : decode cX3_baseIn 50 = .ok (.iconst 1, 1) := by decide +kernel
theorem dX3_baseIn_51 : decode cX3_baseIn 51 = .ok (.iand, 1) := by decide +kernel
theorem dX3_baseIn_52 : decode cX3_baseIn 52 = .ok (.istore 10, 2) := by decide +kernel
theorem dX3_baseIn_54 : decode cX3_baseIn 54 = .ok (.aload_n 0, 1) := by decide +kernel
theorem dX3_baseIn_55 : decode cX3_baseIn 55 = .ok (.getfield 52, 3) := by decide +kernel
theorem dX3_baseIn_58 : decode cX3_baseIn 58 = .ok (.iload 8, 2) := by decide +kernel
theorem dX3_baseIn_60 : decode cX3_baseIn 60 = .ok (.iaload, 1) := by decide +kernel
theorem dX3_baseIn_61 : decode cX3_baseIn 61 = .ok (.bipush 7, 2) := by decide +kernel
theorem dX3_baseIn_63 : decode cX3_baseIn 63 = .ok (.iand, 1) := by decide +kernel
theorem dX3_baseIn_64 : decode cX3_baseIn 64 = .ok (.tableswitch 151 0 5 #[40, 76, 85, 107, 119, 135], 40) := by decide +kernel
theorem dX3_baseIn_104 : decode cX3_baseIn 104 = .ok (.iload 7, 2) := by decide +kernel
theorem dX3_baseIn_106 : decode cX3_baseIn 106 = .ok (.iconst 1, 1) := by decide +kernel
theorem dX3_baseIn_107 : decode cX3_baseIn 107 = .ok (.ishl, 1) := by decide +kernel
theorem dX3_baseIn_108 : decode cX3_baseIn 108 = .ok (.aload_n 0, 1) := by decide +kernel
theorem dX3_baseIn_109 : decode cX3_baseIn 109 = .ok (.getfield 52, 3) := by decide +kernel
theorem dX3_baseIn_112 : decode cX3_baseIn 112 = .ok (.iload 8, 2) := by decide +kernel
theorem dX3_baseIn_114 : decode cX3_baseIn 114 = .ok (.iaload, 1) := by decide +kernel
theorem dX3_baseIn_115 : decode cX3_baseIn 115 = .ok (.aload_n 0, 1) := by decide +kernel
theorem dX3_baseIn_116 : decode cX3_baseIn 116 = .ok (.getfield 52, 3) := by decide +kernel
theorem dX3_baseIn_119 : decode cX3_baseIn 119 = .ok (.iload 8, 2) := by decide +kernel
theorem dX3_baseIn_121 : decode cX3_baseIn 121 = .ok (.iaload, 1) := by decide +kernel
theorem dX3_baseIn_122 : decode cX3_baseIn 122 = .ok (.iload_n 3, 1) := by decide +kernel
theorem dX3_baseIn_123 : decode cX3_baseIn 123 = .ok (.iload 4, 2) := by decide +kernel
theorem dX3_baseIn_125 : decode cX3_baseIn 125 = .ok (.iload 5, 2) := by decide +kernel
theorem dX3_baseIn_127 : decode cX3_baseIn 127 = .ok (.aload_n 1, 1) := by decide +kernel
theorem dX3_baseIn_128 : decode cX3_baseIn 128 = .ok (.invokestatic 71, 3) := by decide +kernel
theorem dX3_baseIn_131 : decode cX3_baseIn 131 = .ok (.invokestatic 75, 3) := by decide +kernel
theorem dX3_baseIn_134 : decode cX3_baseIn 134 = .ok (.ior, 1) := by decide +kernel
theorem dX3_baseIn_135 : decode cX3_baseIn 135 = .ok (.istore 7, 2) := by decide +kernel
theorem dX3_baseIn_137 : decode cX3_baseIn 137 = .ok (.goto 78, 3) := by decide +kernel
theorem dX3_baseIn_140 : decode cX3_baseIn 140 = .ok (.iload 7, 2) := by decide +kernel
theorem dX3_baseIn_142 : decode cX3_baseIn 142 = .ok (.iconst 1, 1) := by decide +kernel
theorem dX3_baseIn_143 : decode cX3_baseIn 143 = .ok (.ixor, 1) := by decide +kernel
theorem dX3_baseIn_144 : decode cX3_baseIn 144 = .ok (.istore 7, 2) := by decide +kernel
theorem dX3_baseIn_146 : decode cX3_baseIn 146 = .ok (.goto 69, 3) := by decide +kernel
theorem dX3_baseIn_149 : decode cX3_baseIn 149 = .ok (.iload 7, 2) := by decide +kernel
theorem dX3_baseIn_151 : decode cX3_baseIn 151 = .ok (.iconst 1, 1) := by decide +kernel
theorem dX3_baseIn_152 : decode cX3_baseIn 152 = .ok (.ishr, 1) := by decide +kernel
theorem dX3_baseIn_153 : decode cX3_baseIn 153 = .ok (.iload 10, 2) := by decide +kernel
theorem dX3_baseIn_155 : decode cX3_baseIn 155 = .ok (.iconst 1, 1) := by decide +kernel
theorem dX3_baseIn_156 : decode cX3_baseIn 156 = .ok (.if_icmp .ne 7, 3) := by decide +kernel
theorem dX3_baseIn_159 : decode cX3_baseIn 159 = .ok (.iconst (-1), 1) := by decide +kernel
theorem dX3_baseIn_160 : decode cX3_baseIn 160 = .ok (.goto 5, 3) := by decide +kernel
theorem dX3_baseIn_163 : decode cX3_baseIn 163 = .ok (.bipush (-2), 2) := by decide +kernel
theorem dX3_baseIn_165 : decode cX3_baseIn 165 = .ok (.iand, 1) := by decide +kernel
theorem dX3_baseIn_166 : decode cX3_baseIn 166 = .ok (.istore 7, 2) := by decide +kernel
theorem dX3_baseIn_168 : decode cX3_baseIn 168 = .ok (.goto 47, 3) := by decide +kernel
theorem dX3_baseIn_171 : decode cX3_baseIn 171 = .ok (.iload 7, 2) := by decide +kernel
theorem dX3_baseIn_173 : decode cX3_baseIn 173 = .ok (.iconst 1, 1) := by decide +kernel
theorem dX3_baseIn_174 : decode cX3_baseIn 174 = .ok (.ishr, 1) := by decide +kernel
theorem dX3_baseIn_175 : decode cX3_baseIn 175 = .ok (.iload 10, 2) := by decide +kernel
theorem dX3_baseIn_177 : decode cX3_baseIn 177 = .ok (.ior, 1) := by decide +kernel
theorem dX3_baseIn_178 : decode cX3_baseIn 178 = .ok (.istore 7, 2) := by decide +kernel
theorem dX3_baseIn_180 : decode cX3_baseIn 180 = .ok (.goto 35, 3) := by decide +kernel
theorem dX3_baseIn_183 : decode cX3_baseIn 183 = .ok (.iload 6, 2) := by decide +kernel
theorem dX3_baseIn_185 : decode cX3_baseIn 185 = .ok (.iload 10, 2) := by decide +kernel
theorem dX3_baseIn_187 : decode cX3_baseIn 187 = .ok (.iload 9, 2) := by decide +kernel
theorem dX3_baseIn_189 : decode cX3_baseIn 189 = .ok (.imul, 1) := by decide +kernel
theorem dX3_baseIn_190 : decode cX3_baseIn 190 = .ok (.iadd, 1) := by decide +kernel
theorem dX3_baseIn_191 : decode cX3_baseIn 191 = .ok (.istore 6, 2) := by decide +kernel
theorem dX3_baseIn_193 : decode cX3_baseIn 193 = .ok (.iconst 0, 1) := by decide +kernel
theorem dX3_baseIn_194 : decode cX3_baseIn 194 = .ok (.istore 7, 2) := by decide +kernel
theorem dX3_baseIn_196 : decode cX3_baseIn 196 = .ok (.goto 19, 3) := by decide +kernel
theorem dX3_baseIn_199 : decode cX3_baseIn 199 = .ok (.iload 6, 2) := by decide +kernel
theorem dX3_baseIn_201 : decode cX3_baseIn 201 = .ok (.iload 10, 2) := by decide +kernel
theorem dX3_baseIn_203 : decode cX3_baseIn 203 = .ok (.iload 9, 2) := by decide +kernel
theorem dX3_baseIn_205 : decode cX3_baseIn 205 = .ok (.imul, 1) := by decide +kernel
theorem dX3_baseIn_206 : decode cX3_baseIn 206 = .ok (.isub, 1) := by decide +kernel
theorem dX3_baseIn_207 : decode cX3_baseIn 207 = .ok (.istore 6, 2) := by decide +kernel
theorem dX3_baseIn_209 : decode cX3_baseIn 209 = .ok (.iconst 0, 1) := by decide +kernel
theorem dX3_baseIn_210 : decode cX3_baseIn 210 = .ok (.istore 7, 2) := by decide +kernel
theorem dX3_baseIn_212 : decode cX3_baseIn 212 = .ok (.goto 3, 3) := by decide +kernel
theorem dX3_baseIn_215 : decode cX3_baseIn 215 = .ok (.iinc 8 1, 3) := by decide +kernel
theorem dX3_baseIn_218 : decode cX3_baseIn 218 = .ok (.goto (-192), 3) := by decide +kernel
theorem dX3_baseIn_221 : decode cX3_baseIn 221 = .ok (.iconst 1, 1) := by decide +kernel
theorem dX3_baseIn_222 : decode cX3_baseIn 222 = .ok (.iload 6, 2) := by decide +kernel
theorem dX3_baseIn_224 : decode cX3_baseIn 224 = .ok (.invokestatic 79, 3) := by decide +kernel
theorem dX3_baseIn_227 : decode cX3_baseIn 227 = .ok (.ireturn, 1) := by decide +kernel
theorem dX3_tested_0 : decode cX3_tested 0 = .ok (.iload_n 0, 1) := by decide +kernel
theorem dX3_tested_1 : decode cX3_tested 1 = .ok (.iconst 3, 1) := by decide +kernel
theorem dX3_tested_2 : decode cX3_tested 2 = .ok (.ishr, 1) := by decide +kernel
theorem dX3_tested_3 : decode cX3_tested 3 = .ok (.bipush 7, 2) := by decide +kernel
theorem dX3_tested_5 : decode cX3_tested 5 = .ok (.iand, 1) := by decide +kernel
theorem dX3_tested_6 : decode cX3_tested 6 = .ok (.tableswitch 42 0 3 #[30, 32, 34, 36], 30) := by decide +kernel
theorem dX3_tested_36 : decode cX3_tested 36 = .ok (.iload_n 1, 1) := by decide +kernel
theorem dX3_tested_37 : decode cX3_tested 37 = .ok (.ireturn, 1) := by decide +kernel
theorem dX3_tested_38 : decode cX3_tested 38 = .ok (.iload_n 2, 1) := by decide +kernel
theorem dX3_tested_39 : decode cX3_tested 39 = .ok (.ireturn, 1) := by decide +kernel
theorem dX3_tested_40 : decode cX3_tested 40 = .ok (.iload_n 3, 1) := by decide +kernel
theorem dX3_tested_41 : decode cX3_tested 41 = .ok (.ireturn, 1) := by decide +kernel
theorem dX3_tested_42 : decode cX3_tested 42 = .ok (.aload 4, 2) := by decide +kernel
theorem dX3_tested_44 : decode cX3_tested 44 = .ok (.getfield 84, 3) := by decide +kernel
theorem dX3_tested_47 : decode cX3_tested 47 = .ok (.ireturn, 1) := by decide +kernel
theorem dX3_tested_48 : decode cX3_tested 48 = .ok (.aload 4, 2) := by decide +kernel
theorem dX3_tested_50 : decode cX3_tested 50 = .ok (.getfield 89, 3) := by decide +kernel
theorem dX3_tested_53 : decode cX3_tested 53 = .ok (.ireturn, 1) := by decide +kernel
theorem dX3_truth_0 : decode cX3_truth 0 = .ok (.iload_n 0, 1) := by decide +kernel
theorem dX3_truth_1 : decode cX3_truth 1 = .ok (.bipush 8, 2) := by decide +kernel
theorem dX3_truth_3 : decode cX3_truth 3 = .ok (.ishr, 1) := by decide +kernel
theorem dX3_truth_4 : decode cX3_truth 4 = .ok (.istore_n 2, 1) := by decide +kernel
theorem dX3_truth_5 : decode cX3_truth 5 = .ok (.iload_n 0, 1) := by decide +kernel
theorem dX3_truth_6 : decode cX3_truth 6 = .ok (.bipush 6, 2) := by decide +kernel
theorem dX3_truth_8 : decode cX3_truth 8 = .ok (.ishr, 1) := by decide +kernel
theorem dX3_truth_9 : decode cX3_truth 9 = .ok (.iconst 3, 1) := by decide +kernel
theorem dX3_truth_10 : decode cX3_truth 10 = .ok (.iand, 1) := by decide +kernel
theorem dX3_truth_11 : decode cX3_truth 11 = .ok (.lookupswitch 47 #[(0, 25), (1, 36)], 25) := by decide +kernel
theorem dX3_truth_36 : decode cX3_truth 36 = .ok (.iload_n 1, 1) := by decide +kernel
theorem dX3_truth_37 : decode cX3_truth 37 = .ok (.iload_n 2, 1) := by decide +kernel
theorem dX3_truth_38 : decode cX3_truth 38 = .ok (.if_icmp .ge 7, 3) := by decide +kernel
theorem dX3_truth_41 : decode cX3_truth 41 = .ok (.iconst 1, 1) := by decide +kernel
theorem dX3_truth_42 : decode cX3_truth 42 = .ok (.goto 4, 3) := by decide +kernel
theorem dX3_truth_45 : decode cX3_truth 45 = .ok (.iconst 0, 1) := by decide +kernel
theorem dX3_truth_46 : decode cX3_truth 46 = .ok (.ireturn, 1) := by decide +kernel
theorem dX3_truth_47 : decode cX3_truth 47 = .ok (.iload_n 1, 1) := by decide +kernel
theorem dX3_truth_48 : decode cX3_truth 48 = .ok (.iload_n 2, 1) := by decide +kernel
theorem dX3_truth_49 : decode cX3_truth 49 = .ok (.if_icmp .ne 7, 3) := by decide +kernel
theorem dX3_truth_52 : decode cX3_truth 52 = .ok (.iconst 1, 1) := by decide +kernel
theorem dX3_truth_53 : decode cX3_truth 53 = .ok (.goto 4, 3) := by decide +kernel
theorem dX3_truth_56 : decode cX3_truth 56 = .ok (.iconst 0, 1) := by decide +kernel
theorem dX3_truth_57 : decode cX3_truth 57 = .ok (.ireturn, 1) := by decide +kernel
theorem dX3_truth_58 : decode cX3_truth 58 = .ok (.iload_n 1, 1) := by decide +kernel
theorem dX3_truth_59 : decode cX3_truth 59 = .ok (.iload_n 2, 1) := by decide +kernel
theorem dX3_truth_60 : decode cX3_truth 60 = .ok (.if_icmp .le 7, 3) := by decide +kernel
theorem dX3_truth_63 : decode cX3_truth 63 = .ok (.iconst 1, 1) := by decide +kernel
theorem dX3_truth_64 : decode cX3_truth 64 = .ok (.goto 4, 3) := by decide +kernel
theorem dX3_truth_67 : decode cX3_truth 67 = .ok (.iconst 0, 1) := by decide +kernel
theorem dX3_truth_68 : decode cX3_truth 68 = .ok (.ireturn, 1) := by decide +kernel
theorem dX3_turnsIn_0 : decode cX3_turnsIn 0 = .ok (.sipush 999, 3) := by decide +kernel
theorem dX3_turnsIn_3 : decode cX3_turnsIn 3 = .ok (.aload_n 0, 1) := by decide +kernel
theorem dX3_turnsIn_4 : decode cX3_turnsIn 4 = .ok (.aload_n 0, 1) := by decide +kernel
theorem dX3_turnsIn_5 : decode cX3_turnsIn 5 = .ok (.aload_n 1, 1) := by decide +kernel
theorem dX3_turnsIn_6 : decode cX3_turnsIn 6 = .ok (.iload_n 3, 1) := by decide +kernel
theorem dX3_turnsIn_7 : decode cX3_turnsIn 7 = .ok (.invokevirtual 92, 3) := by decide +kernel
theorem dX3_turnsIn_10 : decode cX3_turnsIn 10 = .ok (.aload_n 1, 1) := by decide +kernel
theorem dX3_turnsIn_11 : decode cX3_turnsIn 11 = .ok (.getfield 89, 3) := by decide +kernel
theorem dX3_turnsIn_14 : decode cX3_turnsIn 14 = .ok (.iload_n 2, 1) := by decide +kernel
theorem dX3_turnsIn_15 : decode cX3_turnsIn 15 = .ok (.iload_n 3, 1) := by decide +kernel
theorem dX3_turnsIn_16 : decode cX3_turnsIn 16 = .ok (.iload 4, 2) := by decide +kernel
theorem dX3_turnsIn_18 : decode cX3_turnsIn 18 = .ok (.invokevirtual 96, 3) := by decide +kernel
theorem dX3_turnsIn_21 : decode cX3_turnsIn 21 = .ok (.invokestatic 100, 3) := by decide +kernel
theorem dX3_turnsIn_24 : decode cX3_turnsIn 24 = .ok (.ireturn, 1) := by decide +kernel
theorem dX3_spun_0 : decode cX3_spun 0 = .ok (.iload_n 1, 1) := by decide +kernel
theorem dX3_spun_1 : decode cX3_spun 1 = .ok (.ireturn, 1) := by decide +kernel
theorem dX3_stiffAt_0 : decode cX3_stiffAt 0 = .ok (.aload_n 1, 1) := by decide +kernel
theorem dX3_stiffAt_1 : decode cX3_stiffAt 1 = .ok (.getfield 84, 3) := by decide +kernel
theorem dX3_stiffAt_4 : decode cX3_stiffAt 4 = .ok (.ireturn, 1) := by decide +kernel
theorem dX3_isHighAt_0 : decode cX3_isHighAt 0 = .ok (.iload_n 1, 1) := by decide +kernel
theorem dX3_isHighAt_1 : decode cX3_isHighAt 1 = .ok (.bipush 10, 2) := by decide +kernel
theorem dX3_isHighAt_3 : decode cX3_isHighAt 3 = .ok (.aload_n 0, 1) := by decide +kernel
theorem dX3_isHighAt_4 : decode cX3_isHighAt 4 = .ok (.getfield 22, 3) := by decide +kernel
theorem dX3_isHighAt_7 : decode cX3_isHighAt 7 = .ok (.imul, 1) := by decide +kernel
theorem dX3_isHighAt_8 : decode cX3_isHighAt 8 = .ok (.if_icmp .le 7, 3) := by decide +kernel
theorem dX3_isHighAt_11 : decode cX3_isHighAt 11 = .ok (.iconst 1, 1) := by decide +kernel
theorem dX3_isHighAt_12 : decode cX3_isHighAt 12 = .ok (.goto 4, 3) := by decide +kernel
theorem dX3_isHighAt_15 : decode cX3_isHighAt 15 = .ok (.iconst 0, 1) := by decide +kernel
theorem dX3_isHighAt_16 : decode cX3_isHighAt 16 = .ok (.ireturn, 1) := by decide +kernel
theorem dX3_isHighAfter_0 : decode cX3_isHighAfter 0 = .ok (.aload_n 0, 1) := by decide +kernel
theorem dX3_isHighAfter_1 : decode cX3_isHighAfter 1 = .ok (.iload_n 2, 1) := by decide +kernel
theorem dX3_isHighAfter_2 : decode cX3_isHighAfter 2 = .ok (.invokevirtual 103, 3) := by decide +kernel
theorem dX3_isHighAfter_5 : decode cX3_isHighAfter 5 = .ok (.ifCond .ne 17, 3) := by decide +kernel
theorem dX3_isHighAfter_8 : decode cX3_isHighAfter 8 = .ok (.iload_n 1, 1) := by decide +kernel
theorem dX3_isHighAfter_9 : decode cX3_isHighAfter 9 = .ok (.ifCond .eq 17, 3) := by decide +kernel
theorem dX3_isHighAfter_12 : decode cX3_isHighAfter 12 = .ok (.iload_n 2, 1) := by decide +kernel
theorem dX3_isHighAfter_13 : decode cX3_isHighAfter 13 = .ok (.iconst 5, 1) := by decide +kernel
theorem dX3_isHighAfter_14 : decode cX3_isHighAfter 14 = .ok (.aload_n 0, 1) := by decide +kernel
theorem dX3_isHighAfter_15 : decode cX3_isHighAfter 15 = .ok (.getfield 22, 3) := by decide +kernel
theorem dX3_isHighAfter_18 : decode cX3_isHighAfter 18 = .ok (.imul, 1) := by decide +kernel
theorem dX3_isHighAfter_19 : decode cX3_isHighAfter 19 = .ok (.if_icmp .lt 7, 3) := by decide +kernel
theorem dX3_isHighAfter_22 : decode cX3_isHighAfter 22 = .ok (.iconst 1, 1) := by decide +kernel
theorem dX3_isHighAfter_23 : decode cX3_isHighAfter 23 = .ok (.goto 4, 3) := by decide +kernel
theorem dX3_isHighAfter_26 : decode cX3_isHighAfter 26 = .ok (.iconst 0, 1) := by decide +kernel
theorem dX3_isHighAfter_27 : decode cX3_isHighAfter 27 = .ok (.ireturn, 1) := by decide +kernel
theorem dX3_formAt_0 : decode cX3_formAt 0 = .ok (.bipush 10, 2) := by decide +kernel
theorem dX3_formAt_2 : decode cX3_formAt 2 = .ok (.iload_n 2, 1) := by decide +kernel
theorem dX3_formAt_3 : decode cX3_formAt 3 = .ok (.imul, 1) := by decide +kernel
theorem dX3_formAt_4 : decode cX3_formAt 4 = .ok (.iload_n 1, 1) := by decide +kernel
theorem dX3_formAt_5 : decode cX3_formAt 5 = .ok (.invokestatic 106, 3) := by decide +kernel
theorem dX3_formAt_8 : decode cX3_formAt 8 = .ok (.istore_n 3, 1) := by decide +kernel
theorem dX3_formAt_9 : decode cX3_formAt 9 = .ok (.iconst 0, 1) := by decide +kernel
theorem dX3_formAt_10 : decode cX3_formAt 10 = .ok (.istore 4, 2) := by decide +kernel
theorem dX3_formAt_12 : decode cX3_formAt 12 = .ok (.iconst 0, 1) := by decide +kernel
theorem dX3_formAt_13 : decode cX3_formAt 13 = .ok (.istore 5, 2) := by decide +kernel
theorem dX3_formAt_15 : decode cX3_formAt 15 = .ok (.iload 5, 2) := by decide +kernel
theorem dX3_formAt_17 : decode cX3_formAt 17 = .ok (.iconst 4, 1) := by decide +kernel
theorem dX3_formAt_18 : decode cX3_formAt 18 = .ok (.if_icmp .ge 26, 3) := by decide +kernel
theorem dX3_formAt_21 : decode cX3_formAt 21 = .ok (.iload_n 3, 1) := by decide +kernel
theorem dX3_formAt_22 : decode cX3_formAt 22 = .ok (.aload_n 0, 1) := by decide +kernel
theorem dX3_formAt_23 : decode cX3_formAt 23 = .ok (.getfield 45, 3) := by decide +kernel
theorem dX3_formAt_26 : decode cX3_formAt 26 = .ok (.iload 5, 2) := by decide +kernel
theorem dX3_formAt_28 : decode cX3_formAt 28 = .ok (.iaload, 1) := by decide +kernel
theorem dX3_formAt_29 : decode cX3_formAt 29 = .ok (.if_icmp .lt 15, 3) := by decide +kernel
theorem dX3_formAt_32 : decode cX3_formAt 32 = .ok (.iload 5, 2) := by decide +kernel
theorem dX3_formAt_34 : decode cX3_formAt 34 = .ok (.iconst 1, 1) := by decide +kernel
theorem dX3_formAt_35 : decode cX3_formAt 35 = .ok (.iadd, 1) := by decide +kernel
theorem dX3_formAt_36 : decode cX3_formAt 36 = .ok (.istore 4, 2) := by decide +kernel
theorem dX3_formAt_38 : decode cX3_formAt 38 = .ok (.iinc 5 1, 3) := by decide +kernel
theorem dX3_formAt_41 : decode cX3_formAt 41 = .ok (.goto (-26), 3) := by decide +kernel
theorem dX3_formAt_44 : decode cX3_formAt 44 = .ok (.iload 4, 2) := by decide +kernel
theorem dX3_formAt_46 : decode cX3_formAt 46 = .ok (.ireturn, 1) := by decide +kernel
theorem dX3_fallen_0 : decode cX3_fallen 0 = .ok (.aload_n 2, 1) := by decide +kernel
theorem dX3_fallen_1 : decode cX3_fallen 1 = .ok (.iconst 1, 1) := by decide +kernel
theorem dX3_fallen_2 : decode cX3_fallen 2 = .ok (.invokevirtual 109, 3) := by decide +kernel
theorem dX3_fallen_5 : decode cX3_fallen 5 = .ok (.iload_n 1, 1) := by decide +kernel
theorem dX3_fallen_6 : decode cX3_fallen 6 = .ok (.aload_n 0, 1) := by decide +kernel
theorem dX3_fallen_7 : decode cX3_fallen 7 = .ok (.getfield 19, 3) := by decide +kernel
theorem dX3_fallen_10 : decode cX3_fallen 10 = .ok (.iadd, 1) := by decide +kernel
theorem dX3_fallen_11 : decode cX3_fallen 11 = .ok (.ireturn, 1) := by decide +kernel
theorem dX3_wound_0 : decode cX3_wound 0 = .ok (.aload_n 2, 1) := by decide +kernel
theorem dX3_wound_1 : decode cX3_wound 1 = .ok (.iconst 2, 1) := by decide +kernel
theorem dX3_wound_2 : decode cX3_wound 2 = .ok (.invokevirtual 109, 3) := by decide +kernel
theorem dX3_wound_5 : decode cX3_wound 5 = .ok (.aload_n 0, 1) := by decide +kernel
theorem dX3_wound_6 : decode cX3_wound 6 = .ok (.iload_n 1, 1) := by decide +kernel
theorem dX3_wound_7 : decode cX3_wound 7 = .ok (.aload_n 2, 1) := by decide +kernel
theorem dX3_wound_8 : decode cX3_wound 8 = .ok (.invokevirtual 115, 3) := by decide +kernel
theorem dX3_wound_11 : decode cX3_wound 11 = .ok (.aload_n 0, 1) := by decide +kernel
theorem dX3_wound_12 : decode cX3_wound 12 = .ok (.getfield 22, 3) := by decide +kernel
theorem dX3_wound_15 : decode cX3_wound 15 = .ok (.isub, 1) := by decide +kernel
theorem dX3_wound_16 : decode cX3_wound 16 = .ok (.ireturn, 1) := by decide +kernel
theorem dX3_laid_0 : decode cX3_laid 0 = .ok (.aload_n 2, 1) := by decide +kernel
theorem dX3_laid_1 : decode cX3_laid 1 = .ok (.iconst 3, 1) := by decide +kernel
theorem dX3_laid_2 : decode cX3_laid 2 = .ok (.invokevirtual 109, 3) := by decide +kernel
theorem dX3_laid_5 : decode cX3_laid 5 = .ok (.aload_n 0, 1) := by decide +kernel
theorem dX3_laid_6 : decode cX3_laid 6 = .ok (.iload_n 1, 1) := by decide +kernel
theorem dX3_laid_7 : decode cX3_laid 7 = .ok (.aload_n 2, 1) := by decide +kernel
theorem dX3_laid_8 : decode cX3_laid 8 = .ok (.invokevirtual 119, 3) := by decide +kernel
theorem dX3_laid_11 : decode cX3_laid 11 = .ok (.iconst 2, 1) := by decide +kernel
theorem dX3_laid_12 : decode cX3_laid 12 = .ok (.imul, 1) := by decide +kernel
theorem dX3_laid_13 : decode cX3_laid 13 = .ok (.ireturn, 1) := by decide +kernel
theorem dX4_init_0 : decode cX4_init 0 = .ok (.aload_n 0, 1) := by decide +kernel
theorem dX4_init_1 : decode cX4_init 1 = .ok (.invokespecial 3, 3) := by decide +kernel
theorem dX4_init_4 : decode cX4_init 4 = .ok (.aload_n 0, 1) := by decide +kernel
theorem dX4_init_5 : decode cX4_init 5 = .ok (.iconst 0, 1) := by decide +kernel
theorem dX4_init_6 : decode cX4_init 6 = .ok (.newarray .int, 2) := by decide +kernel
theorem dX4_init_8 : decode cX4_init 8 = .ok (.putfield 9, 3) := by decide +kernel
theorem dX4_init_11 : decode cX4_init 11 = .ok (.aload_n 0, 1) := by decide +kernel
theorem dX4_init_12 : decode cX4_init 12 = .ok (.iconst 0, 1) := by decide +kernel
theorem dX4_init_13 : decode cX4_init 13 = .ok (.putfield 15, 3) := by decide +kernel
theorem dX4_init_16 : decode cX4_init 16 = .ok (.aload_n 0, 1) := by decide +kernel
theorem dX4_init_17 : decode cX4_init 17 = .ok (.iconst 0, 1) := by decide +kernel
theorem dX4_init_18 : decode cX4_init 18 = .ok (.putfield 19, 3) := by decide +kernel
theorem dX4_init_21 : decode cX4_init 21 = .ok (.aload_n 0, 1) := by decide +kernel
theorem dX4_init_22 : decode cX4_init 22 = .ok (.bipush 120, 2) := by decide +kernel
theorem dX4_init_24 : decode cX4_init 24 = .ok (.newarray .int, 2) := by decide +kernel
theorem dX4_init_26 : decode cX4_init 26 = .ok (.putfield 22, 3) := by decide +kernel
theorem dX4_init_29 : decode cX4_init 29 = .ok (.aload_n 0, 1) := by decide +kernel
theorem dX4_init_30 : decode cX4_init 30 = .ok (.iconst 0, 1) := by decide +kernel
theorem dX4_init_31 : decode cX4_init 31 = .ok (.putfield 25, 3) := by decide +kernel
theorem dX4_init_34 : decode cX4_init 34 = .ok (.aload_n 0, 1) := by decide +kernel
theorem dX4_init_35 : decode cX4_init 35 = .ok (.iconst 4, 1) := by decide +kernel
theorem dX4_init_36 : decode cX4_init 36 = .ok (.newarray .int, 2) := by decide +kernel
theorem dX4_init_38 : decode cX4_init 38 = .ok (.putfield 28, 3) := by decide +kernel
theorem dX4_init_41 : decode cX4_init 41 = .ok (.aload_n 0, 1) := by decide +kernel
theorem dX4_init_42 : decode cX4_init 42 = .ok (.iconst 0, 1) := by decide +kernel
theorem dX4_init_43 : decode cX4_init 43 = .ok (.putfield 31, 3) := by decide +kernel
theorem dX4_init_46 : decode cX4_init 46 = .ok (.aload_n 0, 1) := by decide +kernel
theorem dX4_init_47 : decode cX4_init 47 = .ok (.iconst 0, 1) := by decide +kernel
theorem dX4_init_48 : decode cX4_init 48 = .ok (.putfield 34, 3) := by decide +kernel
theorem dX4_init_51 : decode cX4_init 51 = .ok (.return_, 1) := by decide +kernel
theorem dX4_isLaw_0 : decode cX4_isLaw 0 = .ok (.aload_n 0, 1) := by decide +kernel
theorem dX4_isLaw_1 : decode cX4_isLaw 1 = .ok (.aload_n 1, 1) := by decide +kernel
theorem dX4_isLaw_2 : decode cX4_isLaw 2 = .ok (.putfield 9, 3) := by decide +kernel
theorem dX4_isLaw_5 : decode cX4_isLaw 5 = .ok (.aload_n 0, 1) := by decide +kernel
theorem dX4_isLaw_6 : decode cX4_isLaw 6 = .ok (.iload_n 2, 1) := by decide +kernel
theorem dX4_isLaw_7 : decode cX4_isLaw 7 = .ok (.aload_n 1, 1) := by decide +kernel
theorem dX4_isLaw_8 : decode cX4_isLaw 8 = .ok (.arraylength, 1) := by decide +kernel
theorem dX4_isLaw_9 : decode cX4_isLaw 9 = .ok (.invokestatic 37, 3) := by decide +kernel
theorem dX4_isLaw_12 : decode cX4_isLaw 12 = .ok (.putfield 15, 3) := by decide +kernel
theorem dX4_isLaw_15 : decode cX4_isLaw 15 = .ok (.aload_n 0, 1) := by decide +kernel
theorem dX4_isLaw_16 : decode cX4_isLaw 16 = .ok (.iconst 0, 1) := by decide +kernel
theorem dX4_isLaw_17 : decode cX4_isLaw 17 = .ok (.putfield 19, 3) := by decide +kernel
theorem dX4_isLaw_20 : decode cX4_isLaw 20 = .ok (.aload_n 0, 1) := by decide +kernel
theorem dX4_isLaw_21 : decode cX4_isLaw 21 = .ok (.iconst 0, 1) := by decide +kernel
theorem dX4_isLaw_22 : decode cX4_isLaw 22 = .ok (.putfield 25, 3) := by decide +kernel
theorem dX4_isLaw_25 : decode cX4_isLaw 25 = .ok (.aload_n 0, 1) := by decide +kernel
theorem dX4_isLaw_26 : decode cX4_isLaw 26 = .ok (.bipush 20, 2) := by decide +kernel
theorem dX4_isLaw_28 : decode cX4_isLaw 28 = .ok (.putfield 31, 3) := by decide +kernel
theorem dX4_isLaw_31 : decode cX4_isLaw 31 = .ok (.aload_n 0, 1) := by decide +kernel
theorem dX4_isLaw_32 : decode cX4_isLaw 32 = .ok (.iconst 0, 1) := by decide +kernel
theorem dX4_isLaw_33 : decode cX4_isLaw 33 = .ok (.putfield 34, 3) := by decide +kernel
theorem dX4_isLaw_36 : decode cX4_isLaw 36 = .ok (.iconst 0, 1) := by decide +kernel
theorem dX4_isLaw_37 : decode cX4_isLaw 37 = .ok (.istore_n 3, 1) := by decide +kernel
theorem dX4_isLaw_38 : decode cX4_isLaw 38 = .ok (.iload_n 3, 1) := by decide +kernel
theorem dX4_isLaw_39 : decode cX4_isLaw 39 = .ok (.iconst 4, 1) := by decide +kernel
theorem dX4_isLaw_40 : decode cX4_isLaw 40 = .ok (.if_icmp .ge 20, 3) := by decide +kernel
theorem dX4_isLaw_43 : decode cX4_isLaw 43 = .ok (.aload_n 0, 1) := by decide +kernel
theorem dX4_isLaw_44 : decode cX4_isLaw 44 = .ok (.getfield 28, 3) := by decide +kernel
theorem dX4_isLaw_47 : decode cX4_isLaw 47 = .ok (.iload_n 3, 1) := by decide +kernel
theorem dX4_isLaw_48 : decode cX4_isLaw 48 = .ok (.iconst 3, 1) := by decide +kernel
theorem dX4_isLaw_49 : decode cX4_isLaw 49 = .ok (.iload_n 3, 1) := by decide +kernel
theorem dX4_isLaw_50 : decode cX4_isLaw 50 = .ok (.iconst 1, 1) := by decide +kernel
theorem dX4_isLaw_51 : decode cX4_isLaw 51 = .ok (.iadd, 1) := by decide +kernel
theorem dX4_isLaw_52 : decode cX4_isLaw 52 = .ok (.imul, 1) := by decide +kernel
theorem dX4_isLaw_53 : decode cX4_isLaw 53 = .ok (.iastore, 1) := by decide +kernel
theorem dX4_isLaw_54 : decode cX4_isLaw 54 = .ok (.iinc 3 1, 3) := by decide +kernel
theorem dX4_isLaw_57 : decode cX4_isLaw 57 = .ok (.goto (-19), 3) := by decide +kernel
theorem dX4_isLaw_60 : decode cX4_isLaw 60 = .ok (.iconst 1, 1) := by decide +kernel
theorem dX4_isLaw_61 : decode cX4_isLaw 61 = .ok (.istore_n 3, 1) := by decide +kernel
theorem dX4_isLaw_62 : decode cX4_isLaw 62 = .ok (.iload_n 3, 1) := by decide +kernel
theorem dX4_isLaw_63 : decode cX4_isLaw 63 = .ok (.bipush 10, 2) := by decide +kernel
theorem dX4_isLaw_65 : decode cX4_isLaw 65 = .ok (.if_icmp .gt 48, 3) := by decide +kernel
theorem dX4_isLaw_68 : decode cX4_isLaw 68 = .ok (.aload_n 0, 1) := by decide +kernel
theorem dX4_isLaw_69 : decode cX4_isLaw 69 = .ok (.invokevirtual 43, 3) := by decide +kernel
theorem dX4_isLaw_72 : decode cX4_isLaw 72 = .ok (.ifCond .ne 5, 3) := by decide +kernel
theorem dX4_isLaw_75 : decode cX4_isLaw 75 = .ok (.iconst 0, 1) := by decide +kernel
theorem dX4_isLaw_76 : decode cX4_isLaw 76 = .ok (.ireturn, 1) := by decide +kernel
theorem dX4_isLaw_77 : decode cX4_isLaw 77 = .ok (.aload_n 0, 1) := by decide +kernel
theorem dX4_isLaw_78 : decode cX4_isLaw 78 = .ok (.getfield 19, 3) := by decide +kernel
theorem dX4_isLaw_81 : decode cX4_isLaw 81 = .ok (.aload_n 0, 1) := by decide +kernel
theorem dX4_isLaw_82 : decode cX4_isLaw 82 = .ok (.getfield 15, 3) := by decide +kernel
theorem dX4_isLaw_85 : decode cX4_isLaw 85 = .ok (.if_icmp .ne 5, 3) := by decide +kernel
theorem dX4_isLaw_88 : decode cX4_isLaw 88 = .ok (.iconst 1, 1) := by decide +kernel
theorem dX4_isLaw_89 : decode cX4_isLaw 89 = .ok (.ireturn, 1) := by decide +kernel
theorem dX4_isLaw_90 : decode cX4_isLaw 90 = .ok (.iload_n 3, 1) := by decide +kernel
theorem dX4_isLaw_91 : decode cX4_isLaw 91 = .ok (.bipush 10, 2) := by decide +kernel
theorem dX4_isLaw_93 : decode cX4_isLaw 93 = .ok (.if_icmp .eq 12, 3) := by decide +kernel
theorem dX4_isLaw_96 : decode cX4_isLaw 96 = .ok (.aload_n 0, 1) := by decide +kernel
theorem dX4_isLaw_97 : decode cX4_isLaw 97 = .ok (.bipush 59, 2) := by decide +kernel
theorem dX4_isLaw_99 : decode cX4_isLaw 99 = .ok (.invokevirtual 47, 3) := by decide +kernel
theorem dX4_isLaw_102 : decode cX4_isLaw 102 = .ok (.ifCond .ne 5, 3) := by decide +kernel
theorem dX4_isLaw_105 : decode cX4_isLaw 105 = .ok (.iconst 0, 1) := by decide +kernel
theorem dX4_isLaw_106 : decode cX4_isLaw 106 = .ok (.ireturn, 1) := by decide +kernel
theorem dX4_isLaw_107 : decode cX4_isLaw 107 = .ok (.iinc 3 1, 3) := by decide +kernel
theorem dX4_isLaw_110 : decode cX4_isLaw 110 = .ok (.goto (-48), 3) := by decide +kernel
theorem dX4_isLaw_113 : decode cX4_isLaw 113 = .ok (.iconst 0, 1) := by decide +kernel
theorem dX4_isLaw_114 : decode cX4_isLaw 114 = .ok (.ireturn, 1) := by decide +kernel
theorem dX4_isClause_0 : decode cX4_isClause 0 = .ok (.aload_n 0, 1) := by decide +kernel
theorem dX4_isClause_1 : decode cX4_isClause 1 = .ok (.invokevirtual 51, 3) := by decide +kernel
theorem dX4_isClause_4 : decode cX4_isClause 4 = .ok (.istore_n 1, 1) := by decide +kernel
theorem dX4_isClause_5 : decode cX4_isClause 5 = .ok (.iload_n 1, 1) := by decide +kernel
theorem dX4_isClause_6 : decode cX4_isClause 6 = .ok (.invokestatic 55, 3) := by decide +kernel
theorem dX4_isClause_9 : decode cX4_isClause 9 = .ok (.astore_n 2, 1) := by decide +kernel
theorem dX4_isClause_10 : decode cX4_isClause 10 = .ok (.aload_n 2, 1) := by decide +kernel
theorem dX4_isClause_11 : decode cX4_isClause 11 = .ok (.ifnull 11, 3) := by decide +kernel
theorem dX4_isClause_14 : decode cX4_isClause 14 = .ok (.aload_n 0, 1) := by decide +kernel
theorem dX4_isClause_15 : decode cX4_isClause 15 = .ok (.aload_n 2, 1) := by decide +kernel
theorem dX4_isClause_16 : decode cX4_isClause 16 = .ok (.invokevirtual 59, 3) := by decide +kernel
theorem dX4_isClause_19 : decode cX4_isClause 19 = .ok (.ifCond .ne 5, 3) := by decide +kernel
theorem dX4_isClause_22 : decode cX4_isClause 22 = .ok (.iconst 0, 1) := by decide +kernel
theorem dX4_isClause_23 : decode cX4_isClause 23 = .ok (.ireturn, 1) := by decide +kernel
theorem dX4_isClause_24 : decode cX4_isClause 24 = .ok (.iload_n 1, 1) := by decide +kernel
theorem dX4_isClause_25 : decode cX4_isClause 25 = .ok (.bipush 102, 2) := by decide +kernel
theorem dX4_isClause_27 : decode cX4_isClause 27 = .ok (.if_icmp .ne 10, 3) := by decide +kernel
theorem dX4_isClause_30 : decode cX4_isClause 30 = .ok (.aload_n 0, 1) := by decide +kernel
theorem dX4_isClause_31 : decode cX4_isClause 31 = .ok (.invokevirtual 63, 3) := by decide +kernel
theorem dX4_isClause_34 : decode cX4_isClause 34 = .ok (.goto 4, 3) := by decide +kernel
theorem dX4_isClause_37 : decode cX4_isClause 37 = .ok (.iconst 0, 1) := by decide +kernel
theorem dX4_isClause_38 : decode cX4_isClause 38 = .ok (.istore_n 3, 1) := by decide +kernel
theorem dX4_isClause_39 : decode cX4_isClause 39 = .ok (.iload_n 3, 1) := by decide +kernel
theorem dX4_isClause_40 : decode cX4_isClause 40 = .ok (.ifCond .ge 7, 3) := by decide +kernel
theorem dX4_isClause_43 : decode cX4_isClause 43 = .ok (.iconst (-1), 1) := by decide +kernel
theorem dX4_isClause_44 : decode cX4_isClause 44 = .ok (.goto 7, 3) := by decide +kernel
theorem dX4_isClause_47 : decode cX4_isClause 47 = .ok (.aload_n 0, 1) := by decide +kernel
theorem dX4_isClause_48 : decode cX4_isClause 48 = .ok (.invokevirtual 66, 3) := by decide +kernel
theorem dX4_isClause_51 : decode cX4_isClause 51 = .ok (.istore 4, 2) := by decide +kernel
theorem dX4_isClause_53 : decode cX4_isClause 53 = .ok (.iload 4, 2) := by decide +kernel
theorem dX4_isClause_55 : decode cX4_isClause 55 = .ok (.ifCond .ge 5, 3) := by decide +kernel
theorem dX4_isClause_58 : decode cX4_isClause 58 = .ok (.iconst 0, 1) := by decide +kernel
theorem dX4_isClause_59 : decode cX4_isClause 59 = .ok (.ireturn, 1) := by decide +kernel
theorem dX4_isClause_60 : decode cX4_isClause 60 = .ok (.iload_n 1, 1) := by decide +kernel
theorem dX4_isClause_61 : decode cX4_isClause 61 = .ok (.lookupswitch 61 #[(99, 53), (102, 35), (104, 45)], 35) := by decide +kernel
theorem dX4_isClause_96 : decode cX4_isClause 96 = .ok (.aload_n 0, 1) := by decide +kernel
theorem dX4_isClause_97 : decode cX4_isClause 97 = .ok (.getfield 28, 3) := by decide +kernel
theorem dX4_isClause_100 : decode cX4_isClause 100 = .ok (.iload_n 3, 1) := by decide +kernel
theorem dX4_isClause_101 : decode cX4_isClause 101 = .ok (.iload 4, 2) := by decide +kernel
theorem dX4_isClause_103 : decode cX4_isClause 103 = .ok (.iastore, 1) := by decide +kernel
theorem dX4_isClause_104 : decode cX4_isClause 104 = .ok (.iconst 1, 1) := by decide +kernel
theorem dX4_isClause_105 : decode cX4_isClause 105 = .ok (.ireturn, 1) := by decide +kernel
theorem dX4_isClause_106 : decode cX4_isClause 106 = .ok (.aload_n 0, 1) := by decide +kernel
theorem dX4_isClause_107 : decode cX4_isClause 107 = .ok (.iload 4, 2) := by decide +kernel
theorem dX4_isClause_109 : decode cX4_isClause 109 = .ok (.putfield 31, 3) := by decide +kernel
theorem dX4_isClause_112 : decode cX4_isClause 112 = .ok (.iconst 1, 1) := by decide +kernel
theorem dX4_isClause_113 : decode cX4_isClause 113 = .ok (.ireturn, 1) := by decide +kernel
theorem dX4_isClause_114 : decode cX4_isClause 114 = .ok (.aload_n 0, 1) := by decide +kernel
theorem dX4_isClause_115 : decode cX4_isClause 115 = .ok (.iload 4, 2) := by decide +kernel
theorem dX4_isClause_117 : decode cX4_isClause 117 = .ok (.putfield 34, 3) := by decide +kernel
theorem dX4_isClause_120 : decode cX4_isClause 120 = .ok (.iconst 1, 1) := by decide +kernel
theorem dX4_isClause_121 : decode cX4_isClause 121 = .ok (.ireturn, 1) := by decide +kernel
theorem dX4_isClause_122 : decode cX4_isClause 122 = .ok (.aload_n 0, 1) := by decide +kernel
theorem dX4_isClause_123 : decode cX4_isClause 123 = .ok (.bipush 32, 2) := by decide +kernel
theorem dX4_isClause_125 : decode cX4_isClause 125 = .ok (.invokevirtual 47, 3) := by decide +kernel
theorem dX4_isClause_128 : decode cX4_isClause 128 = .ok (.ifCond .eq 11, 3) := by decide +kernel
theorem dX4_isClause_131 : decode cX4_isClause 131 = .ok (.aload_n 0, 1) := by decide +kernel
theorem dX4_isClause_132 : decode cX4_isClause 132 = .ok (.iconst 0, 1) := by decide +kernel
theorem dX4_isClause_133 : decode cX4_isClause 133 = .ok (.invokevirtual 69, 3) := by decide +kernel
theorem dX4_isClause_136 : decode cX4_isClause 136 = .ok (.ifCond .ne 5, 3) := by decide +kernel
theorem dX4_isClause_139 : decode cX4_isClause 139 = .ok (.iconst 0, 1) := by decide +kernel
theorem dX4_isClause_140 : decode cX4_isClause 140 = .ok (.ireturn, 1) := by decide +kernel
theorem dX4_isClause_141 : decode cX4_isClause 141 = .ok (.aload_n 0, 1) := by decide +kernel
theorem dX4_isClause_142 : decode cX4_isClause 142 = .ok (.iload_n 1, 1) := by decide +kernel
theorem dX4_isClause_143 : decode cX4_isClause 143 = .ok (.bipush 119, 2) := by decide +kernel
theorem dX4_isClause_145 : decode cX4_isClause 145 = .ok (.if_icmp .ne 7, 3) := by decide +kernel
theorem dX4_isClause_148 : decode cX4_isClause 148 = .ok (.iconst 4, 1) := by decide +kernel
theorem dX4_isClause_149 : decode cX4_isClause 149 = .ok (.goto 4, 3) := by decide +kernel
theorem dX4_isClause_152 : decode cX4_isClause 152 = .ok (.iconst 5, 1) := by decide +kernel
theorem dX4_isClause_153 : decode cX4_isClause 153 = .ok (.iload 4, 2) := by decide +kernel
theorem dX4_isClause_155 : decode cX4_isClause 155 = .ok (.bipush 8, 2) := by decide +kernel
theorem dX4_isClause_157 : decode cX4_isClause 157 = .ok (.ishl, 1) := by decide +kernel
theorem dX4_isClause_158 : decode cX4_isClause 158 = .ok (.ior, 1) := by decide +kernel
theorem dX4_isClause_159 : decode cX4_isClause 159 = .ok (.invokevirtual 73, 3) := by decide +kernel
theorem dX4_isClause_162 : decode cX4_isClause 162 = .ok (.iconst 1, 1) := by decide +kernel
theorem dX4_isClause_163 : decode cX4_isClause 163 = .ok (.ireturn, 1) := by decide +kernel
theorem dX4_wordOf_0 : decode cX4_wordOf 0 = .ok (.iload_n 0, 1) := by decide +kernel
theorem dX4_wordOf_1 : decode cX4_wordOf 1 = .ok (.lookupswitch 66 #[(99, 63), (101, 54), (102, 57), (104, 60), (119, 51)], 51) := by decide +kernel
theorem dX4_wordOf_52 : decode cX4_wordOf 52 = .ok (.ldc 77, 2) := by decide +kernel
theorem dX4_wordOf_54 : decode cX4_wordOf 54 = .ok (.areturn, 1) := by decide +kernel
theorem dX4_wordOf_55 : decode cX4_wordOf 55 = .ok (.ldc 79, 2) := by decide +kernel
theorem dX4_wordOf_57 : decode cX4_wordOf 57 = .ok (.areturn, 1) := by decide +kernel
theorem dX4_wordOf_58 : decode cX4_wordOf 58 = .ok (.ldc 81, 2) := by decide +kernel
theorem dX4_wordOf_60 : decode cX4_wordOf 60 = .ok (.areturn, 1) := by decide +kernel
theorem dX4_wordOf_61 : decode cX4_wordOf 61 = .ok (.ldc 83, 2) := by decide +kernel
theorem dX4_wordOf_63 : decode cX4_wordOf 63 = .ok (.areturn, 1) := by decide +kernel
theorem dX4_wordOf_64 : decode cX4_wordOf 64 = .ok (.ldc 85, 2) := by decide +kernel
theorem dX4_wordOf_66 : decode cX4_wordOf 66 = .ok (.areturn, 1) := by decide +kernel
theorem dX4_wordOf_67 : decode cX4_wordOf 67 = .ok (.aconst_null, 1) := by decide +kernel
theorem dX4_wordOf_68 : decode cX4_wordOf 68 = .ok (.areturn, 1) := by decide +kernel
theorem dX4_formTold_0 : decode cX4_formTold 0 = .ok (.aload_n 0, 1) := by decide +kernel
theorem dX4_formTold_1 : decode cX4_formTold 1 = .ok (.invokevirtual 51, 3) := by decide +kernel
theorem dX4_formTold_4 : decode cX4_formTold 4 = .ok (.bipush 49, 2) := by decide +kernel
theorem dX4_formTold_6 : decode cX4_formTold 6 = .ok (.isub, 1) := by decide +kernel
theorem dX4_formTold_7 : decode cX4_formTold 7 = .ok (.istore_n 1, 1) := by decide +kernel
theorem dX4_formTold_8 : decode cX4_formTold 8 = .ok (.iload_n 1, 1) := by decide +kernel
theorem dX4_formTold_9 : decode cX4_formTold 9 = .ok (.iconst 0, 1) := by decide +kernel
theorem dX4_formTold_10 : decode cX4_formTold 10 = .ok (.iconst 3, 1) := by decide +kernel
theorem dX4_formTold_11 : decode cX4_formTold 11 = .ok (.invokestatic 87, 3) := by decide +kernel
theorem dX4_formTold_14 : decode cX4_formTold 14 = .ok (.ifCond .ne 5, 3) := by decide +kernel
theorem dX4_formTold_17 : decode cX4_formTold 17 = .ok (.iconst (-1), 1) := by decide +kernel
theorem dX4_formTold_18 : decode cX4_formTold 18 = .ok (.ireturn, 1) := by decide +kernel
theorem dX4_formTold_19 : decode cX4_formTold 19 = .ok (.aload_n 0, 1) := by decide +kernel
theorem dX4_formTold_20 : decode cX4_formTold 20 = .ok (.dup, 1) := by decide +kernel
theorem dX4_formTold_21 : decode cX4_formTold 21 = .ok (.getfield 19, 3) := by decide +kernel
theorem dX4_formTold_24 : decode cX4_formTold 24 = .ok (.iconst 1, 1) := by decide +kernel
theorem dX4_formTold_25 : decode cX4_formTold 25 = .ok (.iadd, 1) := by decide +kernel
theorem dX4_formTold_26 : decode cX4_formTold 26 = .ok (.putfield 19, 3) := by decide +kernel
theorem dX4_formTold_29 : decode cX4_formTold 29 = .ok (.aload_n 0, 1) := by decide +kernel
theorem dX4_formTold_30 : decode cX4_formTold 30 = .ok (.bipush 32, 2) := by decide +kernel
theorem dX4_formTold_32 : decode cX4_formTold 32 = .ok (.invokevirtual 47, 3) := by decide +kernel
theorem dX4_formTold_35 : decode cX4_formTold 35 = .ok (.ifCond .eq 7, 3) := by decide +kernel
theorem dX4_formTold_38 : decode cX4_formTold 38 = .ok (.iload_n 1, 1) := by decide +kernel
theorem dX4_formTold_39 : decode cX4_formTold 39 = .ok (.goto 4, 3) := by decide +kernel
theorem dX4_formTold_42 : decode cX4_formTold 42 = .ok (.iconst (-1), 1) := by decide +kernel
theorem dX4_formTold_43 : decode cX4_formTold 43 = .ok (.ireturn, 1) := by decide +kernel
theorem dX4_isAny_0 : decode cX4_isAny 0 = .ok (.aload_n 0, 1) := by decide +kernel
theorem dX4_isAny_1 : decode cX4_isAny 1 = .ok (.iload_n 1, 1) := by decide +kernel
theorem dX4_isAny_2 : decode cX4_isAny 2 = .ok (.invokevirtual 91, 3) := by decide +kernel
theorem dX4_isAny_5 : decode cX4_isAny 5 = .ok (.ifCond .ne 5, 3) := by decide +kernel
theorem dX4_isAny_8 : decode cX4_isAny 8 = .ok (.iconst 0, 1) := by decide +kernel
theorem dX4_isAny_9 : decode cX4_isAny 9 = .ok (.ireturn, 1) := by decide +kernel
theorem dX4_isAny_10 : decode cX4_isAny 10 = .ok (.iconst 0, 1) := by decide +kernel
theorem dX4_isAny_11 : decode cX4_isAny 11 = .ok (.istore_n 2, 1) := by decide +kernel
theorem dX4_isAny_12 : decode cX4_isAny 12 = .ok (.iload_n 2, 1) := by decide +kernel
theorem dX4_isAny_13 : decode cX4_isAny 13 = .ok (.bipush 120, 2) := by decide +kernel
theorem dX4_isAny_15 : decode cX4_isAny 15 = .ok (.if_icmp .ge 33, 3) := by decide +kernel
theorem dX4_isAny_18 : decode cX4_isAny 18 = .ok (.aload_n 0, 1) := by decide +kernel
theorem dX4_isAny_19 : decode cX4_isAny 19 = .ok (.bipush 124, 2) := by decide +kernel
theorem dX4_isAny_21 : decode cX4_isAny 21 = .ok (.invokevirtual 47, 3) := by decide +kernel
theorem dX4_isAny_24 : decode cX4_isAny 24 = .ok (.ifCond .eq 24, 3) := by decide +kernel
theorem dX4_isAny_27 : decode cX4_isAny 27 = .ok (.aload_n 0, 1) := by decide +kernel
theorem dX4_isAny_28 : decode cX4_isAny 28 = .ok (.iload_n 1, 1) := by decide +kernel
theorem dX4_isAny_29 : decode cX4_isAny 29 = .ok (.invokevirtual 91, 3) := by decide +kernel
theorem dX4_isAny_32 : decode cX4_isAny 32 = .ok (.ifCond .ne 5, 3) := by decide +kernel
theorem dX4_isAny_35 : decode cX4_isAny 35 = .ok (.iconst 0, 1) := by decide +kernel
theorem dX4_isAny_36 : decode cX4_isAny 36 = .ok (.ireturn, 1) := by decide +kernel
theorem dX4_isAny_37 : decode cX4_isAny 37 = .ok (.aload_n 0, 1) := by decide +kernel
theorem dX4_isAny_38 : decode cX4_isAny 38 = .ok (.iconst 3, 1) := by decide +kernel
theorem dX4_isAny_39 : decode cX4_isAny 39 = .ok (.invokevirtual 73, 3) := by decide +kernel
theorem dX4_isAny_42 : decode cX4_isAny 42 = .ok (.iinc 2 1, 3) := by decide +kernel
theorem dX4_isAny_45 : decode cX4_isAny 45 = .ok (.goto (-33), 3) := by decide +kernel
theorem dX4_isAny_48 : decode cX4_isAny 48 = .ok (.iconst 1, 1) := by decide +kernel
theorem dX4_isAny_49 : decode cX4_isAny 49 = .ok (.ireturn, 1) := by decide +kernel
theorem dX4_isAll_0 : decode cX4_isAll 0 = .ok (.aload_n 0, 1) := by decide +kernel
theorem dX4_isAll_1 : decode cX4_isAll 1 = .ok (.iload_n 1, 1) := by decide +kernel
theorem dX4_isAll_2 : decode cX4_isAll 2 = .ok (.invokevirtual 94, 3) := by decide +kernel
theorem dX4_isAll_5 : decode cX4_isAll 5 = .ok (.ifCond .ne 5, 3) := by decide +kernel
theorem dX4_isAll_8 : decode cX4_isAll 8 = .ok (.iconst 0, 1) := by decide +kernel
theorem dX4_isAll_9 : decode cX4_isAll 9 = .ok (.ireturn, 1) := by decide +kernel
theorem dX4_isAll_10 : decode cX4_isAll 10 = .ok (.iconst 0, 1) := by decide +kernel
theorem dX4_isAll_11 : decode cX4_isAll 11 = .ok (.istore_n 2, 1) := by decide +kernel
theorem dX4_isAll_12 : decode cX4_isAll 12 = .ok (.iload_n 2, 1) := by decide +kernel
theorem dX4_isAll_13 : decode cX4_isAll 13 = .ok (.bipush 120, 2) := by decide +kernel
theorem dX4_isAll_15 : decode cX4_isAll 15 = .ok (.if_icmp .ge 33, 3) := by decide +kernel
theorem dX4_isAll_18 : decode cX4_isAll 18 = .ok (.aload_n 0, 1) := by decide +kernel
theorem dX4_isAll_19 : decode cX4_isAll 19 = .ok (.bipush 38, 2) := by decide +kernel
theorem dX4_isAll_21 : decode cX4_isAll 21 = .ok (.invokevirtual 47, 3) := by decide +kernel
theorem dX4_isAll_24 : decode cX4_isAll 24 = .ok (.ifCond .eq 24, 3) := by decide +kernel
theorem dX4_isAll_27 : decode cX4_isAll 27 = .ok (.aload_n 0, 1) := by decide +kernel
theorem dX4_isAll_28 : decode cX4_isAll 28 = .ok (.iload_n 1, 1) := by decide +kernel
theorem dX4_isAll_29 : decode cX4_isAll 29 = .ok (.invokevirtual 94, 3) := by decide +kernel
theorem dX4_isAll_32 : decode cX4_isAll 32 = .ok (.ifCond .ne 5, 3) := by decide +kernel
theorem dX4_isAll_35 : decode cX4_isAll 35 = .ok (.iconst 0, 1) := by decide +kernel
theorem dX4_isAll_36 : decode cX4_isAll 36 = .ok (.ireturn, 1) := by decide +kernel
theorem dX4_isAll_37 : decode cX4_isAll 37 = .ok (.aload_n 0, 1) := by decide +kernel
theorem dX4_isAll_38 : decode cX4_isAll 38 = .ok (.iconst 2, 1) := by decide +kernel
theorem dX4_isAll_39 : decode cX4_isAll 39 = .ok (.invokevirtual 73, 3) := by decide +kernel
theorem dX4_isAll_42 : decode cX4_isAll 42 = .ok (.iinc 2 1, 3) := by decide +kernel
theorem dX4_isAll_45 : decode cX4_isAll 45 = .ok (.goto (-33), 3) := by decide +kernel
theorem dX4_isAll_48 : decode cX4_isAll 48 = .ok (.iconst 1, 1) := by decide +kernel
theorem dX4_isAll_49 : decode cX4_isAll 49 = .ok (.ireturn, 1) := by decide +kernel
theorem dX4_isPart_0 : decode cX4_isPart 0 = .ok (.aload_n 0, 1) := by decide +kernel
theorem dX4_isPart_1 : decode cX4_isPart 1 = .ok (.invokevirtual 51, 3) := by decide +kernel
theorem dX4_isPart_4 : decode cX4_isPart 4 = .ok (.bipush 33, 2) := by decide +kernel
theorem dX4_isPart_6 : decode cX4_isPart 6 = .ok (.if_icmp .eq 17, 3) := by decide +kernel
theorem dX4_isPart_9 : decode cX4_isPart 9 = .ok (.aload_n 0, 1) := by decide +kernel
theorem dX4_isPart_10 : decode cX4_isPart 10 = .ok (.invokevirtual 51, 3) := by decide +kernel
theorem dX4_isPart_13 : decode cX4_isPart 13 = .ok (.bipush 40, 2) := by decide +kernel
theorem dX4_isPart_15 : decode cX4_isPart 15 = .ok (.if_icmp .eq 8, 3) := by decide +kernel
theorem dX4_isPart_18 : decode cX4_isPart 18 = .ok (.aload_n 0, 1) := by decide +kernel
theorem dX4_isPart_19 : decode cX4_isPart 19 = .ok (.invokevirtual 97, 3) := by decide +kernel
theorem dX4_isPart_22 : decode cX4_isPart 22 = .ok (.ireturn, 1) := by decide +kernel
theorem dX4_isPart_23 : decode cX4_isPart 23 = .ok (.iload_n 1, 1) := by decide +kernel
theorem dX4_isPart_24 : decode cX4_isPart 24 = .ok (.iconst 5, 1) := by decide +kernel
theorem dX4_isPart_25 : decode cX4_isPart 25 = .ok (.if_icmp .lt 5, 3) := by decide +kernel
theorem dX4_isPart_28 : decode cX4_isPart 28 = .ok (.iconst 0, 1) := by decide +kernel
theorem dX4_isPart_29 : decode cX4_isPart 29 = .ok (.ireturn, 1) := by decide +kernel
theorem dX4_isPart_30 : decode cX4_isPart 30 = .ok (.aload_n 0, 1) := by decide +kernel
theorem dX4_isPart_31 : decode cX4_isPart 31 = .ok (.bipush 40, 2) := by decide +kernel
theorem dX4_isPart_33 : decode cX4_isPart 33 = .ok (.invokevirtual 47, 3) := by decide +kernel
theorem dX4_isPart_36 : decode cX4_isPart 36 = .ok (.ifCond .eq 28, 3) := by decide +kernel
theorem dX4_isPart_39 : decode cX4_isPart 39 = .ok (.aload_n 0, 1) := by decide +kernel
theorem dX4_isPart_40 : decode cX4_isPart 40 = .ok (.iload_n 1, 1) := by decide +kernel
theorem dX4_isPart_41 : decode cX4_isPart 41 = .ok (.iconst 1, 1) := by decide +kernel
theorem dX4_isPart_42 : decode cX4_isPart 42 = .ok (.iadd, 1) := by decide +kernel
theorem dX4_isPart_43 : decode cX4_isPart 43 = .ok (.invokevirtual 69, 3) := by decide +kernel
theorem dX4_isPart_46 : decode cX4_isPart 46 = .ok (.ifCond .eq 16, 3) := by decide +kernel
theorem dX4_isPart_49 : decode cX4_isPart 49 = .ok (.aload_n 0, 1) := by decide +kernel
theorem dX4_isPart_50 : decode cX4_isPart 50 = .ok (.bipush 41, 2) := by decide +kernel
theorem dX4_isPart_52 : decode cX4_isPart 52 = .ok (.invokevirtual 47, 3) := by decide +kernel
theorem dX4_isPart_55 : decode cX4_isPart 55 = .ok (.ifCond .eq 7, 3) := by decide +kernel
theorem dX4_isPart_58 : decode cX4_isPart 58 = .ok (.iconst 1, 1) := by decide +kernel
theorem dX4_isPart_59 : decode cX4_isPart 59 = .ok (.goto 4, 3) := by decide +kernel
theorem dX4_isPart_62 : decode cX4_isPart 62 = .ok (.iconst 0, 1) := by decide +kernel
theorem dX4_isPart_63 : decode cX4_isPart 63 = .ok (.ireturn, 1) := by decide +kernel
theorem dX4_isPart_64 : decode cX4_isPart 64 = .ok (.aload_n 0, 1) := by decide +kernel
theorem dX4_isPart_65 : decode cX4_isPart 65 = .ok (.dup, 1) := by decide +kernel
theorem dX4_isPart_66 : decode cX4_isPart 66 = .ok (.getfield 19, 3) := by decide +kernel
theorem dX4_isPart_69 : decode cX4_isPart 69 = .ok (.iconst 1, 1) := by decide +kernel
theorem dX4_isPart_70 : decode cX4_isPart 70 = .ok (.iadd, 1) := by decide +kernel
theorem dX4_isPart_71 : decode cX4_isPart 71 = .ok (.putfield 19, 3) := by decide +kernel
theorem dX4_isPart_74 : decode cX4_isPart 74 = .ok (.aload_n 0, 1) := by decide +kernel
theorem dX4_isPart_75 : decode cX4_isPart 75 = .ok (.iload_n 1, 1) := by decide +kernel
theorem dX4_isPart_76 : decode cX4_isPart 76 = .ok (.iconst 1, 1) := by decide +kernel
theorem dX4_isPart_77 : decode cX4_isPart 77 = .ok (.iadd, 1) := by decide +kernel
theorem dX4_isPart_78 : decode cX4_isPart 78 = .ok (.invokevirtual 94, 3) := by decide +kernel
theorem dX4_isPart_81 : decode cX4_isPart 81 = .ok (.ifCond .ne 5, 3) := by decide +kernel
theorem dX4_isPart_84 : decode cX4_isPart 84 = .ok (.iconst 0, 1) := by decide +kernel
theorem dX4_isPart_85 : decode cX4_isPart 85 = .ok (.ireturn, 1) := by decide +kernel
theorem dX4_isPart_86 : decode cX4_isPart 86 = .ok (.aload_n 0, 1) := by decide +kernel
theorem dX4_isPart_87 : decode cX4_isPart 87 = .ok (.iconst 1, 1) := by decide +kernel
theorem dX4_isPart_88 : decode cX4_isPart 88 = .ok (.invokevirtual 73, 3) := by decide +kernel
theorem dX4_isPart_91 : decode cX4_isPart 91 = .ok (.iconst 1, 1) := by decide +kernel
theorem dX4_isPart_92 : decode cX4_isPart 92 = .ok (.ireturn, 1) := by decide +kernel
theorem dX4_isTest_0 : decode cX4_isTest 0 = .ok (.aload_n 0, 1) := by decide +kernel
theorem dX4_isTest_1 : decode cX4_isTest 1 = .ok (.invokevirtual 51, 3) := by decide +kernel
theorem dX4_isTest_4 : decode cX4_isTest 4 = .ok (.invokestatic 100, 3) := by decide +kernel
theorem dX4_isTest_7 : decode cX4_isTest 7 = .ok (.istore_n 1, 1) := by decide +kernel
theorem dX4_isTest_8 : decode cX4_isTest 8 = .ok (.iload_n 1, 1) := by decide +kernel
theorem dX4_isTest_9 : decode cX4_isTest 9 = .ok (.ifCond .ge 5, 3) := by decide +kernel
theorem dX4_isTest_12 : decode cX4_isTest 12 = .ok (.iconst 0, 1) := by decide +kernel
theorem dX4_isTest_13 : decode cX4_isTest 13 = .ok (.ireturn, 1) := by decide +kernel
theorem dX4_isTest_14 : decode cX4_isTest 14 = .ok (.aload_n 0, 1) := by decide +kernel
theorem dX4_isTest_15 : decode cX4_isTest 15 = .ok (.dup, 1) := by decide +kernel
theorem dX4_isTest_16 : decode cX4_isTest 16 = .ok (.getfield 19, 3) := by decide +kernel
theorem dX4_isTest_19 : decode cX4_isTest 19 = .ok (.iconst 1, 1) := by decide +kernel
theorem dX4_isTest_20 : decode cX4_isTest 20 = .ok (.iadd, 1) := by decide +kernel
theorem dX4_isTest_21 : decode cX4_isTest 21 = .ok (.putfield 19, 3) := by decide +kernel
theorem dX4_isTest_24 : decode cX4_isTest 24 = .ok (.aload_n 0, 1) := by decide +kernel
theorem dX4_isTest_25 : decode cX4_isTest 25 = .ok (.invokevirtual 51, 3) := by decide +kernel
theorem dX4_isTest_28 : decode cX4_isTest 28 = .ok (.invokestatic 104, 3) := by decide +kernel
theorem dX4_isTest_31 : decode cX4_isTest 31 = .ok (.istore_n 2, 1) := by decide +kernel
theorem dX4_isTest_32 : decode cX4_isTest 32 = .ok (.iload_n 2, 1) := by decide +kernel
theorem dX4_isTest_33 : decode cX4_isTest 33 = .ok (.ifCond .ge 5, 3) := by decide +kernel
theorem dX4_isTest_36 : decode cX4_isTest 36 = .ok (.iconst 0, 1) := by decide +kernel
theorem dX4_isTest_37 : decode cX4_isTest 37 = .ok (.ireturn, 1) := by decide +kernel
theorem dX4_isTest_38 : decode cX4_isTest 38 = .ok (.aload_n 0, 1) := by decide +kernel
theorem dX4_isTest_39 : decode cX4_isTest 39 = .ok (.dup, 1) := by decide +kernel
theorem dX4_isTest_40 : decode cX4_isTest 40 = .ok (.getfield 19, 3) := by decide +kernel
theorem dX4_isTest_43 : decode cX4_isTest 43 = .ok (.iconst 1, 1) := by decide +kernel
theorem dX4_isTest_44 : decode cX4_isTest 44 = .ok (.iadd, 1) := by decide +kernel
theorem dX4_isTest_45 : decode cX4_isTest 45 = .ok (.putfield 19, 3) := by decide +kernel
theorem dX4_isTest_48 : decode cX4_isTest 48 = .ok (.aload_n 0, 1) := by decide +kernel
theorem dX4_isTest_49 : decode cX4_isTest 49 = .ok (.invokevirtual 66, 3) := by decide +kernel
theorem dX4_isTest_52 : decode cX4_isTest 52 = .ok (.istore_n 3, 1) := by decide +kernel
theorem dX4_isTest_53 : decode cX4_isTest 53 = .ok (.iload_n 3, 1) := by decide +kernel
theorem dX4_isTest_54 : decode cX4_isTest 54 = .ok (.ifCond .ge 5, 3) := by decide +kernel
theorem dX4_isTest_57 : decode cX4_isTest 57 = .ok (.iconst 0, 1) := by decide +kernel
theorem dX4_isTest_58 : decode cX4_isTest 58 = .ok (.ireturn, 1) := by decide +kernel
theorem dX4_isTest_59 : decode cX4_isTest 59 = .ok (.aload_n 0, 1) := by decide +kernel
theorem dX4_isTest_60 : decode cX4_isTest 60 = .ok (.iconst 0, 1) := by decide +kernel
theorem dX4_isTest_61 : decode cX4_isTest 61 = .ok (.iload_n 1, 1) := by decide +kernel
theorem dX4_isTest_62 : decode cX4_isTest 62 = .ok (.iconst 3, 1) := by decide +kernel
theorem dX4_isTest_63 : decode cX4_isTest 63 = .ok (.ishl, 1) := by decide +kernel
theorem dX4_isTest_64 : decode cX4_isTest 64 = .ok (.ior, 1) := by decide +kernel
theorem dX4_isTest_65 : decode cX4_isTest 65 = .ok (.iload_n 2, 1) := by decide +kernel
theorem dX4_isTest_66 : decode cX4_isTest 66 = .ok (.bipush 6, 2) := by decide +kernel
theorem dX4_isTest_68 : decode cX4_isTest 68 = .ok (.ishl, 1) := by decide +kernel
theorem dX4_isTest_69 : decode cX4_isTest 69 = .ok (.ior, 1) := by decide +kernel
theorem dX4_isTest_70 : decode cX4_isTest 70 = .ok (.iload_n 3, 1) := by decide +kernel
theorem dX4_isTest_71 : decode cX4_isTest 71 = .ok (.bipush 8, 2) := by decide +kernel
theorem dX4_isTest_73 : decode cX4_isTest 73 = .ok (.ishl, 1) := by decide +kernel
theorem dX4_isTest_74 : decode cX4_isTest 74 = .ok (.ior, 1) := by decide +kernel
theorem dX4_isTest_75 : decode cX4_isTest 75 = .ok (.invokevirtual 73, 3) := by decide +kernel
theorem dX4_isTest_78 : decode cX4_isTest 78 = .ok (.iconst 1, 1) := by decide +kernel
theorem dX4_isTest_79 : decode cX4_isTest 79 = .ok (.ireturn, 1) := by decide +kernel
theorem dX4_aboutOf_0 : decode cX4_aboutOf 0 = .ok (.iload_n 0, 1) := by decide +kernel
theorem dX4_aboutOf_1 : decode cX4_aboutOf 1 = .ok (.tableswitch 81 102 115 #[73, 79, 71, 81, 81, 81, 81, 81, 81, 81, 75, 81, 81, 77], 71) := by decide +kernel
theorem dX4_aboutOf_72 : decode cX4_aboutOf 72 = .ok (.iconst 0, 1) := by decide +kernel
theorem dX4_aboutOf_73 : decode cX4_aboutOf 73 = .ok (.ireturn, 1) := by decide +kernel
theorem dX4_aboutOf_74 : decode cX4_aboutOf 74 = .ok (.iconst 1, 1) := by decide +kernel
theorem dX4_aboutOf_75 : decode cX4_aboutOf 75 = .ok (.ireturn, 1) := by decide +kernel
theorem dX4_aboutOf_76 : decode cX4_aboutOf 76 = .ok (.iconst 2, 1) := by decide +kernel
theorem dX4_aboutOf_77 : decode cX4_aboutOf 77 = .ok (.ireturn, 1) := by decide +kernel
theorem dX4_aboutOf_78 : decode cX4_aboutOf 78 = .ok (.iconst 3, 1) := by decide +kernel
theorem dX4_aboutOf_79 : decode cX4_aboutOf 79 = .ok (.ireturn, 1) := by decide +kernel
theorem dX4_aboutOf_80 : decode cX4_aboutOf 80 = .ok (.iconst 4, 1) := by decide +kernel
theorem dX4_aboutOf_81 : decode cX4_aboutOf 81 = .ok (.ireturn, 1) := by decide +kernel
theorem dX4_aboutOf_82 : decode cX4_aboutOf 82 = .ok (.iconst (-1), 1) := by decide +kernel
theorem dX4_aboutOf_83 : decode cX4_aboutOf 83 = .ok (.ireturn, 1) := by decide +kernel
theorem dX4_signOf_0 : decode cX4_signOf 0 = .ok (.iload_n 0, 1) := by decide +kernel
theorem dX4_signOf_1 : decode cX4_signOf 1 = .ok (.tableswitch 33 60 62 #[27, 29, 31], 27) := by decide +kernel
theorem dX4_signOf_28 : decode cX4_signOf 28 = .ok (.iconst 0, 1) := by decide +kernel
theorem dX4_signOf_29 : decode cX4_signOf 29 = .ok (.ireturn, 1) := by decide +kernel
theorem dX4_signOf_30 : decode cX4_signOf 30 = .ok (.iconst 1, 1) := by decide +kernel
theorem dX4_signOf_31 : decode cX4_signOf 31 = .ok (.ireturn, 1) := by decide +kernel
theorem dX4_signOf_32 : decode cX4_signOf 32 = .ok (.iconst 2, 1) := by decide +kernel
theorem dX4_signOf_33 : decode cX4_signOf 33 = .ok (.ireturn, 1) := by decide +kernel
theorem dX4_signOf_34 : decode cX4_signOf 34 = .ok (.iconst (-1), 1) := by decide +kernel
theorem dX4_signOf_35 : decode cX4_signOf 35 = .ok (.ireturn, 1) := by decide +kernel
theorem dX4_number_0 : decode cX4_number 0 = .ok (.aload_n 0, 1) := by decide +kernel
theorem dX4_number_1 : decode cX4_number 1 = .ok (.invokevirtual 51, 3) := by decide +kernel
theorem dX4_number_4 : decode cX4_number 4 = .ok (.bipush 48, 2) := by decide +kernel
theorem dX4_number_6 : decode cX4_number 6 = .ok (.bipush 57, 2) := by decide +kernel
theorem dX4_number_8 : decode cX4_number 8 = .ok (.invokestatic 87, 3) := by decide +kernel
theorem dX4_number_11 : decode cX4_number 11 = .ok (.ifCond .ne 5, 3) := by decide +kernel
theorem dX4_number_14 : decode cX4_number 14 = .ok (.iconst (-1), 1) := by decide +kernel
theorem dX4_number_15 : decode cX4_number 15 = .ok (.ireturn, 1) := by decide +kernel
theorem dX4_number_16 : decode cX4_number 16 = .ok (.aload_n 0, 1) := by decide +kernel
theorem dX4_number_17 : decode cX4_number 17 = .ok (.invokevirtual 51, 3) := by decide +kernel
theorem dX4_number_20 : decode cX4_number 20 = .ok (.bipush 48, 2) := by decide +kernel
theorem dX4_number_22 : decode cX4_number 22 = .ok (.isub, 1) := by decide +kernel
theorem dX4_number_23 : decode cX4_number 23 = .ok (.istore_n 1, 1) := by decide +kernel
theorem dX4_number_24 : decode cX4_number 24 = .ok (.aload_n 0, 1) := by decide +kernel
theorem dX4_number_25 : decode cX4_number 25 = .ok (.dup, 1) := by decide +kernel
theorem dX4_number_26 : decode cX4_number 26 = .ok (.getfield 19, 3) := by decide +kernel
theorem dX4_number_29 : decode cX4_number 29 = .ok (.iconst 1, 1) := by decide +kernel
theorem dX4_number_30 : decode cX4_number 30 = .ok (.iadd, 1) := by decide +kernel
theorem dX4_number_31 : decode cX4_number 31 = .ok (.putfield 19, 3) := by decide +kernel
theorem dX4_number_34 : decode cX4_number 34 = .ok (.iload_n 1, 1) := by decide +kernel
theorem dX4_number_35 : decode cX4_number 35 = .ok (.ifCond .le 40, 3) := by decide +kernel
theorem dX4_number_38 : decode cX4_number 38 = .ok (.aload_n 0, 1) := by decide +kernel
theorem dX4_number_39 : decode cX4_number 39 = .ok (.invokevirtual 51, 3) := by decide +kernel
theorem dX4_number_42 : decode cX4_number 42 = .ok (.bipush 48, 2) := by decide +kernel
theorem dX4_number_44 : decode cX4_number 44 = .ok (.bipush 57, 2) := by decide +kernel
theorem dX4_number_46 : decode cX4_number 46 = .ok (.invokestatic 87, 3) := by decide +kernel
theorem dX4_number_49 : decode cX4_number 49 = .ok (.ifCond .eq 26, 3) := by decide +kernel
theorem dX4_number_52 : decode cX4_number 52 = .ok (.bipush 10, 2) := by decide +kernel
theorem dX4_number_54 : decode cX4_number 54 = .ok (.iload_n 1, 1) := by decide +kernel
theorem dX4_number_55 : decode cX4_number 55 = .ok (.imul, 1) := by decide +kernel
theorem dX4_number_56 : decode cX4_number 56 = .ok (.aload_n 0, 1) := by decide +kernel
theorem dX4_number_57 : decode cX4_number 57 = .ok (.invokevirtual 51, 3) := by decide +kernel
theorem dX4_number_60 : decode cX4_number 60 = .ok (.iadd, 1) := by decide +kernel
theorem dX4_number_61 : decode cX4_number 61 = .ok (.bipush 48, 2) := by decide +kernel
theorem dX4_number_63 : decode cX4_number 63 = .ok (.isub, 1) := by decide +kernel
theorem dX4_number_64 : decode cX4_number 64 = .ok (.istore_n 1, 1) := by decide +kernel
theorem dX4_number_65 : decode cX4_number 65 = .ok (.aload_n 0, 1) := by decide +kernel
theorem dX4_number_66 : decode cX4_number 66 = .ok (.dup, 1) := by decide +kernel
theorem dX4_number_67 : decode cX4_number 67 = .ok (.getfield 19, 3) := by decide +kernel
theorem dX4_number_70 : decode cX4_number 70 = .ok (.iconst 1, 1) := by decide +kernel
theorem dX4_number_71 : decode cX4_number 71 = .ok (.iadd, 1) := by decide +kernel
theorem dX4_number_72 : decode cX4_number 72 = .ok (.putfield 19, 3) := by decide +kernel
theorem dX4_number_75 : decode cX4_number 75 = .ok (.iload_n 1, 1) := by decide +kernel
theorem dX4_number_76 : decode cX4_number 76 = .ok (.ireturn, 1) := by decide +kernel
theorem dX4_comesWord_0 : decode cX4_comesWord 0 = .ok (.iconst 0, 1) := by decide +kernel
theorem dX4_comesWord_1 : decode cX4_comesWord 1 = .ok (.istore_n 2, 1) := by decide +kernel
theorem dX4_comesWord_2 : decode cX4_comesWord 2 = .ok (.iload_n 2, 1) := by decide +kernel
theorem dX4_comesWord_3 : decode cX4_comesWord 3 = .ok (.aload_n 1, 1) := by decide +kernel
theorem dX4_comesWord_4 : decode cX4_comesWord 4 = .ok (.invokevirtual 107, 3) := by decide +kernel
theorem dX4_comesWord_7 : decode cX4_comesWord 7 = .ok (.if_icmp .ge 23, 3) := by decide +kernel
theorem dX4_comesWord_10 : decode cX4_comesWord 10 = .ok (.aload_n 0, 1) := by decide +kernel
theorem dX4_comesWord_11 : decode cX4_comesWord 11 = .ok (.aload_n 1, 1) := by decide +kernel
theorem dX4_comesWord_12 : decode cX4_comesWord 12 = .ok (.iload_n 2, 1) := by decide +kernel
theorem dX4_comesWord_13 : decode cX4_comesWord 13 = .ok (.invokevirtual 112, 3) := by decide +kernel
theorem dX4_comesWord_16 : decode cX4_comesWord 16 = .ok (.invokevirtual 47, 3) := by decide +kernel
theorem dX4_comesWord_19 : decode cX4_comesWord 19 = .ok (.ifCond .ne 5, 3) := by decide +kernel
theorem dX4_comesWord_22 : decode cX4_comesWord 22 = .ok (.iconst 0, 1) := by decide +kernel
theorem dX4_comesWord_23 : decode cX4_comesWord 23 = .ok (.ireturn, 1) := by decide +kernel
theorem dX4_comesWord_24 : decode cX4_comesWord 24 = .ok (.iinc 2 1, 3) := by decide +kernel
theorem dX4_comesWord_27 : decode cX4_comesWord 27 = .ok (.goto (-25), 3) := by decide +kernel
theorem dX4_comesWord_30 : decode cX4_comesWord 30 = .ok (.iconst 1, 1) := by decide +kernel
theorem dX4_comesWord_31 : decode cX4_comesWord 31 = .ok (.ireturn, 1) := by decide +kernel
theorem dX4_comes_0 : decode cX4_comes 0 = .ok (.aload_n 0, 1) := by decide +kernel
theorem dX4_comes_1 : decode cX4_comes 1 = .ok (.invokevirtual 51, 3) := by decide +kernel
theorem dX4_comes_4 : decode cX4_comes 4 = .ok (.iload_n 1, 1) := by decide +kernel
theorem dX4_comes_5 : decode cX4_comes 5 = .ok (.if_icmp .eq 5, 3) := by decide +kernel
theorem dX4_comes_8 : decode cX4_comes 8 = .ok (.iconst 0, 1) := by decide +kernel
theorem dX4_comes_9 : decode cX4_comes 9 = .ok (.ireturn, 1) := by decide +kernel
theorem dX4_comes_10 : decode cX4_comes 10 = .ok (.aload_n 0, 1) := by decide +kernel
theorem dX4_comes_11 : decode cX4_comes 11 = .ok (.dup, 1) := by decide +kernel
theorem dX4_comes_12 : decode cX4_comes 12 = .ok (.getfield 19, 3) := by decide +kernel
theorem dX4_comes_15 : decode cX4_comes 15 = .ok (.iconst 1, 1) := by decide +kernel
theorem dX4_comes_16 : decode cX4_comes 16 = .ok (.iadd, 1) := by decide +kernel
theorem dX4_comes_17 : decode cX4_comes 17 = .ok (.putfield 19, 3) := by decide +kernel
theorem dX4_comes_20 : decode cX4_comes 20 = .ok (.iconst 1, 1) := by decide +kernel
theorem dX4_comes_21 : decode cX4_comes 21 = .ok (.ireturn, 1) := by decide +kernel
theorem dX4_ahead_0 : decode cX4_ahead 0 = .ok (.aload_n 0, 1) := by decide +kernel
theorem dX4_ahead_1 : decode cX4_ahead 1 = .ok (.getfield 19, 3) := by decide +kernel
theorem dX4_ahead_4 : decode cX4_ahead 4 = .ok (.ifCond .lt 26, 3) := by decide +kernel
theorem dX4_ahead_7 : decode cX4_ahead 7 = .ok (.aload_n 0, 1) := by decide +kernel
theorem dX4_ahead_8 : decode cX4_ahead 8 = .ok (.getfield 19, 3) := by decide +kernel
theorem dX4_ahead_11 : decode cX4_ahead 11 = .ok (.aload_n 0, 1) := by decide +kernel
theorem dX4_ahead_12 : decode cX4_ahead 12 = .ok (.getfield 15, 3) := by decide +kernel
theorem dX4_ahead_15 : decode cX4_ahead 15 = .ok (.if_icmp .ge 15, 3) := by decide +kernel
theorem dX4_ahead_18 : decode cX4_ahead 18 = .ok (.aload_n 0, 1) := by decide +kernel
theorem dX4_ahead_19 : decode cX4_ahead 19 = .ok (.getfield 9, 3) := by decide +kernel
theorem dX4_ahead_22 : decode cX4_ahead 22 = .ok (.aload_n 0, 1) := by decide +kernel
theorem dX4_ahead_23 : decode cX4_ahead 23 = .ok (.getfield 19, 3) := by decide +kernel
theorem dX4_ahead_26 : decode cX4_ahead 26 = .ok (.iaload, 1) := by decide +kernel
theorem dX4_ahead_27 : decode cX4_ahead 27 = .ok (.goto 4, 3) := by decide +kernel
theorem dX4_ahead_30 : decode cX4_ahead 30 = .ok (.iconst (-1), 1) := by decide +kernel
theorem dX4_ahead_31 : decode cX4_ahead 31 = .ok (.ireturn, 1) := by decide +kernel
theorem dX4_add_0 : decode cX4_add 0 = .ok (.aload_n 0, 1) := by decide +kernel
theorem dX4_add_1 : decode cX4_add 1 = .ok (.getfield 25, 3) := by decide +kernel
theorem dX4_add_4 : decode cX4_add 4 = .ok (.bipush 120, 2) := by decide +kernel
theorem dX4_add_6 : decode cX4_add 6 = .ok (.if_icmp .ge 23, 3) := by decide +kernel
theorem dX4_add_9 : decode cX4_add 9 = .ok (.aload_n 0, 1) := by decide +kernel
theorem dX4_add_10 : decode cX4_add 10 = .ok (.getfield 22, 3) := by decide +kernel
theorem dX4_add_13 : decode cX4_add 13 = .ok (.aload_n 0, 1) := by decide +kernel
theorem dX4_add_14 : decode cX4_add 14 = .ok (.getfield 25, 3) := by decide +kernel
theorem dX4_add_17 : decode cX4_add 17 = .ok (.iload_n 1, 1) := by decide +kernel
theorem dX4_add_18 : decode cX4_add 18 = .ok (.iastore, 1) := by decide +kernel
theorem dX4_add_19 : decode cX4_add 19 = .ok (.aload_n 0, 1) := by decide +kernel
theorem dX4_add_20 : decode cX4_add 20 = .ok (.dup, 1) := by decide +kernel
theorem dX4_add_21 : decode cX4_add 21 = .ok (.getfield 25, 3) := by decide +kernel
theorem dX4_add_24 : decode cX4_add 24 = .ok (.iconst 1, 1) := by decide +kernel
theorem dX4_add_25 : decode cX4_add 25 = .ok (.iadd, 1) := by decide +kernel
theorem dX4_add_26 : decode cX4_add 26 = .ok (.putfield 25, 3) := by decide +kernel
theorem dX4_add_29 : decode cX4_add 29 = .ok (.return_, 1) := by decide +kernel
theorem dX5_init_0 : decode cX5_init 0 = .ok (.aload_n 0, 1) := by decide +kernel
theorem dX5_init_1 : decode cX5_init 1 = .ok (.bipush 6, 2) := by decide +kernel
theorem dX5_init_3 : decode cX5_init 3 = .ok (.iload_n 1, 1) := by decide +kernel
theorem dX5_init_4 : decode cX5_init 4 = .ok (.iload_n 2, 1) := by decide +kernel
theorem dX5_init_5 : decode cX5_init 5 = .ok (.aload_n 3, 1) := by decide +kernel
theorem dX5_init_6 : decode cX5_init 6 = .ok (.invokespecial 1, 3) := by decide +kernel
theorem dX5_init_9 : decode cX5_init 9 = .ok (.return_, 1) := by decide +kernel
theorem dX5_spun_0 : decode cX5_spun 0 = .ok (.aload_n 0, 1) := by decide +kernel
theorem dX5_spun_1 : decode cX5_spun 1 = .ok (.iload_n 1, 1) := by decide +kernel
theorem dX5_spun_2 : decode cX5_spun 2 = .ok (.iload_n 2, 1) := by decide +kernel
theorem dX5_spun_3 : decode cX5_spun 3 = .ok (.iload_n 3, 1) := by decide +kernel
theorem dX5_spun_4 : decode cX5_spun 4 = .ok (.iload 4, 2) := by decide +kernel
theorem dX5_spun_6 : decode cX5_spun 6 = .ok (.iload 5, 2) := by decide +kernel
theorem dX5_spun_8 : decode cX5_spun 8 = .ok (.invokespecial 7, 3) := by decide +kernel
theorem dX5_spun_11 : decode cX5_spun 11 = .ok (.iload_n 1, 1) := by decide +kernel
theorem dX5_spun_12 : decode cX5_spun 12 = .ok (.bipush 9, 2) := by decide +kernel
theorem dX5_spun_14 : decode cX5_spun 14 = .ok (.aload_n 0, 1) := by decide +kernel
theorem dX5_spun_15 : decode cX5_spun 15 = .ok (.getfield 11, 3) := by decide +kernel
theorem dX5_spun_18 : decode cX5_spun 18 = .ok (.imul, 1) := by decide +kernel
theorem dX5_spun_19 : decode cX5_spun 19 = .ok (.iadd, 1) := by decide +kernel
theorem dX5_spun_20 : decode cX5_spun 20 = .ok (.invokestatic 17, 3) := by decide +kernel
theorem dX5_spun_23 : decode cX5_spun 23 = .ok (.ireturn, 1) := by decide +kernel
theorem dX5_wound_0 : decode cX5_wound 0 = .ok (.aload_n 2, 1) := by decide +kernel
theorem dX5_wound_1 : decode cX5_wound 1 = .ok (.bipush 61, 2) := by decide +kernel
theorem dX5_wound_3 : decode cX5_wound 3 = .ok (.invokevirtual 23, 3) := by decide +kernel
theorem dX5_wound_6 : decode cX5_wound 6 = .ok (.aload_n 0, 1) := by decide +kernel
theorem dX5_wound_7 : decode cX5_wound 7 = .ok (.iload_n 1, 1) := by decide +kernel
theorem dX5_wound_8 : decode cX5_wound 8 = .ok (.aload_n 2, 1) := by decide +kernel
theorem dX5_wound_9 : decode cX5_wound 9 = .ok (.invokespecial 29, 3) := by decide +kernel
theorem dX5_wound_12 : decode cX5_wound 12 = .ok (.aload_n 0, 1) := by decide +kernel
theorem dX5_wound_13 : decode cX5_wound 13 = .ok (.getfield 11, 3) := by decide +kernel
theorem dX5_wound_16 : decode cX5_wound 16 = .ok (.iadd, 1) := by decide +kernel
theorem dX5_wound_17 : decode cX5_wound 17 = .ok (.ireturn, 1) := by decide +kernel
theorem dX6_init_0 : decode cX6_init 0 = .ok (.aload_n 0, 1) := by decide +kernel
theorem dX6_init_1 : decode cX6_init 1 = .ok (.iconst 5, 1) := by decide +kernel
theorem dX6_init_2 : decode cX6_init 2 = .ok (.iload_n 1, 1) := by decide +kernel
theorem dX6_init_3 : decode cX6_init 3 = .ok (.iload_n 2, 1) := by decide +kernel
theorem dX6_init_4 : decode cX6_init 4 = .ok (.aload_n 3, 1) := by decide +kernel
theorem dX6_init_5 : decode cX6_init 5 = .ok (.invokespecial 3, 3) := by decide +kernel
theorem dX6_init_8 : decode cX6_init 8 = .ok (.return_, 1) := by decide +kernel
theorem dX6_stiffAt_0 : decode cX6_stiffAt 0 = .ok (.bipush 99, 2) := by decide +kernel
theorem dX6_stiffAt_2 : decode cX6_stiffAt 2 = .ok (.aload_n 1, 1) := by decide +kernel
theorem dX6_stiffAt_3 : decode cX6_stiffAt 3 = .ok (.getfield 9, 3) := by decide +kernel
theorem dX6_stiffAt_6 : decode cX6_stiffAt 6 = .ok (.aload_n 0, 1) := by decide +kernel
theorem dX6_stiffAt_7 : decode cX6_stiffAt 7 = .ok (.getfield 15, 3) := by decide +kernel
theorem dX6_stiffAt_10 : decode cX6_stiffAt 10 = .ok (.iload_n 2, 1) := by decide +kernel
theorem dX6_stiffAt_11 : decode cX6_stiffAt 11 = .ok (.imul, 1) := by decide +kernel
theorem dX6_stiffAt_12 : decode cX6_stiffAt 12 = .ok (.iadd, 1) := by decide +kernel
theorem dX6_stiffAt_13 : decode cX6_stiffAt 13 = .ok (.invokestatic 20, 3) := by decide +kernel
theorem dX6_stiffAt_16 : decode cX6_stiffAt 16 = .ok (.ireturn, 1) := by decide +kernel
theorem dX6_fallen_0 : decode cX6_fallen 0 = .ok (.aload_n 2, 1) := by decide +kernel
theorem dX6_fallen_1 : decode cX6_fallen 1 = .ok (.bipush 51, 2) := by decide +kernel
theorem dX6_fallen_3 : decode cX6_fallen 3 = .ok (.invokevirtual 26, 3) := by decide +kernel
theorem dX6_fallen_6 : decode cX6_fallen 6 = .ok (.aload_n 0, 1) := by decide +kernel
theorem dX6_fallen_7 : decode cX6_fallen 7 = .ok (.iload_n 1, 1) := by decide +kernel
theorem dX6_fallen_8 : decode cX6_fallen 8 = .ok (.aload_n 2, 1) := by decide +kernel
theorem dX6_fallen_9 : decode cX6_fallen 9 = .ok (.invokespecial 32, 3) := by decide +kernel
theorem dX6_fallen_12 : decode cX6_fallen 12 = .ok (.aload_n 0, 1) := by decide +kernel
theorem dX6_fallen_13 : decode cX6_fallen 13 = .ok (.getfield 36, 3) := by decide +kernel
theorem dX6_fallen_16 : decode cX6_fallen 16 = .ok (.ixor, 1) := by decide +kernel
theorem dX6_fallen_17 : decode cX6_fallen 17 = .ok (.ireturn, 1) := by decide +kernel
theorem dX7_init_0 : decode cX7_init 0 = .ok (.aload_n 0, 1) := by decide +kernel
theorem dX7_init_1 : decode cX7_init 1 = .ok (.iconst 1, 1) := by decide +kernel
theorem dX7_init_2 : decode cX7_init 2 = .ok (.iload_n 1, 1) := by decide +kernel
theorem dX7_init_3 : decode cX7_init 3 = .ok (.iload_n 2, 1) := by decide +kernel
theorem dX7_init_4 : decode cX7_init 4 = .ok (.aload_n 3, 1) := by decide +kernel
theorem dX7_init_5 : decode cX7_init 5 = .ok (.invokespecial 1, 3) := by decide +kernel
theorem dX7_init_8 : decode cX7_init 8 = .ok (.return_, 1) := by decide +kernel
theorem dX7_spun_0 : decode cX7_spun 0 = .ok (.iload_n 1, 1) := by decide +kernel
theorem dX7_spun_1 : decode cX7_spun 1 = .ok (.aload_n 0, 1) := by decide +kernel
theorem dX7_spun_2 : decode cX7_spun 2 = .ok (.getfield 7, 3) := by decide +kernel
theorem dX7_spun_5 : decode cX7_spun 5 = .ok (.iload 4, 2) := by decide +kernel
theorem dX7_spun_7 : decode cX7_spun 7 = .ok (.invokestatic 13, 3) := by decide +kernel
theorem dX7_spun_10 : decode cX7_spun 10 = .ok (.imul, 1) := by decide +kernel
theorem dX7_spun_11 : decode cX7_spun 11 = .ok (.iload 4, 2) := by decide +kernel
theorem dX7_spun_13 : decode cX7_spun 13 = .ok (.invokestatic 19, 3) := by decide +kernel
theorem dX7_spun_16 : decode cX7_spun 16 = .ok (.invokestatic 22, 3) := by decide +kernel
theorem dX7_spun_19 : decode cX7_spun 19 = .ok (.iadd, 1) := by decide +kernel
theorem dX7_spun_20 : decode cX7_spun 20 = .ok (.ireturn, 1) := by decide +kernel
theorem dX7_fallen_0 : decode cX7_fallen 0 = .ok (.aload_n 2, 1) := by decide +kernel
theorem dX7_fallen_1 : decode cX7_fallen 1 = .ok (.bipush 11, 2) := by decide +kernel
theorem dX7_fallen_3 : decode cX7_fallen 3 = .ok (.invokevirtual 26, 3) := by decide +kernel
theorem dX7_fallen_6 : decode cX7_fallen 6 = .ok (.aload_n 0, 1) := by decide +kernel
theorem dX7_fallen_7 : decode cX7_fallen 7 = .ok (.iload_n 1, 1) := by decide +kernel
theorem dX7_fallen_8 : decode cX7_fallen 8 = .ok (.iconst 3, 1) := by decide +kernel
theorem dX7_fallen_9 : decode cX7_fallen 9 = .ok (.imul, 1) := by decide +kernel
theorem dX7_fallen_10 : decode cX7_fallen 10 = .ok (.aload_n 2, 1) := by decide +kernel
theorem dX7_fallen_11 : decode cX7_fallen 11 = .ok (.invokespecial 32, 3) := by decide +kernel
theorem dX7_fallen_14 : decode cX7_fallen 14 = .ok (.ireturn, 1) := by decide +kernel
theorem dX8_init_0 : decode cX8_init 0 = .ok (.aload_n 0, 1) := by decide +kernel
theorem dX8_init_1 : decode cX8_init 1 = .ok (.invokespecial 3, 3) := by decide +kernel
theorem dX8_init_4 : decode cX8_init 4 = .ok (.aload_n 0, 1) := by decide +kernel
theorem dX8_init_5 : decode cX8_init 5 = .ok (.iconst 5, 1) := by decide +kernel
theorem dX8_init_6 : decode cX8_init 6 = .ok (.anewarray 9, 3) := by decide +kernel
theorem dX8_init_9 : decode cX8_init 9 = .ok (.putfield 11, 3) := by decide +kernel
theorem dX8_init_12 : decode cX8_init 12 = .ok (.aload_n 0, 1) := by decide +kernel
theorem dX8_init_13 : decode cX8_init 13 = .ok (.iconst 0, 1) := by decide +kernel
theorem dX8_init_14 : decode cX8_init 14 = .ok (.putfield 17, 3) := by decide +kernel
theorem dX8_init_17 : decode cX8_init 17 = .ok (.aload_n 0, 1) := by decide +kernel
theorem dX8_init_18 : decode cX8_init 18 = .ok (.bipush 8, 2) := by decide +kernel
theorem dX8_init_20 : decode cX8_init 20 = .ok (.anewarray 21, 3) := by decide +kernel
theorem dX8_init_23 : decode cX8_init 23 = .ok (.putfield 23, 3) := by decide +kernel
theorem dX8_init_26 : decode cX8_init 26 = .ok (.aload_n 0, 1) := by decide +kernel
theorem dX8_init_27 : decode cX8_init 27 = .ok (.iconst 0, 1) := by decide +kernel
theorem dX8_init_28 : decode cX8_init 28 = .ok (.putfield 27, 3) := by decide +kernel
theorem dX8_init_31 : decode cX8_init 31 = .ok (.aload_n 0, 1) := by decide +kernel
theorem dX8_init_32 : decode cX8_init 32 = .ok (.bipush 120, 2) := by decide +kernel
theorem dX8_init_34 : decode cX8_init 34 = .ok (.newarray .int, 2) := by decide +kernel
theorem dX8_init_36 : decode cX8_init 36 = .ok (.putfield 30, 3) := by decide +kernel
theorem dX8_init_39 : decode cX8_init 39 = .ok (.aload_n 0, 1) := by decide +kernel
theorem dX8_init_40 : decode cX8_init 40 = .ok (.iconst 0, 1) := by decide +kernel
theorem dX8_init_41 : decode cX8_init 41 = .ok (.putfield 34, 3) := by decide +kernel
theorem dX8_init_44 : decode cX8_init 44 = .ok (.aload_n 0, 1) := by decide +kernel
theorem dX8_init_45 : decode cX8_init 45 = .ok (.bipush 20, 2) := by decide +kernel
theorem dX8_init_47 : decode cX8_init 47 = .ok (.newarray .int, 2) := by decide +kernel
theorem dX8_init_49 : decode cX8_init 49 = .ok (.putfield 37, 3) := by decide +kernel
theorem dX8_init_52 : decode cX8_init 52 = .ok (.aload_n 0, 1) := by decide +kernel
theorem dX8_init_53 : decode cX8_init 53 = .ok (.iconst 0, 1) := by decide +kernel
theorem dX8_init_54 : decode cX8_init 54 = .ok (.putfield 40, 3) := by decide +kernel
theorem dX8_init_57 : decode cX8_init 57 = .ok (.aload_n 0, 1) := by decide +kernel
theorem dX8_init_58 : decode cX8_init 58 = .ok (.bipush 8, 2) := by decide +kernel
theorem dX8_init_60 : decode cX8_init 60 = .ok (.newarray .int, 2) := by decide +kernel
theorem dX8_init_62 : decode cX8_init 62 = .ok (.putfield 43, 3) := by decide +kernel
theorem dX8_init_65 : decode cX8_init 65 = .ok (.aload_n 0, 1) := by decide +kernel
theorem dX8_init_66 : decode cX8_init 66 = .ok (.iconst 0, 1) := by decide +kernel
theorem dX8_init_67 : decode cX8_init 67 = .ok (.putfield 46, 3) := by decide +kernel
theorem dX8_init_70 : decode cX8_init 70 = .ok (.aload_n 0, 1) := by decide +kernel
theorem dX8_init_71 : decode cX8_init 71 = .ok (.bipush 12, 2) := by decide +kernel
theorem dX8_init_73 : decode cX8_init 73 = .ok (.newarray .int, 2) := by decide +kernel
theorem dX8_init_75 : decode cX8_init 75 = .ok (.putfield 49, 3) := by decide +kernel
theorem dX8_init_78 : decode cX8_init 78 = .ok (.aload_n 0, 1) := by decide +kernel
theorem dX8_init_79 : decode cX8_init 79 = .ok (.bipush 12, 2) := by decide +kernel
theorem dX8_init_81 : decode cX8_init 81 = .ok (.newarray .int, 2) := by decide +kernel
theorem dX8_init_83 : decode cX8_init 83 = .ok (.putfield 52, 3) := by decide +kernel
theorem dX8_init_86 : decode cX8_init 86 = .ok (.aload_n 0, 1) := by decide +kernel
theorem dX8_init_87 : decode cX8_init 87 = .ok (.bipush 12, 2) := by decide +kernel
theorem dX8_init_89 : decode cX8_init 89 = .ok (.newarray .int, 2) := by decide +kernel
theorem dX8_init_91 : decode cX8_init 91 = .ok (.putfield 55, 3) := by decide +kernel
theorem dX8_init_94 : decode cX8_init 94 = .ok (.aload_n 0, 1) := by decide +kernel
theorem dX8_init_95 : decode cX8_init 95 = .ok (.iconst 0, 1) := by decide +kernel
theorem dX8_init_96 : decode cX8_init 96 = .ok (.putfield 58, 3) := by decide +kernel
theorem dX8_init_99 : decode cX8_init 99 = .ok (.return_, 1) := by decide +kernel
theorem dX8_becomeLike_0 : decode cX8_becomeLike 0 = .ok (.iconst 0, 1) := by decide +kernel
theorem dX8_becomeLike_1 : decode cX8_becomeLike 1 = .ok (.istore_n 2, 1) := by decide +kernel
theorem dX8_becomeLike_2 : decode cX8_becomeLike 2 = .ok (.iload_n 2, 1) := by decide +kernel
theorem dX8_becomeLike_3 : decode cX8_becomeLike 3 = .ok (.iconst 5, 1) := by decide +kernel
theorem dX8_becomeLike_4 : decode cX8_becomeLike 4 = .ok (.if_icmp .ge 21, 3) := by decide +kernel
theorem dX8_becomeLike_7 : decode cX8_becomeLike 7 = .ok (.aload_n 0, 1) := by decide +kernel
theorem dX8_becomeLike_8 : decode cX8_becomeLike 8 = .ok (.getfield 11, 3) := by decide +kernel
theorem dX8_becomeLike_11 : decode cX8_becomeLike 11 = .ok (.iload_n 2, 1) := by decide +kernel
theorem dX8_becomeLike_12 : decode cX8_becomeLike 12 = .ok (.aload_n 1, 1) := by decide +kernel
theorem dX8_becomeLike_13 : decode cX8_becomeLike 13 = .ok (.getfield 11, 3) := by decide +kernel
theorem dX8_becomeLike_16 : decode cX8_becomeLike 16 = .ok (.iload_n 2, 1) := by decide +kernel
theorem dX8_becomeLike_17 : decode cX8_becomeLike 17 = .ok (.aaload, 1) := by decide +kernel
theorem dX8_becomeLike_18 : decode cX8_becomeLike 18 = .ok (.aastore, 1) := by decide +kernel
theorem dX8_becomeLike_19 : decode cX8_becomeLike 19 = .ok (.iinc 2 1, 3) := by decide +kernel
theorem dX8_becomeLike_22 : decode cX8_becomeLike 22 = .ok (.goto (-20), 3) := by decide +kernel
theorem dX8_becomeLike_25 : decode cX8_becomeLike 25 = .ok (.iconst 0, 1) := by decide +kernel
theorem dX8_becomeLike_26 : decode cX8_becomeLike 26 = .ok (.istore_n 2, 1) := by decide +kernel
theorem dX8_becomeLike_27 : decode cX8_becomeLike 27 = .ok (.iload_n 2, 1) := by decide +kernel
theorem dX8_becomeLike_28 : decode cX8_becomeLike 28 = .ok (.bipush 8, 2) := by decide +kernel
theorem dX8_becomeLike_30 : decode cX8_becomeLike 30 = .ok (.if_icmp .ge 21, 3) := by decide +kernel
theorem dX8_becomeLike_33 : decode cX8_becomeLike 33 = .ok (.aload_n 0, 1) := by decide +kernel
theorem dX8_becomeLike_34 : decode cX8_becomeLike 34 = .ok (.getfield 23, 3) := by decide +kernel
theorem dX8_becomeLike_37 : decode cX8_becomeLike 37 = .ok (.iload_n 2, 1) := by decide +kernel
theorem dX8_becomeLike_38 : decode cX8_becomeLike 38 = .ok (.aload_n 1, 1) := by decide +kernel
theorem dX8_becomeLike_39 : decode cX8_becomeLike 39 = .ok (.getfield 23, 3) := by decide +kernel
theorem dX8_becomeLike_42 : decode cX8_becomeLike 42 = .ok (.iload_n 2, 1) := by decide +kernel
theorem dX8_becomeLike_43 : decode cX8_becomeLike 43 = .ok (.aaload, 1) := by decide +kernel
theorem dX8_becomeLike_44 : decode cX8_becomeLike 44 = .ok (.aastore, 1) := by decide +kernel
theorem dX8_becomeLike_45 : decode cX8_becomeLike 45 = .ok (.iinc 2 1, 3) := by decide +kernel
theorem dX8_becomeLike_48 : decode cX8_becomeLike 48 = .ok (.goto (-21), 3) := by decide +kernel
theorem dX8_becomeLike_51 : decode cX8_becomeLike 51 = .ok (.aload_n 1, 1) := by decide +kernel
theorem dX8_becomeLike_52 : decode cX8_becomeLike 52 = .ok (.getfield 30, 3) := by decide +kernel
theorem dX8_becomeLike_55 : decode cX8_becomeLike 55 = .ok (.iconst 0, 1) := by decide +kernel
theorem dX8_becomeLike_56 : decode cX8_becomeLike 56 = .ok (.aload_n 0, 1) := by decide +kernel
theorem dX8_becomeLike_57 : decode cX8_becomeLike 57 = .ok (.getfield 30, 3) := by decide +kernel
theorem dX8_becomeLike_60 : decode cX8_becomeLike 60 = .ok (.iconst 0, 1) := by decide +kernel
theorem dX8_becomeLike_61 : decode cX8_becomeLike 61 = .ok (.bipush 120, 2) := by decide +kernel
theorem dX8_becomeLike_63 : decode cX8_becomeLike 63 = .ok (.invokestatic 61, 3) := by decide +kernel
theorem dX8_becomeLike_66 : decode cX8_becomeLike 66 = .ok (.aload_n 1, 1) := by decide +kernel
theorem dX8_becomeLike_67 : decode cX8_becomeLike 67 = .ok (.getfield 37, 3) := by decide +kernel
theorem dX8_becomeLike_70 : decode cX8_becomeLike 70 = .ok (.iconst 0, 1) := by decide +kernel
theorem dX8_becomeLike_71 : decode cX8_becomeLike 71 = .ok (.aload_n 0, 1) := by decide +kernel
theorem dX8_becomeLike_72 : decode cX8_becomeLike 72 = .ok (.getfield 37, 3) := by decide +kernel
theorem dX8_becomeLike_75 : decode cX8_becomeLike 75 = .ok (.iconst 0, 1) := by decide +kernel
theorem dX8_becomeLike_76 : decode cX8_becomeLike 76 = .ok (.bipush 20, 2) := by decide +kernel
theorem dX8_becomeLike_78 : decode cX8_becomeLike 78 = .ok (.invokestatic 61, 3) := by decide +kernel
theorem dX8_becomeLike_81 : decode cX8_becomeLike 81 = .ok (.aload_n 1, 1) := by decide +kernel
theorem dX8_becomeLike_82 : decode cX8_becomeLike 82 = .ok (.getfield 43, 3) := by decide +kernel
theorem dX8_becomeLike_85 : decode cX8_becomeLike 85 = .ok (.iconst 0, 1) := by decide +kernel
theorem dX8_becomeLike_86 : decode cX8_becomeLike 86 = .ok (.aload_n 0, 1) := by decide +kernel
theorem dX8_becomeLike_87 : decode cX8_becomeLike 87 = .ok (.getfield 43, 3) := by decide +kernel
theorem dX8_becomeLike_90 : decode cX8_becomeLike 90 = .ok (.iconst 0, 1) := by decide +kernel
theorem dX8_becomeLike_91 : decode cX8_becomeLike 91 = .ok (.bipush 8, 2) := by decide +kernel
theorem dX8_becomeLike_93 : decode cX8_becomeLike 93 = .ok (.invokestatic 61, 3) := by decide +kernel
theorem dX8_becomeLike_96 : decode cX8_becomeLike 96 = .ok (.aload_n 1, 1) := by decide +kernel
theorem dX8_becomeLike_97 : decode cX8_becomeLike 97 = .ok (.getfield 49, 3) := by decide +kernel
theorem dX8_becomeLike_100 : decode cX8_becomeLike 100 = .ok (.iconst 0, 1) := by decide +kernel
theorem dX8_becomeLike_101 : decode cX8_becomeLike 101 = .ok (.aload_n 0, 1) := by decide +kernel
theorem dX8_becomeLike_102 : decode cX8_becomeLike 102 = .ok (.getfield 49, 3) := by decide +kernel
theorem dX8_becomeLike_105 : decode cX8_becomeLike 105 = .ok (.iconst 0, 1) := by decide +kernel
theorem dX8_becomeLike_106 : decode cX8_becomeLike 106 = .ok (.bipush 12, 2) := by decide +kernel
theorem dX8_becomeLike_108 : decode cX8_becomeLike 108 = .ok (.invokestatic 61, 3) := by decide +kernel
theorem dX8_becomeLike_111 : decode cX8_becomeLike 111 = .ok (.aload_n 1, 1) := by decide +kernel
theorem dX8_becomeLike_112 : decode cX8_becomeLike 112 = .ok (.getfield 52, 3) := by decide +kernel
theorem dX8_becomeLike_115 : decode cX8_becomeLike 115 = .ok (.iconst 0, 1) := by decide +kernel
theorem dX8_becomeLike_116 : decode cX8_becomeLike 116 = .ok (.aload_n 0, 1) := by decide +kernel
theorem dX8_becomeLike_117 : decode cX8_becomeLike 117 = .ok (.getfield 52, 3) := by decide +kernel
theorem dX8_becomeLike_120 : decode cX8_becomeLike 120 = .ok (.iconst 0, 1) := by decide +kernel
theorem dX8_becomeLike_121 : decode cX8_becomeLike 121 = .ok (.bipush 12, 2) := by decide +kernel
theorem dX8_becomeLike_123 : decode cX8_becomeLike 123 = .ok (.invokestatic 61, 3) := by decide +kernel
theorem dX8_becomeLike_126 : decode cX8_becomeLike 126 = .ok (.aload_n 1, 1) := by decide +kernel
theorem dX8_becomeLike_127 : decode cX8_becomeLike 127 = .ok (.getfield 55, 3) := by decide +kernel
theorem dX8_becomeLike_130 : decode cX8_becomeLike 130 = .ok (.iconst 0, 1) := by decide +kernel
theorem dX8_becomeLike_131 : decode cX8_becomeLike 131 = .ok (.aload_n 0, 1) := by decide +kernel
theorem dX8_becomeLike_132 : decode cX8_becomeLike 132 = .ok (.getfield 55, 3) := by decide +kernel
theorem dX8_becomeLike_135 : decode cX8_becomeLike 135 = .ok (.iconst 0, 1) := by decide +kernel
theorem dX8_becomeLike_136 : decode cX8_becomeLike 136 = .ok (.bipush 12, 2) := by decide +kernel
theorem dX8_becomeLike_138 : decode cX8_becomeLike 138 = .ok (.invokestatic 61, 3) := by decide +kernel
theorem dX8_becomeLike_141 : decode cX8_becomeLike 141 = .ok (.aload_n 0, 1) := by decide +kernel
theorem dX8_becomeLike_142 : decode cX8_becomeLike 142 = .ok (.aload_n 1, 1) := by decide +kernel
theorem dX8_becomeLike_143 : decode cX8_becomeLike 143 = .ok (.getfield 17, 3) := by decide +kernel
theorem dX8_becomeLike_146 : decode cX8_becomeLike 146 = .ok (.putfield 17, 3) := by decide +kernel
theorem dX8_becomeLike_149 : decode cX8_becomeLike 149 = .ok (.aload_n 0, 1) := by decide +kernel
theorem dX8_becomeLike_150 : decode cX8_becomeLike 150 = .ok (.aload_n 1, 1) := by decide +kernel
theorem dX8_becomeLike_151 : decode cX8_becomeLike 151 = .ok (.getfield 27, 3) := by decide +kernel
theorem dX8_becomeLike_154 : decode cX8_becomeLike 154 = .ok (.putfield 27, 3) := by decide +kernel
theorem dX8_becomeLike_157 : decode cX8_becomeLike 157 = .ok (.aload_n 0, 1) := by decide +kernel
theorem dX8_becomeLike_158 : decode cX8_becomeLike 158 = .ok (.aload_n 1, 1) := by decide +kernel
theorem dX8_becomeLike_159 : decode cX8_becomeLike 159 = .ok (.getfield 34, 3) := by decide +kernel
theorem dX8_becomeLike_162 : decode cX8_becomeLike 162 = .ok (.putfield 34, 3) := by decide +kernel
theorem dX8_becomeLike_165 : decode cX8_becomeLike 165 = .ok (.aload_n 0, 1) := by decide +kernel
theorem dX8_becomeLike_166 : decode cX8_becomeLike 166 = .ok (.aload_n 1, 1) := by decide +kernel
theorem dX8_becomeLike_167 : decode cX8_becomeLike 167 = .ok (.getfield 40, 3) := by decide +kernel
theorem dX8_becomeLike_170 : decode cX8_becomeLike 170 = .ok (.putfield 40, 3) := by decide +kernel
theorem dX8_becomeLike_173 : decode cX8_becomeLike 173 = .ok (.aload_n 0, 1) := by decide +kernel
theorem dX8_becomeLike_174 : decode cX8_becomeLike 174 = .ok (.aload_n 1, 1) := by decide +kernel
theorem dX8_becomeLike_175 : decode cX8_becomeLike 175 = .ok (.getfield 46, 3) := by decide +kernel
theorem dX8_becomeLike_178 : decode cX8_becomeLike 178 = .ok (.putfield 46, 3) := by decide +kernel
theorem dX8_becomeLike_181 : decode cX8_becomeLike 181 = .ok (.aload_n 0, 1) := by decide +kernel
theorem dX8_becomeLike_182 : decode cX8_becomeLike 182 = .ok (.aload_n 1, 1) := by decide +kernel
theorem dX8_becomeLike_183 : decode cX8_becomeLike 183 = .ok (.getfield 58, 3) := by decide +kernel
theorem dX8_becomeLike_186 : decode cX8_becomeLike 186 = .ok (.putfield 58, 3) := by decide +kernel
theorem dX8_becomeLike_189 : decode cX8_becomeLike 189 = .ok (.return_, 1) := by decide +kernel
theorem dX9_init_0 : decode cX9_init 0 = .ok (.aload_n 0, 1) := by decide +kernel
theorem dX9_init_1 : decode cX9_init 1 = .ok (.invokespecial 1, 3) := by decide +kernel
theorem dX9_init_4 : decode cX9_init 4 = .ok (.aload_n 0, 1) := by decide +kernel
theorem dX9_init_5 : decode cX9_init 5 = .ok (.iload_n 1, 1) := by decide +kernel
theorem dX9_init_6 : decode cX9_init 6 = .ok (.putfield 7, 3) := by decide +kernel
theorem dX9_init_9 : decode cX9_init 9 = .ok (.aload_n 0, 1) := by decide +kernel
theorem dX9_init_10 : decode cX9_init 10 = .ok (.iload_n 2, 1) := by decide +kernel
theorem dX9_init_11 : decode cX9_init 11 = .ok (.putfield 13, 3) := by decide +kernel
theorem dX9_init_14 : decode cX9_init 14 = .ok (.return_, 1) := by decide +kernel
theorem dX10_init_0 : decode cX10_init 0 = .ok (.aload_n 0, 1) := by decide +kernel
theorem dX10_init_1 : decode cX10_init 1 = .ok (.invokespecial 3, 3) := by decide +kernel
theorem dX10_init_4 : decode cX10_init 4 = .ok (.aload_n 0, 1) := by decide +kernel
theorem dX10_init_5 : decode cX10_init 5 = .ok (.bipush 20, 2) := by decide +kernel
theorem dX10_init_7 : decode cX10_init 7 = .ok (.newarray .int, 2) := by decide +kernel
theorem dX10_init_9 : decode cX10_init 9 = .ok (.putfield 9, 3) := by decide +kernel
theorem dX10_init_12 : decode cX10_init 12 = .ok (.aload_n 0, 1) := by decide +kernel
theorem dX10_init_13 : decode cX10_init 13 = .ok (.iconst 0, 1) := by decide +kernel
theorem dX10_init_14 : decode cX10_init 14 = .ok (.putfield 15, 3) := by decide +kernel
theorem dX10_init_17 : decode cX10_init 17 = .ok (.return_, 1) := by decide +kernel
theorem dX10_begin_0 : decode cX10_begin 0 = .ok (.aload_n 0, 1) := by decide +kernel
theorem dX10_begin_1 : decode cX10_begin 1 = .ok (.iconst 0, 1) := by decide +kernel
theorem dX10_begin_2 : decode cX10_begin 2 = .ok (.putfield 15, 3) := by decide +kernel
theorem dX10_begin_5 : decode cX10_begin 5 = .ok (.return_, 1) := by decide +kernel
theorem dX10_add_0 : decode cX10_add 0 = .ok (.aload_n 0, 1) := by decide +kernel
theorem dX10_add_1 : decode cX10_add 1 = .ok (.getfield 15, 3) := by decide +kernel
theorem dX10_add_4 : decode cX10_add 4 = .ok (.bipush 20, 2) := by decide +kernel
theorem dX10_add_6 : decode cX10_add 6 = .ok (.if_icmp .ge 13, 3) := by decide +kernel
theorem dX10_add_9 : decode cX10_add 9 = .ok (.aload_n 0, 1) := by decide +kernel
theorem dX10_add_10 : decode cX10_add 10 = .ok (.getfield 9, 3) := by decide +kernel
theorem dX10_add_13 : decode cX10_add 13 = .ok (.aload_n 0, 1) := by decide +kernel
theorem dX10_add_14 : decode cX10_add 14 = .ok (.getfield 15, 3) := by decide +kernel
theorem dX10_add_17 : decode cX10_add 17 = .ok (.iload_n 1, 1) := by decide +kernel
theorem dX10_add_18 : decode cX10_add 18 = .ok (.iastore, 1) := by decide +kernel
theorem dX10_add_19 : decode cX10_add 19 = .ok (.aload_n 0, 1) := by decide +kernel
theorem dX10_add_20 : decode cX10_add 20 = .ok (.dup, 1) := by decide +kernel
theorem dX10_add_21 : decode cX10_add 21 = .ok (.getfield 15, 3) := by decide +kernel
theorem dX10_add_24 : decode cX10_add 24 = .ok (.iconst 1, 1) := by decide +kernel
theorem dX10_add_25 : decode cX10_add 25 = .ok (.iadd, 1) := by decide +kernel
theorem dX10_add_26 : decode cX10_add 26 = .ok (.putfield 15, 3) := by decide +kernel
theorem dX10_add_29 : decode cX10_add 29 = .ok (.return_, 1) := by decide +kernel
theorem dX10_bodyAt_0 : decode cX10_bodyAt 0 = .ok (.iload_n 1, 1) := by decide +kernel
theorem dX10_bodyAt_1 : decode cX10_bodyAt 1 = .ok (.iconst 0, 1) := by decide +kernel
theorem dX10_bodyAt_2 : decode cX10_bodyAt 2 = .ok (.aload_n 0, 1) := by decide +kernel
theorem dX10_bodyAt_3 : decode cX10_bodyAt 3 = .ok (.getfield 15, 3) := by decide +kernel
theorem dX10_bodyAt_6 : decode cX10_bodyAt 6 = .ok (.bipush 20, 2) := by decide +kernel
theorem dX10_bodyAt_8 : decode cX10_bodyAt 8 = .ok (.invokestatic 19, 3) := by decide +kernel
theorem dX10_bodyAt_11 : decode cX10_bodyAt 11 = .ok (.iconst 1, 1) := by decide +kernel
theorem dX10_bodyAt_12 : decode cX10_bodyAt 12 = .ok (.isub, 1) := by decide +kernel
theorem dX10_bodyAt_13 : decode cX10_bodyAt 13 = .ok (.invokestatic 25, 3) := by decide +kernel
theorem dX10_bodyAt_16 : decode cX10_bodyAt 16 = .ok (.ifCond .eq 12, 3) := by decide +kernel
theorem dX10_bodyAt_19 : decode cX10_bodyAt 19 = .ok (.aload_n 0, 1) := by decide +kernel
theorem dX10_bodyAt_20 : decode cX10_bodyAt 20 = .ok (.getfield 9, 3) := by decide +kernel
theorem dX10_bodyAt_23 : decode cX10_bodyAt 23 = .ok (.iload_n 1, 1) := by decide +kernel
theorem dX10_bodyAt_24 : decode cX10_bodyAt 24 = .ok (.iaload, 1) := by decide +kernel
theorem dX10_bodyAt_25 : decode cX10_bodyAt 25 = .ok (.goto 4, 3) := by decide +kernel
theorem dX10_bodyAt_28 : decode cX10_bodyAt 28 = .ok (.iconst (-1), 1) := by decide +kernel
theorem dX10_bodyAt_29 : decode cX10_bodyAt 29 = .ok (.ireturn, 1) := by decide +kernel
theorem dX11_init_0 : decode cX11_init 0 = .ok (.aload_n 0, 1) := by decide +kernel
theorem dX11_init_1 : decode cX11_init 1 = .ok (.invokespecial 1, 3) := by decide +kernel
theorem dX11_init_4 : decode cX11_init 4 = .ok (.aload_n 0, 1) := by decide +kernel
theorem dX11_init_5 : decode cX11_init 5 = .ok (.new 7, 3) := by decide +kernel
theorem dX11_init_8 : decode cX11_init 8 = .ok (.dup, 1) := by decide +kernel
theorem dX11_init_9 : decode cX11_init 9 = .ok (.invokespecial 9, 3) := by decide +kernel
theorem dX11_init_12 : decode cX11_init 12 = .ok (.putfield 10, 3) := by decide +kernel
theorem dX11_init_15 : decode cX11_init 15 = .ok (.aload_n 0, 1) := by decide +kernel
theorem dX11_init_16 : decode cX11_init 16 = .ok (.new 7, 3) := by decide +kernel
theorem dX11_init_19 : decode cX11_init 19 = .ok (.dup, 1) := by decide +kernel
theorem dX11_init_20 : decode cX11_init 20 = .ok (.invokespecial 9, 3) := by decide +kernel
theorem dX11_init_23 : decode cX11_init 23 = .ok (.putfield 16, 3) := by decide +kernel
theorem dX11_init_26 : decode cX11_init 26 = .ok (.aload_n 0, 1) := by decide +kernel
theorem dX11_init_27 : decode cX11_init 27 = .ok (.iconst 0, 1) := by decide +kernel
theorem dX11_init_28 : decode cX11_init 28 = .ok (.putfield 19, 3) := by decide +kernel
theorem dX11_init_31 : decode cX11_init 31 = .ok (.aload_n 0, 1) := by decide +kernel
theorem dX11_init_32 : decode cX11_init 32 = .ok (.new 23, 3) := by decide +kernel
theorem dX11_init_35 : decode cX11_init 35 = .ok (.dup, 1) := by decide +kernel
theorem dX11_init_36 : decode cX11_init 36 = .ok (.invokespecial 25, 3) := by decide +kernel
theorem dX11_init_39 : decode cX11_init 39 = .ok (.putfield 26, 3) := by decide +kernel
theorem dX11_init_42 : decode cX11_init 42 = .ok (.aload_n 0, 1) := by decide +kernel
theorem dX11_init_43 : decode cX11_init 43 = .ok (.new 30, 3) := by decide +kernel
theorem dX11_init_46 : decode cX11_init 46 = .ok (.dup, 1) := by decide +kernel
theorem dX11_init_47 : decode cX11_init 47 = .ok (.invokespecial 32, 3) := by decide +kernel
theorem dX11_init_50 : decode cX11_init 50 = .ok (.putfield 33, 3) := by decide +kernel
theorem dX11_init_53 : decode cX11_init 53 = .ok (.aload_n 0, 1) := by decide +kernel
theorem dX11_init_54 : decode cX11_init 54 = .ok (.bipush 20, 2) := by decide +kernel
theorem dX11_init_56 : decode cX11_init 56 = .ok (.newarray .int, 2) := by decide +kernel
theorem dX11_init_58 : decode cX11_init 58 = .ok (.putfield 37, 3) := by decide +kernel
theorem dX11_init_61 : decode cX11_init 61 = .ok (.aload_n 0, 1) := by decide +kernel
theorem dX11_init_62 : decode cX11_init 62 = .ok (.bipush 20, 2) := by decide +kernel
theorem dX11_init_64 : decode cX11_init 64 = .ok (.newarray .int, 2) := by decide +kernel
theorem dX11_init_66 : decode cX11_init 66 = .ok (.putfield 41, 3) := by decide +kernel
theorem dX11_init_69 : decode cX11_init 69 = .ok (.aload_n 0, 1) := by decide +kernel
theorem dX11_init_70 : decode cX11_init 70 = .ok (.bipush 20, 2) := by decide +kernel
theorem dX11_init_72 : decode cX11_init 72 = .ok (.newarray .int, 2) := by decide +kernel
theorem dX11_init_74 : decode cX11_init 74 = .ok (.putfield 44, 3) := by decide +kernel
theorem dX11_init_77 : decode cX11_init 77 = .ok (.aload_n 0, 1) := by decide +kernel
theorem dX11_init_78 : decode cX11_init 78 = .ok (.bipush 61, 2) := by decide +kernel
theorem dX11_init_80 : decode cX11_init 80 = .ok (.newarray .int, 2) := by decide +kernel
theorem dX11_init_82 : decode cX11_init 82 = .ok (.putfield 47, 3) := by decide +kernel
theorem dX11_init_85 : decode cX11_init 85 = .ok (.aload_n 0, 1) := by decide +kernel
theorem dX11_init_86 : decode cX11_init 86 = .ok (.bipush 61, 2) := by decide +kernel
theorem dX11_init_88 : decode cX11_init 88 = .ok (.newarray .int, 2) := by decide +kernel
theorem dX11_init_90 : decode cX11_init 90 = .ok (.putfield 50, 3) := by decide +kernel
theorem dX11_init_93 : decode cX11_init 93 = .ok (.aload_n 0, 1) := by decide +kernel
theorem dX11_init_94 : decode cX11_init 94 = .ok (.bipush 100, 2) := by decide +kernel
theorem dX11_init_96 : decode cX11_init 96 = .ok (.newarray .int, 2) := by decide +kernel
theorem dX11_init_98 : decode cX11_init 98 = .ok (.putfield 53, 3) := by decide +kernel
theorem dX11_init_101 : decode cX11_init 101 = .ok (.aload_n 0, 1) := by decide +kernel
theorem dX11_init_102 : decode cX11_init 102 = .ok (.bipush 100, 2) := by decide +kernel
theorem dX11_init_104 : decode cX11_init 104 = .ok (.newarray .int, 2) := by decide +kernel
theorem dX11_init_106 : decode cX11_init 106 = .ok (.putfield 56, 3) := by decide +kernel
theorem dX11_init_109 : decode cX11_init 109 = .ok (.aload_n 0, 1) := by decide +kernel
theorem dX11_init_110 : decode cX11_init 110 = .ok (.bipush 8, 2) := by decide +kernel
theorem dX11_init_112 : decode cX11_init 112 = .ok (.bipush 100, 2) := by decide +kernel
theorem dX11_init_114 : decode cX11_init 114 = .ok (.multianewarray 59 2, 4) := by decide +kernel
theorem dX11_init_118 : decode cX11_init 118 = .ok (.putfield 61, 3) := by decide +kernel
theorem dX11_init_121 : decode cX11_init 121 = .ok (.return_, 1) := by decide +kernel
theorem dX11_stuff_0 : decode cX11_stuff 0 = .ok (.iload_n 1, 1) := by decide +kernel
theorem dX11_stuff_1 : decode cX11_stuff 1 = .ok (.iconst 1, 1) := by decide +kernel
theorem dX11_stuff_2 : decode cX11_stuff 2 = .ok (.bipush 20, 2) := by decide +kernel
theorem dX11_stuff_4 : decode cX11_stuff 4 = .ok (.invokestatic 64, 3) := by decide +kernel
theorem dX11_stuff_7 : decode cX11_stuff 7 = .ok (.ifCond .eq 13, 3) := by decide +kernel
theorem dX11_stuff_10 : decode cX11_stuff 10 = .ok (.iload_n 2, 1) := by decide +kernel
theorem dX11_stuff_11 : decode cX11_stuff 11 = .ok (.iconst 1, 1) := by decide +kernel
theorem dX11_stuff_12 : decode cX11_stuff 12 = .ok (.bipush 20, 2) := by decide +kernel
theorem dX11_stuff_14 : decode cX11_stuff 14 = .ok (.invokestatic 64, 3) := by decide +kernel
theorem dX11_stuff_17 : decode cX11_stuff 17 = .ok (.ifCond .ne 6, 3) := by decide +kernel
theorem dX11_stuff_20 : decode cX11_stuff 20 = .ok (.bipush (-2), 2) := by decide +kernel
theorem dX11_stuff_22 : decode cX11_stuff 22 = .ok (.ireturn, 1) := by decide +kernel
theorem dX11_stuff_23 : decode cX11_stuff 23 = .ok (.aload_n 0, 1) := by decide +kernel
theorem dX11_stuff_24 : decode cX11_stuff 24 = .ok (.getfield 10, 3) := by decide +kernel
theorem dX11_stuff_27 : decode cX11_stuff 27 = .ok (.getfield 68, 3) := by decide +kernel
theorem dX11_stuff_30 : decode cX11_stuff 30 = .ok (.iconst 5, 1) := by decide +kernel
theorem dX11_stuff_31 : decode cX11_stuff 31 = .ok (.if_icmp .lt 6, 3) := by decide +kernel
theorem dX11_stuff_34 : decode cX11_stuff 34 = .ok (.bipush (-4), 2) := by decide +kernel
theorem dX11_stuff_36 : decode cX11_stuff 36 = .ok (.ireturn, 1) := by decide +kernel
theorem dX11_stuff_37 : decode cX11_stuff 37 = .ok (.aload_n 0, 1) := by decide +kernel
theorem dX11_stuff_38 : decode cX11_stuff 38 = .ok (.getfield 10, 3) := by decide +kernel
theorem dX11_stuff_41 : decode cX11_stuff 41 = .ok (.getfield 72, 3) := by decide +kernel
theorem dX11_stuff_44 : decode cX11_stuff 44 = .ok (.aload_n 0, 1) := by decide +kernel
theorem dX11_stuff_45 : decode cX11_stuff 45 = .ok (.getfield 10, 3) := by decide +kernel
theorem dX11_stuff_48 : decode cX11_stuff 48 = .ok (.getfield 68, 3) := by decide +kernel
theorem dX11_stuff_51 : decode cX11_stuff 51 = .ok (.new 76, 3) := by decide +kernel
theorem dX11_stuff_54 : decode cX11_stuff 54 = .ok (.dup, 1) := by decide +kernel
theorem dX11_stuff_55 : decode cX11_stuff 55 = .ok (.iload_n 1, 1) := by decide +kernel
theorem dX11_stuff_56 : decode cX11_stuff 56 = .ok (.iload_n 2, 1) := by decide +kernel
theorem dX11_stuff_57 : decode cX11_stuff 57 = .ok (.invokespecial 78, 3) := by decide +kernel
theorem dX11_stuff_60 : decode cX11_stuff 60 = .ok (.aastore, 1) := by decide +kernel
theorem dX11_stuff_61 : decode cX11_stuff 61 = .ok (.aload_n 0, 1) := by decide +kernel
theorem dX11_stuff_62 : decode cX11_stuff 62 = .ok (.getfield 10, 3) := by decide +kernel
theorem dX11_stuff_65 : decode cX11_stuff 65 = .ok (.dup, 1) := by decide +kernel
theorem dX11_stuff_66 : decode cX11_stuff 66 = .ok (.getfield 68, 3) := by decide +kernel
theorem dX11_stuff_69 : decode cX11_stuff 69 = .ok (.dup_x1, 1) := by decide +kernel
theorem dX11_stuff_70 : decode cX11_stuff 70 = .ok (.iconst 1, 1) := by decide +kernel
theorem dX11_stuff_71 : decode cX11_stuff 71 = .ok (.iadd, 1) := by decide +kernel
theorem dX11_stuff_72 : decode cX11_stuff 72 = .ok (.putfield 68, 3) := by decide +kernel
theorem dX11_stuff_75 : decode cX11_stuff 75 = .ok (.ireturn, 1) := by decide +kernel
theorem dX11_of_0 : decode cX11_of 0 = .ok (.aload_n 0, 1) := by decide +kernel
theorem dX11_of_1 : decode cX11_of 1 = .ok (.iload_n 1, 1) := by decide +kernel
theorem dX11_of_2 : decode cX11_of 2 = .ok (.invokevirtual 81, 3) := by decide +kernel
theorem dX11_of_5 : decode cX11_of 5 = .ok (.astore_n 3, 1) := by decide +kernel
theorem dX11_of_6 : decode cX11_of 6 = .ok (.aload_n 3, 1) := by decide +kernel
theorem dX11_of_7 : decode cX11_of 7 = .ok (.ifnull 12, 3) := by decide +kernel
theorem dX11_of_10 : decode cX11_of 10 = .ok (.iload_n 2, 1) := by decide +kernel
theorem dX11_of_11 : decode cX11_of 11 = .ok (.iconst 0, 1) := by decide +kernel
theorem dX11_of_12 : decode cX11_of 12 = .ok (.iconst 1, 1) := by decide +kernel
theorem dX11_of_13 : decode cX11_of 13 = .ok (.invokestatic 64, 3) := by decide +kernel
theorem dX11_of_16 : decode cX11_of 16 = .ok (.ifCond .ne 5, 3) := by decide +kernel
theorem dX11_of_19 : decode cX11_of 19 = .ok (.iconst (-1), 1) := by decide +kernel
theorem dX11_of_20 : decode cX11_of 20 = .ok (.ireturn, 1) := by decide +kernel
theorem dX11_of_21 : decode cX11_of 21 = .ok (.iload_n 2, 1) := by decide +kernel
theorem dX11_of_22 : decode cX11_of 22 = .ok (.ifCond .ne 10, 3) := by decide +kernel
theorem dX11_of_25 : decode cX11_of 25 = .ok (.aload_n 3, 1) := by decide +kernel
theorem dX11_of_26 : decode cX11_of 26 = .ok (.getfield 85, 3) := by decide +kernel
theorem dX11_of_29 : decode cX11_of 29 = .ok (.goto 7, 3) := by decide +kernel
theorem dX11_of_32 : decode cX11_of 32 = .ok (.aload_n 3, 1) := by decide +kernel
theorem dX11_of_33 : decode cX11_of 33 = .ok (.getfield 88, 3) := by decide +kernel
theorem dX11_of_36 : decode cX11_of 36 = .ok (.ireturn, 1) := by decide +kernel
theorem dX11_feed_0 : decode cX11_feed 0 = .ok (.iload_n 3, 1) := by decide +kernel
theorem dX11_feed_1 : decode cX11_feed 1 = .ok (.iconst 1, 1) := by decide +kernel
theorem dX11_feed_2 : decode cX11_feed 2 = .ok (.bipush 8, 2) := by decide +kernel
theorem dX11_feed_4 : decode cX11_feed 4 = .ok (.invokestatic 64, 3) := by decide +kernel
theorem dX11_feed_7 : decode cX11_feed 7 = .ok (.ifCond .ne 6, 3) := by decide +kernel
theorem dX11_feed_10 : decode cX11_feed 10 = .ok (.bipush (-2), 2) := by decide +kernel
theorem dX11_feed_12 : decode cX11_feed 12 = .ok (.ireturn, 1) := by decide +kernel
theorem dX11_feed_13 : decode cX11_feed 13 = .ok (.aload_n 0, 1) := by decide +kernel
theorem dX11_feed_14 : decode cX11_feed 14 = .ok (.getfield 10, 3) := by decide +kernel
theorem dX11_feed_17 : decode cX11_feed 17 = .ok (.getfield 91, 3) := by decide +kernel
theorem dX11_feed_20 : decode cX11_feed 20 = .ok (.iload_n 3, 1) := by decide +kernel
theorem dX11_feed_21 : decode cX11_feed 21 = .ok (.iadd, 1) := by decide +kernel
theorem dX11_feed_22 : decode cX11_feed 22 = .ok (.bipush 120, 2) := by decide +kernel
theorem dX11_feed_24 : decode cX11_feed 24 = .ok (.if_icmp .le 6, 3) := by decide +kernel
theorem dX11_feed_27 : decode cX11_feed 27 = .ok (.bipush (-4), 2) := by decide +kernel
theorem dX11_feed_29 : decode cX11_feed 29 = .ok (.ireturn, 1) := by decide +kernel
theorem dX11_feed_30 : decode cX11_feed 30 = .ok (.iload_n 3, 1) := by decide +kernel
theorem dX11_feed_31 : decode cX11_feed 31 = .ok (.iconst 1, 1) := by decide +kernel
theorem dX11_feed_32 : decode cX11_feed 32 = .ok (.isub, 1) := by decide +kernel
theorem dX11_feed_33 : decode cX11_feed 33 = .ok (.istore 4, 2) := by decide +kernel
theorem dX11_feed_35 : decode cX11_feed 35 = .ok (.iload 4, 2) := by decide +kernel
theorem dX11_feed_37 : decode cX11_feed 37 = .ok (.ifCond .lt 49, 3) := by decide +kernel
theorem dX11_feed_40 : decode cX11_feed 40 = .ok (.aload_n 0, 1) := by decide +kernel
theorem dX11_feed_41 : decode cX11_feed 41 = .ok (.getfield 10, 3) := by decide +kernel
theorem dX11_feed_44 : decode cX11_feed 44 = .ok (.getfield 94, 3) := by decide +kernel
theorem dX11_feed_47 : decode cX11_feed 47 = .ok (.aload_n 0, 1) := by decide +kernel
theorem dX11_feed_48 : decode cX11_feed 48 = .ok (.getfield 10, 3) := by decide +kernel
theorem dX11_feed_51 : decode cX11_feed 51 = .ok (.getfield 91, 3) := by decide +kernel
theorem dX11_feed_54 : decode cX11_feed 54 = .ok (.lload_n 1, 1) := by decide +kernel
theorem dX11_feed_55 : decode cX11_feed 55 = .ok (.bipush 8, 2) := by decide +kernel
theorem dX11_feed_57 : decode cX11_feed 57 = .ok (.iload 4, 2) := by decide +kernel
theorem dX11_feed_59 : decode cX11_feed 59 = .ok (.imul, 1) := by decide +kernel
theorem dX11_feed_60 : decode cX11_feed 60 = .ok (.lushr, 1) := by decide +kernel
theorem dX11_feed_61 : decode cX11_feed 61 = .ok (.l2i, 1) := by decide +kernel
theorem dX11_feed_62 : decode cX11_feed 62 = .ok (.sipush 255, 3) := by decide +kernel
theorem dX11_feed_65 : decode cX11_feed 65 = .ok (.iand, 1) := by decide +kernel
theorem dX11_feed_66 : decode cX11_feed 66 = .ok (.iastore, 1) := by decide +kernel
theorem dX11_feed_67 : decode cX11_feed 67 = .ok (.aload_n 0, 1) := by decide +kernel
theorem dX11_feed_68 : decode cX11_feed 68 = .ok (.getfield 10, 3) := by decide +kernel
theorem dX11_feed_71 : decode cX11_feed 71 = .ok (.dup, 1) := by decide +kernel
theorem dX11_feed_72 : decode cX11_feed 72 = .ok (.getfield 91, 3) := by decide +kernel
theorem dX11_feed_75 : decode cX11_feed 75 = .ok (.iconst 1, 1) := by decide +kernel
theorem dX11_feed_76 : decode cX11_feed 76 = .ok (.iadd, 1) := by decide +kernel
theorem dX11_feed_77 : decode cX11_feed 77 = .ok (.putfield 91, 3) := by decide +kernel
theorem dX11_feed_80 : decode cX11_feed 80 = .ok (.iinc 4 (-1), 3) := by decide +kernel
theorem dX11_feed_83 : decode cX11_feed 83 = .ok (.goto (-48), 3) := by decide +kernel
theorem dX11_feed_86 : decode cX11_feed 86 = .ok (.aload_n 0, 1) := by decide +kernel
theorem dX11_feed_87 : decode cX11_feed 87 = .ok (.getfield 10, 3) := by decide +kernel
theorem dX11_feed_90 : decode cX11_feed 90 = .ok (.getfield 91, 3) := by decide +kernel
theorem dX11_feed_93 : decode cX11_feed 93 = .ok (.ireturn, 1) := by decide +kernel
theorem dX11_law_0 : decode cX11_law 0 = .ok (.iload_n 1, 1) := by decide +kernel
theorem dX11_law_1 : decode cX11_law 1 = .ok (.iconst 0, 1) := by decide +kernel
theorem dX11_law_2 : decode cX11_law 2 = .ok (.bipush 6, 2) := by decide +kernel
theorem dX11_law_4 : decode cX11_law 4 = .ok (.invokestatic 64, 3) := by decide +kernel
theorem dX11_law_7 : decode cX11_law 7 = .ok (.ifCond .ne 5, 3) := by decide +kernel
theorem dX11_law_10 : decode cX11_law 10 = .ok (.iconst (-1), 1) := by decide +kernel
theorem dX11_law_11 : decode cX11_law 11 = .ok (.ireturn, 1) := by decide +kernel
theorem dX11_law_12 : decode cX11_law 12 = .ok (.iload_n 2, 1) := by decide +kernel
theorem dX11_law_13 : decode cX11_law 13 = .ok (.iconst 1, 1) := by decide +kernel
theorem dX11_law_14 : decode cX11_law 14 = .ok (.bipush 9, 2) := by decide +kernel
theorem dX11_law_16 : decode cX11_law 16 = .ok (.invokestatic 64, 3) := by decide +kernel
theorem dX11_law_19 : decode cX11_law 19 = .ok (.ifCond .ne 6, 3) := by decide +kernel
theorem dX11_law_22 : decode cX11_law 22 = .ok (.bipush (-2), 2) := by decide +kernel
theorem dX11_law_24 : decode cX11_law 24 = .ok (.ireturn, 1) := by decide +kernel
theorem dX11_law_25 : decode cX11_law 25 = .ok (.aload_n 0, 1) := by decide +kernel
theorem dX11_law_26 : decode cX11_law 26 = .ok (.getfield 10, 3) := by decide +kernel
theorem dX11_law_29 : decode cX11_law 29 = .ok (.getfield 97, 3) := by decide +kernel
theorem dX11_law_32 : decode cX11_law 32 = .ok (.bipush 8, 2) := by decide +kernel
theorem dX11_law_34 : decode cX11_law 34 = .ok (.if_icmp .lt 6, 3) := by decide +kernel
theorem dX11_law_37 : decode cX11_law 37 = .ok (.bipush (-4), 2) := by decide +kernel
theorem dX11_law_39 : decode cX11_law 39 = .ok (.ireturn, 1) := by decide +kernel
theorem dX11_law_40 : decode cX11_law 40 = .ok (.aload_n 0, 1) := by decide +kernel
theorem dX11_law_41 : decode cX11_law 41 = .ok (.getfield 10, 3) := by decide +kernel
theorem dX11_law_44 : decode cX11_law 44 = .ok (.getfield 91, 3) := by decide +kernel
theorem dX11_law_47 : decode cX11_law 47 = .ok (.istore_n 3, 1) := by decide +kernel
theorem dX11_law_48 : decode cX11_law 48 = .ok (.aload_n 0, 1) := by decide +kernel
theorem dX11_law_49 : decode cX11_law 49 = .ok (.getfield 10, 3) := by decide +kernel
theorem dX11_law_52 : decode cX11_law 52 = .ok (.iconst 0, 1) := by decide +kernel
theorem dX11_law_53 : decode cX11_law 53 = .ok (.putfield 91, 3) := by decide +kernel
theorem dX11_law_56 : decode cX11_law 56 = .ok (.aload_n 0, 1) := by decide +kernel
theorem dX11_law_57 : decode cX11_law 57 = .ok (.getfield 26, 3) := by decide +kernel
theorem dX11_law_60 : decode cX11_law 60 = .ok (.aload_n 0, 1) := by decide +kernel
theorem dX11_law_61 : decode cX11_law 61 = .ok (.getfield 10, 3) := by decide +kernel
theorem dX11_law_64 : decode cX11_law 64 = .ok (.getfield 94, 3) := by decide +kernel
theorem dX11_law_67 : decode cX11_law 67 = .ok (.iload_n 3, 1) := by decide +kernel
theorem dX11_law_68 : decode cX11_law 68 = .ok (.invokevirtual 100, 3) := by decide +kernel
theorem dX11_law_71 : decode cX11_law 71 = .ok (.ifCond .ne 14, 3) := by decide +kernel
theorem dX11_law_74 : decode cX11_law 74 = .ok (.bipush (-10), 2) := by decide +kernel
theorem dX11_law_76 : decode cX11_law 76 = .ok (.aload_n 0, 1) := by decide +kernel
theorem dX11_law_77 : decode cX11_law 77 = .ok (.getfield 26, 3) := by decide +kernel
theorem dX11_law_80 : decode cX11_law 80 = .ok (.getfield 104, 3) := by decide +kernel
theorem dX11_law_83 : decode cX11_law 83 = .ok (.isub, 1) := by decide +kernel
theorem dX11_law_84 : decode cX11_law 84 = .ok (.ireturn, 1) := by decide +kernel
theorem dX11_law_85 : decode cX11_law 85 = .ok (.aload_n 0, 1) := by decide +kernel
theorem dX11_law_86 : decode cX11_law 86 = .ok (.getfield 10, 3) := by decide +kernel
theorem dX11_law_89 : decode cX11_law 89 = .ok (.getfield 107, 3) := by decide +kernel
theorem dX11_law_92 : decode cX11_law 92 = .ok (.aload_n 0, 1) := by decide +kernel
theorem dX11_law_93 : decode cX11_law 93 = .ok (.getfield 10, 3) := by decide +kernel
theorem dX11_law_96 : decode cX11_law 96 = .ok (.getfield 97, 3) := by decide +kernel
theorem dX11_law_99 : decode cX11_law 99 = .ok (.aload_n 0, 1) := by decide +kernel
theorem dX11_law_100 : decode cX11_law 100 = .ok (.iload_n 1, 1) := by decide +kernel
theorem dX11_law_101 : decode cX11_law 101 = .ok (.aload_n 0, 1) := by decide +kernel
theorem dX11_law_102 : decode cX11_law 102 = .ok (.getfield 10, 3) := by decide +kernel
theorem dX11_law_105 : decode cX11_law 105 = .ok (.getfield 97, 3) := by decide +kernel
theorem dX11_law_108 : decode cX11_law 108 = .ok (.iload_n 2, 1) := by decide +kernel
theorem dX11_law_109 : decode cX11_law 109 = .ok (.invokevirtual 111, 3) := by decide +kernel
theorem dX11_law_112 : decode cX11_law 112 = .ok (.aastore, 1) := by decide +kernel
theorem dX11_law_113 : decode cX11_law 113 = .ok (.aload_n 0, 1) := by decide +kernel
theorem dX11_law_114 : decode cX11_law 114 = .ok (.getfield 10, 3) := by decide +kernel
theorem dX11_law_117 : decode cX11_law 117 = .ok (.dup, 1) := by decide +kernel
theorem dX11_law_118 : decode cX11_law 118 = .ok (.getfield 97, 3) := by decide +kernel
theorem dX11_law_121 : decode cX11_law 121 = .ok (.dup_x1, 1) := by decide +kernel
theorem dX11_law_122 : decode cX11_law 122 = .ok (.iconst 1, 1) := by decide +kernel
theorem dX11_law_123 : decode cX11_law 123 = .ok (.iadd, 1) := by decide +kernel
theorem dX11_law_124 : decode cX11_law 124 = .ok (.putfield 97, 3) := by decide +kernel
theorem dX11_law_127 : decode cX11_law 127 = .ok (.ireturn, 1) := by decide +kernel
theorem dX11_told_0 : decode cX11_told 0 = .ok (.aload_n 0, 1) := by decide +kernel
theorem dX11_told_1 : decode cX11_told 1 = .ok (.iload_n 1, 1) := by decide +kernel
theorem dX11_told_2 : decode cX11_told 2 = .ok (.invokevirtual 115, 3) := by decide +kernel
theorem dX11_told_5 : decode cX11_told 5 = .ok (.astore_n 3, 1) := by decide +kernel
theorem dX11_told_6 : decode cX11_told 6 = .ok (.aload_n 3, 1) := by decide +kernel
theorem dX11_told_7 : decode cX11_told 7 = .ok (.ifnonnull 5, 3) := by decide +kernel
theorem dX11_told_10 : decode cX11_told 10 = .ok (.iconst (-1), 1) := by decide +kernel
theorem dX11_told_11 : decode cX11_told 11 = .ok (.ireturn, 1) := by decide +kernel
theorem dX11_told_12 : decode cX11_told 12 = .ok (.iload_n 2, 1) := by decide +kernel
theorem dX11_told_13 : decode cX11_told 13 = .ok (.bipush 11, 2) := by decide +kernel
theorem dX11_told_15 : decode cX11_told 15 = .ok (.bipush 14, 2) := by decide +kernel
theorem dX11_told_17 : decode cX11_told 17 = .ok (.invokestatic 64, 3) := by decide +kernel
theorem dX11_told_20 : decode cX11_told 20 = .ok (.ifCond .eq 13, 3) := by decide +kernel
theorem dX11_told_23 : decode cX11_told 23 = .ok (.aload_n 3, 1) := by decide +kernel
theorem dX11_told_24 : decode cX11_told 24 = .ok (.getfield 119, 3) := by decide +kernel
theorem dX11_told_27 : decode cX11_told 27 = .ok (.iload_n 2, 1) := by decide +kernel
theorem dX11_told_28 : decode cX11_told 28 = .ok (.bipush 11, 2) := by decide +kernel
theorem dX11_told_30 : decode cX11_told 30 = .ok (.isub, 1) := by decide +kernel
theorem dX11_told_31 : decode cX11_told 31 = .ok (.iaload, 1) := by decide +kernel
theorem dX11_told_32 : decode cX11_told 32 = .ok (.ireturn, 1) := by decide +kernel
theorem dX11_told_33 : decode cX11_told 33 = .ok (.iload_n 2, 1) := by decide +kernel
theorem dX11_told_34 : decode cX11_told 34 = .ok (.tableswitch 50 0 3 #[30, 35, 40, 45], 30) := by decide +kernel
theorem dX11_told_64 : decode cX11_told 64 = .ok (.aload_n 3, 1) := by decide +kernel
theorem dX11_told_65 : decode cX11_told 65 = .ok (.getfield 124, 3) := by decide +kernel
theorem dX11_told_68 : decode cX11_told 68 = .ok (.ireturn, 1) := by decide +kernel
theorem dX11_told_69 : decode cX11_told 69 = .ok (.aload_n 3, 1) := by decide +kernel
theorem dX11_told_70 : decode cX11_told 70 = .ok (.getfield 127, 3) := by decide +kernel
theorem dX11_told_73 : decode cX11_told 73 = .ok (.ireturn, 1) := by decide +kernel
theorem dX11_told_74 : decode cX11_told 74 = .ok (.aload_n 3, 1) := by decide +kernel
theorem dX11_told_75 : decode cX11_told 75 = .ok (.getfield 130, 3) := by decide +kernel
theorem dX11_told_78 : decode cX11_told 78 = .ok (.ireturn, 1) := by decide +kernel
theorem dX11_told_79 : decode cX11_told 79 = .ok (.aload_n 3, 1) := by decide +kernel
theorem dX11_told_80 : decode cX11_told 80 = .ok (.getfield 133, 3) := by decide +kernel
theorem dX11_told_83 : decode cX11_told 83 = .ok (.ireturn, 1) := by decide +kernel
theorem dX11_told_84 : decode cX11_told 84 = .ok (.iconst (-1), 1) := by decide +kernel
theorem dX11_told_85 : decode cX11_told 85 = .ok (.ireturn, 1) := by decide +kernel
theorem dX11_winds_0 : decode cX11_winds 0 = .ok (.aload_n 0, 1) := by decide +kernel
theorem dX11_winds_1 : decode cX11_winds 1 = .ok (.iload_n 1, 1) := by decide +kernel
theorem dX11_winds_2 : decode cX11_winds 2 = .ok (.invokevirtual 115, 3) := by decide +kernel
theorem dX11_winds_5 : decode cX11_winds 5 = .ok (.astore 5, 2) := by decide +kernel
theorem dX11_winds_7 : decode cX11_winds 7 = .ok (.aload_n 0, 1) := by decide +kernel
theorem dX11_winds_8 : decode cX11_winds 8 = .ok (.iload_n 2, 1) := by decide +kernel
theorem dX11_winds_9 : decode cX11_winds 9 = .ok (.invokevirtual 81, 3) := by decide +kernel
theorem dX11_winds_12 : decode cX11_winds 12 = .ok (.astore 6, 2) := by decide +kernel
theorem dX11_winds_14 : decode cX11_winds 14 = .ok (.aload 5, 2) := by decide +kernel
theorem dX11_winds_16 : decode cX11_winds 16 = .ok (.ifnull 18, 3) := by decide +kernel
theorem dX11_winds_19 : decode cX11_winds 19 = .ok (.aload 6, 2) := by decide +kernel
theorem dX11_winds_21 : decode cX11_winds 21 = .ok (.ifnull 13, 3) := by decide +kernel
theorem dX11_winds_24 : decode cX11_winds 24 = .ok (.iload 4, 2) := by decide +kernel
theorem dX11_winds_26 : decode cX11_winds 26 = .ok (.iconst 0, 1) := by decide +kernel
theorem dX11_winds_27 : decode cX11_winds 27 = .ok (.iconst 2, 1) := by decide +kernel
theorem dX11_winds_28 : decode cX11_winds 28 = .ok (.invokestatic 64, 3) := by decide +kernel
theorem dX11_winds_31 : decode cX11_winds 31 = .ok (.ifCond .ne 5, 3) := by decide +kernel
theorem dX11_winds_34 : decode cX11_winds 34 = .ok (.iconst (-1), 1) := by decide +kernel
theorem dX11_winds_35 : decode cX11_winds 35 = .ok (.ireturn, 1) := by decide +kernel
theorem dX11_winds_36 : decode cX11_winds 36 = .ok (.iload_n 3, 1) := by decide +kernel
theorem dX11_winds_37 : decode cX11_winds 37 = .ok (.invokestatic 136, 3) := by decide +kernel
theorem dX11_winds_40 : decode cX11_winds 40 = .ok (.ifCond .ne 6, 3) := by decide +kernel
theorem dX11_winds_43 : decode cX11_winds 43 = .ok (.bipush (-2), 2) := by decide +kernel
theorem dX11_winds_45 : decode cX11_winds 45 = .ok (.ireturn, 1) := by decide +kernel
theorem dX11_winds_46 : decode cX11_winds 46 = .ok (.iload 4, 2) := by decide +kernel
theorem dX11_winds_48 : decode cX11_winds 48 = .ok (.ifCond .ne 12, 3) := by decide +kernel
theorem dX11_winds_51 : decode cX11_winds 51 = .ok (.aload 5, 2) := by decide +kernel
theorem dX11_winds_53 : decode cX11_winds 53 = .ok (.aload 6, 2) := by decide +kernel
theorem dX11_winds_55 : decode cX11_winds 55 = .ok (.iload_n 3, 1) := by decide +kernel
theorem dX11_winds_56 : decode cX11_winds 56 = .ok (.invokevirtual 140, 3) := by decide +kernel
theorem dX11_winds_59 : decode cX11_winds 59 = .ok (.ireturn, 1) := by decide +kernel
theorem dX11_winds_60 : decode cX11_winds 60 = .ok (.iload 4, 2) := by decide +kernel
theorem dX11_winds_62 : decode cX11_winds 62 = .ok (.iconst 1, 1) := by decide +kernel
theorem dX11_winds_63 : decode cX11_winds 63 = .ok (.if_icmp .ne 14, 3) := by decide +kernel
theorem dX11_winds_66 : decode cX11_winds 66 = .ok (.aload 5, 2) := by decide +kernel
theorem dX11_winds_68 : decode cX11_winds 68 = .ok (.aload 6, 2) := by decide +kernel
theorem dX11_winds_70 : decode cX11_winds 70 = .ok (.iload_n 3, 1) := by decide +kernel
theorem dX11_winds_71 : decode cX11_winds 71 = .ok (.invokestatic 144, 3) := by decide +kernel
theorem dX11_winds_74 : decode cX11_winds 74 = .ok (.goto 11, 3) := by decide +kernel
theorem dX11_winds_77 : decode cX11_winds 77 = .ok (.aload 5, 2) := by decide +kernel
theorem dX11_winds_79 : decode cX11_winds 79 = .ok (.aload 6, 2) := by decide +kernel
theorem dX11_winds_81 : decode cX11_winds 81 = .ok (.iload_n 3, 1) := by decide +kernel
theorem dX11_winds_82 : decode cX11_winds 82 = .ok (.invokestatic 148, 3) := by decide +kernel
theorem dX11_winds_85 : decode cX11_winds 85 = .ok (.ireturn, 1) := by decide +kernel
theorem dX11_tick_0 : decode cX11_tick 0 = .ok (.iload_n 1, 1) := by decide +kernel
theorem dX11_tick_1 : decode cX11_tick 1 = .ok (.iconst (-1), 1) := by decide +kernel
theorem dX11_tick_2 : decode cX11_tick 2 = .ok (.if_icmp .ne 13, 3) := by decide +kernel
theorem dX11_tick_5 : decode cX11_tick 5 = .ok (.aload_n 0, 1) := by decide +kernel
theorem dX11_tick_6 : decode cX11_tick 6 = .ok (.getfield 10, 3) := by decide +kernel
theorem dX11_tick_9 : decode cX11_tick 9 = .ok (.iconst 0, 1) := by decide +kernel
theorem dX11_tick_10 : decode cX11_tick 10 = .ok (.putfield 151, 3) := by decide +kernel
theorem dX11_tick_13 : decode cX11_tick 13 = .ok (.iconst 0, 1) := by decide +kernel
theorem dX11_tick_14 : decode cX11_tick 14 = .ok (.ireturn, 1) := by decide +kernel
theorem dX11_tick_15 : decode cX11_tick 15 = .ok (.iload_n 1, 1) := by decide +kernel
theorem dX11_tick_16 : decode cX11_tick 16 = .ok (.invokestatic 136, 3) := by decide +kernel
theorem dX11_tick_19 : decode cX11_tick 19 = .ok (.ifCond .ne 6, 3) := by decide +kernel
theorem dX11_tick_22 : decode cX11_tick 22 = .ok (.bipush (-2), 2) := by decide +kernel
theorem dX11_tick_24 : decode cX11_tick 24 = .ok (.ireturn, 1) := by decide +kernel
theorem dX11_tick_25 : decode cX11_tick 25 = .ok (.aload_n 0, 1) := by decide +kernel
theorem dX11_tick_26 : decode cX11_tick 26 = .ok (.getfield 10, 3) := by decide +kernel
theorem dX11_tick_29 : decode cX11_tick 29 = .ok (.getfield 151, 3) := by decide +kernel
theorem dX11_tick_32 : decode cX11_tick 32 = .ok (.bipush 20, 2) := by decide +kernel
theorem dX11_tick_34 : decode cX11_tick 34 = .ok (.if_icmp .lt 6, 3) := by decide +kernel
theorem dX11_tick_37 : decode cX11_tick 37 = .ok (.bipush (-4), 2) := by decide +kernel
theorem dX11_tick_39 : decode cX11_tick 39 = .ok (.ireturn, 1) := by decide +kernel
theorem dX11_tick_40 : decode cX11_tick 40 = .ok (.aload_n 0, 1) := by decide +kernel
theorem dX11_tick_41 : decode cX11_tick 41 = .ok (.getfield 10, 3) := by decide +kernel
theorem dX11_tick_44 : decode cX11_tick 44 = .ok (.getfield 154, 3) := by decide +kernel
theorem dX11_tick_47 : decode cX11_tick 47 = .ok (.aload_n 0, 1) := by decide +kernel
theorem dX11_tick_48 : decode cX11_tick 48 = .ok (.getfield 10, 3) := by decide +kernel
theorem dX11_tick_51 : decode cX11_tick 51 = .ok (.getfield 151, 3) := by decide +kernel
theorem dX11_tick_54 : decode cX11_tick 54 = .ok (.iload_n 1, 1) := by decide +kernel
theorem dX11_tick_55 : decode cX11_tick 55 = .ok (.iastore, 1) := by decide +kernel
theorem dX11_tick_56 : decode cX11_tick 56 = .ok (.aload_n 0, 1) := by decide +kernel
theorem dX11_tick_57 : decode cX11_tick 57 = .ok (.getfield 10, 3) := by decide +kernel
theorem dX11_tick_60 : decode cX11_tick 60 = .ok (.dup, 1) := by decide +kernel
theorem dX11_tick_61 : decode cX11_tick 61 = .ok (.getfield 151, 3) := by decide +kernel
theorem dX11_tick_64 : decode cX11_tick 64 = .ok (.iconst 1, 1) := by decide +kernel
theorem dX11_tick_65 : decode cX11_tick 65 = .ok (.iadd, 1) := by decide +kernel
theorem dX11_tick_66 : decode cX11_tick 66 = .ok (.putfield 151, 3) := by decide +kernel
theorem dX11_tick_69 : decode cX11_tick 69 = .ok (.aload_n 0, 1) := by decide +kernel
theorem dX11_tick_70 : decode cX11_tick 70 = .ok (.getfield 10, 3) := by decide +kernel
theorem dX11_tick_73 : decode cX11_tick 73 = .ok (.getfield 151, 3) := by decide +kernel
theorem dX11_tick_76 : decode cX11_tick 76 = .ok (.ireturn, 1) := by decide +kernel
theorem dX11_run_0 : decode cX11_run 0 = .ok (.aload_n 0, 1) := by decide +kernel
theorem dX11_run_1 : decode cX11_run 1 = .ok (.iload_n 1, 1) := by decide +kernel
theorem dX11_run_2 : decode cX11_run 2 = .ok (.invokevirtual 115, 3) := by decide +kernel
theorem dX11_run_5 : decode cX11_run 5 = .ok (.astore 4, 2) := by decide +kernel
theorem dX11_run_7 : decode cX11_run 7 = .ok (.aload_n 0, 1) := by decide +kernel
theorem dX11_run_8 : decode cX11_run 8 = .ok (.iload_n 2, 1) := by decide +kernel
theorem dX11_run_9 : decode cX11_run 9 = .ok (.invokevirtual 81, 3) := by decide +kernel
theorem dX11_run_12 : decode cX11_run 12 = .ok (.astore 5, 2) := by decide +kernel
theorem dX11_run_14 : decode cX11_run 14 = .ok (.aload 4, 2) := by decide +kernel
theorem dX11_run_16 : decode cX11_run 16 = .ok (.ifnull 16, 3) := by decide +kernel
theorem dX11_run_19 : decode cX11_run 19 = .ok (.aload 5, 2) := by decide +kernel
theorem dX11_run_21 : decode cX11_run 21 = .ok (.ifnull 11, 3) := by decide +kernel
theorem dX11_run_24 : decode cX11_run 24 = .ok (.aload_n 0, 1) := by decide +kernel
theorem dX11_run_25 : decode cX11_run 25 = .ok (.iload_n 3, 1) := by decide +kernel
theorem dX11_run_26 : decode cX11_run 26 = .ok (.invokevirtual 157, 3) := by decide +kernel
theorem dX11_run_29 : decode cX11_run 29 = .ok (.ifCond .ne 5, 3) := by decide +kernel
theorem dX11_run_32 : decode cX11_run 32 = .ok (.iconst (-1), 1) := by decide +kernel
theorem dX11_run_33 : decode cX11_run 33 = .ok (.ireturn, 1) := by decide +kernel
theorem dX11_run_34 : decode cX11_run 34 = .ok (.aload_n 0, 1) := by decide +kernel
theorem dX11_run_35 : decode cX11_run 35 = .ok (.aload 4, 2) := by decide +kernel
theorem dX11_run_37 : decode cX11_run 37 = .ok (.aload 5, 2) := by decide +kernel
theorem dX11_run_39 : decode cX11_run 39 = .ok (.invokevirtual 160, 3) := by decide +kernel
theorem dX11_run_42 : decode cX11_run 42 = .ok (.istore 6, 2) := by decide +kernel
theorem dX11_run_44 : decode cX11_run 44 = .ok (.iload_n 3, 1) := by decide +kernel
theorem dX11_run_45 : decode cX11_run 45 = .ok (.bipush 100, 2) := by decide +kernel
theorem dX11_run_47 : decode cX11_run 47 = .ok (.irem, 1) := by decide +kernel
theorem dX11_run_48 : decode cX11_run 48 = .ok (.istore 7, 2) := by decide +kernel
theorem dX11_run_50 : decode cX11_run 50 = .ok (.iload_n 3, 1) := by decide +kernel
theorem dX11_run_51 : decode cX11_run 51 = .ok (.bipush 100, 2) := by decide +kernel
theorem dX11_run_53 : decode cX11_run 53 = .ok (.idiv, 1) := by decide +kernel
theorem dX11_run_54 : decode cX11_run 54 = .ok (.tableswitch 50 1 3 #[26, 34, 42], 26) := by decide +kernel
theorem dX11_run_80 : decode cX11_run 80 = .ok (.aload_n 0, 1) := by decide +kernel
theorem dX11_run_81 : decode cX11_run 81 = .ok (.getfield 37, 3) := by decide +kernel
theorem dX11_run_84 : decode cX11_run 84 = .ok (.iload 7, 2) := by decide +kernel
theorem dX11_run_86 : decode cX11_run 86 = .ok (.iaload, 1) := by decide +kernel
theorem dX11_run_87 : decode cX11_run 87 = .ok (.ireturn, 1) := by decide +kernel
theorem dX11_run_88 : decode cX11_run 88 = .ok (.aload_n 0, 1) := by decide +kernel
theorem dX11_run_89 : decode cX11_run 89 = .ok (.getfield 41, 3) := by decide +kernel
theorem dX11_run_92 : decode cX11_run 92 = .ok (.iload 7, 2) := by decide +kernel
theorem dX11_run_94 : decode cX11_run 94 = .ok (.iaload, 1) := by decide +kernel
theorem dX11_run_95 : decode cX11_run 95 = .ok (.ireturn, 1) := by decide +kernel
theorem dX11_run_96 : decode cX11_run 96 = .ok (.aload_n 0, 1) := by decide +kernel
theorem dX11_run_97 : decode cX11_run 97 = .ok (.getfield 44, 3) := by decide +kernel
theorem dX11_run_100 : decode cX11_run 100 = .ok (.iload 7, 2) := by decide +kernel
theorem dX11_run_102 : decode cX11_run 102 = .ok (.iaload, 1) := by decide +kernel
theorem dX11_run_103 : decode cX11_run 103 = .ok (.ireturn, 1) := by decide +kernel
theorem dX11_run_104 : decode cX11_run 104 = .ok (.iload_n 3, 1) := by decide +kernel
theorem dX11_run_105 : decode cX11_run 105 = .ok (.ifCond .ne 6, 3) := by decide +kernel
theorem dX11_run_108 : decode cX11_run 108 = .ok (.iload 6, 2) := by decide +kernel
theorem dX11_run_110 : decode cX11_run 110 = .ok (.ireturn, 1) := by decide +kernel
theorem dX11_run_111 : decode cX11_run 111 = .ok (.iload_n 3, 1) := by decide +kernel
theorem dX11_run_112 : decode cX11_run 112 = .ok (.iconst 1, 1) := by decide +kernel
theorem dX11_run_113 : decode cX11_run 113 = .ok (.if_icmp .ne 10, 3) := by decide +kernel
theorem dX11_run_116 : decode cX11_run 116 = .ok (.aload_n 0, 1) := by decide +kernel
theorem dX11_run_117 : decode cX11_run 117 = .ok (.invokevirtual 164, 3) := by decide +kernel
theorem dX11_run_120 : decode cX11_run 120 = .ok (.goto 7, 3) := by decide +kernel
theorem dX11_run_123 : decode cX11_run 123 = .ok (.aload_n 0, 1) := by decide +kernel
theorem dX11_run_124 : decode cX11_run 124 = .ok (.invokevirtual 168, 3) := by decide +kernel
theorem dX11_run_127 : decode cX11_run 127 = .ok (.ireturn, 1) := by decide +kernel
theorem dX11_curve_0 : decode cX11_curve 0 = .ok (.aload_n 0, 1) := by decide +kernel
theorem dX11_curve_1 : decode cX11_curve 1 = .ok (.iload_n 1, 1) := by decide +kernel
theorem dX11_curve_2 : decode cX11_curve 2 = .ok (.invokevirtual 115, 3) := by decide +kernel
theorem dX11_curve_5 : decode cX11_curve 5 = .ok (.astore 6, 2) := by decide +kernel
theorem dX11_curve_7 : decode cX11_curve 7 = .ok (.aload_n 0, 1) := by decide +kernel
theorem dX11_curve_8 : decode cX11_curve 8 = .ok (.iload_n 2, 1) := by decide +kernel
theorem dX11_curve_9 : decode cX11_curve 9 = .ok (.invokevirtual 81, 3) := by decide +kernel
theorem dX11_curve_12 : decode cX11_curve 12 = .ok (.astore 7, 2) := by decide +kernel
theorem dX11_curve_14 : decode cX11_curve 14 = .ok (.aload 6, 2) := by decide +kernel
theorem dX11_curve_16 : decode cX11_curve 16 = .ok (.ifnull 8, 3) := by decide +kernel
theorem dX11_curve_19 : decode cX11_curve 19 = .ok (.aload 7, 2) := by decide +kernel
theorem dX11_curve_21 : decode cX11_curve 21 = .ok (.ifnonnull 5, 3) := by decide +kernel
theorem dX11_curve_24 : decode cX11_curve 24 = .ok (.iconst (-1), 1) := by decide +kernel
theorem dX11_curve_25 : decode cX11_curve 25 = .ok (.ireturn, 1) := by decide +kernel
theorem dX11_curve_26 : decode cX11_curve 26 = .ok (.iload_n 3, 1) := by decide +kernel
theorem dX11_curve_27 : decode cX11_curve 27 = .ok (.invokestatic 171, 3) := by decide +kernel
theorem dX11_curve_30 : decode cX11_curve 30 = .ok (.ifCond .eq 11, 3) := by decide +kernel
theorem dX11_curve_33 : decode cX11_curve 33 = .ok (.iload 4, 2) := by decide +kernel
theorem dX11_curve_35 : decode cX11_curve 35 = .ok (.invokestatic 174, 3) := by decide +kernel
theorem dX11_curve_38 : decode cX11_curve 38 = .ok (.ifCond .ne 6, 3) := by decide +kernel
theorem dX11_curve_41 : decode cX11_curve 41 = .ok (.bipush (-2), 2) := by decide +kernel
theorem dX11_curve_43 : decode cX11_curve 43 = .ok (.ireturn, 1) := by decide +kernel
theorem dX11_curve_44 : decode cX11_curve 44 = .ok (.iload 5, 2) := by decide +kernel
theorem dX11_curve_46 : decode cX11_curve 46 = .ok (.ifCond .eq 20, 3) := by decide +kernel
theorem dX11_curve_49 : decode cX11_curve 49 = .ok (.aload_n 0, 1) := by decide +kernel
theorem dX11_curve_50 : decode cX11_curve 50 = .ok (.aload 6, 2) := by decide +kernel
theorem dX11_curve_52 : decode cX11_curve 52 = .ok (.aload 7, 2) := by decide +kernel
theorem dX11_curve_54 : decode cX11_curve 54 = .ok (.iload_n 3, 1) := by decide +kernel
theorem dX11_curve_55 : decode cX11_curve 55 = .ok (.invokevirtual 177, 3) := by decide +kernel
theorem dX11_curve_58 : decode cX11_curve 58 = .ok (.aload_n 0, 1) := by decide +kernel
theorem dX11_curve_59 : decode cX11_curve 59 = .ok (.getfield 47, 3) := by decide +kernel
theorem dX11_curve_62 : decode cX11_curve 62 = .ok (.iload 4, 2) := by decide +kernel
theorem dX11_curve_64 : decode cX11_curve 64 = .ok (.iaload, 1) := by decide +kernel
theorem dX11_curve_65 : decode cX11_curve 65 = .ok (.ireturn, 1) := by decide +kernel
theorem dX11_curve_66 : decode cX11_curve 66 = .ok (.aload_n 0, 1) := by decide +kernel
theorem dX11_curve_67 : decode cX11_curve 67 = .ok (.aload 6, 2) := by decide +kernel
theorem dX11_curve_69 : decode cX11_curve 69 = .ok (.aload 7, 2) := by decide +kernel
theorem dX11_curve_71 : decode cX11_curve 71 = .ok (.iload_n 3, 1) := by decide +kernel
theorem dX11_curve_72 : decode cX11_curve 72 = .ok (.invokevirtual 181, 3) := by decide +kernel
theorem dX11_curve_75 : decode cX11_curve 75 = .ok (.aload_n 0, 1) := by decide +kernel
theorem dX11_curve_76 : decode cX11_curve 76 = .ok (.getfield 50, 3) := by decide +kernel
theorem dX11_curve_79 : decode cX11_curve 79 = .ok (.iload 4, 2) := by decide +kernel
theorem dX11_curve_81 : decode cX11_curve 81 = .ok (.iaload, 1) := by decide +kernel
theorem dX11_curve_82 : decode cX11_curve 82 = .ok (.ireturn, 1) := by decide +kernel
theorem dX11_jumps_0 : decode cX11_jumps 0 = .ok (.aload_n 0, 1) := by decide +kernel
theorem dX11_jumps_1 : decode cX11_jumps 1 = .ok (.iload_n 1, 1) := by decide +kernel
theorem dX11_jumps_2 : decode cX11_jumps 2 = .ok (.invokevirtual 115, 3) := by decide +kernel
theorem dX11_jumps_5 : decode cX11_jumps 5 = .ok (.astore 6, 2) := by decide +kernel
theorem dX11_jumps_7 : decode cX11_jumps 7 = .ok (.aload_n 0, 1) := by decide +kernel
theorem dX11_jumps_8 : decode cX11_jumps 8 = .ok (.iload_n 2, 1) := by decide +kernel
theorem dX11_jumps_9 : decode cX11_jumps 9 = .ok (.invokevirtual 81, 3) := by decide +kernel
theorem dX11_jumps_12 : decode cX11_jumps 12 = .ok (.astore 7, 2) := by decide +kernel
theorem dX11_jumps_14 : decode cX11_jumps 14 = .ok (.aload 6, 2) := by decide +kernel
theorem dX11_jumps_16 : decode cX11_jumps 16 = .ok (.ifnull 18, 3) := by decide +kernel
theorem dX11_jumps_19 : decode cX11_jumps 19 = .ok (.aload 7, 2) := by decide +kernel
theorem dX11_jumps_21 : decode cX11_jumps 21 = .ok (.ifnull 13, 3) := by decide +kernel
theorem dX11_jumps_24 : decode cX11_jumps 24 = .ok (.iload 5, 2) := by decide +kernel
theorem dX11_jumps_26 : decode cX11_jumps 26 = .ok (.iconst 0, 1) := by decide +kernel
theorem dX11_jumps_27 : decode cX11_jumps 27 = .ok (.iconst 1, 1) := by decide +kernel
theorem dX11_jumps_28 : decode cX11_jumps 28 = .ok (.invokestatic 64, 3) := by decide +kernel
theorem dX11_jumps_31 : decode cX11_jumps 31 = .ok (.ifCond .ne 5, 3) := by decide +kernel
theorem dX11_jumps_34 : decode cX11_jumps 34 = .ok (.iconst (-1), 1) := by decide +kernel
theorem dX11_jumps_35 : decode cX11_jumps 35 = .ok (.ireturn, 1) := by decide +kernel
theorem dX11_jumps_36 : decode cX11_jumps 36 = .ok (.iload_n 3, 1) := by decide +kernel
theorem dX11_jumps_37 : decode cX11_jumps 37 = .ok (.invokestatic 171, 3) := by decide +kernel
theorem dX11_jumps_40 : decode cX11_jumps 40 = .ok (.ifCond .eq 14, 3) := by decide +kernel
theorem dX11_jumps_43 : decode cX11_jumps 43 = .ok (.iload 4, 2) := by decide +kernel
theorem dX11_jumps_45 : decode cX11_jumps 45 = .ok (.iconst 1, 1) := by decide +kernel
theorem dX11_jumps_46 : decode cX11_jumps 46 = .ok (.bipush 99, 2) := by decide +kernel
theorem dX11_jumps_48 : decode cX11_jumps 48 = .ok (.invokestatic 64, 3) := by decide +kernel
theorem dX11_jumps_51 : decode cX11_jumps 51 = .ok (.ifCond .ne 6, 3) := by decide +kernel
theorem dX11_jumps_54 : decode cX11_jumps 54 = .ok (.bipush (-2), 2) := by decide +kernel
theorem dX11_jumps_56 : decode cX11_jumps 56 = .ok (.ireturn, 1) := by decide +kernel
theorem dX11_jumps_57 : decode cX11_jumps 57 = .ok (.aload_n 0, 1) := by decide +kernel
theorem dX11_jumps_58 : decode cX11_jumps 58 = .ok (.aload 6, 2) := by decide +kernel
theorem dX11_jumps_60 : decode cX11_jumps 60 = .ok (.aload 7, 2) := by decide +kernel
theorem dX11_jumps_62 : decode cX11_jumps 62 = .ok (.iload_n 3, 1) := by decide +kernel
theorem dX11_jumps_63 : decode cX11_jumps 63 = .ok (.invokevirtual 177, 3) := by decide +kernel
theorem dX11_jumps_66 : decode cX11_jumps 66 = .ok (.iconst 0, 1) := by decide +kernel
theorem dX11_jumps_67 : decode cX11_jumps 67 = .ok (.istore 8, 2) := by decide +kernel
theorem dX11_jumps_69 : decode cX11_jumps 69 = .ok (.bipush (-5), 2) := by decide +kernel
theorem dX11_jumps_71 : decode cX11_jumps 71 = .ok (.istore 9, 2) := by decide +kernel
theorem dX11_jumps_73 : decode cX11_jumps 73 = .ok (.iconst 2, 1) := by decide +kernel
theorem dX11_jumps_74 : decode cX11_jumps 74 = .ok (.istore 10, 2) := by decide +kernel
theorem dX11_jumps_76 : decode cX11_jumps 76 = .ok (.iload 10, 2) := by decide +kernel
theorem dX11_jumps_78 : decode cX11_jumps 78 = .ok (.bipush 60, 2) := by decide +kernel
theorem dX11_jumps_80 : decode cX11_jumps 80 = .ok (.if_icmp .gt 52, 3) := by decide +kernel
theorem dX11_jumps_83 : decode cX11_jumps 83 = .ok (.aload_n 0, 1) := by decide +kernel
theorem dX11_jumps_84 : decode cX11_jumps 84 = .ok (.getfield 47, 3) := by decide +kernel
theorem dX11_jumps_87 : decode cX11_jumps 87 = .ok (.iload 10, 2) := by decide +kernel
theorem dX11_jumps_89 : decode cX11_jumps 89 = .ok (.iaload, 1) := by decide +kernel
theorem dX11_jumps_90 : decode cX11_jumps 90 = .ok (.aload_n 0, 1) := by decide +kernel
theorem dX11_jumps_91 : decode cX11_jumps 91 = .ok (.getfield 47, 3) := by decide +kernel
theorem dX11_jumps_94 : decode cX11_jumps 94 = .ok (.iload 10, 2) := by decide +kernel
theorem dX11_jumps_96 : decode cX11_jumps 96 = .ok (.iconst 1, 1) := by decide +kernel
theorem dX11_jumps_97 : decode cX11_jumps 97 = .ok (.isub, 1) := by decide +kernel
theorem dX11_jumps_98 : decode cX11_jumps 98 = .ok (.iaload, 1) := by decide +kernel
theorem dX11_jumps_99 : decode cX11_jumps 99 = .ok (.isub, 1) := by decide +kernel
theorem dX11_jumps_100 : decode cX11_jumps 100 = .ok (.invokestatic 184, 3) := by decide +kernel
theorem dX11_jumps_103 : decode cX11_jumps 103 = .ok (.iload 4, 2) := by decide +kernel
theorem dX11_jumps_105 : decode cX11_jumps 105 = .ok (.if_icmp .lt 21, 3) := by decide +kernel
theorem dX11_jumps_108 : decode cX11_jumps 108 = .ok (.iinc 8 1, 3) := by decide +kernel
theorem dX11_jumps_111 : decode cX11_jumps 111 = .ok (.iload 8, 2) := by decide +kernel
theorem dX11_jumps_113 : decode cX11_jumps 113 = .ok (.iconst 1, 1) := by decide +kernel
theorem dX11_jumps_114 : decode cX11_jumps 114 = .ok (.if_icmp .ne 8, 3) := by decide +kernel
theorem dX11_jumps_117 : decode cX11_jumps 117 = .ok (.iload 10, 2) := by decide +kernel
theorem dX11_jumps_119 : decode cX11_jumps 119 = .ok (.goto 5, 3) := by decide +kernel
theorem dX11_jumps_122 : decode cX11_jumps 122 = .ok (.iload 9, 2) := by decide +kernel
theorem dX11_jumps_124 : decode cX11_jumps 124 = .ok (.istore 9, 2) := by decide +kernel
theorem dX11_jumps_126 : decode cX11_jumps 126 = .ok (.iinc 10 1, 3) := by decide +kernel
theorem dX11_jumps_129 : decode cX11_jumps 129 = .ok (.goto (-53), 3) := by decide +kernel
theorem dX11_jumps_132 : decode cX11_jumps 132 = .ok (.iload 5, 2) := by decide +kernel
theorem dX11_jumps_134 : decode cX11_jumps 134 = .ok (.ifCond .ne 8, 3) := by decide +kernel
theorem dX11_jumps_137 : decode cX11_jumps 137 = .ok (.iload 8, 2) := by decide +kernel
theorem dX11_jumps_139 : decode cX11_jumps 139 = .ok (.goto 5, 3) := by decide +kernel
theorem dX11_jumps_142 : decode cX11_jumps 142 = .ok (.iload 9, 2) := by decide +kernel
theorem dX11_jumps_144 : decode cX11_jumps 144 = .ok (.ireturn, 1) := by decide +kernel
theorem dX11_several_0 : decode cX11_several 0 = .ok (.aload_n 0, 1) := by decide +kernel
theorem dX11_several_1 : decode cX11_several 1 = .ok (.iload_n 1, 1) := by decide +kernel
theorem dX11_several_2 : decode cX11_several 2 = .ok (.invokevirtual 115, 3) := by decide +kernel
theorem dX11_several_5 : decode cX11_several 5 = .ok (.astore 5, 2) := by decide +kernel
theorem dX11_several_7 : decode cX11_several 7 = .ok (.aload_n 0, 1) := by decide +kernel
theorem dX11_several_8 : decode cX11_several 8 = .ok (.iload_n 2, 1) := by decide +kernel
theorem dX11_several_9 : decode cX11_several 9 = .ok (.invokevirtual 81, 3) := by decide +kernel
theorem dX11_several_12 : decode cX11_several 12 = .ok (.astore 6, 2) := by decide +kernel
theorem dX11_several_14 : decode cX11_several 14 = .ok (.aload 5, 2) := by decide +kernel
theorem dX11_several_16 : decode cX11_several 16 = .ok (.ifnull 18, 3) := by decide +kernel
theorem dX11_several_19 : decode cX11_several 19 = .ok (.aload 6, 2) := by decide +kernel
theorem dX11_several_21 : decode cX11_several 21 = .ok (.ifnull 13, 3) := by decide +kernel
theorem dX11_several_24 : decode cX11_several 24 = .ok (.iload 4, 2) := by decide +kernel
theorem dX11_several_26 : decode cX11_several 26 = .ok (.iconst 0, 1) := by decide +kernel
theorem dX11_several_27 : decode cX11_several 27 = .ok (.iconst 2, 1) := by decide +kernel
theorem dX11_several_28 : decode cX11_several 28 = .ok (.invokestatic 64, 3) := by decide +kernel
theorem dX11_several_31 : decode cX11_several 31 = .ok (.ifCond .ne 5, 3) := by decide +kernel
theorem dX11_several_34 : decode cX11_several 34 = .ok (.iconst (-1), 1) := by decide +kernel
theorem dX11_several_35 : decode cX11_several 35 = .ok (.ireturn, 1) := by decide +kernel
theorem dX11_several_36 : decode cX11_several 36 = .ok (.iload_n 3, 1) := by decide +kernel
theorem dX11_several_37 : decode cX11_several 37 = .ok (.invokestatic 171, 3) := by decide +kernel
theorem dX11_several_40 : decode cX11_several 40 = .ok (.ifCond .ne 6, 3) := by decide +kernel
theorem dX11_several_43 : decode cX11_several 43 = .ok (.bipush (-2), 2) := by decide +kernel
theorem dX11_several_45 : decode cX11_several 45 = .ok (.ireturn, 1) := by decide +kernel
theorem dX11_several_46 : decode cX11_several 46 = .ok (.aload_n 0, 1) := by decide +kernel
theorem dX11_several_47 : decode cX11_several 47 = .ok (.aload 5, 2) := by decide +kernel
theorem dX11_several_49 : decode cX11_several 49 = .ok (.aload 6, 2) := by decide +kernel
theorem dX11_several_51 : decode cX11_several 51 = .ok (.iload_n 3, 1) := by decide +kernel
theorem dX11_several_52 : decode cX11_several 52 = .ok (.invokevirtual 177, 3) := by decide +kernel
theorem dX11_several_55 : decode cX11_several 55 = .ok (.aload_n 0, 1) := by decide +kernel
theorem dX11_several_56 : decode cX11_several 56 = .ok (.aload 5, 2) := by decide +kernel
theorem dX11_several_58 : decode cX11_several 58 = .ok (.aload 6, 2) := by decide +kernel
theorem dX11_several_60 : decode cX11_several 60 = .ok (.iload_n 3, 1) := by decide +kernel
theorem dX11_several_61 : decode cX11_several 61 = .ok (.invokevirtual 181, 3) := by decide +kernel
theorem dX11_several_64 : decode cX11_several 64 = .ok (.iconst 0, 1) := by decide +kernel
theorem dX11_several_65 : decode cX11_several 65 = .ok (.istore 7, 2) := by decide +kernel
theorem dX11_several_67 : decode cX11_several 67 = .ok (.bipush (-5), 2) := by decide +kernel
theorem dX11_several_69 : decode cX11_several 69 = .ok (.istore 8, 2) := by decide +kernel
theorem dX11_several_71 : decode cX11_several 71 = .ok (.bipush (-5), 2) := by decide +kernel
theorem dX11_several_73 : decode cX11_several 73 = .ok (.istore 9, 2) := by decide +kernel
theorem dX11_several_75 : decode cX11_several 75 = .ok (.iconst 1, 1) := by decide +kernel
theorem dX11_several_76 : decode cX11_several 76 = .ok (.istore 10, 2) := by decide +kernel
theorem dX11_several_78 : decode cX11_several 78 = .ok (.iload 10, 2) := by decide +kernel
theorem dX11_several_80 : decode cX11_several 80 = .ok (.bipush 60, 2) := by decide +kernel
theorem dX11_several_82 : decode cX11_several 82 = .ok (.if_icmp .gt 48, 3) := by decide +kernel
theorem dX11_several_85 : decode cX11_several 85 = .ok (.aload_n 0, 1) := by decide +kernel
theorem dX11_several_86 : decode cX11_several 86 = .ok (.getfield 47, 3) := by decide +kernel
theorem dX11_several_89 : decode cX11_several 89 = .ok (.iload 10, 2) := by decide +kernel
theorem dX11_several_91 : decode cX11_several 91 = .ok (.iaload, 1) := by decide +kernel
theorem dX11_several_92 : decode cX11_several 92 = .ok (.aload_n 0, 1) := by decide +kernel
theorem dX11_several_93 : decode cX11_several 93 = .ok (.getfield 50, 3) := by decide +kernel
theorem dX11_several_96 : decode cX11_several 96 = .ok (.iload 10, 2) := by decide +kernel
theorem dX11_several_98 : decode cX11_several 98 = .ok (.iaload, 1) := by decide +kernel
theorem dX11_several_99 : decode cX11_several 99 = .ok (.if_icmp .eq 25, 3) := by decide +kernel
theorem dX11_several_102 : decode cX11_several 102 = .ok (.iinc 7 1, 3) := by decide +kernel
theorem dX11_several_105 : decode cX11_several 105 = .ok (.iload 7, 2) := by decide +kernel
theorem dX11_several_107 : decode cX11_several 107 = .ok (.iconst 1, 1) := by decide +kernel
theorem dX11_several_108 : decode cX11_several 108 = .ok (.if_icmp .ne 8, 3) := by decide +kernel
theorem dX11_several_111 : decode cX11_several 111 = .ok (.iload 10, 2) := by decide +kernel
theorem dX11_several_113 : decode cX11_several 113 = .ok (.goto 5, 3) := by decide +kernel
theorem dX11_several_116 : decode cX11_several 116 = .ok (.iload 8, 2) := by decide +kernel
theorem dX11_several_118 : decode cX11_several 118 = .ok (.istore 8, 2) := by decide +kernel
theorem dX11_several_120 : decode cX11_several 120 = .ok (.iload 10, 2) := by decide +kernel
theorem dX11_several_122 : decode cX11_several 122 = .ok (.istore 9, 2) := by decide +kernel
theorem dX11_several_124 : decode cX11_several 124 = .ok (.iinc 10 1, 3) := by decide +kernel
theorem dX11_several_127 : decode cX11_several 127 = .ok (.goto (-49), 3) := by decide +kernel
theorem dX11_several_130 : decode cX11_several 130 = .ok (.iload 4, 2) := by decide +kernel
theorem dX11_several_132 : decode cX11_several 132 = .ok (.iload 7, 2) := by decide +kernel
theorem dX11_several_134 : decode cX11_several 134 = .ok (.iload 8, 2) := by decide +kernel
theorem dX11_several_136 : decode cX11_several 136 = .ok (.iload 9, 2) := by decide +kernel
theorem dX11_several_138 : decode cX11_several 138 = .ok (.invokestatic 190, 3) := by decide +kernel
theorem dX11_several_141 : decode cX11_several 141 = .ok (.ireturn, 1) := by decide +kernel
theorem dX11_order_0 : decode cX11_order 0 = .ok (.aload_n 0, 1) := by decide +kernel
theorem dX11_order_1 : decode cX11_order 1 = .ok (.iload_n 1, 1) := by decide +kernel
theorem dX11_order_2 : decode cX11_order 2 = .ok (.invokevirtual 115, 3) := by decide +kernel
theorem dX11_order_5 : decode cX11_order 5 = .ok (.astore 5, 2) := by decide +kernel
theorem dX11_order_7 : decode cX11_order 7 = .ok (.aload_n 0, 1) := by decide +kernel
theorem dX11_order_8 : decode cX11_order 8 = .ok (.iload_n 2, 1) := by decide +kernel
theorem dX11_order_9 : decode cX11_order 9 = .ok (.invokevirtual 81, 3) := by decide +kernel
theorem dX11_order_12 : decode cX11_order 12 = .ok (.astore 6, 2) := by decide +kernel
theorem dX11_order_14 : decode cX11_order 14 = .ok (.aload 5, 2) := by decide +kernel
theorem dX11_order_16 : decode cX11_order 16 = .ok (.ifnull 8, 3) := by decide +kernel
theorem dX11_order_19 : decode cX11_order 19 = .ok (.aload 6, 2) := by decide +kernel
theorem dX11_order_21 : decode cX11_order 21 = .ok (.ifnonnull 5, 3) := by decide +kernel
theorem dX11_order_24 : decode cX11_order 24 = .ok (.iconst (-1), 1) := by decide +kernel
theorem dX11_order_25 : decode cX11_order 25 = .ok (.ireturn, 1) := by decide +kernel
theorem dX11_order_26 : decode cX11_order 26 = .ok (.iload_n 3, 1) := by decide +kernel
theorem dX11_order_27 : decode cX11_order 27 = .ok (.invokestatic 136, 3) := by decide +kernel
theorem dX11_order_30 : decode cX11_order 30 = .ok (.ifCond .eq 11, 3) := by decide +kernel
theorem dX11_order_33 : decode cX11_order 33 = .ok (.iload 4, 2) := by decide +kernel
theorem dX11_order_35 : decode cX11_order 35 = .ok (.invokestatic 194, 3) := by decide +kernel
theorem dX11_order_38 : decode cX11_order 38 = .ok (.ifCond .ne 6, 3) := by decide +kernel
theorem dX11_order_41 : decode cX11_order 41 = .ok (.bipush (-2), 2) := by decide +kernel
theorem dX11_order_43 : decode cX11_order 43 = .ok (.ireturn, 1) := by decide +kernel
theorem dX11_order_44 : decode cX11_order 44 = .ok (.aload_n 0, 1) := by decide +kernel
theorem dX11_order_45 : decode cX11_order 45 = .ok (.aload 5, 2) := by decide +kernel
theorem dX11_order_47 : decode cX11_order 47 = .ok (.aload 6, 2) := by decide +kernel
theorem dX11_order_49 : decode cX11_order 49 = .ok (.iload_n 3, 1) := by decide +kernel
theorem dX11_order_50 : decode cX11_order 50 = .ok (.invokevirtual 197, 3) := by decide +kernel
theorem dX11_order_53 : decode cX11_order 53 = .ok (.iconst 0, 1) := by decide +kernel
theorem dX11_order_54 : decode cX11_order 54 = .ok (.istore 7, 2) := by decide +kernel
theorem dX11_order_56 : decode cX11_order 56 = .ok (.iload 7, 2) := by decide +kernel
theorem dX11_order_58 : decode cX11_order 58 = .ok (.bipush 100, 2) := by decide +kernel
theorem dX11_order_60 : decode cX11_order 60 = .ok (.if_icmp .ge 31, 3) := by decide +kernel
theorem dX11_order_63 : decode cX11_order 63 = .ok (.aload 5, 2) := by decide +kernel
theorem dX11_order_65 : decode cX11_order 65 = .ok (.aload_n 0, 1) := by decide +kernel
theorem dX11_order_66 : decode cX11_order 66 = .ok (.getfield 53, 3) := by decide +kernel
theorem dX11_order_69 : decode cX11_order 69 = .ok (.iload 7, 2) := by decide +kernel
theorem dX11_order_71 : decode cX11_order 71 = .ok (.iaload, 1) := by decide +kernel
theorem dX11_order_72 : decode cX11_order 72 = .ok (.iload 7, 2) := by decide +kernel
theorem dX11_order_74 : decode cX11_order 74 = .ok (.invokevirtual 200, 3) := by decide +kernel
theorem dX11_order_77 : decode cX11_order 77 = .ok (.iload 4, 2) := by decide +kernel
theorem dX11_order_79 : decode cX11_order 79 = .ok (.if_icmp .ne 6, 3) := by decide +kernel
theorem dX11_order_82 : decode cX11_order 82 = .ok (.iload 7, 2) := by decide +kernel
theorem dX11_order_84 : decode cX11_order 84 = .ok (.ireturn, 1) := by decide +kernel
theorem dX11_order_85 : decode cX11_order 85 = .ok (.iinc 7 1, 3) := by decide +kernel
theorem dX11_order_88 : decode cX11_order 88 = .ok (.goto (-32), 3) := by decide +kernel
theorem dX11_order_91 : decode cX11_order 91 = .ok (.bipush (-5), 2) := by decide +kernel
theorem dX11_order_93 : decode cX11_order 93 = .ok (.ireturn, 1) := by decide +kernel
theorem dX11_want_0 : decode cX11_want 0 = .ok (.iload_n 1, 1) := by decide +kernel
theorem dX11_want_1 : decode cX11_want 1 = .ok (.iconst (-1), 1) := by decide +kernel
theorem dX11_want_2 : decode cX11_want 2 = .ok (.if_icmp .ne 13, 3) := by decide +kernel
theorem dX11_want_5 : decode cX11_want 5 = .ok (.aload_n 0, 1) := by decide +kernel
theorem dX11_want_6 : decode cX11_want 6 = .ok (.getfield 10, 3) := by decide +kernel
theorem dX11_want_9 : decode cX11_want 9 = .ok (.iconst 0, 1) := by decide +kernel
theorem dX11_want_10 : decode cX11_want 10 = .ok (.putfield 204, 3) := by decide +kernel
theorem dX11_want_13 : decode cX11_want 13 = .ok (.iconst 0, 1) := by decide +kernel
theorem dX11_want_14 : decode cX11_want 14 = .ok (.ireturn, 1) := by decide +kernel
theorem dX11_want_15 : decode cX11_want 15 = .ok (.iload_n 1, 1) := by decide +kernel
theorem dX11_want_16 : decode cX11_want 16 = .ok (.invokestatic 194, 3) := by decide +kernel
theorem dX11_want_19 : decode cX11_want 19 = .ok (.ifCond .ne 6, 3) := by decide +kernel
theorem dX11_want_22 : decode cX11_want 22 = .ok (.bipush (-2), 2) := by decide +kernel
theorem dX11_want_24 : decode cX11_want 24 = .ok (.ireturn, 1) := by decide +kernel
theorem dX11_want_25 : decode cX11_want 25 = .ok (.aload_n 0, 1) := by decide +kernel
theorem dX11_want_26 : decode cX11_want 26 = .ok (.getfield 10, 3) := by decide +kernel
theorem dX11_want_29 : decode cX11_want 29 = .ok (.getfield 204, 3) := by decide +kernel
theorem dX11_want_32 : decode cX11_want 32 = .ok (.bipush 8, 2) := by decide +kernel
theorem dX11_want_34 : decode cX11_want 34 = .ok (.if_icmp .lt 6, 3) := by decide +kernel
theorem dX11_want_37 : decode cX11_want 37 = .ok (.bipush (-4), 2) := by decide +kernel
theorem dX11_want_39 : decode cX11_want 39 = .ok (.ireturn, 1) := by decide +kernel
theorem dX11_want_40 : decode cX11_want 40 = .ok (.aload_n 0, 1) := by decide +kernel
theorem dX11_want_41 : decode cX11_want 41 = .ok (.getfield 10, 3) := by decide +kernel
theorem dX11_want_44 : decode cX11_want 44 = .ok (.getfield 207, 3) := by decide +kernel
theorem dX11_want_47 : decode cX11_want 47 = .ok (.aload_n 0, 1) := by decide +kernel
theorem dX11_want_48 : decode cX11_want 48 = .ok (.getfield 10, 3) := by decide +kernel
theorem dX11_want_51 : decode cX11_want 51 = .ok (.getfield 204, 3) := by decide +kernel
theorem dX11_want_54 : decode cX11_want 54 = .ok (.iload_n 1, 1) := by decide +kernel
theorem dX11_want_55 : decode cX11_want 55 = .ok (.iastore, 1) := by decide +kernel
theorem dX11_want_56 : decode cX11_want 56 = .ok (.aload_n 0, 1) := by decide +kernel
theorem dX11_want_57 : decode cX11_want 57 = .ok (.getfield 10, 3) := by decide +kernel
theorem dX11_want_60 : decode cX11_want 60 = .ok (.dup, 1) := by decide +kernel
theorem dX11_want_61 : decode cX11_want 61 = .ok (.getfield 204, 3) := by decide +kernel
theorem dX11_want_64 : decode cX11_want 64 = .ok (.iconst 1, 1) := by decide +kernel
theorem dX11_want_65 : decode cX11_want 65 = .ok (.iadd, 1) := by decide +kernel
theorem dX11_want_66 : decode cX11_want 66 = .ok (.putfield 204, 3) := by decide +kernel
theorem dX11_want_69 : decode cX11_want 69 = .ok (.aload_n 0, 1) := by decide +kernel
theorem dX11_want_70 : decode cX11_want 70 = .ok (.getfield 10, 3) := by decide +kernel
theorem dX11_want_73 : decode cX11_want 73 = .ok (.getfield 204, 3) := by decide +kernel
theorem dX11_want_76 : decode cX11_want 76 = .ok (.ireturn, 1) := by decide +kernel
theorem dX11_found_0 : decode cX11_found 0 = .ok (.aload_n 0, 1) := by decide +kernel
theorem dX11_found_1 : decode cX11_found 1 = .ok (.iload_n 1, 1) := by decide +kernel
theorem dX11_found_2 : decode cX11_found 2 = .ok (.invokevirtual 115, 3) := by decide +kernel
theorem dX11_found_5 : decode cX11_found 5 = .ok (.astore 6, 2) := by decide +kernel
theorem dX11_found_7 : decode cX11_found 7 = .ok (.aload_n 0, 1) := by decide +kernel
theorem dX11_found_8 : decode cX11_found 8 = .ok (.iload_n 2, 1) := by decide +kernel
theorem dX11_found_9 : decode cX11_found 9 = .ok (.invokevirtual 81, 3) := by decide +kernel
theorem dX11_found_12 : decode cX11_found 12 = .ok (.astore 7, 2) := by decide +kernel
theorem dX11_found_14 : decode cX11_found 14 = .ok (.aload 6, 2) := by decide +kernel
theorem dX11_found_16 : decode cX11_found 16 = .ok (.ifnull 26, 3) := by decide +kernel
theorem dX11_found_19 : decode cX11_found 19 = .ok (.aload 7, 2) := by decide +kernel
theorem dX11_found_21 : decode cX11_found 21 = .ok (.ifnull 21, 3) := by decide +kernel
theorem dX11_found_24 : decode cX11_found 24 = .ok (.iload 5, 2) := by decide +kernel
theorem dX11_found_26 : decode cX11_found 26 = .ok (.iconst (-1), 1) := by decide +kernel
theorem dX11_found_27 : decode cX11_found 27 = .ok (.aload_n 0, 1) := by decide +kernel
theorem dX11_found_28 : decode cX11_found 28 = .ok (.getfield 10, 3) := by decide +kernel
theorem dX11_found_31 : decode cX11_found 31 = .ok (.getfield 204, 3) := by decide +kernel
theorem dX11_found_34 : decode cX11_found 34 = .ok (.iconst 1, 1) := by decide +kernel
theorem dX11_found_35 : decode cX11_found 35 = .ok (.isub, 1) := by decide +kernel
theorem dX11_found_36 : decode cX11_found 36 = .ok (.invokestatic 64, 3) := by decide +kernel
theorem dX11_found_39 : decode cX11_found 39 = .ok (.ifCond .ne 5, 3) := by decide +kernel
theorem dX11_found_42 : decode cX11_found 42 = .ok (.iconst (-1), 1) := by decide +kernel
theorem dX11_found_43 : decode cX11_found 43 = .ok (.ireturn, 1) := by decide +kernel
theorem dX11_found_44 : decode cX11_found 44 = .ok (.iload_n 3, 1) := by decide +kernel
theorem dX11_found_45 : decode cX11_found 45 = .ok (.invokestatic 136, 3) := by decide +kernel
theorem dX11_found_48 : decode cX11_found 48 = .ok (.ifCond .eq 14, 3) := by decide +kernel
theorem dX11_found_51 : decode cX11_found 51 = .ok (.iload 4, 2) := by decide +kernel
theorem dX11_found_53 : decode cX11_found 53 = .ok (.iconst 0, 1) := by decide +kernel
theorem dX11_found_54 : decode cX11_found 54 = .ok (.bipush 99, 2) := by decide +kernel
theorem dX11_found_56 : decode cX11_found 56 = .ok (.invokestatic 64, 3) := by decide +kernel
theorem dX11_found_59 : decode cX11_found 59 = .ok (.ifCond .ne 6, 3) := by decide +kernel
theorem dX11_found_62 : decode cX11_found 62 = .ok (.bipush (-2), 2) := by decide +kernel
theorem dX11_found_64 : decode cX11_found 64 = .ok (.ireturn, 1) := by decide +kernel
theorem dX11_found_65 : decode cX11_found 65 = .ok (.aload_n 0, 1) := by decide +kernel
theorem dX11_found_66 : decode cX11_found 66 = .ok (.getfield 10, 3) := by decide +kernel
theorem dX11_found_69 : decode cX11_found 69 = .ok (.getfield 204, 3) := by decide +kernel
theorem dX11_found_72 : decode cX11_found 72 = .ok (.ifCond .ne 5, 3) := by decide +kernel
theorem dX11_found_75 : decode cX11_found 75 = .ok (.iconst 0, 1) := by decide +kernel
theorem dX11_found_76 : decode cX11_found 76 = .ok (.ireturn, 1) := by decide +kernel
theorem dX11_found_77 : decode cX11_found 77 = .ok (.aload_n 0, 1) := by decide +kernel
theorem dX11_found_78 : decode cX11_found 78 = .ok (.aload 6, 2) := by decide +kernel
theorem dX11_found_80 : decode cX11_found 80 = .ok (.aload 7, 2) := by decide +kernel
theorem dX11_found_82 : decode cX11_found 82 = .ok (.iload_n 3, 1) := by decide +kernel
theorem dX11_found_83 : decode cX11_found 83 = .ok (.invokevirtual 197, 3) := by decide +kernel
theorem dX11_found_86 : decode cX11_found 86 = .ok (.iconst 0, 1) := by decide +kernel
theorem dX11_found_87 : decode cX11_found 87 = .ok (.istore 8, 2) := by decide +kernel
theorem dX11_found_89 : decode cX11_found 89 = .ok (.iload 8, 2) := by decide +kernel
theorem dX11_found_91 : decode cX11_found 91 = .ok (.bipush 100, 2) := by decide +kernel
theorem dX11_found_93 : decode cX11_found 93 = .ok (.if_icmp .ge 30, 3) := by decide +kernel
theorem dX11_found_96 : decode cX11_found 96 = .ok (.aload_n 0, 1) := by decide +kernel
theorem dX11_found_97 : decode cX11_found 97 = .ok (.getfield 56, 3) := by decide +kernel
theorem dX11_found_100 : decode cX11_found 100 = .ok (.iload 8, 2) := by decide +kernel
theorem dX11_found_102 : decode cX11_found 102 = .ok (.aload 6, 2) := by decide +kernel
theorem dX11_found_104 : decode cX11_found 104 = .ok (.aload_n 0, 1) := by decide +kernel
theorem dX11_found_105 : decode cX11_found 105 = .ok (.getfield 53, 3) := by decide +kernel
theorem dX11_found_108 : decode cX11_found 108 = .ok (.iload 8, 2) := by decide +kernel
theorem dX11_found_110 : decode cX11_found 110 = .ok (.iaload, 1) := by decide +kernel
theorem dX11_found_111 : decode cX11_found 111 = .ok (.iload 8, 2) := by decide +kernel
