theorem dX11_found_113 : decode cX11_found 113 = .ok (.invokevirtual 200, 3) := by decide +kernel
theorem dX11_found_116 : decode cX11_found 116 = .ok (.iastore, 1) := by decide +kernel
theorem dX11_found_117 : decode cX11_found 117 = .ok (.iinc 8 1, 3) := by decide +kernel
theorem dX11_found_120 : decode cX11_found 120 = .ok (.goto (-31), 3) := by decide +kernel
theorem dX11_found_123 : decode cX11_found 123 = .ok (.aload_n 0, 1) := by decide +kernel
theorem dX11_found_124 : decode cX11_found 124 = .ok (.iload 4, 2) := by decide +kernel
theorem dX11_found_126 : decode cX11_found 126 = .ok (.invokevirtual 210, 3) := by decide +kernel
theorem dX11_found_129 : decode cX11_found 129 = .ok (.aload_n 0, 1) := by decide +kernel
theorem dX11_found_130 : decode cX11_found 130 = .ok (.invokevirtual 214, 3) := by decide +kernel
theorem dX11_found_133 : decode cX11_found 133 = .ok (.istore 8, 2) := by decide +kernel
theorem dX11_found_135 : decode cX11_found 135 = .ok (.aload_n 0, 1) := by decide +kernel
theorem dX11_found_136 : decode cX11_found 136 = .ok (.getfield 61, 3) := by decide +kernel
theorem dX11_found_139 : decode cX11_found 139 = .ok (.iconst 0, 1) := by decide +kernel
theorem dX11_found_140 : decode cX11_found 140 = .ok (.aaload, 1) := by decide +kernel
theorem dX11_found_141 : decode cX11_found 141 = .ok (.iload 8, 2) := by decide +kernel
theorem dX11_found_143 : decode cX11_found 143 = .ok (.iaload, 1) := by decide +kernel
theorem dX11_found_144 : decode cX11_found 144 = .ok (.ldc 217, 2) := by decide +kernel
theorem dX11_found_146 : decode cX11_found 146 = .ok (.if_icmp .lt 6, 3) := by decide +kernel
theorem dX11_found_149 : decode cX11_found 149 = .ok (.bipush (-5), 2) := by decide +kernel
theorem dX11_found_151 : decode cX11_found 151 = .ok (.ireturn, 1) := by decide +kernel
theorem dX11_found_152 : decode cX11_found 152 = .ok (.iload 5, 2) := by decide +kernel
theorem dX11_found_154 : decode cX11_found 154 = .ok (.iconst (-1), 1) := by decide +kernel
theorem dX11_found_155 : decode cX11_found 155 = .ok (.if_icmp .ne 15, 3) := by decide +kernel
theorem dX11_found_158 : decode cX11_found 158 = .ok (.aload_n 0, 1) := by decide +kernel
theorem dX11_found_159 : decode cX11_found 159 = .ok (.getfield 61, 3) := by decide +kernel
theorem dX11_found_162 : decode cX11_found 162 = .ok (.iconst 0, 1) := by decide +kernel
theorem dX11_found_163 : decode cX11_found 163 = .ok (.aaload, 1) := by decide +kernel
theorem dX11_found_164 : decode cX11_found 164 = .ok (.iload 8, 2) := by decide +kernel
theorem dX11_found_166 : decode cX11_found 166 = .ok (.iaload, 1) := by decide +kernel
theorem dX11_found_167 : decode cX11_found 167 = .ok (.goto 13, 3) := by decide +kernel
theorem dX11_found_170 : decode cX11_found 170 = .ok (.aload_n 0, 1) := by decide +kernel
theorem dX11_found_171 : decode cX11_found 171 = .ok (.iload 8, 2) := by decide +kernel
theorem dX11_found_173 : decode cX11_found 173 = .ok (.iload 4, 2) := by decide +kernel
theorem dX11_found_175 : decode cX11_found 175 = .ok (.iload 5, 2) := by decide +kernel
theorem dX11_found_177 : decode cX11_found 177 = .ok (.invokevirtual 218, 3) := by decide +kernel
theorem dX11_found_180 : decode cX11_found 180 = .ok (.ireturn, 1) := by decide +kernel
theorem dX11_bears_0 : decode cX11_bears 0 = .ok (.aload_n 0, 1) := by decide +kernel
theorem dX11_bears_1 : decode cX11_bears 1 = .ok (.iload_n 1, 1) := by decide +kernel
theorem dX11_bears_2 : decode cX11_bears 2 = .ok (.invokevirtual 115, 3) := by decide +kernel
theorem dX11_bears_5 : decode cX11_bears 5 = .ok (.astore 5, 2) := by decide +kernel
theorem dX11_bears_7 : decode cX11_bears 7 = .ok (.aload_n 0, 1) := by decide +kernel
theorem dX11_bears_8 : decode cX11_bears 8 = .ok (.iload_n 2, 1) := by decide +kernel
theorem dX11_bears_9 : decode cX11_bears 9 = .ok (.invokevirtual 81, 3) := by decide +kernel
theorem dX11_bears_12 : decode cX11_bears 12 = .ok (.astore 6, 2) := by decide +kernel
theorem dX11_bears_14 : decode cX11_bears 14 = .ok (.aload 5, 2) := by decide +kernel
theorem dX11_bears_16 : decode cX11_bears 16 = .ok (.ifnull 8, 3) := by decide +kernel
theorem dX11_bears_19 : decode cX11_bears 19 = .ok (.aload 6, 2) := by decide +kernel
theorem dX11_bears_21 : decode cX11_bears 21 = .ok (.ifnonnull 5, 3) := by decide +kernel
theorem dX11_bears_24 : decode cX11_bears 24 = .ok (.iconst (-1), 1) := by decide +kernel
theorem dX11_bears_25 : decode cX11_bears 25 = .ok (.ireturn, 1) := by decide +kernel
theorem dX11_bears_26 : decode cX11_bears 26 = .ok (.iload_n 3, 1) := by decide +kernel
theorem dX11_bears_27 : decode cX11_bears 27 = .ok (.invokestatic 136, 3) := by decide +kernel
theorem dX11_bears_30 : decode cX11_bears 30 = .ok (.ifCond .eq 14, 3) := by decide +kernel
theorem dX11_bears_33 : decode cX11_bears 33 = .ok (.iload 4, 2) := by decide +kernel
theorem dX11_bears_35 : decode cX11_bears 35 = .ok (.iconst (-1), 1) := by decide +kernel
theorem dX11_bears_36 : decode cX11_bears 36 = .ok (.bipush 20, 2) := by decide +kernel
theorem dX11_bears_38 : decode cX11_bears 38 = .ok (.invokestatic 64, 3) := by decide +kernel
theorem dX11_bears_41 : decode cX11_bears 41 = .ok (.ifCond .ne 6, 3) := by decide +kernel
theorem dX11_bears_44 : decode cX11_bears 44 = .ok (.bipush (-2), 2) := by decide +kernel
theorem dX11_bears_46 : decode cX11_bears 46 = .ok (.ireturn, 1) := by decide +kernel
theorem dX11_bears_47 : decode cX11_bears 47 = .ok (.aload 5, 2) := by decide +kernel
theorem dX11_bears_49 : decode cX11_bears 49 = .ok (.aload 6, 2) := by decide +kernel
theorem dX11_bears_51 : decode cX11_bears 51 = .ok (.iload_n 3, 1) := by decide +kernel
theorem dX11_bears_52 : decode cX11_bears 52 = .ok (.invokestatic 222, 3) := by decide +kernel
theorem dX11_bears_55 : decode cX11_bears 55 = .ok (.istore 7, 2) := by decide +kernel
theorem dX11_bears_57 : decode cX11_bears 57 = .ok (.iload 4, 2) := by decide +kernel
theorem dX11_bears_59 : decode cX11_bears 59 = .ok (.iconst (-1), 1) := by decide +kernel
theorem dX11_bears_60 : decode cX11_bears 60 = .ok (.if_icmp .ne 6, 3) := by decide +kernel
theorem dX11_bears_63 : decode cX11_bears 63 = .ok (.iload 7, 2) := by decide +kernel
theorem dX11_bears_65 : decode cX11_bears 65 = .ok (.ireturn, 1) := by decide +kernel
theorem dX11_bears_66 : decode cX11_bears 66 = .ok (.iload 4, 2) := by decide +kernel
theorem dX11_bears_68 : decode cX11_bears 68 = .ok (.iload 7, 2) := by decide +kernel
theorem dX11_bears_70 : decode cX11_bears 70 = .ok (.if_icmp .gt 7, 3) := by decide +kernel
theorem dX11_bears_73 : decode cX11_bears 73 = .ok (.iconst 1, 1) := by decide +kernel
theorem dX11_bears_74 : decode cX11_bears 74 = .ok (.goto 4, 3) := by decide +kernel
theorem dX11_bears_77 : decode cX11_bears 77 = .ok (.iconst 0, 1) := by decide +kernel
theorem dX11_bears_78 : decode cX11_bears 78 = .ok (.ireturn, 1) := by decide +kernel
theorem dX11_film_0 : decode cX11_film 0 = .ok (.aload_n 0, 1) := by decide +kernel
theorem dX11_film_1 : decode cX11_film 1 = .ok (.iload_n 1, 1) := by decide +kernel
theorem dX11_film_2 : decode cX11_film 2 = .ok (.invokevirtual 81, 3) := by decide +kernel
theorem dX11_film_5 : decode cX11_film 5 = .ok (.astore 4, 2) := by decide +kernel
theorem dX11_film_7 : decode cX11_film 7 = .ok (.aload 4, 2) := by decide +kernel
theorem dX11_film_9 : decode cX11_film 9 = .ok (.ifnonnull 5, 3) := by decide +kernel
theorem dX11_film_12 : decode cX11_film 12 = .ok (.iconst (-1), 1) := by decide +kernel
theorem dX11_film_13 : decode cX11_film 13 = .ok (.ireturn, 1) := by decide +kernel
theorem dX11_film_14 : decode cX11_film 14 = .ok (.iload_n 2, 1) := by decide +kernel
theorem dX11_film_15 : decode cX11_film 15 = .ok (.invokestatic 136, 3) := by decide +kernel
theorem dX11_film_18 : decode cX11_film 18 = .ok (.ifCond .eq 14, 3) := by decide +kernel
theorem dX11_film_21 : decode cX11_film 21 = .ok (.iload_n 3, 1) := by decide +kernel
theorem dX11_film_22 : decode cX11_film 22 = .ok (.iconst 0, 1) := by decide +kernel
theorem dX11_film_23 : decode cX11_film 23 = .ok (.sipush 999, 3) := by decide +kernel
theorem dX11_film_26 : decode cX11_film 26 = .ok (.invokestatic 64, 3) := by decide +kernel
theorem dX11_film_29 : decode cX11_film 29 = .ok (.ifCond .ne 6, 3) := by decide +kernel
theorem dX11_film_32 : decode cX11_film 32 = .ok (.bipush (-2), 2) := by decide +kernel
theorem dX11_film_34 : decode cX11_film 34 = .ok (.ireturn, 1) := by decide +kernel
theorem dX11_film_35 : decode cX11_film 35 = .ok (.aload_n 0, 1) := by decide +kernel
theorem dX11_film_36 : decode cX11_film 36 = .ok (.getfield 10, 3) := by decide +kernel
theorem dX11_film_39 : decode cX11_film 39 = .ok (.getfield 225, 3) := by decide +kernel
theorem dX11_film_42 : decode cX11_film 42 = .ok (.bipush 12, 2) := by decide +kernel
theorem dX11_film_44 : decode cX11_film 44 = .ok (.if_icmp .lt 6, 3) := by decide +kernel
theorem dX11_film_47 : decode cX11_film 47 = .ok (.bipush (-4), 2) := by decide +kernel
theorem dX11_film_49 : decode cX11_film 49 = .ok (.ireturn, 1) := by decide +kernel
theorem dX11_film_50 : decode cX11_film 50 = .ok (.aload_n 0, 1) := by decide +kernel
theorem dX11_film_51 : decode cX11_film 51 = .ok (.getfield 10, 3) := by decide +kernel
theorem dX11_film_54 : decode cX11_film 54 = .ok (.getfield 228, 3) := by decide +kernel
theorem dX11_film_57 : decode cX11_film 57 = .ok (.aload_n 0, 1) := by decide +kernel
theorem dX11_film_58 : decode cX11_film 58 = .ok (.getfield 10, 3) := by decide +kernel
theorem dX11_film_61 : decode cX11_film 61 = .ok (.getfield 225, 3) := by decide +kernel
theorem dX11_film_64 : decode cX11_film 64 = .ok (.iload_n 1, 1) := by decide +kernel
theorem dX11_film_65 : decode cX11_film 65 = .ok (.iastore, 1) := by decide +kernel
theorem dX11_film_66 : decode cX11_film 66 = .ok (.aload_n 0, 1) := by decide +kernel
theorem dX11_film_67 : decode cX11_film 67 = .ok (.getfield 10, 3) := by decide +kernel
theorem dX11_film_70 : decode cX11_film 70 = .ok (.getfield 231, 3) := by decide +kernel
theorem dX11_film_73 : decode cX11_film 73 = .ok (.aload_n 0, 1) := by decide +kernel
theorem dX11_film_74 : decode cX11_film 74 = .ok (.getfield 10, 3) := by decide +kernel
theorem dX11_film_77 : decode cX11_film 77 = .ok (.getfield 225, 3) := by decide +kernel
theorem dX11_film_80 : decode cX11_film 80 = .ok (.iload_n 2, 1) := by decide +kernel
theorem dX11_film_81 : decode cX11_film 81 = .ok (.iastore, 1) := by decide +kernel
theorem dX11_film_82 : decode cX11_film 82 = .ok (.aload_n 0, 1) := by decide +kernel
theorem dX11_film_83 : decode cX11_film 83 = .ok (.getfield 10, 3) := by decide +kernel
theorem dX11_film_86 : decode cX11_film 86 = .ok (.getfield 234, 3) := by decide +kernel
theorem dX11_film_89 : decode cX11_film 89 = .ok (.aload_n 0, 1) := by decide +kernel
theorem dX11_film_90 : decode cX11_film 90 = .ok (.getfield 10, 3) := by decide +kernel
theorem dX11_film_93 : decode cX11_film 93 = .ok (.getfield 225, 3) := by decide +kernel
theorem dX11_film_96 : decode cX11_film 96 = .ok (.iload_n 3, 1) := by decide +kernel
theorem dX11_film_97 : decode cX11_film 97 = .ok (.iastore, 1) := by decide +kernel
theorem dX11_film_98 : decode cX11_film 98 = .ok (.aload_n 0, 1) := by decide +kernel
theorem dX11_film_99 : decode cX11_film 99 = .ok (.getfield 10, 3) := by decide +kernel
theorem dX11_film_102 : decode cX11_film 102 = .ok (.dup, 1) := by decide +kernel
theorem dX11_film_103 : decode cX11_film 103 = .ok (.getfield 225, 3) := by decide +kernel
theorem dX11_film_106 : decode cX11_film 106 = .ok (.dup_x1, 1) := by decide +kernel
theorem dX11_film_107 : decode cX11_film 107 = .ok (.iconst 1, 1) := by decide +kernel
theorem dX11_film_108 : decode cX11_film 108 = .ok (.iadd, 1) := by decide +kernel
theorem dX11_film_109 : decode cX11_film 109 = .ok (.putfield 225, 3) := by decide +kernel
theorem dX11_film_112 : decode cX11_film 112 = .ok (.ireturn, 1) := by decide +kernel
theorem dX11_off_0 : decode cX11_off 0 = .ok (.aload_n 0, 1) := by decide +kernel
theorem dX11_off_1 : decode cX11_off 1 = .ok (.iload_n 1, 1) := by decide +kernel
theorem dX11_off_2 : decode cX11_off 2 = .ok (.invokevirtual 115, 3) := by decide +kernel
theorem dX11_off_5 : decode cX11_off 5 = .ok (.astore_n 2, 1) := by decide +kernel
theorem dX11_off_6 : decode cX11_off 6 = .ok (.aload_n 2, 1) := by decide +kernel
theorem dX11_off_7 : decode cX11_off 7 = .ok (.ifnonnull 5, 3) := by decide +kernel
theorem dX11_off_10 : decode cX11_off 10 = .ok (.iconst (-1), 1) := by decide +kernel
theorem dX11_off_11 : decode cX11_off 11 = .ok (.ireturn, 1) := by decide +kernel
theorem dX11_off_12 : decode cX11_off 12 = .ok (.aload_n 0, 1) := by decide +kernel
theorem dX11_off_13 : decode cX11_off 13 = .ok (.aload_n 2, 1) := by decide +kernel
theorem dX11_off_14 : decode cX11_off 14 = .ok (.invokevirtual 237, 3) := by decide +kernel
theorem dX11_off_17 : decode cX11_off 17 = .ok (.ireturn, 1) := by decide +kernel
theorem dX11_which_0 : decode cX11_which 0 = .ok (.bipush (-5), 2) := by decide +kernel
theorem dX11_which_2 : decode cX11_which 2 = .ok (.istore_n 1, 1) := by decide +kernel
theorem dX11_which_3 : decode cX11_which 3 = .ok (.iconst 0, 1) := by decide +kernel
theorem dX11_which_4 : decode cX11_which 4 = .ok (.istore_n 2, 1) := by decide +kernel
theorem dX11_which_5 : decode cX11_which 5 = .ok (.iconst 0, 1) := by decide +kernel
theorem dX11_which_6 : decode cX11_which 6 = .ok (.istore_n 3, 1) := by decide +kernel
theorem dX11_which_7 : decode cX11_which 7 = .ok (.iload_n 3, 1) := by decide +kernel
theorem dX11_which_8 : decode cX11_which 8 = .ok (.aload_n 0, 1) := by decide +kernel
theorem dX11_which_9 : decode cX11_which 9 = .ok (.getfield 10, 3) := by decide +kernel
theorem dX11_which_12 : decode cX11_which 12 = .ok (.getfield 97, 3) := by decide +kernel
theorem dX11_which_15 : decode cX11_which 15 = .ok (.if_icmp .ge 51, 3) := by decide +kernel
theorem dX11_which_18 : decode cX11_which 18 = .ok (.aload_n 0, 1) := by decide +kernel
theorem dX11_which_19 : decode cX11_which 19 = .ok (.iload_n 3, 1) := by decide +kernel
theorem dX11_which_20 : decode cX11_which 20 = .ok (.invokevirtual 115, 3) := by decide +kernel
theorem dX11_which_23 : decode cX11_which 23 = .ok (.astore 4, 2) := by decide +kernel
theorem dX11_which_25 : decode cX11_which 25 = .ok (.aload 4, 2) := by decide +kernel
theorem dX11_which_27 : decode cX11_which 27 = .ok (.ifnonnull 8, 3) := by decide +kernel
theorem dX11_which_30 : decode cX11_which 30 = .ok (.ldc 217, 2) := by decide +kernel
theorem dX11_which_32 : decode cX11_which 32 = .ok (.goto 9, 3) := by decide +kernel
theorem dX11_which_35 : decode cX11_which 35 = .ok (.aload_n 0, 1) := by decide +kernel
theorem dX11_which_36 : decode cX11_which 36 = .ok (.aload 4, 2) := by decide +kernel
theorem dX11_which_38 : decode cX11_which 38 = .ok (.invokevirtual 237, 3) := by decide +kernel
theorem dX11_which_41 : decode cX11_which 41 = .ok (.istore 5, 2) := by decide +kernel
theorem dX11_which_43 : decode cX11_which 43 = .ok (.iload_n 1, 1) := by decide +kernel
theorem dX11_which_44 : decode cX11_which 44 = .ok (.bipush (-5), 2) := by decide +kernel
theorem dX11_which_46 : decode cX11_which 46 = .ok (.if_icmp .eq 9, 3) := by decide +kernel
theorem dX11_which_49 : decode cX11_which 49 = .ok (.iload 5, 2) := by decide +kernel
theorem dX11_which_51 : decode cX11_which 51 = .ok (.iload_n 2, 1) := by decide +kernel
theorem dX11_which_52 : decode cX11_which 52 = .ok (.if_icmp .ge 8, 3) := by decide +kernel
theorem dX11_which_55 : decode cX11_which 55 = .ok (.iload_n 3, 1) := by decide +kernel
theorem dX11_which_56 : decode cX11_which 56 = .ok (.istore_n 1, 1) := by decide +kernel
theorem dX11_which_57 : decode cX11_which 57 = .ok (.iload 5, 2) := by decide +kernel
theorem dX11_which_59 : decode cX11_which 59 = .ok (.istore_n 2, 1) := by decide +kernel
theorem dX11_which_60 : decode cX11_which 60 = .ok (.iinc 3 1, 3) := by decide +kernel
theorem dX11_which_63 : decode cX11_which 63 = .ok (.goto (-56), 3) := by decide +kernel
theorem dX11_which_66 : decode cX11_which 66 = .ok (.iload_n 1, 1) := by decide +kernel
theorem dX11_which_67 : decode cX11_which 67 = .ok (.ireturn, 1) := by decide +kernel
theorem dX11_fits_0 : decode cX11_fits 0 = .ok (.aload_n 0, 1) := by decide +kernel
theorem dX11_fits_1 : decode cX11_fits 1 = .ok (.iload_n 1, 1) := by decide +kernel
theorem dX11_fits_2 : decode cX11_fits 2 = .ok (.invokevirtual 115, 3) := by decide +kernel
theorem dX11_fits_5 : decode cX11_fits 5 = .ok (.astore_n 3, 1) := by decide +kernel
theorem dX11_fits_6 : decode cX11_fits 6 = .ok (.aload_n 3, 1) := by decide +kernel
theorem dX11_fits_7 : decode cX11_fits 7 = .ok (.ifnonnull 5, 3) := by decide +kernel
theorem dX11_fits_10 : decode cX11_fits 10 = .ok (.iconst (-1), 1) := by decide +kernel
theorem dX11_fits_11 : decode cX11_fits 11 = .ok (.ireturn, 1) := by decide +kernel
theorem dX11_fits_12 : decode cX11_fits 12 = .ok (.iload_n 2, 1) := by decide +kernel
theorem dX11_fits_13 : decode cX11_fits 13 = .ok (.iconst 0, 1) := by decide +kernel
theorem dX11_fits_14 : decode cX11_fits 14 = .ok (.bipush 99, 2) := by decide +kernel
theorem dX11_fits_16 : decode cX11_fits 16 = .ok (.invokestatic 64, 3) := by decide +kernel
theorem dX11_fits_19 : decode cX11_fits 19 = .ok (.ifCond .ne 6, 3) := by decide +kernel
theorem dX11_fits_22 : decode cX11_fits 22 = .ok (.bipush (-2), 2) := by decide +kernel
theorem dX11_fits_24 : decode cX11_fits 24 = .ok (.ireturn, 1) := by decide +kernel
theorem dX11_fits_25 : decode cX11_fits 25 = .ok (.iconst 0, 1) := by decide +kernel
theorem dX11_fits_26 : decode cX11_fits 26 = .ok (.istore 4, 2) := by decide +kernel
theorem dX11_fits_28 : decode cX11_fits 28 = .ok (.iconst 0, 1) := by decide +kernel
theorem dX11_fits_29 : decode cX11_fits 29 = .ok (.istore 5, 2) := by decide +kernel
theorem dX11_fits_31 : decode cX11_fits 31 = .ok (.iload 5, 2) := by decide +kernel
theorem dX11_fits_33 : decode cX11_fits 33 = .ok (.aload_n 0, 1) := by decide +kernel
theorem dX11_fits_34 : decode cX11_fits 34 = .ok (.getfield 10, 3) := by decide +kernel
theorem dX11_fits_37 : decode cX11_fits 37 = .ok (.getfield 225, 3) := by decide +kernel
theorem dX11_fits_40 : decode cX11_fits 40 = .ok (.if_icmp .ge 29, 3) := by decide +kernel
theorem dX11_fits_43 : decode cX11_fits 43 = .ok (.aload_n 0, 1) := by decide +kernel
theorem dX11_fits_44 : decode cX11_fits 44 = .ok (.aload_n 3, 1) := by decide +kernel
theorem dX11_fits_45 : decode cX11_fits 45 = .ok (.iload 5, 2) := by decide +kernel
theorem dX11_fits_47 : decode cX11_fits 47 = .ok (.invokevirtual 241, 3) := by decide +kernel
theorem dX11_fits_50 : decode cX11_fits 50 = .ok (.iload_n 2, 1) := by decide +kernel
theorem dX11_fits_51 : decode cX11_fits 51 = .ok (.if_icmp .gt 12, 3) := by decide +kernel
theorem dX11_fits_54 : decode cX11_fits 54 = .ok (.iload 4, 2) := by decide +kernel
theorem dX11_fits_56 : decode cX11_fits 56 = .ok (.iconst 1, 1) := by decide +kernel
theorem dX11_fits_57 : decode cX11_fits 57 = .ok (.iload 5, 2) := by decide +kernel
theorem dX11_fits_59 : decode cX11_fits 59 = .ok (.ishl, 1) := by decide +kernel
theorem dX11_fits_60 : decode cX11_fits 60 = .ok (.ior, 1) := by decide +kernel
theorem dX11_fits_61 : decode cX11_fits 61 = .ok (.istore 4, 2) := by decide +kernel
theorem dX11_fits_63 : decode cX11_fits 63 = .ok (.iinc 5 1, 3) := by decide +kernel
theorem dX11_fits_66 : decode cX11_fits 66 = .ok (.goto (-35), 3) := by decide +kernel
theorem dX11_fits_69 : decode cX11_fits 69 = .ok (.iload 4, 2) := by decide +kernel
theorem dX11_fits_71 : decode cX11_fits 71 = .ok (.ireturn, 1) := by decide +kernel
theorem dX11_read_0 : decode cX11_read 0 = .ok (.aload_n 0, 1) := by decide +kernel
theorem dX11_read_1 : decode cX11_read 1 = .ok (.iload_n 1, 1) := by decide +kernel
theorem dX11_read_2 : decode cX11_read 2 = .ok (.invokevirtual 115, 3) := by decide +kernel
theorem dX11_read_5 : decode cX11_read 5 = .ok (.astore 7, 2) := by decide +kernel
theorem dX11_read_7 : decode cX11_read 7 = .ok (.aload_n 0, 1) := by decide +kernel
theorem dX11_read_8 : decode cX11_read 8 = .ok (.iload_n 2, 1) := by decide +kernel
theorem dX11_read_9 : decode cX11_read 9 = .ok (.invokevirtual 81, 3) := by decide +kernel
theorem dX11_read_12 : decode cX11_read 12 = .ok (.astore 8, 2) := by decide +kernel
theorem dX11_read_14 : decode cX11_read 14 = .ok (.aload 7, 2) := by decide +kernel
theorem dX11_read_16 : decode cX11_read 16 = .ok (.ifnull 18, 3) := by decide +kernel
theorem dX11_read_19 : decode cX11_read 19 = .ok (.aload 8, 2) := by decide +kernel
theorem dX11_read_21 : decode cX11_read 21 = .ok (.ifnull 13, 3) := by decide +kernel
theorem dX11_read_24 : decode cX11_read 24 = .ok (.iload 6, 2) := by decide +kernel
theorem dX11_read_26 : decode cX11_read 26 = .ok (.iconst 0, 1) := by decide +kernel
theorem dX11_read_27 : decode cX11_read 27 = .ok (.iconst 2, 1) := by decide +kernel
theorem dX11_read_28 : decode cX11_read 28 = .ok (.invokestatic 64, 3) := by decide +kernel
theorem dX11_read_31 : decode cX11_read 31 = .ok (.ifCond .ne 5, 3) := by decide +kernel
theorem dX11_read_34 : decode cX11_read 34 = .ok (.iconst (-1), 1) := by decide +kernel
theorem dX11_read_35 : decode cX11_read 35 = .ok (.ireturn, 1) := by decide +kernel
theorem dX11_read_36 : decode cX11_read 36 = .ok (.iload_n 3, 1) := by decide +kernel
theorem dX11_read_37 : decode cX11_read 37 = .ok (.invokestatic 171, 3) := by decide +kernel
theorem dX11_read_40 : decode cX11_read 40 = .ok (.ifCond .eq 23, 3) := by decide +kernel
theorem dX11_read_43 : decode cX11_read 43 = .ok (.iload 4, 2) := by decide +kernel
theorem dX11_read_45 : decode cX11_read 45 = .ok (.iconst 0, 1) := by decide +kernel
theorem dX11_read_46 : decode cX11_read 46 = .ok (.sipush 999, 3) := by decide +kernel
theorem dX11_read_49 : decode cX11_read 49 = .ok (.invokestatic 64, 3) := by decide +kernel
theorem dX11_read_52 : decode cX11_read 52 = .ok (.ifCond .eq 11, 3) := by decide +kernel
theorem dX11_read_55 : decode cX11_read 55 = .ok (.iload 5, 2) := by decide +kernel
theorem dX11_read_57 : decode cX11_read 57 = .ok (.invokestatic 194, 3) := by decide +kernel
theorem dX11_read_60 : decode cX11_read 60 = .ok (.ifCond .ne 6, 3) := by decide +kernel
theorem dX11_read_63 : decode cX11_read 63 = .ok (.bipush (-2), 2) := by decide +kernel
theorem dX11_read_65 : decode cX11_read 65 = .ok (.ireturn, 1) := by decide +kernel
theorem dX11_read_66 : decode cX11_read 66 = .ok (.iconst 0, 1) := by decide +kernel
theorem dX11_read_67 : decode cX11_read 67 = .ok (.istore 9, 2) := by decide +kernel
theorem dX11_read_69 : decode cX11_read 69 = .ok (.bipush (-5), 2) := by decide +kernel
theorem dX11_read_71 : decode cX11_read 71 = .ok (.istore 10, 2) := by decide +kernel
theorem dX11_read_73 : decode cX11_read 73 = .ok (.bipush (-5), 2) := by decide +kernel
theorem dX11_read_75 : decode cX11_read 75 = .ok (.istore 11, 2) := by decide +kernel
theorem dX11_read_77 : decode cX11_read 77 = .ok (.iconst 1, 1) := by decide +kernel
theorem dX11_read_78 : decode cX11_read 78 = .ok (.istore 12, 2) := by decide +kernel
theorem dX11_read_80 : decode cX11_read 80 = .ok (.iload 12, 2) := by decide +kernel
theorem dX11_read_82 : decode cX11_read 82 = .ok (.bipush 60, 2) := by decide +kernel
theorem dX11_read_84 : decode cX11_read 84 = .ok (.if_icmp .gt 93, 3) := by decide +kernel
theorem dX11_read_87 : decode cX11_read 87 = .ok (.aload_n 0, 1) := by decide +kernel
theorem dX11_read_88 : decode cX11_read 88 = .ok (.aload 7, 2) := by decide +kernel
theorem dX11_read_90 : decode cX11_read 90 = .ok (.aload 8, 2) := by decide +kernel
theorem dX11_read_92 : decode cX11_read 92 = .ok (.iload 12, 2) := by decide +kernel
theorem dX11_read_94 : decode cX11_read 94 = .ok (.iload_n 3, 1) := by decide +kernel
theorem dX11_read_95 : decode cX11_read 95 = .ok (.invokestatic 245, 3) := by decide +kernel
theorem dX11_read_98 : decode cX11_read 98 = .ok (.invokevirtual 197, 3) := by decide +kernel
theorem dX11_read_101 : decode cX11_read 101 = .ok (.iconst 0, 1) := by decide +kernel
theorem dX11_read_102 : decode cX11_read 102 = .ok (.istore 13, 2) := by decide +kernel
theorem dX11_read_104 : decode cX11_read 104 = .ok (.iload 13, 2) := by decide +kernel
theorem dX11_read_106 : decode cX11_read 106 = .ok (.bipush 100, 2) := by decide +kernel
theorem dX11_read_108 : decode cX11_read 108 = .ok (.if_icmp .ge 63, 3) := by decide +kernel
theorem dX11_read_111 : decode cX11_read 111 = .ok (.aload_n 0, 1) := by decide +kernel
theorem dX11_read_112 : decode cX11_read 112 = .ok (.getfield 53, 3) := by decide +kernel
theorem dX11_read_115 : decode cX11_read 115 = .ok (.iload 13, 2) := by decide +kernel
theorem dX11_read_117 : decode cX11_read 117 = .ok (.iaload, 1) := by decide +kernel
theorem dX11_read_118 : decode cX11_read 118 = .ok (.iload 4, 2) := by decide +kernel
theorem dX11_read_120 : decode cX11_read 120 = .ok (.if_icmp .ne 45, 3) := by decide +kernel
theorem dX11_read_123 : decode cX11_read 123 = .ok (.aload 7, 2) := by decide +kernel
theorem dX11_read_125 : decode cX11_read 125 = .ok (.iload 4, 2) := by decide +kernel
theorem dX11_read_127 : decode cX11_read 127 = .ok (.iload 13, 2) := by decide +kernel
theorem dX11_read_129 : decode cX11_read 129 = .ok (.invokevirtual 200, 3) := by decide +kernel
theorem dX11_read_132 : decode cX11_read 132 = .ok (.iload 5, 2) := by decide +kernel
theorem dX11_read_134 : decode cX11_read 134 = .ok (.if_icmp .ne 31, 3) := by decide +kernel
theorem dX11_read_137 : decode cX11_read 137 = .ok (.iinc 9 1, 3) := by decide +kernel
theorem dX11_read_140 : decode cX11_read 140 = .ok (.bipush 100, 2) := by decide +kernel
theorem dX11_read_142 : decode cX11_read 142 = .ok (.iload 12, 2) := by decide +kernel
theorem dX11_read_144 : decode cX11_read 144 = .ok (.imul, 1) := by decide +kernel
theorem dX11_read_145 : decode cX11_read 145 = .ok (.iload 13, 2) := by decide +kernel
theorem dX11_read_147 : decode cX11_read 147 = .ok (.iadd, 1) := by decide +kernel
theorem dX11_read_148 : decode cX11_read 148 = .ok (.istore 11, 2) := by decide +kernel
theorem dX11_read_150 : decode cX11_read 150 = .ok (.iload 9, 2) := by decide +kernel
theorem dX11_read_152 : decode cX11_read 152 = .ok (.iconst 1, 1) := by decide +kernel
theorem dX11_read_153 : decode cX11_read 153 = .ok (.if_icmp .ne 8, 3) := by decide +kernel
theorem dX11_read_156 : decode cX11_read 156 = .ok (.iload 11, 2) := by decide +kernel
theorem dX11_read_158 : decode cX11_read 158 = .ok (.goto 5, 3) := by decide +kernel
theorem dX11_read_161 : decode cX11_read 161 = .ok (.iload 10, 2) := by decide +kernel
theorem dX11_read_163 : decode cX11_read 163 = .ok (.istore 10, 2) := by decide +kernel
theorem dX11_read_165 : decode cX11_read 165 = .ok (.iinc 13 1, 3) := by decide +kernel
theorem dX11_read_168 : decode cX11_read 168 = .ok (.goto (-64), 3) := by decide +kernel
theorem dX11_read_171 : decode cX11_read 171 = .ok (.iinc 12 1, 3) := by decide +kernel
theorem dX11_read_174 : decode cX11_read 174 = .ok (.goto (-94), 3) := by decide +kernel
theorem dX11_read_177 : decode cX11_read 177 = .ok (.iload 6, 2) := by decide +kernel
theorem dX11_read_179 : decode cX11_read 179 = .ok (.iload 9, 2) := by decide +kernel
theorem dX11_read_181 : decode cX11_read 181 = .ok (.iload 10, 2) := by decide +kernel
theorem dX11_read_183 : decode cX11_read 183 = .ok (.iload 11, 2) := by decide +kernel
theorem dX11_read_185 : decode cX11_read 185 = .ok (.invokestatic 190, 3) := by decide +kernel
theorem dX11_read_188 : decode cX11_read 188 = .ok (.ireturn, 1) := by decide +kernel
theorem dX11_next_0 : decode cX11_next 0 = .ok (.aload_n 0, 1) := by decide +kernel
theorem dX11_next_1 : decode cX11_next 1 = .ok (.iload_n 1, 1) := by decide +kernel
theorem dX11_next_2 : decode cX11_next 2 = .ok (.invokevirtual 81, 3) := by decide +kernel
theorem dX11_next_5 : decode cX11_next 5 = .ok (.astore_n 3, 1) := by decide +kernel
theorem dX11_next_6 : decode cX11_next 6 = .ok (.aload_n 3, 1) := by decide +kernel
theorem dX11_next_7 : decode cX11_next 7 = .ok (.ifnonnull 5, 3) := by decide +kernel
theorem dX11_next_10 : decode cX11_next 10 = .ok (.iconst (-1), 1) := by decide +kernel
theorem dX11_next_11 : decode cX11_next 11 = .ok (.ireturn, 1) := by decide +kernel
theorem dX11_next_12 : decode cX11_next 12 = .ok (.iload_n 2, 1) := by decide +kernel
theorem dX11_next_13 : decode cX11_next 13 = .ok (.invokestatic 171, 3) := by decide +kernel
theorem dX11_next_16 : decode cX11_next 16 = .ok (.ifCond .ne 6, 3) := by decide +kernel
theorem dX11_next_19 : decode cX11_next 19 = .ok (.bipush (-2), 2) := by decide +kernel
theorem dX11_next_21 : decode cX11_next 21 = .ok (.ireturn, 1) := by decide +kernel
theorem dX11_next_22 : decode cX11_next 22 = .ok (.aload_n 0, 1) := by decide +kernel
theorem dX11_next_23 : decode cX11_next 23 = .ok (.getfield 10, 3) := by decide +kernel
theorem dX11_next_26 : decode cX11_next 26 = .ok (.getfield 97, 3) := by decide +kernel
theorem dX11_next_29 : decode cX11_next 29 = .ok (.ifCond .ne 6, 3) := by decide +kernel
theorem dX11_next_32 : decode cX11_next 32 = .ok (.bipush (-5), 2) := by decide +kernel
theorem dX11_next_34 : decode cX11_next 34 = .ok (.ireturn, 1) := by decide +kernel
theorem dX11_next_35 : decode cX11_next 35 = .ok (.iconst 1, 1) := by decide +kernel
theorem dX11_next_36 : decode cX11_next 36 = .ok (.istore 4, 2) := by decide +kernel
theorem dX11_next_38 : decode cX11_next 38 = .ok (.iconst 0, 1) := by decide +kernel
theorem dX11_next_39 : decode cX11_next 39 = .ok (.istore 5, 2) := by decide +kernel
theorem dX11_next_41 : decode cX11_next 41 = .ok (.iconst 1, 1) := by decide +kernel
theorem dX11_next_42 : decode cX11_next 42 = .ok (.istore 6, 2) := by decide +kernel
theorem dX11_next_44 : decode cX11_next 44 = .ok (.iload 6, 2) := by decide +kernel
theorem dX11_next_46 : decode cX11_next 46 = .ok (.bipush 60, 2) := by decide +kernel
theorem dX11_next_48 : decode cX11_next 48 = .ok (.if_icmp .gt 37, 3) := by decide +kernel
theorem dX11_next_51 : decode cX11_next 51 = .ok (.aload_n 0, 1) := by decide +kernel
theorem dX11_next_52 : decode cX11_next 52 = .ok (.aload_n 3, 1) := by decide +kernel
theorem dX11_next_53 : decode cX11_next 53 = .ok (.iload 6, 2) := by decide +kernel
theorem dX11_next_55 : decode cX11_next 55 = .ok (.iload_n 2, 1) := by decide +kernel
theorem dX11_next_56 : decode cX11_next 56 = .ok (.invokestatic 245, 3) := by decide +kernel
theorem dX11_next_59 : decode cX11_next 59 = .ok (.invokevirtual 248, 3) := by decide +kernel
theorem dX11_next_62 : decode cX11_next 62 = .ok (.istore 7, 2) := by decide +kernel
theorem dX11_next_64 : decode cX11_next 64 = .ok (.iload 7, 2) := by decide +kernel
theorem dX11_next_66 : decode cX11_next 66 = .ok (.iload 5, 2) := by decide +kernel
theorem dX11_next_68 : decode cX11_next 68 = .ok (.if_icmp .le 11, 3) := by decide +kernel
theorem dX11_next_71 : decode cX11_next 71 = .ok (.iload 7, 2) := by decide +kernel
theorem dX11_next_73 : decode cX11_next 73 = .ok (.istore 5, 2) := by decide +kernel
theorem dX11_next_75 : decode cX11_next 75 = .ok (.iload 6, 2) := by decide +kernel
theorem dX11_next_77 : decode cX11_next 77 = .ok (.istore 4, 2) := by decide +kernel
theorem dX11_next_79 : decode cX11_next 79 = .ok (.iinc 6 1, 3) := by decide +kernel
theorem dX11_next_82 : decode cX11_next 82 = .ok (.goto (-38), 3) := by decide +kernel
theorem dX11_next_85 : decode cX11_next 85 = .ok (.iload 4, 2) := by decide +kernel
theorem dX11_next_87 : decode cX11_next 87 = .ok (.ireturn, 1) := by decide +kernel
theorem dX11_two_0 : decode cX11_two 0 = .ok (.aload_n 0, 1) := by decide +kernel
theorem dX11_two_1 : decode cX11_two 1 = .ok (.iload_n 1, 1) := by decide +kernel
theorem dX11_two_2 : decode cX11_two 2 = .ok (.invokevirtual 115, 3) := by decide +kernel
theorem dX11_two_5 : decode cX11_two 5 = .ok (.astore 6, 2) := by decide +kernel
theorem dX11_two_7 : decode cX11_two 7 = .ok (.aload_n 0, 1) := by decide +kernel
theorem dX11_two_8 : decode cX11_two 8 = .ok (.iload_n 2, 1) := by decide +kernel
theorem dX11_two_9 : decode cX11_two 9 = .ok (.invokevirtual 81, 3) := by decide +kernel
theorem dX11_two_12 : decode cX11_two 12 = .ok (.astore 7, 2) := by decide +kernel
theorem dX11_two_14 : decode cX11_two 14 = .ok (.aload_n 0, 1) := by decide +kernel
theorem dX11_two_15 : decode cX11_two 15 = .ok (.iload_n 3, 1) := by decide +kernel
theorem dX11_two_16 : decode cX11_two 16 = .ok (.invokevirtual 81, 3) := by decide +kernel
theorem dX11_two_19 : decode cX11_two 19 = .ok (.astore 8, 2) := by decide +kernel
theorem dX11_two_21 : decode cX11_two 21 = .ok (.aload 6, 2) := by decide +kernel
theorem dX11_two_23 : decode cX11_two 23 = .ok (.ifnull 13, 3) := by decide +kernel
theorem dX11_two_26 : decode cX11_two 26 = .ok (.aload 7, 2) := by decide +kernel
theorem dX11_two_28 : decode cX11_two 28 = .ok (.ifnull 8, 3) := by decide +kernel
theorem dX11_two_31 : decode cX11_two 31 = .ok (.aload 8, 2) := by decide +kernel
theorem dX11_two_33 : decode cX11_two 33 = .ok (.ifnonnull 5, 3) := by decide +kernel
theorem dX11_two_36 : decode cX11_two 36 = .ok (.iconst (-1), 1) := by decide +kernel
theorem dX11_two_37 : decode cX11_two 37 = .ok (.ireturn, 1) := by decide +kernel
theorem dX11_two_38 : decode cX11_two 38 = .ok (.iload 5, 2) := by decide +kernel
theorem dX11_two_40 : decode cX11_two 40 = .ok (.bipush 100, 2) := by decide +kernel
theorem dX11_two_42 : decode cX11_two 42 = .ok (.idiv, 1) := by decide +kernel
theorem dX11_two_43 : decode cX11_two 43 = .ok (.istore 9, 2) := by decide +kernel
theorem dX11_two_45 : decode cX11_two 45 = .ok (.iload 5, 2) := by decide +kernel
theorem dX11_two_47 : decode cX11_two 47 = .ok (.bipush 100, 2) := by decide +kernel
theorem dX11_two_49 : decode cX11_two 49 = .ok (.irem, 1) := by decide +kernel
theorem dX11_two_50 : decode cX11_two 50 = .ok (.istore 10, 2) := by decide +kernel
theorem dX11_two_52 : decode cX11_two 52 = .ok (.iload 4, 2) := by decide +kernel
theorem dX11_two_54 : decode cX11_two 54 = .ok (.iconst 1, 1) := by decide +kernel
theorem dX11_two_55 : decode cX11_two 55 = .ok (.bipush 99, 2) := by decide +kernel
theorem dX11_two_57 : decode cX11_two 57 = .ok (.invokestatic 64, 3) := by decide +kernel
theorem dX11_two_60 : decode cX11_two 60 = .ok (.ifCond .eq 19, 3) := by decide +kernel
theorem dX11_two_63 : decode cX11_two 63 = .ok (.iload 9, 2) := by decide +kernel
theorem dX11_two_65 : decode cX11_two 65 = .ok (.invokestatic 171, 3) := by decide +kernel
theorem dX11_two_68 : decode cX11_two 68 = .ok (.ifCond .eq 11, 3) := by decide +kernel
theorem dX11_two_71 : decode cX11_two 71 = .ok (.iload 10, 2) := by decide +kernel
theorem dX11_two_73 : decode cX11_two 73 = .ok (.invokestatic 171, 3) := by decide +kernel
theorem dX11_two_76 : decode cX11_two 76 = .ok (.ifCond .ne 6, 3) := by decide +kernel
theorem dX11_two_79 : decode cX11_two 79 = .ok (.bipush (-2), 2) := by decide +kernel
theorem dX11_two_81 : decode cX11_two 81 = .ok (.ireturn, 1) := by decide +kernel
theorem dX11_two_82 : decode cX11_two 82 = .ok (.iconst 1, 1) := by decide +kernel
theorem dX11_two_83 : decode cX11_two 83 = .ok (.istore 11, 2) := by decide +kernel
theorem dX11_two_85 : decode cX11_two 85 = .ok (.iload 11, 2) := by decide +kernel
theorem dX11_two_87 : decode cX11_two 87 = .ok (.bipush 60, 2) := by decide +kernel
theorem dX11_two_89 : decode cX11_two 89 = .ok (.if_icmp .gt 64, 3) := by decide +kernel
theorem dX11_two_92 : decode cX11_two 92 = .ok (.bipush 100, 2) := by decide +kernel
theorem dX11_two_94 : decode cX11_two 94 = .ok (.aload 6, 2) := by decide +kernel
theorem dX11_two_96 : decode cX11_two 96 = .ok (.aload 7, 2) := by decide +kernel
theorem dX11_two_98 : decode cX11_two 98 = .ok (.iload 11, 2) := by decide +kernel
theorem dX11_two_100 : decode cX11_two 100 = .ok (.iload 9, 2) := by decide +kernel
theorem dX11_two_102 : decode cX11_two 102 = .ok (.invokestatic 245, 3) := by decide +kernel
theorem dX11_two_105 : decode cX11_two 105 = .ok (.invokestatic 144, 3) := by decide +kernel
theorem dX11_two_108 : decode cX11_two 108 = .ok (.invokestatic 251, 3) := by decide +kernel
theorem dX11_two_111 : decode cX11_two 111 = .ok (.istore 12, 2) := by decide +kernel
theorem dX11_two_113 : decode cX11_two 113 = .ok (.bipush 100, 2) := by decide +kernel
theorem dX11_two_115 : decode cX11_two 115 = .ok (.aload 6, 2) := by decide +kernel
theorem dX11_two_117 : decode cX11_two 117 = .ok (.aload 8, 2) := by decide +kernel
theorem dX11_two_119 : decode cX11_two 119 = .ok (.iload 11, 2) := by decide +kernel
theorem dX11_two_121 : decode cX11_two 121 = .ok (.iload 10, 2) := by decide +kernel
theorem dX11_two_123 : decode cX11_two 123 = .ok (.invokestatic 245, 3) := by decide +kernel
theorem dX11_two_126 : decode cX11_two 126 = .ok (.invokestatic 144, 3) := by decide +kernel
theorem dX11_two_129 : decode cX11_two 129 = .ok (.invokestatic 251, 3) := by decide +kernel
theorem dX11_two_132 : decode cX11_two 132 = .ok (.istore 13, 2) := by decide +kernel
theorem dX11_two_134 : decode cX11_two 134 = .ok (.iload 4, 2) := by decide +kernel
theorem dX11_two_136 : decode cX11_two 136 = .ok (.iload 12, 2) := by decide +kernel
theorem dX11_two_138 : decode cX11_two 138 = .ok (.iload 13, 2) := by decide +kernel
theorem dX11_two_140 : decode cX11_two 140 = .ok (.iadd, 1) := by decide +kernel
theorem dX11_two_141 : decode cX11_two 141 = .ok (.if_icmp .le 6, 3) := by decide +kernel
theorem dX11_two_144 : decode cX11_two 144 = .ok (.iload 11, 2) := by decide +kernel
theorem dX11_two_146 : decode cX11_two 146 = .ok (.ireturn, 1) := by decide +kernel
theorem dX11_two_147 : decode cX11_two 147 = .ok (.iinc 11 1, 3) := by decide +kernel
theorem dX11_two_150 : decode cX11_two 150 = .ok (.goto (-65), 3) := by decide +kernel
theorem dX11_two_153 : decode cX11_two 153 = .ok (.bipush (-5), 2) := by decide +kernel
theorem dX11_two_155 : decode cX11_two 155 = .ok (.ireturn, 1) := by decide +kernel
theorem dX11_act_0 : decode cX11_act 0 = .ok (.aload_n 0, 1) := by decide +kernel
theorem dX11_act_1 : decode cX11_act 1 = .ok (.getfield 33, 3) := by decide +kernel
theorem dX11_act_4 : decode cX11_act 4 = .ok (.invokevirtual 254, 3) := by decide +kernel
theorem dX11_act_7 : decode cX11_act 7 = .ok (.aload_n 0, 1) := by decide +kernel
theorem dX11_act_8 : decode cX11_act 8 = .ok (.iload_n 1, 1) := by decide +kernel
theorem dX11_act_9 : decode cX11_act 9 = .ok (.invokevirtual 115, 3) := by decide +kernel
theorem dX11_act_12 : decode cX11_act 12 = .ok (.astore 4, 2) := by decide +kernel
theorem dX11_act_14 : decode cX11_act 14 = .ok (.aload 4, 2) := by decide +kernel
theorem dX11_act_16 : decode cX11_act 16 = .ok (.ifnonnull 5, 3) := by decide +kernel
theorem dX11_act_19 : decode cX11_act 19 = .ok (.iconst 0, 1) := by decide +kernel
theorem dX11_act_20 : decode cX11_act 20 = .ok (.ireturn, 1) := by decide +kernel
theorem dX11_act_21 : decode cX11_act 21 = .ok (.iload_n 2, 1) := by decide +kernel
theorem dX11_act_22 : decode cX11_act 22 = .ok (.tableswitch 59 0 2 #[26, 37, 48], 26) := by decide +kernel
theorem dX11_act_48 : decode cX11_act 48 = .ok (.aload 4, 2) := by decide +kernel
theorem dX11_act_50 : decode cX11_act 50 = .ok (.iload_n 3, 1) := by decide +kernel
theorem dX11_act_51 : decode cX11_act 51 = .ok (.aload_n 0, 1) := by decide +kernel
theorem dX11_act_52 : decode cX11_act 52 = .ok (.getfield 33, 3) := by decide +kernel
theorem dX11_act_55 : decode cX11_act 55 = .ok (.invokevirtual 257, 3) := by decide +kernel
theorem dX11_act_58 : decode cX11_act 58 = .ok (.ireturn, 1) := by decide +kernel
theorem dX11_act_59 : decode cX11_act 59 = .ok (.aload 4, 2) := by decide +kernel
theorem dX11_act_61 : decode cX11_act 61 = .ok (.iload_n 3, 1) := by decide +kernel
theorem dX11_act_62 : decode cX11_act 62 = .ok (.aload_n 0, 1) := by decide +kernel
theorem dX11_act_63 : decode cX11_act 63 = .ok (.getfield 33, 3) := by decide +kernel
theorem dX11_act_66 : decode cX11_act 66 = .ok (.invokevirtual 261, 3) := by decide +kernel
theorem dX11_act_69 : decode cX11_act 69 = .ok (.ireturn, 1) := by decide +kernel
theorem dX11_act_70 : decode cX11_act 70 = .ok (.aload 4, 2) := by decide +kernel
theorem dX11_act_72 : decode cX11_act 72 = .ok (.iload_n 3, 1) := by decide +kernel
theorem dX11_act_73 : decode cX11_act 73 = .ok (.aload_n 0, 1) := by decide +kernel
theorem dX11_act_74 : decode cX11_act 74 = .ok (.getfield 33, 3) := by decide +kernel
theorem dX11_act_77 : decode cX11_act 77 = .ok (.invokevirtual 264, 3) := by decide +kernel
theorem dX11_act_80 : decode cX11_act 80 = .ok (.ireturn, 1) := by decide +kernel
theorem dX11_act_81 : decode cX11_act 81 = .ok (.iconst 0, 1) := by decide +kernel
theorem dX11_act_82 : decode cX11_act 82 = .ok (.ireturn, 1) := by decide +kernel
theorem dX11_trace_0 : decode cX11_trace 0 = .ok (.aload_n 0, 1) := by decide +kernel
theorem dX11_trace_1 : decode cX11_trace 1 = .ok (.getfield 33, 3) := by decide +kernel
theorem dX11_trace_4 : decode cX11_trace 4 = .ok (.iload_n 1, 1) := by decide +kernel
theorem dX11_trace_5 : decode cX11_trace 5 = .ok (.invokevirtual 267, 3) := by decide +kernel
theorem dX11_trace_8 : decode cX11_trace 8 = .ok (.ireturn, 1) := by decide +kernel
theorem dX11_as_0 : decode cX11_as 0 = .ok (.aload_n 0, 1) := by decide +kernel
theorem dX11_as_1 : decode cX11_as 1 = .ok (.iload_n 1, 1) := by decide +kernel
theorem dX11_as_2 : decode cX11_as 2 = .ok (.invokevirtual 115, 3) := by decide +kernel
theorem dX11_as_5 : decode cX11_as 5 = .ok (.astore_n 3, 1) := by decide +kernel
theorem dX11_as_6 : decode cX11_as 6 = .ok (.aload_n 3, 1) := by decide +kernel
theorem dX11_as_7 : decode cX11_as 7 = .ok (.ifnull 13, 3) := by decide +kernel
theorem dX11_as_10 : decode cX11_as 10 = .ok (.iload_n 2, 1) := by decide +kernel
theorem dX11_as_11 : decode cX11_as 11 = .ok (.iconst 0, 1) := by decide +kernel
theorem dX11_as_12 : decode cX11_as 12 = .ok (.bipush 6, 2) := by decide +kernel
theorem dX11_as_14 : decode cX11_as 14 = .ok (.invokestatic 64, 3) := by decide +kernel
theorem dX11_as_17 : decode cX11_as 17 = .ok (.ifCond .ne 5, 3) := by decide +kernel
theorem dX11_as_20 : decode cX11_as 20 = .ok (.iconst (-1), 1) := by decide +kernel
theorem dX11_as_21 : decode cX11_as 21 = .ok (.ireturn, 1) := by decide +kernel
theorem dX11_as_22 : decode cX11_as 22 = .ok (.aload_n 3, 1) := by decide +kernel
theorem dX11_as_23 : decode cX11_as 23 = .ok (.iload_n 2, 1) := by decide +kernel
theorem dX11_as_24 : decode cX11_as 24 = .ok (.invokestatic 270, 3) := by decide +kernel
theorem dX11_as_27 : decode cX11_as 27 = .ok (.ifCond .eq 10, 3) := by decide +kernel
theorem dX11_as_30 : decode cX11_as 30 = .ok (.aload_n 3, 1) := by decide +kernel
theorem dX11_as_31 : decode cX11_as 31 = .ok (.getfield 127, 3) := by decide +kernel
theorem dX11_as_34 : decode cX11_as 34 = .ok (.goto 5, 3) := by decide +kernel
theorem dX11_as_37 : decode cX11_as 37 = .ok (.bipush (-6), 2) := by decide +kernel
theorem dX11_as_39 : decode cX11_as 39 = .ok (.ireturn, 1) := by decide +kernel
theorem dX11_image_0 : decode cX11_image 0 = .ok (.aload_n 0, 1) := by decide +kernel
theorem dX11_image_1 : decode cX11_image 1 = .ok (.getfield 16, 3) := by decide +kernel
theorem dX11_image_4 : decode cX11_image 4 = .ok (.aload_n 0, 1) := by decide +kernel
theorem dX11_image_5 : decode cX11_image 5 = .ok (.getfield 10, 3) := by decide +kernel
theorem dX11_image_8 : decode cX11_image 8 = .ok (.invokevirtual 274, 3) := by decide +kernel
theorem dX11_image_11 : decode cX11_image 11 = .ok (.aload_n 0, 1) := by decide +kernel
theorem dX11_image_12 : decode cX11_image 12 = .ok (.iconst 1, 1) := by decide +kernel
theorem dX11_image_13 : decode cX11_image 13 = .ok (.putfield 19, 3) := by decide +kernel
theorem dX11_image_16 : decode cX11_image 16 = .ok (.aload_n 0, 1) := by decide +kernel
theorem dX11_image_17 : decode cX11_image 17 = .ok (.getfield 10, 3) := by decide +kernel
theorem dX11_image_20 : decode cX11_image 20 = .ok (.getfield 97, 3) := by decide +kernel
theorem dX11_image_23 : decode cX11_image 23 = .ok (.ireturn, 1) := by decide +kernel
theorem dX11_undo_0 : decode cX11_undo 0 = .ok (.aload_n 0, 1) := by decide +kernel
theorem dX11_undo_1 : decode cX11_undo 1 = .ok (.getfield 19, 3) := by decide +kernel
theorem dX11_undo_4 : decode cX11_undo 4 = .ok (.ifCond .ne 6, 3) := by decide +kernel
theorem dX11_undo_7 : decode cX11_undo 7 = .ok (.bipush (-3), 2) := by decide +kernel
theorem dX11_undo_9 : decode cX11_undo 9 = .ok (.ireturn, 1) := by decide +kernel
theorem dX11_undo_10 : decode cX11_undo 10 = .ok (.aload_n 0, 1) := by decide +kernel
theorem dX11_undo_11 : decode cX11_undo 11 = .ok (.getfield 10, 3) := by decide +kernel
theorem dX11_undo_14 : decode cX11_undo 14 = .ok (.aload_n 0, 1) := by decide +kernel
theorem dX11_undo_15 : decode cX11_undo 15 = .ok (.getfield 16, 3) := by decide +kernel
theorem dX11_undo_18 : decode cX11_undo 18 = .ok (.invokevirtual 274, 3) := by decide +kernel
theorem dX11_undo_21 : decode cX11_undo 21 = .ok (.aload_n 0, 1) := by decide +kernel
theorem dX11_undo_22 : decode cX11_undo 22 = .ok (.getfield 10, 3) := by decide +kernel
theorem dX11_undo_25 : decode cX11_undo 25 = .ok (.getfield 97, 3) := by decide +kernel
theorem dX11_undo_28 : decode cX11_undo 28 = .ok (.ireturn, 1) := by decide +kernel
theorem dX11_count_0 : decode cX11_count 0 = .ok (.iload_n 1, 1) := by decide +kernel
theorem dX11_count_1 : decode cX11_count 1 = .ok (.tableswitch 99 0 6 #[43, 51, 59, 67, 75, 83, 91], 43) := by decide +kernel
theorem dX11_count_44 : decode cX11_count 44 = .ok (.aload_n 0, 1) := by decide +kernel
theorem dX11_count_45 : decode cX11_count 45 = .ok (.getfield 10, 3) := by decide +kernel
theorem dX11_count_48 : decode cX11_count 48 = .ok (.getfield 68, 3) := by decide +kernel
theorem dX11_count_51 : decode cX11_count 51 = .ok (.ireturn, 1) := by decide +kernel
theorem dX11_count_52 : decode cX11_count 52 = .ok (.aload_n 0, 1) := by decide +kernel
theorem dX11_count_53 : decode cX11_count 53 = .ok (.getfield 10, 3) := by decide +kernel
theorem dX11_count_56 : decode cX11_count 56 = .ok (.getfield 97, 3) := by decide +kernel
theorem dX11_count_59 : decode cX11_count 59 = .ok (.ireturn, 1) := by decide +kernel
theorem dX11_count_60 : decode cX11_count 60 = .ok (.aload_n 0, 1) := by decide +kernel
theorem dX11_count_61 : decode cX11_count 61 = .ok (.getfield 10, 3) := by decide +kernel
theorem dX11_count_64 : decode cX11_count 64 = .ok (.getfield 225, 3) := by decide +kernel
theorem dX11_count_67 : decode cX11_count 67 = .ok (.ireturn, 1) := by decide +kernel
theorem dX11_count_68 : decode cX11_count 68 = .ok (.aload_n 0, 1) := by decide +kernel
theorem dX11_count_69 : decode cX11_count 69 = .ok (.getfield 10, 3) := by decide +kernel
theorem dX11_count_72 : decode cX11_count 72 = .ok (.getfield 151, 3) := by decide +kernel
theorem dX11_count_75 : decode cX11_count 75 = .ok (.ireturn, 1) := by decide +kernel
theorem dX11_count_76 : decode cX11_count 76 = .ok (.aload_n 0, 1) := by decide +kernel
theorem dX11_count_77 : decode cX11_count 77 = .ok (.getfield 10, 3) := by decide +kernel
theorem dX11_count_80 : decode cX11_count 80 = .ok (.getfield 204, 3) := by decide +kernel
theorem dX11_count_83 : decode cX11_count 83 = .ok (.ireturn, 1) := by decide +kernel
theorem dX11_count_84 : decode cX11_count 84 = .ok (.aload_n 0, 1) := by decide +kernel
theorem dX11_count_85 : decode cX11_count 85 = .ok (.getfield 10, 3) := by decide +kernel
theorem dX11_count_88 : decode cX11_count 88 = .ok (.getfield 91, 3) := by decide +kernel
theorem dX11_count_91 : decode cX11_count 91 = .ok (.ireturn, 1) := by decide +kernel
theorem dX11_count_92 : decode cX11_count 92 = .ok (.aload_n 0, 1) := by decide +kernel
theorem dX11_count_93 : decode cX11_count 93 = .ok (.getfield 33, 3) := by decide +kernel
theorem dX11_count_96 : decode cX11_count 96 = .ok (.getfield 278, 3) := by decide +kernel
theorem dX11_count_99 : decode cX11_count 99 = .ok (.ireturn, 1) := by decide +kernel
theorem dX11_count_100 : decode cX11_count 100 = .ok (.iconst (-1), 1) := by decide +kernel
theorem dX11_count_101 : decode cX11_count 101 = .ok (.ireturn, 1) := by decide +kernel
theorem dX11_isWithin_0 : decode cX11_isWithin 0 = .ok (.iload_n 0, 1) := by decide +kernel
theorem dX11_isWithin_1 : decode cX11_isWithin 1 = .ok (.iload_n 1, 1) := by decide +kernel
theorem dX11_isWithin_2 : decode cX11_isWithin 2 = .ok (.if_icmp .lt 12, 3) := by decide +kernel
theorem dX11_isWithin_5 : decode cX11_isWithin 5 = .ok (.iload_n 0, 1) := by decide +kernel
theorem dX11_isWithin_6 : decode cX11_isWithin 6 = .ok (.iload_n 2, 1) := by decide +kernel
theorem dX11_isWithin_7 : decode cX11_isWithin 7 = .ok (.if_icmp .gt 7, 3) := by decide +kernel
theorem dX11_isWithin_10 : decode cX11_isWithin 10 = .ok (.iconst 1, 1) := by decide +kernel
theorem dX11_isWithin_11 : decode cX11_isWithin 11 = .ok (.goto 4, 3) := by decide +kernel
theorem dX11_isWithin_14 : decode cX11_isWithin 14 = .ok (.iconst 0, 1) := by decide +kernel
theorem dX11_isWithin_15 : decode cX11_isWithin 15 = .ok (.ireturn, 1) := by decide +kernel
theorem dX11_isHeight_0 : decode cX11_isHeight 0 = .ok (.iload_n 0, 1) := by decide +kernel
theorem dX11_isHeight_1 : decode cX11_isHeight 1 = .ok (.iconst 1, 1) := by decide +kernel
theorem dX11_isHeight_2 : decode cX11_isHeight 2 = .ok (.bipush 60, 2) := by decide +kernel
theorem dX11_isHeight_4 : decode cX11_isHeight 4 = .ok (.invokestatic 64, 3) := by decide +kernel
theorem dX11_isHeight_7 : decode cX11_isHeight 7 = .ok (.ireturn, 1) := by decide +kernel
theorem dX11_isFlow_0 : decode cX11_isFlow 0 = .ok (.iload_n 0, 1) := by decide +kernel
theorem dX11_isFlow_1 : decode cX11_isFlow 1 = .ok (.iconst 1, 1) := by decide +kernel
theorem dX11_isFlow_2 : decode cX11_isFlow 2 = .ok (.bipush 20, 2) := by decide +kernel
theorem dX11_isFlow_4 : decode cX11_isFlow 4 = .ok (.invokestatic 64, 3) := by decide +kernel
theorem dX11_isFlow_7 : decode cX11_isFlow 7 = .ok (.ireturn, 1) := by decide +kernel
theorem dX11_isForm_0 : decode cX11_isForm 0 = .ok (.iload_n 0, 1) := by decide +kernel
theorem dX11_isForm_1 : decode cX11_isForm 1 = .ok (.iconst 0, 1) := by decide +kernel
theorem dX11_isForm_2 : decode cX11_isForm 2 = .ok (.iconst 4, 1) := by decide +kernel
theorem dX11_isForm_3 : decode cX11_isForm 3 = .ok (.invokestatic 64, 3) := by decide +kernel
theorem dX11_isForm_6 : decode cX11_isForm 6 = .ok (.ireturn, 1) := by decide +kernel
theorem dX11_isDoing_0 : decode cX11_isDoing 0 = .ok (.iload_n 0, 1) := by decide +kernel
theorem dX11_isDoing_1 : decode cX11_isDoing 1 = .ok (.ifCond .lt 27, 3) := by decide +kernel
theorem dX11_isDoing_4 : decode cX11_isDoing 4 = .ok (.iload_n 0, 1) := by decide +kernel
theorem dX11_isDoing_5 : decode cX11_isDoing 5 = .ok (.invokestatic 281, 3) := by decide +kernel
theorem dX11_isDoing_8 : decode cX11_isDoing 8 = .ok (.invokestatic 174, 3) := by decide +kernel
theorem dX11_isDoing_11 : decode cX11_isDoing 11 = .ok (.ifCond .eq 17, 3) := by decide +kernel
theorem dX11_isDoing_14 : decode cX11_isDoing 14 = .ok (.iload_n 0, 1) := by decide +kernel
theorem dX11_isDoing_15 : decode cX11_isDoing 15 = .ok (.invokestatic 284, 3) := by decide +kernel
theorem dX11_isDoing_18 : decode cX11_isDoing 18 = .ok (.invokestatic 171, 3) := by decide +kernel
theorem dX11_isDoing_21 : decode cX11_isDoing 21 = .ok (.ifCond .eq 7, 3) := by decide +kernel
theorem dX11_isDoing_24 : decode cX11_isDoing 24 = .ok (.iconst 1, 1) := by decide +kernel
theorem dX11_isDoing_25 : decode cX11_isDoing 25 = .ok (.goto 4, 3) := by decide +kernel
theorem dX11_isDoing_28 : decode cX11_isDoing 28 = .ok (.iconst 0, 1) := by decide +kernel
theorem dX11_isDoing_29 : decode cX11_isDoing 29 = .ok (.ireturn, 1) := by decide +kernel
theorem dX11_isToldOfRun_0 : decode cX11_isToldOfRun 0 = .ok (.iload_n 1, 1) := by decide +kernel
theorem dX11_isToldOfRun_1 : decode cX11_isToldOfRun 1 = .ok (.iconst 0, 1) := by decide +kernel
theorem dX11_isToldOfRun_2 : decode cX11_isToldOfRun 2 = .ok (.iconst 2, 1) := by decide +kernel
theorem dX11_isToldOfRun_3 : decode cX11_isToldOfRun 3 = .ok (.invokestatic 64, 3) := by decide +kernel
theorem dX11_isToldOfRun_6 : decode cX11_isToldOfRun 6 = .ok (.ifCond .eq 5, 3) := by decide +kernel
theorem dX11_isToldOfRun_9 : decode cX11_isToldOfRun 9 = .ok (.iconst 1, 1) := by decide +kernel
theorem dX11_isToldOfRun_10 : decode cX11_isToldOfRun 10 = .ok (.ireturn, 1) := by decide +kernel
theorem dX11_isToldOfRun_11 : decode cX11_isToldOfRun 11 = .ok (.iload_n 1, 1) := by decide +kernel
theorem dX11_isToldOfRun_12 : decode cX11_isToldOfRun 12 = .ok (.bipush 100, 2) := by decide +kernel
theorem dX11_isToldOfRun_14 : decode cX11_isToldOfRun 14 = .ok (.sipush 399, 3) := by decide +kernel
theorem dX11_isToldOfRun_17 : decode cX11_isToldOfRun 17 = .ok (.invokestatic 64, 3) := by decide +kernel
theorem dX11_isToldOfRun_20 : decode cX11_isToldOfRun 20 = .ok (.ifCond .eq 21, 3) := by decide +kernel
theorem dX11_isToldOfRun_23 : decode cX11_isToldOfRun 23 = .ok (.iload_n 1, 1) := by decide +kernel
theorem dX11_isToldOfRun_24 : decode cX11_isToldOfRun 24 = .ok (.bipush 100, 2) := by decide +kernel
theorem dX11_isToldOfRun_26 : decode cX11_isToldOfRun 26 = .ok (.irem, 1) := by decide +kernel
theorem dX11_isToldOfRun_27 : decode cX11_isToldOfRun 27 = .ok (.aload_n 0, 1) := by decide +kernel
theorem dX11_isToldOfRun_28 : decode cX11_isToldOfRun 28 = .ok (.getfield 10, 3) := by decide +kernel
theorem dX11_isToldOfRun_31 : decode cX11_isToldOfRun 31 = .ok (.getfield 151, 3) := by decide +kernel
theorem dX11_isToldOfRun_34 : decode cX11_isToldOfRun 34 = .ok (.if_icmp .ge 7, 3) := by decide +kernel
theorem dX11_isToldOfRun_37 : decode cX11_isToldOfRun 37 = .ok (.iconst 1, 1) := by decide +kernel
theorem dX11_isToldOfRun_38 : decode cX11_isToldOfRun 38 = .ok (.goto 4, 3) := by decide +kernel
theorem dX11_isToldOfRun_41 : decode cX11_isToldOfRun 41 = .ok (.iconst 0, 1) := by decide +kernel
theorem dX11_isToldOfRun_42 : decode cX11_isToldOfRun 42 = .ok (.ireturn, 1) := by decide +kernel
theorem dX11_stuffAt_0 : decode cX11_stuffAt 0 = .ok (.iload_n 1, 1) := by decide +kernel
theorem dX11_stuffAt_1 : decode cX11_stuffAt 1 = .ok (.iconst 0, 1) := by decide +kernel
theorem dX11_stuffAt_2 : decode cX11_stuffAt 2 = .ok (.aload_n 0, 1) := by decide +kernel
theorem dX11_stuffAt_3 : decode cX11_stuffAt 3 = .ok (.getfield 10, 3) := by decide +kernel
theorem dX11_stuffAt_6 : decode cX11_stuffAt 6 = .ok (.getfield 68, 3) := by decide +kernel
theorem dX11_stuffAt_9 : decode cX11_stuffAt 9 = .ok (.iconst 1, 1) := by decide +kernel
theorem dX11_stuffAt_10 : decode cX11_stuffAt 10 = .ok (.isub, 1) := by decide +kernel
theorem dX11_stuffAt_11 : decode cX11_stuffAt 11 = .ok (.invokestatic 64, 3) := by decide +kernel
theorem dX11_stuffAt_14 : decode cX11_stuffAt 14 = .ok (.ifCond .eq 15, 3) := by decide +kernel
theorem dX11_stuffAt_17 : decode cX11_stuffAt 17 = .ok (.aload_n 0, 1) := by decide +kernel
theorem dX11_stuffAt_18 : decode cX11_stuffAt 18 = .ok (.getfield 10, 3) := by decide +kernel
theorem dX11_stuffAt_21 : decode cX11_stuffAt 21 = .ok (.getfield 72, 3) := by decide +kernel
theorem dX11_stuffAt_24 : decode cX11_stuffAt 24 = .ok (.iload_n 1, 1) := by decide +kernel
theorem dX11_stuffAt_25 : decode cX11_stuffAt 25 = .ok (.aaload, 1) := by decide +kernel
theorem dX11_stuffAt_26 : decode cX11_stuffAt 26 = .ok (.goto 4, 3) := by decide +kernel
theorem dX11_stuffAt_29 : decode cX11_stuffAt 29 = .ok (.aconst_null, 1) := by decide +kernel
theorem dX11_stuffAt_30 : decode cX11_stuffAt 30 = .ok (.areturn, 1) := by decide +kernel
theorem dX11_lawAt_0 : decode cX11_lawAt 0 = .ok (.iload_n 1, 1) := by decide +kernel
theorem dX11_lawAt_1 : decode cX11_lawAt 1 = .ok (.iconst 0, 1) := by decide +kernel
theorem dX11_lawAt_2 : decode cX11_lawAt 2 = .ok (.aload_n 0, 1) := by decide +kernel
theorem dX11_lawAt_3 : decode cX11_lawAt 3 = .ok (.getfield 10, 3) := by decide +kernel
theorem dX11_lawAt_6 : decode cX11_lawAt 6 = .ok (.getfield 97, 3) := by decide +kernel
theorem dX11_lawAt_9 : decode cX11_lawAt 9 = .ok (.iconst 1, 1) := by decide +kernel
theorem dX11_lawAt_10 : decode cX11_lawAt 10 = .ok (.isub, 1) := by decide +kernel
theorem dX11_lawAt_11 : decode cX11_lawAt 11 = .ok (.invokestatic 64, 3) := by decide +kernel
theorem dX11_lawAt_14 : decode cX11_lawAt 14 = .ok (.ifCond .eq 15, 3) := by decide +kernel
theorem dX11_lawAt_17 : decode cX11_lawAt 17 = .ok (.aload_n 0, 1) := by decide +kernel
theorem dX11_lawAt_18 : decode cX11_lawAt 18 = .ok (.getfield 10, 3) := by decide +kernel
theorem dX11_lawAt_21 : decode cX11_lawAt 21 = .ok (.getfield 107, 3) := by decide +kernel
theorem dX11_lawAt_24 : decode cX11_lawAt 24 = .ok (.iload_n 1, 1) := by decide +kernel
theorem dX11_lawAt_25 : decode cX11_lawAt 25 = .ok (.aaload, 1) := by decide +kernel
theorem dX11_lawAt_26 : decode cX11_lawAt 26 = .ok (.goto 4, 3) := by decide +kernel
theorem dX11_lawAt_29 : decode cX11_lawAt 29 = .ok (.aconst_null, 1) := by decide +kernel
theorem dX11_lawAt_30 : decode cX11_lawAt 30 = .ok (.areturn, 1) := by decide +kernel
theorem dX11_heightOf_0 : decode cX11_heightOf 0 = .ok (.iload_n 0, 1) := by decide +kernel
theorem dX11_heightOf_1 : decode cX11_heightOf 1 = .ok (.sipush 10000, 3) := by decide +kernel
theorem dX11_heightOf_4 : decode cX11_heightOf 4 = .ok (.idiv, 1) := by decide +kernel
theorem dX11_heightOf_5 : decode cX11_heightOf 5 = .ok (.ireturn, 1) := by decide +kernel
theorem dX11_flowOf_0 : decode cX11_flowOf 0 = .ok (.iload_n 0, 1) := by decide +kernel
theorem dX11_flowOf_1 : decode cX11_flowOf 1 = .ok (.bipush 100, 2) := by decide +kernel
theorem dX11_flowOf_3 : decode cX11_flowOf 3 = .ok (.idiv, 1) := by decide +kernel
theorem dX11_flowOf_4 : decode cX11_flowOf 4 = .ok (.bipush 100, 2) := by decide +kernel
theorem dX11_flowOf_6 : decode cX11_flowOf 6 = .ok (.irem, 1) := by decide +kernel
theorem dX11_flowOf_7 : decode cX11_flowOf 7 = .ok (.ireturn, 1) := by decide +kernel
theorem dX11_paceOf_0 : decode cX11_paceOf 0 = .ok (.iload_n 0, 1) := by decide +kernel
theorem dX11_paceOf_1 : decode cX11_paceOf 1 = .ok (.bipush 100, 2) := by decide +kernel
theorem dX11_paceOf_3 : decode cX11_paceOf 3 = .ok (.irem, 1) := by decide +kernel
theorem dX11_paceOf_4 : decode cX11_paceOf 4 = .ok (.ireturn, 1) := by decide +kernel
theorem dX11_doingOf_0 : decode cX11_doingOf 0 = .ok (.iload_n 0, 1) := by decide +kernel
theorem dX11_doingOf_1 : decode cX11_doingOf 1 = .ok (.sipush 10000, 3) := by decide +kernel
theorem dX11_doingOf_4 : decode cX11_doingOf 4 = .ok (.imul, 1) := by decide +kernel
theorem dX11_doingOf_5 : decode cX11_doingOf 5 = .ok (.iload_n 1, 1) := by decide +kernel
theorem dX11_doingOf_6 : decode cX11_doingOf 6 = .ok (.bipush 100, 2) := by decide +kernel
theorem dX11_doingOf_8 : decode cX11_doingOf 8 = .ok (.imul, 1) := by decide +kernel
theorem dX11_doingOf_9 : decode cX11_doingOf 9 = .ok (.iadd, 1) := by decide +kernel
theorem dX11_doingOf_10 : decode cX11_doingOf 10 = .ok (.ireturn, 1) := by decide +kernel
theorem dX11_cut_0 : decode cX11_cut 0 = .ok (.iload_n 1, 1) := by decide +kernel
theorem dX11_cut_1 : decode cX11_cut 1 = .ok (.ifCond .ne 7, 3) := by decide +kernel
theorem dX11_cut_4 : decode cX11_cut 4 = .ok (.iconst 0, 1) := by decide +kernel
theorem dX11_cut_5 : decode cX11_cut 5 = .ok (.goto 6, 3) := by decide +kernel
theorem dX11_cut_8 : decode cX11_cut 8 = .ok (.iload_n 0, 1) := by decide +kernel
theorem dX11_cut_9 : decode cX11_cut 9 = .ok (.iload_n 1, 1) := by decide +kernel
theorem dX11_cut_10 : decode cX11_cut 10 = .ok (.idiv, 1) := by decide +kernel
theorem dX11_cut_11 : decode cX11_cut 11 = .ok (.ireturn, 1) := by decide +kernel
theorem dX11_pick_0 : decode cX11_pick 0 = .ok (.iload_n 0, 1) := by decide +kernel
theorem dX11_pick_1 : decode cX11_pick 1 = .ok (.ifCond .ne 5, 3) := by decide +kernel
theorem dX11_pick_4 : decode cX11_pick 4 = .ok (.iload_n 1, 1) := by decide +kernel
theorem dX11_pick_5 : decode cX11_pick 5 = .ok (.ireturn, 1) := by decide +kernel
theorem dX11_pick_6 : decode cX11_pick 6 = .ok (.iload_n 0, 1) := by decide +kernel
theorem dX11_pick_7 : decode cX11_pick 7 = .ok (.iconst 1, 1) := by decide +kernel
theorem dX11_pick_8 : decode cX11_pick 8 = .ok (.if_icmp .ne 7, 3) := by decide +kernel
theorem dX11_pick_11 : decode cX11_pick 11 = .ok (.iload_n 2, 1) := by decide +kernel
theorem dX11_pick_12 : decode cX11_pick 12 = .ok (.goto 4, 3) := by decide +kernel
theorem dX11_pick_15 : decode cX11_pick 15 = .ok (.iload_n 3, 1) := by decide +kernel
theorem dX11_pick_16 : decode cX11_pick 16 = .ok (.ireturn, 1) := by decide +kernel
theorem dX11_turnsIn_0 : decode cX11_turnsIn 0 = .ok (.aload_n 0, 1) := by decide +kernel
theorem dX11_turnsIn_1 : decode cX11_turnsIn 1 = .ok (.aload_n 1, 1) := by decide +kernel
theorem dX11_turnsIn_2 : decode cX11_turnsIn 2 = .ok (.aload_n 1, 1) := by decide +kernel
theorem dX11_turnsIn_3 : decode cX11_turnsIn 3 = .ok (.getfield 85, 3) := by decide +kernel
theorem dX11_turnsIn_6 : decode cX11_turnsIn 6 = .ok (.iload_n 2, 1) := by decide +kernel
theorem dX11_turnsIn_7 : decode cX11_turnsIn 7 = .ok (.aload_n 0, 1) := by decide +kernel
theorem dX11_turnsIn_8 : decode cX11_turnsIn 8 = .ok (.iload_n 2, 1) := by decide +kernel
theorem dX11_turnsIn_9 : decode cX11_turnsIn 9 = .ok (.invokestatic 281, 3) := by decide +kernel
theorem dX11_turnsIn_12 : decode cX11_turnsIn 12 = .ok (.invokevirtual 287, 3) := by decide +kernel
theorem dX11_turnsIn_15 : decode cX11_turnsIn 15 = .ok (.invokevirtual 290, 3) := by decide +kernel
theorem dX11_turnsIn_18 : decode cX11_turnsIn 18 = .ok (.ireturn, 1) := by decide +kernel
theorem dX11_formIn_0 : decode cX11_formIn 0 = .ok (.aload_n 0, 1) := by decide +kernel
theorem dX11_formIn_1 : decode cX11_formIn 1 = .ok (.aload_n 0, 1) := by decide +kernel
theorem dX11_formIn_2 : decode cX11_formIn 2 = .ok (.aload_n 1, 1) := by decide +kernel
theorem dX11_formIn_3 : decode cX11_formIn 3 = .ok (.iload_n 2, 1) := by decide +kernel
theorem dX11_formIn_4 : decode cX11_formIn 4 = .ok (.invokestatic 144, 3) := by decide +kernel
theorem dX11_formIn_7 : decode cX11_formIn 7 = .ok (.iload_n 2, 1) := by decide +kernel
theorem dX11_formIn_8 : decode cX11_formIn 8 = .ok (.invokestatic 293, 3) := by decide +kernel
theorem dX11_formIn_11 : decode cX11_formIn 11 = .ok (.invokevirtual 200, 3) := by decide +kernel
theorem dX11_formIn_14 : decode cX11_formIn 14 = .ok (.ireturn, 1) := by decide +kernel
theorem dX11_lawOfKind_0 : decode cX11_lawOfKind 0 = .ok (.iload_n 1, 1) := by decide +kernel
theorem dX11_lawOfKind_1 : decode cX11_lawOfKind 1 = .ok (.tableswitch 125 1 6 #[39, 53, 68, 83, 97, 111], 39) := by decide +kernel
theorem dX11_lawOfKind_40 : decode cX11_lawOfKind 40 = .ok (.new 296, 3) := by decide +kernel
theorem dX11_lawOfKind_43 : decode cX11_lawOfKind 43 = .ok (.dup, 1) := by decide +kernel
theorem dX11_lawOfKind_44 : decode cX11_lawOfKind 44 = .ok (.iload_n 2, 1) := by decide +kernel
theorem dX11_lawOfKind_45 : decode cX11_lawOfKind 45 = .ok (.iload_n 3, 1) := by decide +kernel
theorem dX11_lawOfKind_46 : decode cX11_lawOfKind 46 = .ok (.aload_n 0, 1) := by decide +kernel
theorem dX11_lawOfKind_47 : decode cX11_lawOfKind 47 = .ok (.getfield 26, 3) := by decide +kernel
theorem dX11_lawOfKind_50 : decode cX11_lawOfKind 50 = .ok (.invokespecial 298, 3) := by decide +kernel
theorem dX11_lawOfKind_53 : decode cX11_lawOfKind 53 = .ok (.areturn, 1) := by decide +kernel
theorem dX11_lawOfKind_54 : decode cX11_lawOfKind 54 = .ok (.new 301, 3) := by decide +kernel
theorem dX11_lawOfKind_57 : decode cX11_lawOfKind 57 = .ok (.dup, 1) := by decide +kernel
theorem dX11_lawOfKind_58 : decode cX11_lawOfKind 58 = .ok (.iconst 2, 1) := by decide +kernel
theorem dX11_lawOfKind_59 : decode cX11_lawOfKind 59 = .ok (.iload_n 2, 1) := by decide +kernel
theorem dX11_lawOfKind_60 : decode cX11_lawOfKind 60 = .ok (.iload_n 3, 1) := by decide +kernel
theorem dX11_lawOfKind_61 : decode cX11_lawOfKind 61 = .ok (.aload_n 0, 1) := by decide +kernel
theorem dX11_lawOfKind_62 : decode cX11_lawOfKind 62 = .ok (.getfield 26, 3) := by decide +kernel
theorem dX11_lawOfKind_65 : decode cX11_lawOfKind 65 = .ok (.invokespecial 303, 3) := by decide +kernel
theorem dX11_lawOfKind_68 : decode cX11_lawOfKind 68 = .ok (.areturn, 1) := by decide +kernel
theorem dX11_lawOfKind_69 : decode cX11_lawOfKind 69 = .ok (.new 306, 3) := by decide +kernel
theorem dX11_lawOfKind_72 : decode cX11_lawOfKind 72 = .ok (.dup, 1) := by decide +kernel
theorem dX11_lawOfKind_73 : decode cX11_lawOfKind 73 = .ok (.iconst 3, 1) := by decide +kernel
theorem dX11_lawOfKind_74 : decode cX11_lawOfKind 74 = .ok (.iload_n 2, 1) := by decide +kernel
theorem dX11_lawOfKind_75 : decode cX11_lawOfKind 75 = .ok (.iload_n 3, 1) := by decide +kernel
theorem dX11_lawOfKind_76 : decode cX11_lawOfKind 76 = .ok (.aload_n 0, 1) := by decide +kernel
theorem dX11_lawOfKind_77 : decode cX11_lawOfKind 77 = .ok (.getfield 26, 3) := by decide +kernel
theorem dX11_lawOfKind_80 : decode cX11_lawOfKind 80 = .ok (.invokespecial 308, 3) := by decide +kernel
theorem dX11_lawOfKind_83 : decode cX11_lawOfKind 83 = .ok (.areturn, 1) := by decide +kernel
theorem dX11_lawOfKind_84 : decode cX11_lawOfKind 84 = .ok (.new 309, 3) := by decide +kernel
theorem dX11_lawOfKind_87 : decode cX11_lawOfKind 87 = .ok (.dup, 1) := by decide +kernel
theorem dX11_lawOfKind_88 : decode cX11_lawOfKind 88 = .ok (.iload_n 2, 1) := by decide +kernel
theorem dX11_lawOfKind_89 : decode cX11_lawOfKind 89 = .ok (.iload_n 3, 1) := by decide +kernel
theorem dX11_lawOfKind_90 : decode cX11_lawOfKind 90 = .ok (.aload_n 0, 1) := by decide +kernel
theorem dX11_lawOfKind_91 : decode cX11_lawOfKind 91 = .ok (.getfield 26, 3) := by decide +kernel
theorem dX11_lawOfKind_94 : decode cX11_lawOfKind 94 = .ok (.invokespecial 311, 3) := by decide +kernel
theorem dX11_lawOfKind_97 : decode cX11_lawOfKind 97 = .ok (.areturn, 1) := by decide +kernel
theorem dX11_lawOfKind_98 : decode cX11_lawOfKind 98 = .ok (.new 312, 3) := by decide +kernel
theorem dX11_lawOfKind_101 : decode cX11_lawOfKind 101 = .ok (.dup, 1) := by decide +kernel
theorem dX11_lawOfKind_102 : decode cX11_lawOfKind 102 = .ok (.iload_n 2, 1) := by decide +kernel
theorem dX11_lawOfKind_103 : decode cX11_lawOfKind 103 = .ok (.iload_n 3, 1) := by decide +kernel
theorem dX11_lawOfKind_104 : decode cX11_lawOfKind 104 = .ok (.aload_n 0, 1) := by decide +kernel
theorem dX11_lawOfKind_105 : decode cX11_lawOfKind 105 = .ok (.getfield 26, 3) := by decide +kernel
theorem dX11_lawOfKind_108 : decode cX11_lawOfKind 108 = .ok (.invokespecial 314, 3) := by decide +kernel
theorem dX11_lawOfKind_111 : decode cX11_lawOfKind 111 = .ok (.areturn, 1) := by decide +kernel
theorem dX11_lawOfKind_112 : decode cX11_lawOfKind 112 = .ok (.new 315, 3) := by decide +kernel
theorem dX11_lawOfKind_115 : decode cX11_lawOfKind 115 = .ok (.dup, 1) := by decide +kernel
theorem dX11_lawOfKind_116 : decode cX11_lawOfKind 116 = .ok (.iload_n 2, 1) := by decide +kernel
theorem dX11_lawOfKind_117 : decode cX11_lawOfKind 117 = .ok (.iload_n 3, 1) := by decide +kernel
theorem dX11_lawOfKind_118 : decode cX11_lawOfKind 118 = .ok (.aload_n 0, 1) := by decide +kernel
theorem dX11_lawOfKind_119 : decode cX11_lawOfKind 119 = .ok (.getfield 26, 3) := by decide +kernel
theorem dX11_lawOfKind_122 : decode cX11_lawOfKind 122 = .ok (.invokespecial 317, 3) := by decide +kernel
theorem dX11_lawOfKind_125 : decode cX11_lawOfKind 125 = .ok (.areturn, 1) := by decide +kernel
theorem dX11_lawOfKind_126 : decode cX11_lawOfKind 126 = .ok (.new 120, 3) := by decide +kernel
theorem dX11_lawOfKind_129 : decode cX11_lawOfKind 129 = .ok (.dup, 1) := by decide +kernel
theorem dX11_lawOfKind_130 : decode cX11_lawOfKind 130 = .ok (.iconst 0, 1) := by decide +kernel
theorem dX11_lawOfKind_131 : decode cX11_lawOfKind 131 = .ok (.iload_n 2, 1) := by decide +kernel
theorem dX11_lawOfKind_132 : decode cX11_lawOfKind 132 = .ok (.iload_n 3, 1) := by decide +kernel
theorem dX11_lawOfKind_133 : decode cX11_lawOfKind 133 = .ok (.aload_n 0, 1) := by decide +kernel
theorem dX11_lawOfKind_134 : decode cX11_lawOfKind 134 = .ok (.getfield 26, 3) := by decide +kernel
theorem dX11_lawOfKind_137 : decode cX11_lawOfKind 137 = .ok (.invokespecial 318, 3) := by decide +kernel
theorem dX11_lawOfKind_140 : decode cX11_lawOfKind 140 = .ok (.areturn, 1) := by decide +kernel
theorem dX11_isOfKind_0 : decode cX11_isOfKind 0 = .ok (.iload_n 1, 1) := by decide +kernel
theorem dX11_isOfKind_1 : decode cX11_isOfKind 1 = .ok (.tableswitch 75 0 6 #[43, 45, 50, 55, 60, 65, 70], 43) := by decide +kernel
theorem dX11_isOfKind_44 : decode cX11_isOfKind 44 = .ok (.iconst 1, 1) := by decide +kernel
theorem dX11_isOfKind_45 : decode cX11_isOfKind 45 = .ok (.ireturn, 1) := by decide +kernel
theorem dX11_isOfKind_46 : decode cX11_isOfKind 46 = .ok (.aload_n 0, 1) := by decide +kernel
theorem dX11_isOfKind_47 : decode cX11_isOfKind 47 = .ok (.instanceof 296, 3) := by decide +kernel
theorem dX11_isOfKind_50 : decode cX11_isOfKind 50 = .ok (.ireturn, 1) := by decide +kernel
theorem dX11_isOfKind_51 : decode cX11_isOfKind 51 = .ok (.aload_n 0, 1) := by decide +kernel
theorem dX11_isOfKind_52 : decode cX11_isOfKind 52 = .ok (.instanceof 301, 3) := by decide +kernel
theorem dX11_isOfKind_55 : decode cX11_isOfKind 55 = .ok (.ireturn, 1) := by decide +kernel
theorem dX11_isOfKind_56 : decode cX11_isOfKind 56 = .ok (.aload_n 0, 1) := by decide +kernel
theorem dX11_isOfKind_57 : decode cX11_isOfKind 57 = .ok (.instanceof 306, 3) := by decide +kernel
theorem dX11_isOfKind_60 : decode cX11_isOfKind 60 = .ok (.ireturn, 1) := by decide +kernel
theorem dX11_isOfKind_61 : decode cX11_isOfKind 61 = .ok (.aload_n 0, 1) := by decide +kernel
theorem dX11_isOfKind_62 : decode cX11_isOfKind 62 = .ok (.instanceof 309, 3) := by decide +kernel
theorem dX11_isOfKind_65 : decode cX11_isOfKind 65 = .ok (.ireturn, 1) := by decide +kernel
theorem dX11_isOfKind_66 : decode cX11_isOfKind 66 = .ok (.aload_n 0, 1) := by decide +kernel
theorem dX11_isOfKind_67 : decode cX11_isOfKind 67 = .ok (.instanceof 312, 3) := by decide +kernel
theorem dX11_isOfKind_70 : decode cX11_isOfKind 70 = .ok (.ireturn, 1) := by decide +kernel
theorem dX11_isOfKind_71 : decode cX11_isOfKind 71 = .ok (.aload_n 0, 1) := by decide +kernel
theorem dX11_isOfKind_72 : decode cX11_isOfKind 72 = .ok (.instanceof 315, 3) := by decide +kernel
theorem dX11_isOfKind_75 : decode cX11_isOfKind 75 = .ok (.ireturn, 1) := by decide +kernel
theorem dX11_isOfKind_76 : decode cX11_isOfKind 76 = .ok (.iconst 0, 1) := by decide +kernel
theorem dX11_isOfKind_77 : decode cX11_isOfKind 77 = .ok (.ireturn, 1) := by decide +kernel
theorem dX11_goThroughRun_0 : decode cX11_goThroughRun 0 = .ok (.iconst 0, 1) := by decide +kernel
theorem dX11_goThroughRun_1 : decode cX11_goThroughRun 1 = .ok (.istore_n 3, 1) := by decide +kernel
theorem dX11_goThroughRun_2 : decode cX11_goThroughRun 2 = .ok (.iconst 0, 1) := by decide +kernel
theorem dX11_goThroughRun_3 : decode cX11_goThroughRun 3 = .ok (.istore 4, 2) := by decide +kernel
theorem dX11_goThroughRun_5 : decode cX11_goThroughRun 5 = .ok (.iconst 0, 1) := by decide +kernel
theorem dX11_goThroughRun_6 : decode cX11_goThroughRun 6 = .ok (.istore 5, 2) := by decide +kernel
theorem dX11_goThroughRun_8 : decode cX11_goThroughRun 8 = .ok (.iconst 0, 1) := by decide +kernel
theorem dX11_goThroughRun_9 : decode cX11_goThroughRun 9 = .ok (.istore 6, 2) := by decide +kernel
theorem dX11_goThroughRun_11 : decode cX11_goThroughRun 11 = .ok (.iload 6, 2) := by decide +kernel
theorem dX11_goThroughRun_13 : decode cX11_goThroughRun 13 = .ok (.aload_n 0, 1) := by decide +kernel
theorem dX11_goThroughRun_14 : decode cX11_goThroughRun 14 = .ok (.getfield 10, 3) := by decide +kernel
theorem dX11_goThroughRun_17 : decode cX11_goThroughRun 17 = .ok (.getfield 151, 3) := by decide +kernel
theorem dX11_goThroughRun_20 : decode cX11_goThroughRun 20 = .ok (.if_icmp .ge 118, 3) := by decide +kernel
theorem dX11_goThroughRun_23 : decode cX11_goThroughRun 23 = .ok (.aload_n 0, 1) := by decide +kernel
theorem dX11_goThroughRun_24 : decode cX11_goThroughRun 24 = .ok (.getfield 10, 3) := by decide +kernel
theorem dX11_goThroughRun_27 : decode cX11_goThroughRun 27 = .ok (.getfield 154, 3) := by decide +kernel
theorem dX11_goThroughRun_30 : decode cX11_goThroughRun 30 = .ok (.iload 6, 2) := by decide +kernel
theorem dX11_goThroughRun_32 : decode cX11_goThroughRun 32 = .ok (.iaload, 1) := by decide +kernel
theorem dX11_goThroughRun_33 : decode cX11_goThroughRun 33 = .ok (.istore 7, 2) := by decide +kernel
theorem dX11_goThroughRun_35 : decode cX11_goThroughRun 35 = .ok (.aload_n 1, 1) := by decide +kernel
theorem dX11_goThroughRun_36 : decode cX11_goThroughRun 36 = .ok (.iload_n 3, 1) := by decide +kernel
theorem dX11_goThroughRun_37 : decode cX11_goThroughRun 37 = .ok (.iload 7, 2) := by decide +kernel
theorem dX11_goThroughRun_39 : decode cX11_goThroughRun 39 = .ok (.invokestatic 281, 3) := by decide +kernel
theorem dX11_goThroughRun_42 : decode cX11_goThroughRun 42 = .ok (.invokevirtual 319, 3) := by decide +kernel
theorem dX11_goThroughRun_45 : decode cX11_goThroughRun 45 = .ok (.istore_n 3, 1) := by decide +kernel
theorem dX11_goThroughRun_46 : decode cX11_goThroughRun 46 = .ok (.aload_n 1, 1) := by decide +kernel
theorem dX11_goThroughRun_47 : decode cX11_goThroughRun 47 = .ok (.aload_n 2, 1) := by decide +kernel
theorem dX11_goThroughRun_48 : decode cX11_goThroughRun 48 = .ok (.aload_n 1, 1) := by decide +kernel
theorem dX11_goThroughRun_49 : decode cX11_goThroughRun 49 = .ok (.aload_n 2, 1) := by decide +kernel
theorem dX11_goThroughRun_50 : decode cX11_goThroughRun 50 = .ok (.iload 6, 2) := by decide +kernel
theorem dX11_goThroughRun_52 : decode cX11_goThroughRun 52 = .ok (.invokevirtual 323, 3) := by decide +kernel
theorem dX11_goThroughRun_55 : decode cX11_goThroughRun 55 = .ok (.iload 7, 2) := by decide +kernel
theorem dX11_goThroughRun_57 : decode cX11_goThroughRun 57 = .ok (.iload_n 3, 1) := by decide +kernel
theorem dX11_goThroughRun_58 : decode cX11_goThroughRun 58 = .ok (.invokevirtual 290, 3) := by decide +kernel
theorem dX11_goThroughRun_61 : decode cX11_goThroughRun 61 = .ok (.istore 8, 2) := by decide +kernel
theorem dX11_goThroughRun_63 : decode cX11_goThroughRun 63 = .ok (.aload_n 1, 1) := by decide +kernel
theorem dX11_goThroughRun_64 : decode cX11_goThroughRun 64 = .ok (.iload 8, 2) := by decide +kernel
theorem dX11_goThroughRun_66 : decode cX11_goThroughRun 66 = .ok (.iload 7, 2) := by decide +kernel
theorem dX11_goThroughRun_68 : decode cX11_goThroughRun 68 = .ok (.invokestatic 293, 3) := by decide +kernel
theorem dX11_goThroughRun_71 : decode cX11_goThroughRun 71 = .ok (.invokevirtual 200, 3) := by decide +kernel
theorem dX11_goThroughRun_74 : decode cX11_goThroughRun 74 = .ok (.istore 9, 2) := by decide +kernel
theorem dX11_goThroughRun_76 : decode cX11_goThroughRun 76 = .ok (.iload 4, 2) := by decide +kernel
theorem dX11_goThroughRun_78 : decode cX11_goThroughRun 78 = .ok (.iload 9, 2) := by decide +kernel
theorem dX11_goThroughRun_80 : decode cX11_goThroughRun 80 = .ok (.iload 7, 2) := by decide +kernel
theorem dX11_goThroughRun_82 : decode cX11_goThroughRun 82 = .ok (.invokestatic 284, 3) := by decide +kernel
theorem dX11_goThroughRun_85 : decode cX11_goThroughRun 85 = .ok (.invokestatic 326, 3) := by decide +kernel
theorem dX11_goThroughRun_88 : decode cX11_goThroughRun 88 = .ok (.istore 4, 2) := by decide +kernel
theorem dX11_goThroughRun_90 : decode cX11_goThroughRun 90 = .ok (.iload 4, 2) := by decide +kernel
theorem dX11_goThroughRun_92 : decode cX11_goThroughRun 92 = .ok (.aload_n 1, 1) := by decide +kernel
theorem dX11_goThroughRun_93 : decode cX11_goThroughRun 93 = .ok (.getfield 130, 3) := by decide +kernel
theorem dX11_goThroughRun_96 : decode cX11_goThroughRun 96 = .ok (.if_icmp .le 9, 3) := by decide +kernel
theorem dX11_goThroughRun_99 : decode cX11_goThroughRun 99 = .ok (.iinc 5 1, 3) := by decide +kernel
theorem dX11_goThroughRun_102 : decode cX11_goThroughRun 102 = .ok (.iconst 0, 1) := by decide +kernel
theorem dX11_goThroughRun_103 : decode cX11_goThroughRun 103 = .ok (.istore 4, 2) := by decide +kernel
theorem dX11_goThroughRun_105 : decode cX11_goThroughRun 105 = .ok (.aload_n 0, 1) := by decide +kernel
theorem dX11_goThroughRun_106 : decode cX11_goThroughRun 106 = .ok (.getfield 41, 3) := by decide +kernel
theorem dX11_goThroughRun_109 : decode cX11_goThroughRun 109 = .ok (.iload 6, 2) := by decide +kernel
theorem dX11_goThroughRun_111 : decode cX11_goThroughRun 111 = .ok (.iload 8, 2) := by decide +kernel
theorem dX11_goThroughRun_113 : decode cX11_goThroughRun 113 = .ok (.iastore, 1) := by decide +kernel
theorem dX11_goThroughRun_114 : decode cX11_goThroughRun 114 = .ok (.aload_n 0, 1) := by decide +kernel
theorem dX11_goThroughRun_115 : decode cX11_goThroughRun 115 = .ok (.getfield 37, 3) := by decide +kernel
theorem dX11_goThroughRun_118 : decode cX11_goThroughRun 118 = .ok (.iload 6, 2) := by decide +kernel
theorem dX11_goThroughRun_120 : decode cX11_goThroughRun 120 = .ok (.iload 9, 2) := by decide +kernel
theorem dX11_goThroughRun_122 : decode cX11_goThroughRun 122 = .ok (.iastore, 1) := by decide +kernel
theorem dX11_goThroughRun_123 : decode cX11_goThroughRun 123 = .ok (.aload_n 0, 1) := by decide +kernel
theorem dX11_goThroughRun_124 : decode cX11_goThroughRun 124 = .ok (.getfield 44, 3) := by decide +kernel
theorem dX11_goThroughRun_127 : decode cX11_goThroughRun 127 = .ok (.iload 6, 2) := by decide +kernel
theorem dX11_goThroughRun_129 : decode cX11_goThroughRun 129 = .ok (.iload 4, 2) := by decide +kernel
theorem dX11_goThroughRun_131 : decode cX11_goThroughRun 131 = .ok (.iastore, 1) := by decide +kernel
theorem dX11_goThroughRun_132 : decode cX11_goThroughRun 132 = .ok (.iinc 6 1, 3) := by decide +kernel
theorem dX11_goThroughRun_135 : decode cX11_goThroughRun 135 = .ok (.goto (-124), 3) := by decide +kernel
theorem dX11_goThroughRun_138 : decode cX11_goThroughRun 138 = .ok (.iload 5, 2) := by decide +kernel
theorem dX11_goThroughRun_140 : decode cX11_goThroughRun 140 = .ok (.ireturn, 1) := by decide +kernel
theorem dX11_heapBehind_0 : decode cX11_heapBehind 0 = .ok (.iload_n 1, 1) := by decide +kernel
theorem dX11_heapBehind_1 : decode cX11_heapBehind 1 = .ok (.ifCond .ne 7, 3) := by decide +kernel
theorem dX11_heapBehind_4 : decode cX11_heapBehind 4 = .ok (.iload_n 0, 1) := by decide +kernel
theorem dX11_heapBehind_5 : decode cX11_heapBehind 5 = .ok (.iload_n 2, 1) := by decide +kernel
theorem dX11_heapBehind_6 : decode cX11_heapBehind 6 = .ok (.iadd, 1) := by decide +kernel
theorem dX11_heapBehind_7 : decode cX11_heapBehind 7 = .ok (.ireturn, 1) := by decide +kernel
theorem dX11_heapBehind_8 : decode cX11_heapBehind 8 = .ok (.iload_n 1, 1) := by decide +kernel
theorem dX11_heapBehind_9 : decode cX11_heapBehind 9 = .ok (.iconst 4, 1) := by decide +kernel
theorem dX11_heapBehind_10 : decode cX11_heapBehind 10 = .ok (.if_icmp .ne 7, 3) := by decide +kernel
theorem dX11_heapBehind_13 : decode cX11_heapBehind 13 = .ok (.iconst 0, 1) := by decide +kernel
theorem dX11_heapBehind_14 : decode cX11_heapBehind 14 = .ok (.goto 4, 3) := by decide +kernel
theorem dX11_heapBehind_17 : decode cX11_heapBehind 17 = .ok (.iload_n 0, 1) := by decide +kernel
theorem dX11_heapBehind_18 : decode cX11_heapBehind 18 = .ok (.ireturn, 1) := by decide +kernel
theorem dX11_allRunTurns_0 : decode cX11_allRunTurns 0 = .ok (.iconst 0, 1) := by decide +kernel
theorem dX11_allRunTurns_1 : decode cX11_allRunTurns 1 = .ok (.istore_n 1, 1) := by decide +kernel
theorem dX11_allRunTurns_2 : decode cX11_allRunTurns 2 = .ok (.iconst 0, 1) := by decide +kernel
theorem dX11_allRunTurns_3 : decode cX11_allRunTurns 3 = .ok (.istore_n 2, 1) := by decide +kernel
theorem dX11_allRunTurns_4 : decode cX11_allRunTurns 4 = .ok (.iload_n 2, 1) := by decide +kernel
theorem dX11_allRunTurns_5 : decode cX11_allRunTurns 5 = .ok (.aload_n 0, 1) := by decide +kernel
theorem dX11_allRunTurns_6 : decode cX11_allRunTurns 6 = .ok (.getfield 10, 3) := by decide +kernel
theorem dX11_allRunTurns_9 : decode cX11_allRunTurns 9 = .ok (.getfield 151, 3) := by decide +kernel
theorem dX11_allRunTurns_12 : decode cX11_allRunTurns 12 = .ok (.if_icmp .ge 18, 3) := by decide +kernel
theorem dX11_allRunTurns_15 : decode cX11_allRunTurns 15 = .ok (.iload_n 1, 1) := by decide +kernel
theorem dX11_allRunTurns_16 : decode cX11_allRunTurns 16 = .ok (.aload_n 0, 1) := by decide +kernel
theorem dX11_allRunTurns_17 : decode cX11_allRunTurns 17 = .ok (.getfield 41, 3) := by decide +kernel
theorem dX11_allRunTurns_20 : decode cX11_allRunTurns 20 = .ok (.iload_n 2, 1) := by decide +kernel
theorem dX11_allRunTurns_21 : decode cX11_allRunTurns 21 = .ok (.iaload, 1) := by decide +kernel
theorem dX11_allRunTurns_22 : decode cX11_allRunTurns 22 = .ok (.iadd, 1) := by decide +kernel
theorem dX11_allRunTurns_23 : decode cX11_allRunTurns 23 = .ok (.istore_n 1, 1) := by decide +kernel
theorem dX11_allRunTurns_24 : decode cX11_allRunTurns 24 = .ok (.iinc 2 1, 3) := by decide +kernel
theorem dX11_allRunTurns_27 : decode cX11_allRunTurns 27 = .ok (.goto (-23), 3) := by decide +kernel
theorem dX11_allRunTurns_30 : decode cX11_allRunTurns 30 = .ok (.iload_n 1, 1) := by decide +kernel
theorem dX11_allRunTurns_31 : decode cX11_allRunTurns 31 = .ok (.ireturn, 1) := by decide +kernel
theorem dX11_runFormChanges_0 : decode cX11_runFormChanges 0 = .ok (.iconst 0, 1) := by decide +kernel
theorem dX11_runFormChanges_1 : decode cX11_runFormChanges 1 = .ok (.istore_n 1, 1) := by decide +kernel
theorem dX11_runFormChanges_2 : decode cX11_runFormChanges 2 = .ok (.iconst 1, 1) := by decide +kernel
theorem dX11_runFormChanges_3 : decode cX11_runFormChanges 3 = .ok (.istore_n 2, 1) := by decide +kernel
theorem dX11_runFormChanges_4 : decode cX11_runFormChanges 4 = .ok (.iload_n 2, 1) := by decide +kernel
theorem dX11_runFormChanges_5 : decode cX11_runFormChanges 5 = .ok (.aload_n 0, 1) := by decide +kernel
theorem dX11_runFormChanges_6 : decode cX11_runFormChanges 6 = .ok (.getfield 10, 3) := by decide +kernel
theorem dX11_runFormChanges_9 : decode cX11_runFormChanges 9 = .ok (.getfield 151, 3) := by decide +kernel
theorem dX11_runFormChanges_12 : decode cX11_runFormChanges 12 = .ok (.if_icmp .ge 29, 3) := by decide +kernel
theorem dX11_runFormChanges_15 : decode cX11_runFormChanges 15 = .ok (.aload_n 0, 1) := by decide +kernel
theorem dX11_runFormChanges_16 : decode cX11_runFormChanges 16 = .ok (.getfield 37, 3) := by decide +kernel
theorem dX11_runFormChanges_19 : decode cX11_runFormChanges 19 = .ok (.iload_n 2, 1) := by decide +kernel
theorem dX11_runFormChanges_20 : decode cX11_runFormChanges 20 = .ok (.iaload, 1) := by decide +kernel
theorem dX11_runFormChanges_21 : decode cX11_runFormChanges 21 = .ok (.aload_n 0, 1) := by decide +kernel
theorem dX11_runFormChanges_22 : decode cX11_runFormChanges 22 = .ok (.getfield 37, 3) := by decide +kernel
theorem dX11_runFormChanges_25 : decode cX11_runFormChanges 25 = .ok (.iload_n 2, 1) := by decide +kernel
theorem dX11_runFormChanges_26 : decode cX11_runFormChanges 26 = .ok (.iconst 1, 1) := by decide +kernel
theorem dX11_runFormChanges_27 : decode cX11_runFormChanges 27 = .ok (.isub, 1) := by decide +kernel
theorem dX11_runFormChanges_28 : decode cX11_runFormChanges 28 = .ok (.iaload, 1) := by decide +kernel
theorem dX11_runFormChanges_29 : decode cX11_runFormChanges 29 = .ok (.if_icmp .eq 6, 3) := by decide +kernel
theorem dX11_runFormChanges_32 : decode cX11_runFormChanges 32 = .ok (.iinc 1 1, 3) := by decide +kernel
theorem dX11_runFormChanges_35 : decode cX11_runFormChanges 35 = .ok (.iinc 2 1, 3) := by decide +kernel
theorem dX11_runFormChanges_38 : decode cX11_runFormChanges 38 = .ok (.goto (-34), 3) := by decide +kernel
theorem dX11_runFormChanges_41 : decode cX11_runFormChanges 41 = .ok (.iload_n 1, 1) := by decide +kernel
theorem dX11_runFormChanges_42 : decode cX11_runFormChanges 42 = .ok (.ireturn, 1) := by decide +kernel
theorem dX11_goUp_0 : decode cX11_goUp 0 = .ok (.iconst 0, 1) := by decide +kernel
theorem dX11_goUp_1 : decode cX11_goUp 1 = .ok (.istore 4, 2) := by decide +kernel
theorem dX11_goUp_3 : decode cX11_goUp 3 = .ok (.iconst 1, 1) := by decide +kernel
theorem dX11_goUp_4 : decode cX11_goUp 4 = .ok (.istore 5, 2) := by decide +kernel
theorem dX11_goUp_6 : decode cX11_goUp 6 = .ok (.iload 5, 2) := by decide +kernel
theorem dX11_goUp_8 : decode cX11_goUp 8 = .ok (.bipush 60, 2) := by decide +kernel
theorem dX11_goUp_10 : decode cX11_goUp 10 = .ok (.if_icmp .gt 43, 3) := by decide +kernel
theorem dX11_goUp_13 : decode cX11_goUp 13 = .ok (.aload_n 1, 1) := by decide +kernel
theorem dX11_goUp_14 : decode cX11_goUp 14 = .ok (.iload 4, 2) := by decide +kernel
theorem dX11_goUp_16 : decode cX11_goUp 16 = .ok (.iload 5, 2) := by decide +kernel
theorem dX11_goUp_18 : decode cX11_goUp 18 = .ok (.invokevirtual 319, 3) := by decide +kernel
theorem dX11_goUp_21 : decode cX11_goUp 21 = .ok (.istore 4, 2) := by decide +kernel
theorem dX11_goUp_23 : decode cX11_goUp 23 = .ok (.aload_n 0, 1) := by decide +kernel
theorem dX11_goUp_24 : decode cX11_goUp 24 = .ok (.getfield 47, 3) := by decide +kernel
theorem dX11_goUp_27 : decode cX11_goUp 27 = .ok (.iload 5, 2) := by decide +kernel
theorem dX11_goUp_29 : decode cX11_goUp 29 = .ok (.aload_n 1, 1) := by decide +kernel
theorem dX11_goUp_30 : decode cX11_goUp 30 = .ok (.aload_n 2, 1) := by decide +kernel
theorem dX11_goUp_31 : decode cX11_goUp 31 = .ok (.aload_n 2, 1) := by decide +kernel
theorem dX11_goUp_32 : decode cX11_goUp 32 = .ok (.getfield 85, 3) := by decide +kernel
theorem dX11_goUp_35 : decode cX11_goUp 35 = .ok (.iload 5, 2) := by decide +kernel
theorem dX11_goUp_37 : decode cX11_goUp 37 = .ok (.iload_n 3, 1) := by decide +kernel
theorem dX11_goUp_38 : decode cX11_goUp 38 = .ok (.invokestatic 245, 3) := by decide +kernel
theorem dX11_goUp_41 : decode cX11_goUp 41 = .ok (.iload 4, 2) := by decide +kernel
theorem dX11_goUp_43 : decode cX11_goUp 43 = .ok (.invokevirtual 290, 3) := by decide +kernel
theorem dX11_goUp_46 : decode cX11_goUp 46 = .ok (.iastore, 1) := by decide +kernel
theorem dX11_goUp_47 : decode cX11_goUp 47 = .ok (.iinc 5 1, 3) := by decide +kernel
theorem dX11_goUp_50 : decode cX11_goUp 50 = .ok (.goto (-44), 3) := by decide +kernel
theorem dX11_goUp_53 : decode cX11_goUp 53 = .ok (.return_, 1) := by decide +kernel
theorem dX11_goDown_0 : decode cX11_goDown 0 = .ok (.iconst 1, 1) := by decide +kernel
theorem dX11_goDown_1 : decode cX11_goDown 1 = .ok (.istore 4, 2) := by decide +kernel
theorem dX11_goDown_3 : decode cX11_goDown 3 = .ok (.bipush 60, 2) := by decide +kernel
theorem dX11_goDown_5 : decode cX11_goDown 5 = .ok (.istore 5, 2) := by decide +kernel
theorem dX11_goDown_7 : decode cX11_goDown 7 = .ok (.iload 5, 2) := by decide +kernel
theorem dX11_goDown_9 : decode cX11_goDown 9 = .ok (.iconst 1, 1) := by decide +kernel
theorem dX11_goDown_10 : decode cX11_goDown 10 = .ok (.if_icmp .lt 43, 3) := by decide +kernel
theorem dX11_goDown_13 : decode cX11_goDown 13 = .ok (.aload_n 1, 1) := by decide +kernel
theorem dX11_goDown_14 : decode cX11_goDown 14 = .ok (.iload 4, 2) := by decide +kernel
theorem dX11_goDown_16 : decode cX11_goDown 16 = .ok (.iload 5, 2) := by decide +kernel
theorem dX11_goDown_18 : decode cX11_goDown 18 = .ok (.invokevirtual 319, 3) := by decide +kernel
theorem dX11_goDown_21 : decode cX11_goDown 21 = .ok (.istore 4, 2) := by decide +kernel
theorem dX11_goDown_23 : decode cX11_goDown 23 = .ok (.aload_n 0, 1) := by decide +kernel
theorem dX11_goDown_24 : decode cX11_goDown 24 = .ok (.getfield 50, 3) := by decide +kernel
theorem dX11_goDown_27 : decode cX11_goDown 27 = .ok (.iload 5, 2) := by decide +kernel
theorem dX11_goDown_29 : decode cX11_goDown 29 = .ok (.aload_n 1, 1) := by decide +kernel
theorem dX11_goDown_30 : decode cX11_goDown 30 = .ok (.aload_n 2, 1) := by decide +kernel
theorem dX11_goDown_31 : decode cX11_goDown 31 = .ok (.aload_n 2, 1) := by decide +kernel
theorem dX11_goDown_32 : decode cX11_goDown 32 = .ok (.getfield 85, 3) := by decide +kernel
theorem dX11_goDown_35 : decode cX11_goDown 35 = .ok (.iload 5, 2) := by decide +kernel
theorem dX11_goDown_37 : decode cX11_goDown 37 = .ok (.iload_n 3, 1) := by decide +kernel
theorem dX11_goDown_38 : decode cX11_goDown 38 = .ok (.invokestatic 245, 3) := by decide +kernel
theorem dX11_goDown_41 : decode cX11_goDown 41 = .ok (.iload 4, 2) := by decide +kernel
theorem dX11_goDown_43 : decode cX11_goDown 43 = .ok (.invokevirtual 290, 3) := by decide +kernel
theorem dX11_goDown_46 : decode cX11_goDown 46 = .ok (.iastore, 1) := by decide +kernel
theorem dX11_goDown_47 : decode cX11_goDown 47 = .ok (.iinc 5 (-1), 3) := by decide +kernel
theorem dX11_goDown_50 : decode cX11_goDown 50 = .ok (.goto (-43), 3) := by decide +kernel
theorem dX11_goDown_53 : decode cX11_goDown 53 = .ok (.return_, 1) := by decide +kernel
theorem dX11_goThroughPaces_0 : decode cX11_goThroughPaces 0 = .ok (.iload_n 3, 1) := by decide +kernel
theorem dX11_goThroughPaces_1 : decode cX11_goThroughPaces 1 = .ok (.invokestatic 281, 3) := by decide +kernel
theorem dX11_goThroughPaces_4 : decode cX11_goThroughPaces 4 = .ok (.iload_n 3, 1) := by decide +kernel
theorem dX11_goThroughPaces_5 : decode cX11_goThroughPaces 5 = .ok (.invokestatic 284, 3) := by decide +kernel
theorem dX11_goThroughPaces_8 : decode cX11_goThroughPaces 8 = .ok (.invokestatic 245, 3) := by decide +kernel
theorem dX11_goThroughPaces_11 : decode cX11_goThroughPaces 11 = .ok (.istore 4, 2) := by decide +kernel
theorem dX11_goThroughPaces_13 : decode cX11_goThroughPaces 13 = .ok (.aload_n 1, 1) := by decide +kernel
theorem dX11_goThroughPaces_14 : decode cX11_goThroughPaces 14 = .ok (.aload_n 2, 1) := by decide +kernel
theorem dX11_goThroughPaces_15 : decode cX11_goThroughPaces 15 = .ok (.iload 4, 2) := by decide +kernel
theorem dX11_goThroughPaces_17 : decode cX11_goThroughPaces 17 = .ok (.invokestatic 144, 3) := by decide +kernel
theorem dX11_goThroughPaces_20 : decode cX11_goThroughPaces 20 = .ok (.istore 5, 2) := by decide +kernel
theorem dX11_goThroughPaces_22 : decode cX11_goThroughPaces 22 = .ok (.iconst 0, 1) := by decide +kernel
theorem dX11_goThroughPaces_23 : decode cX11_goThroughPaces 23 = .ok (.istore 6, 2) := by decide +kernel
theorem dX11_goThroughPaces_25 : decode cX11_goThroughPaces 25 = .ok (.iload 6, 2) := by decide +kernel
theorem dX11_goThroughPaces_27 : decode cX11_goThroughPaces 27 = .ok (.bipush 100, 2) := by decide +kernel
theorem dX11_goThroughPaces_29 : decode cX11_goThroughPaces 29 = .ok (.if_icmp .ge 40, 3) := by decide +kernel
theorem dX11_goThroughPaces_32 : decode cX11_goThroughPaces 32 = .ok (.aload_n 1, 1) := by decide +kernel
theorem dX11_goThroughPaces_33 : decode cX11_goThroughPaces 33 = .ok (.getfield 329, 3) := by decide +kernel
theorem dX11_goThroughPaces_36 : decode cX11_goThroughPaces 36 = .ok (.iload 6, 2) := by decide +kernel
theorem dX11_goThroughPaces_38 : decode cX11_goThroughPaces 38 = .ok (.baload, 1) := by decide +kernel
theorem dX11_goThroughPaces_39 : decode cX11_goThroughPaces 39 = .ok (.ifCond .eq 15, 3) := by decide +kernel
theorem dX11_goThroughPaces_42 : decode cX11_goThroughPaces 42 = .ok (.aload_n 1, 1) := by decide +kernel
theorem dX11_goThroughPaces_43 : decode cX11_goThroughPaces 43 = .ok (.aload_n 2, 1) := by decide +kernel
theorem dX11_goThroughPaces_44 : decode cX11_goThroughPaces 44 = .ok (.iload 4, 2) := by decide +kernel
theorem dX11_goThroughPaces_46 : decode cX11_goThroughPaces 46 = .ok (.iload 6, 2) := by decide +kernel
theorem dX11_goThroughPaces_48 : decode cX11_goThroughPaces 48 = .ok (.iadd, 1) := by decide +kernel
theorem dX11_goThroughPaces_49 : decode cX11_goThroughPaces 49 = .ok (.invokestatic 144, 3) := by decide +kernel
theorem dX11_goThroughPaces_52 : decode cX11_goThroughPaces 52 = .ok (.istore 5, 2) := by decide +kernel
theorem dX11_goThroughPaces_54 : decode cX11_goThroughPaces 54 = .ok (.aload_n 0, 1) := by decide +kernel
theorem dX11_goThroughPaces_55 : decode cX11_goThroughPaces 55 = .ok (.getfield 53, 3) := by decide +kernel
theorem dX11_goThroughPaces_58 : decode cX11_goThroughPaces 58 = .ok (.iload 6, 2) := by decide +kernel
theorem dX11_goThroughPaces_60 : decode cX11_goThroughPaces 60 = .ok (.iload 5, 2) := by decide +kernel
theorem dX11_goThroughPaces_62 : decode cX11_goThroughPaces 62 = .ok (.iastore, 1) := by decide +kernel
theorem dX11_goThroughPaces_63 : decode cX11_goThroughPaces 63 = .ok (.iinc 6 1, 3) := by decide +kernel
theorem dX11_goThroughPaces_66 : decode cX11_goThroughPaces 66 = .ok (.goto (-41), 3) := by decide +kernel
theorem dX11_goThroughPaces_69 : decode cX11_goThroughPaces 69 = .ok (.return_, 1) := by decide +kernel
theorem dX11_fillRowCosts_0 : decode cX11_fillRowCosts 0 = .ok (.aload_n 0, 1) := by decide +kernel
theorem dX11_fillRowCosts_1 : decode cX11_fillRowCosts 1 = .ok (.getfield 10, 3) := by decide +kernel
theorem dX11_fillRowCosts_4 : decode cX11_fillRowCosts 4 = .ok (.getfield 204, 3) := by decide +kernel
theorem dX11_fillRowCosts_7 : decode cX11_fillRowCosts 7 = .ok (.iconst 1, 1) := by decide +kernel
theorem dX11_fillRowCosts_8 : decode cX11_fillRowCosts 8 = .ok (.isub, 1) := by decide +kernel
theorem dX11_fillRowCosts_9 : decode cX11_fillRowCosts 9 = .ok (.istore_n 2, 1) := by decide +kernel
theorem dX11_fillRowCosts_10 : decode cX11_fillRowCosts 10 = .ok (.iload_n 2, 1) := by decide +kernel
theorem dX11_fillRowCosts_11 : decode cX11_fillRowCosts 11 = .ok (.ifCond .lt 100, 3) := by decide +kernel
theorem dX11_fillRowCosts_14 : decode cX11_fillRowCosts 14 = .ok (.iconst 0, 1) := by decide +kernel
theorem dX11_fillRowCosts_15 : decode cX11_fillRowCosts 15 = .ok (.istore_n 3, 1) := by decide +kernel
theorem dX11_fillRowCosts_16 : decode cX11_fillRowCosts 16 = .ok (.iload_n 3, 1) := by decide +kernel
theorem dX11_fillRowCosts_17 : decode cX11_fillRowCosts 17 = .ok (.bipush 100, 2) := by decide +kernel
theorem dX11_fillRowCosts_19 : decode cX11_fillRowCosts 19 = .ok (.if_icmp .ge 86, 3) := by decide +kernel
theorem dX11_fillRowCosts_22 : decode cX11_fillRowCosts 22 = .ok (.aload_n 0, 1) := by decide +kernel
theorem dX11_fillRowCosts_23 : decode cX11_fillRowCosts 23 = .ok (.getfield 56, 3) := by decide +kernel
theorem dX11_fillRowCosts_26 : decode cX11_fillRowCosts 26 = .ok (.iload_n 3, 1) := by decide +kernel
theorem dX11_fillRowCosts_27 : decode cX11_fillRowCosts 27 = .ok (.iaload, 1) := by decide +kernel
theorem dX11_fillRowCosts_28 : decode cX11_fillRowCosts 28 = .ok (.aload_n 0, 1) := by decide +kernel
theorem dX11_fillRowCosts_29 : decode cX11_fillRowCosts 29 = .ok (.getfield 10, 3) := by decide +kernel
theorem dX11_fillRowCosts_32 : decode cX11_fillRowCosts 32 = .ok (.getfield 207, 3) := by decide +kernel
theorem dX11_fillRowCosts_35 : decode cX11_fillRowCosts 35 = .ok (.iload_n 2, 1) := by decide +kernel
theorem dX11_fillRowCosts_36 : decode cX11_fillRowCosts 36 = .ok (.iaload, 1) := by decide +kernel
theorem dX11_fillRowCosts_37 : decode cX11_fillRowCosts 37 = .ok (.if_icmp .eq 16, 3) := by decide +kernel
theorem dX11_fillRowCosts_40 : decode cX11_fillRowCosts 40 = .ok (.aload_n 0, 1) := by decide +kernel
theorem dX11_fillRowCosts_41 : decode cX11_fillRowCosts 41 = .ok (.getfield 61, 3) := by decide +kernel
theorem dX11_fillRowCosts_44 : decode cX11_fillRowCosts 44 = .ok (.iload_n 2, 1) := by decide +kernel
theorem dX11_fillRowCosts_45 : decode cX11_fillRowCosts 45 = .ok (.aaload, 1) := by decide +kernel
theorem dX11_fillRowCosts_46 : decode cX11_fillRowCosts 46 = .ok (.iload_n 3, 1) := by decide +kernel
theorem dX11_fillRowCosts_47 : decode cX11_fillRowCosts 47 = .ok (.ldc 217, 2) := by decide +kernel
theorem dX11_fillRowCosts_49 : decode cX11_fillRowCosts 49 = .ok (.iastore, 1) := by decide +kernel
theorem dX11_fillRowCosts_50 : decode cX11_fillRowCosts 50 = .ok (.goto 49, 3) := by decide +kernel
theorem dX11_fillRowCosts_53 : decode cX11_fillRowCosts 53 = .ok (.iload_n 2, 1) := by decide +kernel
theorem dX11_fillRowCosts_54 : decode cX11_fillRowCosts 54 = .ok (.aload_n 0, 1) := by decide +kernel
theorem dX11_fillRowCosts_55 : decode cX11_fillRowCosts 55 = .ok (.getfield 10, 3) := by decide +kernel
theorem dX11_fillRowCosts_58 : decode cX11_fillRowCosts 58 = .ok (.getfield 204, 3) := by decide +kernel
theorem dX11_fillRowCosts_61 : decode cX11_fillRowCosts 61 = .ok (.iconst 1, 1) := by decide +kernel
theorem dX11_fillRowCosts_62 : decode cX11_fillRowCosts 62 = .ok (.isub, 1) := by decide +kernel
theorem dX11_fillRowCosts_63 : decode cX11_fillRowCosts 63 = .ok (.if_icmp .ne 15, 3) := by decide +kernel
theorem dX11_fillRowCosts_66 : decode cX11_fillRowCosts 66 = .ok (.aload_n 0, 1) := by decide +kernel
theorem dX11_fillRowCosts_67 : decode cX11_fillRowCosts 67 = .ok (.getfield 61, 3) := by decide +kernel
theorem dX11_fillRowCosts_70 : decode cX11_fillRowCosts 70 = .ok (.iload_n 2, 1) := by decide +kernel
theorem dX11_fillRowCosts_71 : decode cX11_fillRowCosts 71 = .ok (.aaload, 1) := by decide +kernel
theorem dX11_fillRowCosts_72 : decode cX11_fillRowCosts 72 = .ok (.iload_n 3, 1) := by decide +kernel
theorem dX11_fillRowCosts_73 : decode cX11_fillRowCosts 73 = .ok (.iconst 0, 1) := by decide +kernel
theorem dX11_fillRowCosts_74 : decode cX11_fillRowCosts 74 = .ok (.iastore, 1) := by decide +kernel
theorem dX11_fillRowCosts_75 : decode cX11_fillRowCosts 75 = .ok (.goto 24, 3) := by decide +kernel
theorem dX11_fillRowCosts_78 : decode cX11_fillRowCosts 78 = .ok (.aload_n 0, 1) := by decide +kernel
theorem dX11_fillRowCosts_79 : decode cX11_fillRowCosts 79 = .ok (.getfield 61, 3) := by decide +kernel
theorem dX11_fillRowCosts_82 : decode cX11_fillRowCosts 82 = .ok (.iload_n 2, 1) := by decide +kernel
theorem dX11_fillRowCosts_83 : decode cX11_fillRowCosts 83 = .ok (.aaload, 1) := by decide +kernel
theorem dX11_fillRowCosts_84 : decode cX11_fillRowCosts 84 = .ok (.iload_n 3, 1) := by decide +kernel
theorem dX11_fillRowCosts_85 : decode cX11_fillRowCosts 85 = .ok (.aload_n 0, 1) := by decide +kernel
theorem dX11_fillRowCosts_86 : decode cX11_fillRowCosts 86 = .ok (.getfield 61, 3) := by decide +kernel
theorem dX11_fillRowCosts_89 : decode cX11_fillRowCosts 89 = .ok (.iload_n 2, 1) := by decide +kernel
theorem dX11_fillRowCosts_90 : decode cX11_fillRowCosts 90 = .ok (.iconst 1, 1) := by decide +kernel
theorem dX11_fillRowCosts_91 : decode cX11_fillRowCosts 91 = .ok (.iadd, 1) := by decide +kernel
theorem dX11_fillRowCosts_92 : decode cX11_fillRowCosts 92 = .ok (.aaload, 1) := by decide +kernel
theorem dX11_fillRowCosts_93 : decode cX11_fillRowCosts 93 = .ok (.iload_n 3, 1) := by decide +kernel
theorem dX11_fillRowCosts_94 : decode cX11_fillRowCosts 94 = .ok (.iload_n 1, 1) := by decide +kernel
theorem dX11_fillRowCosts_95 : decode cX11_fillRowCosts 95 = .ok (.invokestatic 333, 3) := by decide +kernel
theorem dX11_fillRowCosts_98 : decode cX11_fillRowCosts 98 = .ok (.iastore, 1) := by decide +kernel
theorem dX11_fillRowCosts_99 : decode cX11_fillRowCosts 99 = .ok (.iinc 3 1, 3) := by decide +kernel
theorem dX11_fillRowCosts_102 : decode cX11_fillRowCosts 102 = .ok (.goto (-86), 3) := by decide +kernel
theorem dX11_fillRowCosts_105 : decode cX11_fillRowCosts 105 = .ok (.iinc 2 (-1), 3) := by decide +kernel
theorem dX11_fillRowCosts_108 : decode cX11_fillRowCosts 108 = .ok (.goto (-98), 3) := by decide +kernel
theorem dX11_fillRowCosts_111 : decode cX11_fillRowCosts 111 = .ok (.return_, 1) := by decide +kernel
theorem dX11_cheapestGoingOn_0 : decode cX11_cheapestGoingOn 0 = .ok (.ldc 217, 2) := by decide +kernel
theorem dX11_cheapestGoingOn_2 : decode cX11_cheapestGoingOn 2 = .ok (.istore_n 3, 1) := by decide +kernel
theorem dX11_cheapestGoingOn_3 : decode cX11_cheapestGoingOn 3 = .ok (.iconst 0, 1) := by decide +kernel
theorem dX11_cheapestGoingOn_4 : decode cX11_cheapestGoingOn 4 = .ok (.istore 4, 2) := by decide +kernel
theorem dX11_cheapestGoingOn_6 : decode cX11_cheapestGoingOn 6 = .ok (.iload 4, 2) := by decide +kernel
theorem dX11_cheapestGoingOn_8 : decode cX11_cheapestGoingOn 8 = .ok (.iload_n 2, 1) := by decide +kernel
theorem dX11_cheapestGoingOn_9 : decode cX11_cheapestGoingOn 9 = .ok (.if_icmp .gt 59, 3) := by decide +kernel
theorem dX11_cheapestGoingOn_12 : decode cX11_cheapestGoingOn 12 = .ok (.iload 4, 2) := by decide +kernel
theorem dX11_cheapestGoingOn_14 : decode cX11_cheapestGoingOn 14 = .ok (.iload_n 3, 1) := by decide +kernel
theorem dX11_cheapestGoingOn_15 : decode cX11_cheapestGoingOn 15 = .ok (.if_icmp .ge 53, 3) := by decide +kernel
theorem dX11_cheapestGoingOn_18 : decode cX11_cheapestGoingOn 18 = .ok (.iload_n 1, 1) := by decide +kernel
theorem dX11_cheapestGoingOn_19 : decode cX11_cheapestGoingOn 19 = .ok (.iload 4, 2) := by decide +kernel
theorem dX11_cheapestGoingOn_21 : decode cX11_cheapestGoingOn 21 = .ok (.isub, 1) := by decide +kernel
theorem dX11_cheapestGoingOn_22 : decode cX11_cheapestGoingOn 22 = .ok (.ifCond .lt 17, 3) := by decide +kernel
theorem dX11_cheapestGoingOn_25 : decode cX11_cheapestGoingOn 25 = .ok (.iload_n 3, 1) := by decide +kernel
theorem dX11_cheapestGoingOn_26 : decode cX11_cheapestGoingOn 26 = .ok (.iload 4, 2) := by decide +kernel
theorem dX11_cheapestGoingOn_28 : decode cX11_cheapestGoingOn 28 = .ok (.aload_n 0, 1) := by decide +kernel
theorem dX11_cheapestGoingOn_29 : decode cX11_cheapestGoingOn 29 = .ok (.iload_n 1, 1) := by decide +kernel
theorem dX11_cheapestGoingOn_30 : decode cX11_cheapestGoingOn 30 = .ok (.iload 4, 2) := by decide +kernel
theorem dX11_cheapestGoingOn_32 : decode cX11_cheapestGoingOn 32 = .ok (.isub, 1) := by decide +kernel
theorem dX11_cheapestGoingOn_33 : decode cX11_cheapestGoingOn 33 = .ok (.iaload, 1) := by decide +kernel
theorem dX11_cheapestGoingOn_34 : decode cX11_cheapestGoingOn 34 = .ok (.iadd, 1) := by decide +kernel
theorem dX11_cheapestGoingOn_35 : decode cX11_cheapestGoingOn 35 = .ok (.invokestatic 337, 3) := by decide +kernel
theorem dX11_cheapestGoingOn_38 : decode cX11_cheapestGoingOn 38 = .ok (.istore_n 3, 1) := by decide +kernel
theorem dX11_cheapestGoingOn_39 : decode cX11_cheapestGoingOn 39 = .ok (.iload_n 1, 1) := by decide +kernel
theorem dX11_cheapestGoingOn_40 : decode cX11_cheapestGoingOn 40 = .ok (.iload 4, 2) := by decide +kernel
theorem dX11_cheapestGoingOn_42 : decode cX11_cheapestGoingOn 42 = .ok (.iadd, 1) := by decide +kernel
theorem dX11_cheapestGoingOn_43 : decode cX11_cheapestGoingOn 43 = .ok (.bipush 100, 2) := by decide +kernel
theorem dX11_cheapestGoingOn_45 : decode cX11_cheapestGoingOn 45 = .ok (.if_icmp .ge 17, 3) := by decide +kernel
theorem dX11_cheapestGoingOn_48 : decode cX11_cheapestGoingOn 48 = .ok (.iload_n 3, 1) := by decide +kernel
theorem dX11_cheapestGoingOn_49 : decode cX11_cheapestGoingOn 49 = .ok (.iload 4, 2) := by decide +kernel
theorem dX11_cheapestGoingOn_51 : decode cX11_cheapestGoingOn 51 = .ok (.aload_n 0, 1) := by decide +kernel
theorem dX11_cheapestGoingOn_52 : decode cX11_cheapestGoingOn 52 = .ok (.iload_n 1, 1) := by decide +kernel
theorem dX11_cheapestGoingOn_53 : decode cX11_cheapestGoingOn 53 = .ok (.iload 4, 2) := by decide +kernel
theorem dX11_cheapestGoingOn_55 : decode cX11_cheapestGoingOn 55 = .ok (.iadd, 1) := by decide +kernel
theorem dX11_cheapestGoingOn_56 : decode cX11_cheapestGoingOn 56 = .ok (.iaload, 1) := by decide +kernel
theorem dX11_cheapestGoingOn_57 : decode cX11_cheapestGoingOn 57 = .ok (.iadd, 1) := by decide +kernel
theorem dX11_cheapestGoingOn_58 : decode cX11_cheapestGoingOn 58 = .ok (.invokestatic 337, 3) := by decide +kernel
theorem dX11_cheapestGoingOn_61 : decode cX11_cheapestGoingOn 61 = .ok (.istore_n 3, 1) := by decide +kernel
theorem dX11_cheapestGoingOn_62 : decode cX11_cheapestGoingOn 62 = .ok (.iinc 4 1, 3) := by decide +kernel
theorem dX11_cheapestGoingOn_65 : decode cX11_cheapestGoingOn 65 = .ok (.goto (-59), 3) := by decide +kernel
theorem dX11_cheapestGoingOn_68 : decode cX11_cheapestGoingOn 68 = .ok (.iload_n 3, 1) := by decide +kernel
theorem dX11_cheapestGoingOn_69 : decode cX11_cheapestGoingOn 69 = .ok (.ireturn, 1) := by decide +kernel
theorem dX11_cheapestFirstPace_0 : decode cX11_cheapestFirstPace 0 = .ok (.iconst 0, 1) := by decide +kernel
theorem dX11_cheapestFirstPace_1 : decode cX11_cheapestFirstPace 1 = .ok (.istore_n 1, 1) := by decide +kernel
theorem dX11_cheapestFirstPace_2 : decode cX11_cheapestFirstPace 2 = .ok (.iconst 1, 1) := by decide +kernel
theorem dX11_cheapestFirstPace_3 : decode cX11_cheapestFirstPace 3 = .ok (.istore_n 2, 1) := by decide +kernel
theorem dX11_cheapestFirstPace_4 : decode cX11_cheapestFirstPace 4 = .ok (.iload_n 2, 1) := by decide +kernel
theorem dX11_cheapestFirstPace_5 : decode cX11_cheapestFirstPace 5 = .ok (.bipush 100, 2) := by decide +kernel
theorem dX11_cheapestFirstPace_7 : decode cX11_cheapestFirstPace 7 = .ok (.if_icmp .ge 30, 3) := by decide +kernel
theorem dX11_cheapestFirstPace_10 : decode cX11_cheapestFirstPace 10 = .ok (.aload_n 0, 1) := by decide +kernel
theorem dX11_cheapestFirstPace_11 : decode cX11_cheapestFirstPace 11 = .ok (.getfield 61, 3) := by decide +kernel
theorem dX11_cheapestFirstPace_14 : decode cX11_cheapestFirstPace 14 = .ok (.iconst 0, 1) := by decide +kernel
theorem dX11_cheapestFirstPace_15 : decode cX11_cheapestFirstPace 15 = .ok (.aaload, 1) := by decide +kernel
theorem dX11_cheapestFirstPace_16 : decode cX11_cheapestFirstPace 16 = .ok (.iload_n 2, 1) := by decide +kernel
theorem dX11_cheapestFirstPace_17 : decode cX11_cheapestFirstPace 17 = .ok (.iaload, 1) := by decide +kernel
theorem dX11_cheapestFirstPace_18 : decode cX11_cheapestFirstPace 18 = .ok (.aload_n 0, 1) := by decide +kernel
theorem dX11_cheapestFirstPace_19 : decode cX11_cheapestFirstPace 19 = .ok (.getfield 61, 3) := by decide +kernel
theorem dX11_cheapestFirstPace_22 : decode cX11_cheapestFirstPace 22 = .ok (.iconst 0, 1) := by decide +kernel
theorem dX11_cheapestFirstPace_23 : decode cX11_cheapestFirstPace 23 = .ok (.aaload, 1) := by decide +kernel
theorem dX11_cheapestFirstPace_24 : decode cX11_cheapestFirstPace 24 = .ok (.iload_n 1, 1) := by decide +kernel
theorem dX11_cheapestFirstPace_25 : decode cX11_cheapestFirstPace 25 = .ok (.iaload, 1) := by decide +kernel
theorem dX11_cheapestFirstPace_26 : decode cX11_cheapestFirstPace 26 = .ok (.if_icmp .ge 5, 3) := by decide +kernel
theorem dX11_cheapestFirstPace_29 : decode cX11_cheapestFirstPace 29 = .ok (.iload_n 2, 1) := by decide +kernel
theorem dX11_cheapestFirstPace_30 : decode cX11_cheapestFirstPace 30 = .ok (.istore_n 1, 1) := by decide +kernel
theorem dX11_cheapestFirstPace_31 : decode cX11_cheapestFirstPace 31 = .ok (.iinc 2 1, 3) := by decide +kernel
theorem dX11_cheapestFirstPace_34 : decode cX11_cheapestFirstPace 34 = .ok (.goto (-30), 3) := by decide +kernel
theorem dX11_cheapestFirstPace_37 : decode cX11_cheapestFirstPace 37 = .ok (.iload_n 1, 1) := by decide +kernel
theorem dX11_cheapestFirstPace_38 : decode cX11_cheapestFirstPace 38 = .ok (.ireturn, 1) := by decide +kernel
theorem dX11_paceInRow_0 : decode cX11_paceInRow 0 = .ok (.iload_n 1, 1) := by decide +kernel
theorem dX11_paceInRow_1 : decode cX11_paceInRow 1 = .ok (.istore 4, 2) := by decide +kernel
theorem dX11_paceInRow_3 : decode cX11_paceInRow 3 = .ok (.iconst 0, 1) := by decide +kernel
theorem dX11_paceInRow_4 : decode cX11_paceInRow 4 = .ok (.istore 5, 2) := by decide +kernel
theorem dX11_paceInRow_6 : decode cX11_paceInRow 6 = .ok (.iload 5, 2) := by decide +kernel
theorem dX11_paceInRow_8 : decode cX11_paceInRow 8 = .ok (.iload_n 3, 1) := by decide +kernel
theorem dX11_paceInRow_9 : decode cX11_paceInRow 9 = .ok (.if_icmp .ge 36, 3) := by decide +kernel
theorem dX11_paceInRow_12 : decode cX11_paceInRow 12 = .ok (.aload_n 0, 1) := by decide +kernel
theorem dX11_paceInRow_13 : decode cX11_paceInRow 13 = .ok (.getfield 61, 3) := by decide +kernel
theorem dX11_paceInRow_16 : decode cX11_paceInRow 16 = .ok (.iload 5, 2) := by decide +kernel
theorem dX11_paceInRow_18 : decode cX11_paceInRow 18 = .ok (.iconst 1, 1) := by decide +kernel
theorem dX11_paceInRow_19 : decode cX11_paceInRow 19 = .ok (.iadd, 1) := by decide +kernel
theorem dX11_paceInRow_20 : decode cX11_paceInRow 20 = .ok (.aaload, 1) := by decide +kernel
theorem dX11_paceInRow_21 : decode cX11_paceInRow 21 = .ok (.iload 4, 2) := by decide +kernel
theorem dX11_paceInRow_23 : decode cX11_paceInRow 23 = .ok (.iload_n 2, 1) := by decide +kernel
theorem dX11_paceInRow_24 : decode cX11_paceInRow 24 = .ok (.aload_n 0, 1) := by decide +kernel
theorem dX11_paceInRow_25 : decode cX11_paceInRow 25 = .ok (.getfield 61, 3) := by decide +kernel
theorem dX11_paceInRow_28 : decode cX11_paceInRow 28 = .ok (.iload 5, 2) := by decide +kernel
theorem dX11_paceInRow_30 : decode cX11_paceInRow 30 = .ok (.aaload, 1) := by decide +kernel
theorem dX11_paceInRow_31 : decode cX11_paceInRow 31 = .ok (.iload 4, 2) := by decide +kernel
theorem dX11_paceInRow_33 : decode cX11_paceInRow 33 = .ok (.iaload, 1) := by decide +kernel
theorem dX11_paceInRow_34 : decode cX11_paceInRow 34 = .ok (.invokestatic 340, 3) := by decide +kernel
theorem dX11_paceInRow_37 : decode cX11_paceInRow 37 = .ok (.istore 4, 2) := by decide +kernel
theorem dX11_paceInRow_39 : decode cX11_paceInRow 39 = .ok (.iinc 5 1, 3) := by decide +kernel
theorem dX11_paceInRow_42 : decode cX11_paceInRow 42 = .ok (.goto (-36), 3) := by decide +kernel
theorem dX11_paceInRow_45 : decode cX11_paceInRow 45 = .ok (.iload 4, 2) := by decide +kernel
theorem dX11_paceInRow_47 : decode cX11_paceInRow 47 = .ok (.ireturn, 1) := by decide +kernel
theorem dX11_firstGoingOn_0 : decode cX11_firstGoingOn 0 = .ok (.bipush 99, 2) := by decide +kernel
theorem dX11_firstGoingOn_2 : decode cX11_firstGoingOn 2 = .ok (.iload_n 1, 1) := by decide +kernel
theorem dX11_firstGoingOn_3 : decode cX11_firstGoingOn 3 = .ok (.iload_n 2, 1) := by decide +kernel
theorem dX11_firstGoingOn_4 : decode cX11_firstGoingOn 4 = .ok (.iadd, 1) := by decide +kernel
theorem dX11_firstGoingOn_5 : decode cX11_firstGoingOn 5 = .ok (.invokestatic 337, 3) := by decide +kernel
theorem dX11_firstGoingOn_8 : decode cX11_firstGoingOn 8 = .ok (.istore 4, 2) := by decide +kernel
theorem dX11_firstGoingOn_10 : decode cX11_firstGoingOn 10 = .ok (.iconst 0, 1) := by decide +kernel
theorem dX11_firstGoingOn_11 : decode cX11_firstGoingOn 11 = .ok (.iload_n 1, 1) := by decide +kernel
theorem dX11_firstGoingOn_12 : decode cX11_firstGoingOn 12 = .ok (.iload_n 2, 1) := by decide +kernel
theorem dX11_firstGoingOn_13 : decode cX11_firstGoingOn 13 = .ok (.isub, 1) := by decide +kernel
theorem dX11_firstGoingOn_14 : decode cX11_firstGoingOn 14 = .ok (.invokestatic 344, 3) := by decide +kernel
theorem dX11_firstGoingOn_17 : decode cX11_firstGoingOn 17 = .ok (.istore 5, 2) := by decide +kernel
theorem dX11_firstGoingOn_19 : decode cX11_firstGoingOn 19 = .ok (.iload 5, 2) := by decide +kernel
theorem dX11_firstGoingOn_21 : decode cX11_firstGoingOn 21 = .ok (.iload 4, 2) := by decide +kernel
theorem dX11_firstGoingOn_23 : decode cX11_firstGoingOn 23 = .ok (.if_icmp .gt 28, 3) := by decide +kernel
theorem dX11_firstGoingOn_26 : decode cX11_firstGoingOn 26 = .ok (.iload_n 1, 1) := by decide +kernel
theorem dX11_firstGoingOn_27 : decode cX11_firstGoingOn 27 = .ok (.iload 5, 2) := by decide +kernel
theorem dX11_firstGoingOn_29 : decode cX11_firstGoingOn 29 = .ok (.isub, 1) := by decide +kernel
theorem dX11_firstGoingOn_30 : decode cX11_firstGoingOn 30 = .ok (.invokestatic 184, 3) := by decide +kernel
theorem dX11_firstGoingOn_33 : decode cX11_firstGoingOn 33 = .ok (.aload_n 0, 1) := by decide +kernel
theorem dX11_firstGoingOn_34 : decode cX11_firstGoingOn 34 = .ok (.iload 5, 2) := by decide +kernel
theorem dX11_firstGoingOn_36 : decode cX11_firstGoingOn 36 = .ok (.iaload, 1) := by decide +kernel
theorem dX11_firstGoingOn_37 : decode cX11_firstGoingOn 37 = .ok (.iadd, 1) := by decide +kernel
theorem dX11_firstGoingOn_38 : decode cX11_firstGoingOn 38 = .ok (.iload_n 3, 1) := by decide +kernel
theorem dX11_firstGoingOn_39 : decode cX11_firstGoingOn 39 = .ok (.if_icmp .ne 6, 3) := by decide +kernel
theorem dX11_firstGoingOn_42 : decode cX11_firstGoingOn 42 = .ok (.iload 5, 2) := by decide +kernel
theorem dX11_firstGoingOn_44 : decode cX11_firstGoingOn 44 = .ok (.ireturn, 1) := by decide +kernel
theorem dX11_firstGoingOn_45 : decode cX11_firstGoingOn 45 = .ok (.iinc 5 1, 3) := by decide +kernel
theorem dX11_firstGoingOn_48 : decode cX11_firstGoingOn 48 = .ok (.goto (-29), 3) := by decide +kernel
theorem dX11_firstGoingOn_51 : decode cX11_firstGoingOn 51 = .ok (.iload_n 1, 1) := by decide +kernel
theorem dX11_firstGoingOn_52 : decode cX11_firstGoingOn 52 = .ok (.ireturn, 1) := by decide +kernel
theorem dX11_greatestBorne_0 : decode cX11_greatestBorne 0 = .ok (.iload_n 2, 1) := by decide +kernel
theorem dX11_greatestBorne_1 : decode cX11_greatestBorne 1 = .ok (.invokestatic 281, 3) := by decide +kernel
theorem dX11_greatestBorne_4 : decode cX11_greatestBorne 4 = .ok (.istore_n 3, 1) := by decide +kernel
theorem dX11_greatestBorne_5 : decode cX11_greatestBorne 5 = .ok (.aload_n 0, 1) := by decide +kernel
theorem dX11_greatestBorne_6 : decode cX11_greatestBorne 6 = .ok (.aload_n 1, 1) := by decide +kernel
theorem dX11_greatestBorne_7 : decode cX11_greatestBorne 7 = .ok (.iload_n 2, 1) := by decide +kernel
theorem dX11_greatestBorne_8 : decode cX11_greatestBorne 8 = .ok (.invokestatic 148, 3) := by decide +kernel
theorem dX11_greatestBorne_11 : decode cX11_greatestBorne 11 = .ok (.istore 4, 2) := by decide +kernel
theorem dX11_greatestBorne_13 : decode cX11_greatestBorne 13 = .ok (.bipush 20, 2) := by decide +kernel
theorem dX11_greatestBorne_15 : decode cX11_greatestBorne 15 = .ok (.istore 5, 2) := by decide +kernel
theorem dX11_greatestBorne_17 : decode cX11_greatestBorne 17 = .ok (.bipush 60, 2) := by decide +kernel
theorem dX11_greatestBorne_19 : decode cX11_greatestBorne 19 = .ok (.iload_n 3, 1) := by decide +kernel
theorem dX11_greatestBorne_20 : decode cX11_greatestBorne 20 = .ok (.bipush 20, 2) := by decide +kernel
theorem dX11_greatestBorne_22 : decode cX11_greatestBorne 22 = .ok (.iadd, 1) := by decide +kernel
theorem dX11_greatestBorne_23 : decode cX11_greatestBorne 23 = .ok (.invokestatic 337, 3) := by decide +kernel
theorem dX11_greatestBorne_26 : decode cX11_greatestBorne 26 = .ok (.istore 6, 2) := by decide +kernel
theorem dX11_greatestBorne_28 : decode cX11_greatestBorne 28 = .ok (.iconst 1, 1) := by decide +kernel
theorem dX11_greatestBorne_29 : decode cX11_greatestBorne 29 = .ok (.iload_n 3, 1) := by decide +kernel
theorem dX11_greatestBorne_30 : decode cX11_greatestBorne 30 = .ok (.bipush 20, 2) := by decide +kernel
theorem dX11_greatestBorne_32 : decode cX11_greatestBorne 32 = .ok (.isub, 1) := by decide +kernel
theorem dX11_greatestBorne_33 : decode cX11_greatestBorne 33 = .ok (.invokestatic 344, 3) := by decide +kernel
theorem dX11_greatestBorne_36 : decode cX11_greatestBorne 36 = .ok (.istore 7, 2) := by decide +kernel
theorem dX11_greatestBorne_38 : decode cX11_greatestBorne 38 = .ok (.iload 7, 2) := by decide +kernel
theorem dX11_greatestBorne_40 : decode cX11_greatestBorne 40 = .ok (.iload 6, 2) := by decide +kernel
theorem dX11_greatestBorne_42 : decode cX11_greatestBorne 42 = .ok (.if_icmp .gt 45, 3) := by decide +kernel
theorem dX11_greatestBorne_45 : decode cX11_greatestBorne 45 = .ok (.aload_n 0, 1) := by decide +kernel
theorem dX11_greatestBorne_46 : decode cX11_greatestBorne 46 = .ok (.aload_n 1, 1) := by decide +kernel
theorem dX11_greatestBorne_47 : decode cX11_greatestBorne 47 = .ok (.iload_n 2, 1) := by decide +kernel
theorem dX11_greatestBorne_48 : decode cX11_greatestBorne 48 = .ok (.iload 7, 2) := by decide +kernel
theorem dX11_greatestBorne_50 : decode cX11_greatestBorne 50 = .ok (.iload_n 3, 1) := by decide +kernel
theorem dX11_greatestBorne_51 : decode cX11_greatestBorne 51 = .ok (.isub, 1) := by decide +kernel
theorem dX11_greatestBorne_52 : decode cX11_greatestBorne 52 = .ok (.sipush 10000, 3) := by decide +kernel
theorem dX11_greatestBorne_55 : decode cX11_greatestBorne 55 = .ok (.imul, 1) := by decide +kernel
theorem dX11_greatestBorne_56 : decode cX11_greatestBorne 56 = .ok (.iadd, 1) := by decide +kernel
theorem dX11_greatestBorne_57 : decode cX11_greatestBorne 57 = .ok (.invokestatic 148, 3) := by decide +kernel
theorem dX11_greatestBorne_60 : decode cX11_greatestBorne 60 = .ok (.iload 4, 2) := by decide +kernel
theorem dX11_greatestBorne_62 : decode cX11_greatestBorne 62 = .ok (.if_icmp .eq 19, 3) := by decide +kernel
theorem dX11_greatestBorne_65 : decode cX11_greatestBorne 65 = .ok (.iload 5, 2) := by decide +kernel
theorem dX11_greatestBorne_67 : decode cX11_greatestBorne 67 = .ok (.iload 7, 2) := by decide +kernel
theorem dX11_greatestBorne_69 : decode cX11_greatestBorne 69 = .ok (.iload_n 3, 1) := by decide +kernel
theorem dX11_greatestBorne_70 : decode cX11_greatestBorne 70 = .ok (.isub, 1) := by decide +kernel
theorem dX11_greatestBorne_71 : decode cX11_greatestBorne 71 = .ok (.invokestatic 184, 3) := by decide +kernel
theorem dX11_greatestBorne_74 : decode cX11_greatestBorne 74 = .ok (.iconst 1, 1) := by decide +kernel
theorem dX11_greatestBorne_75 : decode cX11_greatestBorne 75 = .ok (.isub, 1) := by decide +kernel
theorem dX11_greatestBorne_76 : decode cX11_greatestBorne 76 = .ok (.invokestatic 337, 3) := by decide +kernel
theorem dX11_greatestBorne_79 : decode cX11_greatestBorne 79 = .ok (.istore 5, 2) := by decide +kernel
theorem dX11_greatestBorne_81 : decode cX11_greatestBorne 81 = .ok (.iinc 7 1, 3) := by decide +kernel
theorem dX11_greatestBorne_84 : decode cX11_greatestBorne 84 = .ok (.goto (-46), 3) := by decide +kernel
theorem dX11_greatestBorne_87 : decode cX11_greatestBorne 87 = .ok (.iload 5, 2) := by decide +kernel
theorem dX11_greatestBorne_89 : decode cX11_greatestBorne 89 = .ok (.ireturn, 1) := by decide +kernel
theorem dX11_offFilm_0 : decode cX11_offFilm 0 = .ok (.aload_n 0, 1) := by decide +kernel
theorem dX11_offFilm_1 : decode cX11_offFilm 1 = .ok (.aload_n 0, 1) := by decide +kernel
theorem dX11_offFilm_2 : decode cX11_offFilm 2 = .ok (.getfield 10, 3) := by decide +kernel
theorem dX11_offFilm_5 : decode cX11_offFilm 5 = .ok (.getfield 228, 3) := by decide +kernel
theorem dX11_offFilm_8 : decode cX11_offFilm 8 = .ok (.iload_n 2, 1) := by decide +kernel
theorem dX11_offFilm_9 : decode cX11_offFilm 9 = .ok (.iaload, 1) := by decide +kernel
theorem dX11_offFilm_10 : decode cX11_offFilm 10 = .ok (.invokevirtual 81, 3) := by decide +kernel
theorem dX11_offFilm_13 : decode cX11_offFilm 13 = .ok (.astore_n 3, 1) := by decide +kernel
theorem dX11_offFilm_14 : decode cX11_offFilm 14 = .ok (.aload_n 3, 1) := by decide +kernel
theorem dX11_offFilm_15 : decode cX11_offFilm 15 = .ok (.ifnonnull 6, 3) := by decide +kernel
theorem dX11_offFilm_18 : decode cX11_offFilm 18 = .ok (.ldc 217, 2) := by decide +kernel
theorem dX11_offFilm_20 : decode cX11_offFilm 20 = .ok (.ireturn, 1) := by decide +kernel
theorem dX11_offFilm_21 : decode cX11_offFilm 21 = .ok (.aload_n 1, 1) := by decide +kernel
theorem dX11_offFilm_22 : decode cX11_offFilm 22 = .ok (.aload_n 3, 1) := by decide +kernel
theorem dX11_offFilm_23 : decode cX11_offFilm 23 = .ok (.aload_n 0, 1) := by decide +kernel
theorem dX11_offFilm_24 : decode cX11_offFilm 24 = .ok (.getfield 10, 3) := by decide +kernel
theorem dX11_offFilm_27 : decode cX11_offFilm 27 = .ok (.getfield 231, 3) := by decide +kernel
theorem dX11_offFilm_30 : decode cX11_offFilm 30 = .ok (.iload_n 2, 1) := by decide +kernel
theorem dX11_offFilm_31 : decode cX11_offFilm 31 = .ok (.iaload, 1) := by decide +kernel
theorem dX11_offFilm_32 : decode cX11_offFilm 32 = .ok (.invokestatic 144, 3) := by decide +kernel
theorem dX11_offFilm_35 : decode cX11_offFilm 35 = .ok (.aload_n 0, 1) := by decide +kernel
theorem dX11_offFilm_36 : decode cX11_offFilm 36 = .ok (.getfield 10, 3) := by decide +kernel
theorem dX11_offFilm_39 : decode cX11_offFilm 39 = .ok (.getfield 234, 3) := by decide +kernel
theorem dX11_offFilm_42 : decode cX11_offFilm 42 = .ok (.iload_n 2, 1) := by decide +kernel
theorem dX11_offFilm_43 : decode cX11_offFilm 43 = .ok (.iaload, 1) := by decide +kernel
theorem dX11_offFilm_44 : decode cX11_offFilm 44 = .ok (.isub, 1) := by decide +kernel
theorem dX11_offFilm_45 : decode cX11_offFilm 45 = .ok (.invokestatic 184, 3) := by decide +kernel
theorem dX11_offFilm_48 : decode cX11_offFilm 48 = .ok (.ireturn, 1) := by decide +kernel
theorem dX11_offAllFilms_0 : decode cX11_offAllFilms 0 = .ok (.iconst 0, 1) := by decide +kernel
theorem dX11_offAllFilms_1 : decode cX11_offAllFilms 1 = .ok (.istore_n 2, 1) := by decide +kernel
theorem dX11_offAllFilms_2 : decode cX11_offAllFilms 2 = .ok (.iconst 0, 1) := by decide +kernel
theorem dX11_offAllFilms_3 : decode cX11_offAllFilms 3 = .ok (.istore_n 3, 1) := by decide +kernel
theorem dX11_offAllFilms_4 : decode cX11_offAllFilms 4 = .ok (.iload_n 3, 1) := by decide +kernel
theorem dX11_offAllFilms_5 : decode cX11_offAllFilms 5 = .ok (.aload_n 0, 1) := by decide +kernel
theorem dX11_offAllFilms_6 : decode cX11_offAllFilms 6 = .ok (.getfield 10, 3) := by decide +kernel
theorem dX11_offAllFilms_9 : decode cX11_offAllFilms 9 = .ok (.getfield 225, 3) := by decide +kernel
theorem dX11_offAllFilms_12 : decode cX11_offAllFilms 12 = .ok (.if_icmp .ge 18, 3) := by decide +kernel
theorem dX11_offAllFilms_15 : decode cX11_offAllFilms 15 = .ok (.iload_n 2, 1) := by decide +kernel
theorem dX11_offAllFilms_16 : decode cX11_offAllFilms 16 = .ok (.aload_n 0, 1) := by decide +kernel
theorem dX11_offAllFilms_17 : decode cX11_offAllFilms 17 = .ok (.aload_n 1, 1) := by decide +kernel
theorem dX11_offAllFilms_18 : decode cX11_offAllFilms 18 = .ok (.iload_n 3, 1) := by decide +kernel
theorem dX11_offAllFilms_19 : decode cX11_offAllFilms 19 = .ok (.invokevirtual 241, 3) := by decide +kernel
theorem dX11_offAllFilms_22 : decode cX11_offAllFilms 22 = .ok (.iadd, 1) := by decide +kernel
theorem dX11_offAllFilms_23 : decode cX11_offAllFilms 23 = .ok (.istore_n 2, 1) := by decide +kernel
theorem dX11_offAllFilms_24 : decode cX11_offAllFilms 24 = .ok (.iinc 3 1, 3) := by decide +kernel
theorem dX11_offAllFilms_27 : decode cX11_offAllFilms 27 = .ok (.goto (-23), 3) := by decide +kernel
theorem dX11_offAllFilms_30 : decode cX11_offAllFilms 30 = .ok (.iload_n 2, 1) := by decide +kernel
theorem dX11_offAllFilms_31 : decode cX11_offAllFilms 31 = .ok (.ireturn, 1) := by decide +kernel
theorem dX11_lawsApart_0 : decode cX11_lawsApart 0 = .ok (.sipush 999, 3) := by decide +kernel
theorem dX11_lawsApart_3 : decode cX11_lawsApart 3 = .ok (.istore_n 3, 1) := by decide +kernel
theorem dX11_lawsApart_4 : decode cX11_lawsApart 4 = .ok (.iconst 0, 1) := by decide +kernel
theorem dX11_lawsApart_5 : decode cX11_lawsApart 5 = .ok (.istore 4, 2) := by decide +kernel
theorem dX11_lawsApart_7 : decode cX11_lawsApart 7 = .ok (.iconst 0, 1) := by decide +kernel
theorem dX11_lawsApart_8 : decode cX11_lawsApart 8 = .ok (.istore 5, 2) := by decide +kernel
theorem dX11_lawsApart_10 : decode cX11_lawsApart 10 = .ok (.iload 5, 2) := by decide +kernel
theorem dX11_lawsApart_12 : decode cX11_lawsApart 12 = .ok (.aload_n 0, 1) := by decide +kernel
theorem dX11_lawsApart_13 : decode cX11_lawsApart 13 = .ok (.getfield 10, 3) := by decide +kernel
theorem dX11_lawsApart_16 : decode cX11_lawsApart 16 = .ok (.getfield 97, 3) := by decide +kernel
theorem dX11_lawsApart_19 : decode cX11_lawsApart 19 = .ok (.if_icmp .ge 47, 3) := by decide +kernel
theorem dX11_lawsApart_22 : decode cX11_lawsApart 22 = .ok (.aload_n 0, 1) := by decide +kernel
theorem dX11_lawsApart_23 : decode cX11_lawsApart 23 = .ok (.iload 5, 2) := by decide +kernel
theorem dX11_lawsApart_25 : decode cX11_lawsApart 25 = .ok (.invokevirtual 115, 3) := by decide +kernel
theorem dX11_lawsApart_28 : decode cX11_lawsApart 28 = .ok (.astore 6, 2) := by decide +kernel
theorem dX11_lawsApart_30 : decode cX11_lawsApart 30 = .ok (.aload 6, 2) := by decide +kernel
theorem dX11_lawsApart_32 : decode cX11_lawsApart 32 = .ok (.ifnull 28, 3) := by decide +kernel
theorem dX11_lawsApart_35 : decode cX11_lawsApart 35 = .ok (.aload 6, 2) := by decide +kernel
theorem dX11_lawsApart_37 : decode cX11_lawsApart 37 = .ok (.aload_n 1, 1) := by decide +kernel
theorem dX11_lawsApart_38 : decode cX11_lawsApart 38 = .ok (.iload_n 2, 1) := by decide +kernel
theorem dX11_lawsApart_39 : decode cX11_lawsApart 39 = .ok (.invokestatic 144, 3) := by decide +kernel
theorem dX11_lawsApart_42 : decode cX11_lawsApart 42 = .ok (.istore 7, 2) := by decide +kernel
theorem dX11_lawsApart_44 : decode cX11_lawsApart 44 = .ok (.iload_n 3, 1) := by decide +kernel
theorem dX11_lawsApart_45 : decode cX11_lawsApart 45 = .ok (.iload 7, 2) := by decide +kernel
theorem dX11_lawsApart_47 : decode cX11_lawsApart 47 = .ok (.invokestatic 337, 3) := by decide +kernel
theorem dX11_lawsApart_50 : decode cX11_lawsApart 50 = .ok (.istore_n 3, 1) := by decide +kernel
theorem dX11_lawsApart_51 : decode cX11_lawsApart 51 = .ok (.iload 4, 2) := by decide +kernel
theorem dX11_lawsApart_53 : decode cX11_lawsApart 53 = .ok (.iload 7, 2) := by decide +kernel
theorem dX11_lawsApart_55 : decode cX11_lawsApart 55 = .ok (.invokestatic 344, 3) := by decide +kernel
theorem dX11_lawsApart_58 : decode cX11_lawsApart 58 = .ok (.istore 4, 2) := by decide +kernel
theorem dX11_lawsApart_60 : decode cX11_lawsApart 60 = .ok (.iinc 5 1, 3) := by decide +kernel
theorem dX11_lawsApart_63 : decode cX11_lawsApart 63 = .ok (.goto (-53), 3) := by decide +kernel
theorem dX11_lawsApart_66 : decode cX11_lawsApart 66 = .ok (.iload 4, 2) := by decide +kernel
theorem dX11_lawsApart_68 : decode cX11_lawsApart 68 = .ok (.iload_n 3, 1) := by decide +kernel
theorem dX11_lawsApart_69 : decode cX11_lawsApart 69 = .ok (.isub, 1) := by decide +kernel
theorem dX11_lawsApart_70 : decode cX11_lawsApart 70 = .ok (.ireturn, 1) := by decide +kernel
theorem dX12_init_0 : decode cX12_init 0 = .ok (.aload_n 0, 1) := by decide +kernel
theorem dX12_init_1 : decode cX12_init 1 = .ok (.invokespecial 1, 3) := by decide +kernel
theorem dX12_init_4 : decode cX12_init 4 = .ok (.aload_n 0, 1) := by decide +kernel
theorem dX12_init_5 : decode cX12_init 5 = .ok (.sipush 1396, 3) := by decide +kernel
theorem dX12_init_8 : decode cX12_init 8 = .ok (.newarray .int, 2) := by decide +kernel
theorem dX12_init_10 : decode cX12_init 10 = .ok (.putfield 7, 3) := by decide +kernel
theorem dX12_init_13 : decode cX12_init 13 = .ok (.aload_n 0, 1) := by decide +kernel
theorem dX12_init_14 : decode cX12_init 14 = .ok (.sipush 1396, 3) := by decide +kernel
theorem dX12_init_17 : decode cX12_init 17 = .ok (.newarray .int, 2) := by decide +kernel
theorem dX12_init_19 : decode cX12_init 19 = .ok (.putfield 13, 3) := by decide +kernel
theorem dX12_init_22 : decode cX12_init 22 = .ok (.aload_n 0, 1) := by decide +kernel
theorem dX12_init_23 : decode cX12_init 23 = .ok (.iconst 5, 1) := by decide +kernel
theorem dX12_init_24 : decode cX12_init 24 = .ok (.newarray .int, 2) := by decide +kernel
theorem dX12_init_26 : decode cX12_init 26 = .ok (.putfield 16, 3) := by decide +kernel
theorem dX12_init_29 : decode cX12_init 29 = .ok (.aload_n 0, 1) := by decide +kernel
theorem dX12_init_30 : decode cX12_init 30 = .ok (.bipush 64, 2) := by decide +kernel
theorem dX12_init_32 : decode cX12_init 32 = .ok (.newarray .boolean, 2) := by decide +kernel
theorem dX12_init_34 : decode cX12_init 34 = .ok (.putfield 19, 3) := by decide +kernel
theorem dX12_init_37 : decode cX12_init 37 = .ok (.aload_n 0, 1) := by decide +kernel
theorem dX12_init_38 : decode cX12_init 38 = .ok (.bipush 20, 2) := by decide +kernel
theorem dX12_init_40 : decode cX12_init 40 = .ok (.newarray .int, 2) := by decide +kernel
theorem dX12_init_42 : decode cX12_init 42 = .ok (.putfield 23, 3) := by decide +kernel
theorem dX12_init_45 : decode cX12_init 45 = .ok (.aload_n 0, 1) := by decide +kernel
theorem dX12_init_46 : decode cX12_init 46 = .ok (.bipush 20, 2) := by decide +kernel
theorem dX12_init_48 : decode cX12_init 48 = .ok (.newarray .int, 2) := by decide +kernel
theorem dX12_init_50 : decode cX12_init 50 = .ok (.putfield 26, 3) := by decide +kernel
theorem dX12_init_53 : decode cX12_init 53 = .ok (.aload_n 0, 1) := by decide +kernel
theorem dX12_init_54 : decode cX12_init 54 = .ok (.bipush 20, 2) := by decide +kernel
theorem dX12_init_56 : decode cX12_init 56 = .ok (.newarray .int, 2) := by decide +kernel
theorem dX12_init_58 : decode cX12_init 58 = .ok (.putfield 29, 3) := by decide +kernel
theorem dX12_init_61 : decode cX12_init 61 = .ok (.aload_n 0, 1) := by decide +kernel
theorem dX12_init_62 : decode cX12_init 62 = .ok (.bipush 61, 2) := by decide +kernel
theorem dX12_init_64 : decode cX12_init 64 = .ok (.newarray .int, 2) := by decide +kernel
theorem dX12_init_66 : decode cX12_init 66 = .ok (.putfield 32, 3) := by decide +kernel
theorem dX12_init_69 : decode cX12_init 69 = .ok (.aload_n 0, 1) := by decide +kernel
theorem dX12_init_70 : decode cX12_init 70 = .ok (.bipush 61, 2) := by decide +kernel
theorem dX12_init_72 : decode cX12_init 72 = .ok (.newarray .int, 2) := by decide +kernel
theorem dX12_init_74 : decode cX12_init 74 = .ok (.putfield 35, 3) := by decide +kernel
theorem dX12_init_77 : decode cX12_init 77 = .ok (.aload_n 0, 1) := by decide +kernel
theorem dX12_init_78 : decode cX12_init 78 = .ok (.bipush 100, 2) := by decide +kernel
theorem dX12_init_80 : decode cX12_init 80 = .ok (.newarray .int, 2) := by decide +kernel
theorem dX12_init_82 : decode cX12_init 82 = .ok (.putfield 38, 3) := by decide +kernel
theorem dX12_init_85 : decode cX12_init 85 = .ok (.aload_n 0, 1) := by decide +kernel
theorem dX12_init_86 : decode cX12_init 86 = .ok (.sipush 900, 3) := by decide +kernel
theorem dX12_init_89 : decode cX12_init 89 = .ok (.newarray .int, 2) := by decide +kernel
theorem dX12_init_91 : decode cX12_init 91 = .ok (.putfield 41, 3) := by decide +kernel
theorem dX12_init_94 : decode cX12_init 94 = .ok (.aload_n 0, 1) := by decide +kernel
theorem dX12_init_95 : decode cX12_init 95 = .ok (.bipush 8, 2) := by decide +kernel
theorem dX12_init_97 : decode cX12_init 97 = .ok (.newarray .int, 2) := by decide +kernel
theorem dX12_init_99 : decode cX12_init 99 = .ok (.putfield 44, 3) := by decide +kernel
theorem dX12_init_102 : decode cX12_init 102 = .ok (.aload_n 0, 1) := by decide +kernel
theorem dX12_init_103 : decode cX12_init 103 = .ok (.bipush 20, 2) := by decide +kernel
theorem dX12_init_105 : decode cX12_init 105 = .ok (.newarray .int, 2) := by decide +kernel
theorem dX12_init_107 : decode cX12_init 107 = .ok (.putfield 47, 3) := by decide +kernel
theorem dX12_init_110 : decode cX12_init 110 = .ok (.return_, 1) := by decide +kernel
theorem dX12_in_0 : decode cX12_in 0 = .ok (.iload_n 0, 1) := by decide +kernel
theorem dX12_in_1 : decode cX12_in 1 = .ok (.iload_n 1, 1) := by decide +kernel
theorem dX12_in_2 : decode cX12_in 2 = .ok (.if_icmp .lt 12, 3) := by decide +kernel
theorem dX12_in_5 : decode cX12_in 5 = .ok (.iload_n 0, 1) := by decide +kernel
theorem dX12_in_6 : decode cX12_in 6 = .ok (.iload_n 2, 1) := by decide +kernel
theorem dX12_in_7 : decode cX12_in 7 = .ok (.if_icmp .gt 7, 3) := by decide +kernel
theorem dX12_in_10 : decode cX12_in 10 = .ok (.iconst 1, 1) := by decide +kernel
theorem dX12_in_11 : decode cX12_in 11 = .ok (.goto 4, 3) := by decide +kernel
theorem dX12_in_14 : decode cX12_in 14 = .ok (.iconst 0, 1) := by decide +kernel
theorem dX12_in_15 : decode cX12_in 15 = .ok (.ireturn, 1) := by decide +kernel
theorem dX12_size_0 : decode cX12_size 0 = .ok (.iload_n 0, 1) := by decide +kernel
theorem dX12_size_1 : decode cX12_size 1 = .ok (.ifCond .ge 8, 3) := by decide +kernel
theorem dX12_size_4 : decode cX12_size 4 = .ok (.iload_n 0, 1) := by decide +kernel
theorem dX12_size_5 : decode cX12_size 5 = .ok (.ineg, 1) := by decide +kernel
theorem dX12_size_6 : decode cX12_size 6 = .ok (.goto 4, 3) := by decide +kernel
theorem dX12_size_9 : decode cX12_size 9 = .ok (.iload_n 0, 1) := by decide +kernel
theorem dX12_size_10 : decode cX12_size 10 = .ok (.ireturn, 1) := by decide +kernel
theorem dX12_isStuff_0 : decode cX12_isStuff 0 = .ok (.iload_n 1, 1) := by decide +kernel
theorem dX12_isStuff_1 : decode cX12_isStuff 1 = .ok (.iconst 0, 1) := by decide +kernel
theorem dX12_isStuff_2 : decode cX12_isStuff 2 = .ok (.aload_n 0, 1) := by decide +kernel
theorem dX12_isStuff_3 : decode cX12_isStuff 3 = .ok (.getfield 7, 3) := by decide +kernel
theorem dX12_isStuff_6 : decode cX12_isStuff 6 = .ok (.iconst 0, 1) := by decide +kernel
theorem dX12_isStuff_7 : decode cX12_isStuff 7 = .ok (.iaload, 1) := by decide +kernel
theorem dX12_isStuff_8 : decode cX12_isStuff 8 = .ok (.iconst 1, 1) := by decide +kernel
theorem dX12_isStuff_9 : decode cX12_isStuff 9 = .ok (.isub, 1) := by decide +kernel
theorem dX12_isStuff_10 : decode cX12_isStuff 10 = .ok (.invokestatic 54, 3) := by decide +kernel
theorem dX12_isStuff_13 : decode cX12_isStuff 13 = .ok (.ireturn, 1) := by decide +kernel
theorem dX12_isLaw_0 : decode cX12_isLaw 0 = .ok (.iload_n 1, 1) := by decide +kernel
theorem dX12_isLaw_1 : decode cX12_isLaw 1 = .ok (.iconst 0, 1) := by decide +kernel
theorem dX12_isLaw_2 : decode cX12_isLaw 2 = .ok (.aload_n 0, 1) := by decide +kernel
theorem dX12_isLaw_3 : decode cX12_isLaw 3 = .ok (.getfield 7, 3) := by decide +kernel
theorem dX12_isLaw_6 : decode cX12_isLaw 6 = .ok (.iconst 1, 1) := by decide +kernel
theorem dX12_isLaw_7 : decode cX12_isLaw 7 = .ok (.iaload, 1) := by decide +kernel
theorem dX12_isLaw_8 : decode cX12_isLaw 8 = .ok (.iconst 1, 1) := by decide +kernel
theorem dX12_isLaw_9 : decode cX12_isLaw 9 = .ok (.isub, 1) := by decide +kernel
theorem dX12_isLaw_10 : decode cX12_isLaw 10 = .ok (.invokestatic 54, 3) := by decide +kernel
theorem dX12_isLaw_13 : decode cX12_isLaw 13 = .ok (.ireturn, 1) := by decide +kernel
theorem dX12_isFlow_0 : decode cX12_isFlow 0 = .ok (.iload_n 0, 1) := by decide +kernel
theorem dX12_isFlow_1 : decode cX12_isFlow 1 = .ok (.iconst 1, 1) := by decide +kernel
theorem dX12_isFlow_2 : decode cX12_isFlow 2 = .ok (.bipush 20, 2) := by decide +kernel
theorem dX12_isFlow_4 : decode cX12_isFlow 4 = .ok (.invokestatic 54, 3) := by decide +kernel
theorem dX12_isFlow_7 : decode cX12_isFlow 7 = .ok (.ireturn, 1) := by decide +kernel
theorem dX12_isDoing_0 : decode cX12_isDoing 0 = .ok (.iload_n 0, 1) := by decide +kernel
theorem dX12_isDoing_1 : decode cX12_isDoing 1 = .ok (.sipush 10000, 3) := by decide +kernel
theorem dX12_isDoing_4 : decode cX12_isDoing 4 = .ok (.ldc 58, 2) := by decide +kernel
theorem dX12_isDoing_6 : decode cX12_isDoing 6 = .ok (.invokestatic 54, 3) := by decide +kernel
theorem dX12_isDoing_9 : decode cX12_isDoing 9 = .ok (.ifCond .eq 23, 3) := by decide +kernel
theorem dX12_isDoing_12 : decode cX12_isDoing 12 = .ok (.iload_n 0, 1) := by decide +kernel
theorem dX12_isDoing_13 : decode cX12_isDoing 13 = .ok (.bipush 100, 2) := by decide +kernel
theorem dX12_isDoing_15 : decode cX12_isDoing 15 = .ok (.idiv, 1) := by decide +kernel
theorem dX12_isDoing_16 : decode cX12_isDoing 16 = .ok (.bipush 100, 2) := by decide +kernel
theorem dX12_isDoing_18 : decode cX12_isDoing 18 = .ok (.irem, 1) := by decide +kernel
theorem dX12_isDoing_19 : decode cX12_isDoing 19 = .ok (.iconst 1, 1) := by decide +kernel
theorem dX12_isDoing_20 : decode cX12_isDoing 20 = .ok (.bipush 20, 2) := by decide +kernel
theorem dX12_isDoing_22 : decode cX12_isDoing 22 = .ok (.invokestatic 54, 3) := by decide +kernel
theorem dX12_isDoing_25 : decode cX12_isDoing 25 = .ok (.ifCond .eq 7, 3) := by decide +kernel
theorem dX12_isDoing_28 : decode cX12_isDoing 28 = .ok (.iconst 1, 1) := by decide +kernel
theorem dX12_isDoing_29 : decode cX12_isDoing 29 = .ok (.goto 4, 3) := by decide +kernel
theorem dX12_isDoing_32 : decode cX12_isDoing 32 = .ok (.iconst 0, 1) := by decide +kernel
theorem dX12_isDoing_33 : decode cX12_isDoing 33 = .ok (.ireturn, 1) := by decide +kernel
theorem dX12_stuff_0 : decode cX12_stuff 0 = .ok (.iload_n 1, 1) := by decide +kernel
theorem dX12_stuff_1 : decode cX12_stuff 1 = .ok (.iconst 1, 1) := by decide +kernel
theorem dX12_stuff_2 : decode cX12_stuff 2 = .ok (.bipush 20, 2) := by decide +kernel
theorem dX12_stuff_4 : decode cX12_stuff 4 = .ok (.invokestatic 54, 3) := by decide +kernel
theorem dX12_stuff_7 : decode cX12_stuff 7 = .ok (.ifCond .eq 13, 3) := by decide +kernel
theorem dX12_stuff_10 : decode cX12_stuff 10 = .ok (.iload_n 2, 1) := by decide +kernel
theorem dX12_stuff_11 : decode cX12_stuff 11 = .ok (.iconst 1, 1) := by decide +kernel
theorem dX12_stuff_12 : decode cX12_stuff 12 = .ok (.bipush 20, 2) := by decide +kernel
theorem dX12_stuff_14 : decode cX12_stuff 14 = .ok (.invokestatic 54, 3) := by decide +kernel
theorem dX12_stuff_17 : decode cX12_stuff 17 = .ok (.ifCond .ne 6, 3) := by decide +kernel
theorem dX12_stuff_20 : decode cX12_stuff 20 = .ok (.bipush (-2), 2) := by decide +kernel
theorem dX12_stuff_22 : decode cX12_stuff 22 = .ok (.ireturn, 1) := by decide +kernel
theorem dX12_stuff_23 : decode cX12_stuff 23 = .ok (.aload_n 0, 1) := by decide +kernel
theorem dX12_stuff_24 : decode cX12_stuff 24 = .ok (.getfield 7, 3) := by decide +kernel
theorem dX12_stuff_27 : decode cX12_stuff 27 = .ok (.iconst 0, 1) := by decide +kernel
theorem dX12_stuff_28 : decode cX12_stuff 28 = .ok (.iaload, 1) := by decide +kernel
theorem dX12_stuff_29 : decode cX12_stuff 29 = .ok (.iconst 5, 1) := by decide +kernel
theorem dX12_stuff_30 : decode cX12_stuff 30 = .ok (.if_icmp .ne 6, 3) := by decide +kernel
theorem dX12_stuff_33 : decode cX12_stuff 33 = .ok (.bipush (-4), 2) := by decide +kernel
theorem dX12_stuff_35 : decode cX12_stuff 35 = .ok (.ireturn, 1) := by decide +kernel
theorem dX12_stuff_36 : decode cX12_stuff 36 = .ok (.aload_n 0, 1) := by decide +kernel
theorem dX12_stuff_37 : decode cX12_stuff 37 = .ok (.getfield 7, 3) := by decide +kernel
theorem dX12_stuff_40 : decode cX12_stuff 40 = .ok (.sipush 130, 3) := by decide +kernel
theorem dX12_stuff_43 : decode cX12_stuff 43 = .ok (.aload_n 0, 1) := by decide +kernel
theorem dX12_stuff_44 : decode cX12_stuff 44 = .ok (.getfield 7, 3) := by decide +kernel
theorem dX12_stuff_47 : decode cX12_stuff 47 = .ok (.iconst 0, 1) := by decide +kernel
theorem dX12_stuff_48 : decode cX12_stuff 48 = .ok (.iaload, 1) := by decide +kernel
theorem dX12_stuff_49 : decode cX12_stuff 49 = .ok (.iadd, 1) := by decide +kernel
theorem dX12_stuff_50 : decode cX12_stuff 50 = .ok (.iload_n 1, 1) := by decide +kernel
theorem dX12_stuff_51 : decode cX12_stuff 51 = .ok (.iastore, 1) := by decide +kernel
theorem dX12_stuff_52 : decode cX12_stuff 52 = .ok (.aload_n 0, 1) := by decide +kernel
theorem dX12_stuff_53 : decode cX12_stuff 53 = .ok (.getfield 7, 3) := by decide +kernel
theorem dX12_stuff_56 : decode cX12_stuff 56 = .ok (.sipush 135, 3) := by decide +kernel
theorem dX12_stuff_59 : decode cX12_stuff 59 = .ok (.aload_n 0, 1) := by decide +kernel
theorem dX12_stuff_60 : decode cX12_stuff 60 = .ok (.getfield 7, 3) := by decide +kernel
theorem dX12_stuff_63 : decode cX12_stuff 63 = .ok (.iconst 0, 1) := by decide +kernel
theorem dX12_stuff_64 : decode cX12_stuff 64 = .ok (.iaload, 1) := by decide +kernel
theorem dX12_stuff_65 : decode cX12_stuff 65 = .ok (.iadd, 1) := by decide +kernel
theorem dX12_stuff_66 : decode cX12_stuff 66 = .ok (.iload_n 2, 1) := by decide +kernel
theorem dX12_stuff_67 : decode cX12_stuff 67 = .ok (.iastore, 1) := by decide +kernel
theorem dX12_stuff_68 : decode cX12_stuff 68 = .ok (.aload_n 0, 1) := by decide +kernel
theorem dX12_stuff_69 : decode cX12_stuff 69 = .ok (.getfield 7, 3) := by decide +kernel
theorem dX12_stuff_72 : decode cX12_stuff 72 = .ok (.iconst 0, 1) := by decide +kernel
theorem dX12_stuff_73 : decode cX12_stuff 73 = .ok (.dup2, 1) := by decide +kernel
theorem dX12_stuff_74 : decode cX12_stuff 74 = .ok (.iaload, 1) := by decide +kernel
theorem dX12_stuff_75 : decode cX12_stuff 75 = .ok (.iconst 1, 1) := by decide +kernel
theorem dX12_stuff_76 : decode cX12_stuff 76 = .ok (.iadd, 1) := by decide +kernel
theorem dX12_stuff_77 : decode cX12_stuff 77 = .ok (.iastore, 1) := by decide +kernel
theorem dX12_stuff_78 : decode cX12_stuff 78 = .ok (.aload_n 0, 1) := by decide +kernel
theorem dX12_stuff_79 : decode cX12_stuff 79 = .ok (.getfield 7, 3) := by decide +kernel
theorem dX12_stuff_82 : decode cX12_stuff 82 = .ok (.iconst 0, 1) := by decide +kernel
theorem dX12_stuff_83 : decode cX12_stuff 83 = .ok (.iaload, 1) := by decide +kernel
theorem dX12_stuff_84 : decode cX12_stuff 84 = .ok (.iconst 1, 1) := by decide +kernel
theorem dX12_stuff_85 : decode cX12_stuff 85 = .ok (.isub, 1) := by decide +kernel
theorem dX12_stuff_86 : decode cX12_stuff 86 = .ok (.ireturn, 1) := by decide +kernel
theorem dX12_of_0 : decode cX12_of 0 = .ok (.aload_n 0, 1) := by decide +kernel
theorem dX12_of_1 : decode cX12_of 1 = .ok (.iload_n 1, 1) := by decide +kernel
theorem dX12_of_2 : decode cX12_of 2 = .ok (.invokevirtual 59, 3) := by decide +kernel
theorem dX12_of_5 : decode cX12_of 5 = .ok (.ifCond .eq 29, 3) := by decide +kernel
theorem dX12_of_8 : decode cX12_of 8 = .ok (.iload_n 2, 1) := by decide +kernel
theorem dX12_of_9 : decode cX12_of 9 = .ok (.iconst 0, 1) := by decide +kernel
theorem dX12_of_10 : decode cX12_of 10 = .ok (.iconst 1, 1) := by decide +kernel
theorem dX12_of_11 : decode cX12_of 11 = .ok (.invokestatic 54, 3) := by decide +kernel
theorem dX12_of_14 : decode cX12_of 14 = .ok (.ifCond .eq 20, 3) := by decide +kernel
theorem dX12_of_17 : decode cX12_of 17 = .ok (.aload_n 0, 1) := by decide +kernel
theorem dX12_of_18 : decode cX12_of 18 = .ok (.getfield 7, 3) := by decide +kernel
theorem dX12_of_21 : decode cX12_of 21 = .ok (.sipush 130, 3) := by decide +kernel
theorem dX12_of_24 : decode cX12_of 24 = .ok (.iconst 5, 1) := by decide +kernel
theorem dX12_of_25 : decode cX12_of 25 = .ok (.iload_n 2, 1) := by decide +kernel
theorem dX12_of_26 : decode cX12_of 26 = .ok (.imul, 1) := by decide +kernel
theorem dX12_of_27 : decode cX12_of 27 = .ok (.iadd, 1) := by decide +kernel
theorem dX12_of_28 : decode cX12_of 28 = .ok (.iload_n 1, 1) := by decide +kernel
theorem dX12_of_29 : decode cX12_of 29 = .ok (.iadd, 1) := by decide +kernel
theorem dX12_of_30 : decode cX12_of 30 = .ok (.iaload, 1) := by decide +kernel
theorem dX12_of_31 : decode cX12_of 31 = .ok (.goto 4, 3) := by decide +kernel
theorem dX12_of_34 : decode cX12_of 34 = .ok (.iconst (-1), 1) := by decide +kernel
theorem dX12_of_35 : decode cX12_of 35 = .ok (.ireturn, 1) := by decide +kernel
theorem dX12_feed_0 : decode cX12_feed 0 = .ok (.iload_n 3, 1) := by decide +kernel
theorem dX12_feed_1 : decode cX12_feed 1 = .ok (.iconst 1, 1) := by decide +kernel
theorem dX12_feed_2 : decode cX12_feed 2 = .ok (.bipush 8, 2) := by decide +kernel
theorem dX12_feed_4 : decode cX12_feed 4 = .ok (.invokestatic 54, 3) := by decide +kernel
theorem dX12_feed_7 : decode cX12_feed 7 = .ok (.ifCond .ne 6, 3) := by decide +kernel
theorem dX12_feed_10 : decode cX12_feed 10 = .ok (.bipush (-2), 2) := by decide +kernel
theorem dX12_feed_12 : decode cX12_feed 12 = .ok (.ireturn, 1) := by decide +kernel
theorem dX12_feed_13 : decode cX12_feed 13 = .ok (.aload_n 0, 1) := by decide +kernel
theorem dX12_feed_14 : decode cX12_feed 14 = .ok (.getfield 7, 3) := by decide +kernel
theorem dX12_feed_17 : decode cX12_feed 17 = .ok (.iconst 5, 1) := by decide +kernel
theorem dX12_feed_18 : decode cX12_feed 18 = .ok (.iaload, 1) := by decide +kernel
theorem dX12_feed_19 : decode cX12_feed 19 = .ok (.iload_n 3, 1) := by decide +kernel
theorem dX12_feed_20 : decode cX12_feed 20 = .ok (.iadd, 1) := by decide +kernel
theorem dX12_feed_21 : decode cX12_feed 21 = .ok (.bipush 120, 2) := by decide +kernel
theorem dX12_feed_23 : decode cX12_feed 23 = .ok (.if_icmp .le 6, 3) := by decide +kernel
theorem dX12_feed_26 : decode cX12_feed 26 = .ok (.bipush (-4), 2) := by decide +kernel
theorem dX12_feed_28 : decode cX12_feed 28 = .ok (.ireturn, 1) := by decide +kernel
theorem dX12_feed_29 : decode cX12_feed 29 = .ok (.iload_n 3, 1) := by decide +kernel
theorem dX12_feed_30 : decode cX12_feed 30 = .ok (.iconst 1, 1) := by decide +kernel
theorem dX12_feed_31 : decode cX12_feed 31 = .ok (.isub, 1) := by decide +kernel
theorem dX12_feed_32 : decode cX12_feed 32 = .ok (.istore 4, 2) := by decide +kernel
theorem dX12_feed_34 : decode cX12_feed 34 = .ok (.iload 4, 2) := by decide +kernel
theorem dX12_feed_36 : decode cX12_feed 36 = .ok (.ifCond .lt 45, 3) := by decide +kernel
theorem dX12_feed_39 : decode cX12_feed 39 = .ok (.aload_n 0, 1) := by decide +kernel
theorem dX12_feed_40 : decode cX12_feed 40 = .ok (.getfield 7, 3) := by decide +kernel
theorem dX12_feed_43 : decode cX12_feed 43 = .ok (.bipush 10, 2) := by decide +kernel
theorem dX12_feed_45 : decode cX12_feed 45 = .ok (.aload_n 0, 1) := by decide +kernel
theorem dX12_feed_46 : decode cX12_feed 46 = .ok (.getfield 7, 3) := by decide +kernel
theorem dX12_feed_49 : decode cX12_feed 49 = .ok (.iconst 5, 1) := by decide +kernel
theorem dX12_feed_50 : decode cX12_feed 50 = .ok (.iaload, 1) := by decide +kernel
theorem dX12_feed_51 : decode cX12_feed 51 = .ok (.iadd, 1) := by decide +kernel
theorem dX12_feed_52 : decode cX12_feed 52 = .ok (.lload_n 1, 1) := by decide +kernel
theorem dX12_feed_53 : decode cX12_feed 53 = .ok (.bipush 8, 2) := by decide +kernel
theorem dX12_feed_55 : decode cX12_feed 55 = .ok (.iload 4, 2) := by decide +kernel
theorem dX12_feed_57 : decode cX12_feed 57 = .ok (.imul, 1) := by decide +kernel
theorem dX12_feed_58 : decode cX12_feed 58 = .ok (.lshr, 1) := by decide +kernel
theorem dX12_feed_59 : decode cX12_feed 59 = .ok (.ldc2_w 63, 3) := by decide +kernel
theorem dX12_feed_62 : decode cX12_feed 62 = .ok (.land, 1) := by decide +kernel
theorem dX12_feed_63 : decode cX12_feed 63 = .ok (.l2i, 1) := by decide +kernel
theorem dX12_feed_64 : decode cX12_feed 64 = .ok (.iastore, 1) := by decide +kernel
theorem dX12_feed_65 : decode cX12_feed 65 = .ok (.aload_n 0, 1) := by decide +kernel
theorem dX12_feed_66 : decode cX12_feed 66 = .ok (.getfield 7, 3) := by decide +kernel
theorem dX12_feed_69 : decode cX12_feed 69 = .ok (.iconst 5, 1) := by decide +kernel
theorem dX12_feed_70 : decode cX12_feed 70 = .ok (.dup2, 1) := by decide +kernel
theorem dX12_feed_71 : decode cX12_feed 71 = .ok (.iaload, 1) := by decide +kernel
theorem dX12_feed_72 : decode cX12_feed 72 = .ok (.iconst 1, 1) := by decide +kernel
theorem dX12_feed_73 : decode cX12_feed 73 = .ok (.iadd, 1) := by decide +kernel
theorem dX12_feed_74 : decode cX12_feed 74 = .ok (.iastore, 1) := by decide +kernel
theorem dX12_feed_75 : decode cX12_feed 75 = .ok (.iinc 4 (-1), 3) := by decide +kernel
theorem dX12_feed_78 : decode cX12_feed 78 = .ok (.goto (-44), 3) := by decide +kernel
theorem dX12_feed_81 : decode cX12_feed 81 = .ok (.aload_n 0, 1) := by decide +kernel
theorem dX12_feed_82 : decode cX12_feed 82 = .ok (.getfield 7, 3) := by decide +kernel
theorem dX12_feed_85 : decode cX12_feed 85 = .ok (.iconst 5, 1) := by decide +kernel
theorem dX12_feed_86 : decode cX12_feed 86 = .ok (.iaload, 1) := by decide +kernel
theorem dX12_feed_87 : decode cX12_feed 87 = .ok (.ireturn, 1) := by decide +kernel
theorem dX12_here_0 : decode cX12_here 0 = .ok (.aload_n 0, 1) := by decide +kernel
theorem dX12_here_1 : decode cX12_here 1 = .ok (.getfield 65, 3) := by decide +kernel
theorem dX12_here_4 : decode cX12_here 4 = .ok (.aload_n 0, 1) := by decide +kernel
theorem dX12_here_5 : decode cX12_here 5 = .ok (.getfield 68, 3) := by decide +kernel
theorem dX12_here_8 : decode cX12_here 8 = .ok (.if_icmp .ge 18, 3) := by decide +kernel
theorem dX12_here_11 : decode cX12_here 11 = .ok (.aload_n 0, 1) := by decide +kernel
theorem dX12_here_12 : decode cX12_here 12 = .ok (.getfield 7, 3) := by decide +kernel
theorem dX12_here_15 : decode cX12_here 15 = .ok (.bipush 10, 2) := by decide +kernel
theorem dX12_here_17 : decode cX12_here 17 = .ok (.aload_n 0, 1) := by decide +kernel
theorem dX12_here_18 : decode cX12_here 18 = .ok (.getfield 65, 3) := by decide +kernel
theorem dX12_here_21 : decode cX12_here 21 = .ok (.iadd, 1) := by decide +kernel
theorem dX12_here_22 : decode cX12_here 22 = .ok (.iaload, 1) := by decide +kernel
theorem dX12_here_23 : decode cX12_here 23 = .ok (.goto 4, 3) := by decide +kernel
theorem dX12_here_26 : decode cX12_here 26 = .ok (.iconst (-1), 1) := by decide +kernel
theorem dX12_here_27 : decode cX12_here 27 = .ok (.ireturn, 1) := by decide +kernel
theorem dX12_must_0 : decode cX12_must 0 = .ok (.aload_n 0, 1) := by decide +kernel
theorem dX12_must_1 : decode cX12_must 1 = .ok (.aload_n 0, 1) := by decide +kernel
theorem dX12_must_2 : decode cX12_must 2 = .ok (.getfield 71, 3) := by decide +kernel
theorem dX12_must_5 : decode cX12_must 5 = .ok (.ifCond .ne 11, 3) := by decide +kernel
theorem dX12_must_8 : decode cX12_must 8 = .ok (.aload_n 0, 1) := by decide +kernel
theorem dX12_must_9 : decode cX12_must 9 = .ok (.invokevirtual 75, 3) := by decide +kernel
theorem dX12_must_12 : decode cX12_must 12 = .ok (.iload_n 1, 1) := by decide +kernel
theorem dX12_must_13 : decode cX12_must 13 = .ok (.if_icmp .eq 7, 3) := by decide +kernel
theorem dX12_must_16 : decode cX12_must 16 = .ok (.iconst 1, 1) := by decide +kernel
theorem dX12_must_17 : decode cX12_must 17 = .ok (.goto 4, 3) := by decide +kernel
theorem dX12_must_20 : decode cX12_must 20 = .ok (.iconst 0, 1) := by decide +kernel
theorem dX12_must_21 : decode cX12_must 21 = .ok (.putfield 71, 3) := by decide +kernel
theorem dX12_must_24 : decode cX12_must 24 = .ok (.aload_n 0, 1) := by decide +kernel
theorem dX12_must_25 : decode cX12_must 25 = .ok (.dup, 1) := by decide +kernel
theorem dX12_must_26 : decode cX12_must 26 = .ok (.getfield 65, 3) := by decide +kernel
theorem dX12_must_29 : decode cX12_must 29 = .ok (.aload_n 0, 1) := by decide +kernel
theorem dX12_must_30 : decode cX12_must 30 = .ok (.getfield 71, 3) := by decide +kernel
theorem dX12_must_33 : decode cX12_must 33 = .ok (.ifCond .eq 7, 3) := by decide +kernel
theorem dX12_must_36 : decode cX12_must 36 = .ok (.iconst 0, 1) := by decide +kernel
theorem dX12_must_37 : decode cX12_must 37 = .ok (.goto 4, 3) := by decide +kernel
theorem dX12_must_40 : decode cX12_must 40 = .ok (.iconst 1, 1) := by decide +kernel
theorem dX12_must_41 : decode cX12_must 41 = .ok (.iadd, 1) := by decide +kernel
theorem dX12_must_42 : decode cX12_must 42 = .ok (.putfield 65, 3) := by decide +kernel
theorem dX12_must_45 : decode cX12_must 45 = .ok (.return_, 1) := by decide +kernel
theorem dX12_spells_0 : decode cX12_spells 0 = .ok (.iconst 0, 1) := by decide +kernel
theorem dX12_spells_1 : decode cX12_spells 1 = .ok (.istore_n 2, 1) := by decide +kernel
theorem dX12_spells_2 : decode cX12_spells 2 = .ok (.iload_n 2, 1) := by decide +kernel
theorem dX12_spells_3 : decode cX12_spells 3 = .ok (.aload_n 1, 1) := by decide +kernel
theorem dX12_spells_4 : decode cX12_spells 4 = .ok (.invokevirtual 79, 3) := by decide +kernel
theorem dX12_spells_7 : decode cX12_spells 7 = .ok (.if_icmp .ge 18, 3) := by decide +kernel
theorem dX12_spells_10 : decode cX12_spells 10 = .ok (.aload_n 0, 1) := by decide +kernel
theorem dX12_spells_11 : decode cX12_spells 11 = .ok (.aload_n 1, 1) := by decide +kernel
theorem dX12_spells_12 : decode cX12_spells 12 = .ok (.iload_n 2, 1) := by decide +kernel
theorem dX12_spells_13 : decode cX12_spells 13 = .ok (.invokevirtual 84, 3) := by decide +kernel
theorem dX12_spells_16 : decode cX12_spells 16 = .ok (.invokevirtual 88, 3) := by decide +kernel
theorem dX12_spells_19 : decode cX12_spells 19 = .ok (.iinc 2 1, 3) := by decide +kernel
theorem dX12_spells_22 : decode cX12_spells 22 = .ok (.goto (-20), 3) := by decide +kernel
theorem dX12_spells_25 : decode cX12_spells 25 = .ok (.return_, 1) := by decide +kernel
theorem dX12_figures_0 : decode cX12_figures 0 = .ok (.aload_n 0, 1) := by decide +kernel
theorem dX12_figures_1 : decode cX12_figures 1 = .ok (.aload_n 0, 1) := by decide +kernel
theorem dX12_figures_2 : decode cX12_figures 2 = .ok (.getfield 71, 3) := by decide +kernel
theorem dX12_figures_5 : decode cX12_figures 5 = .ok (.ifCond .ne 17, 3) := by decide +kernel
theorem dX12_figures_8 : decode cX12_figures 8 = .ok (.aload_n 0, 1) := by decide +kernel
theorem dX12_figures_9 : decode cX12_figures 9 = .ok (.invokevirtual 75, 3) := by decide +kernel
theorem dX12_figures_12 : decode cX12_figures 12 = .ok (.bipush 48, 2) := by decide +kernel
theorem dX12_figures_14 : decode cX12_figures 14 = .ok (.bipush 57, 2) := by decide +kernel
theorem dX12_figures_16 : decode cX12_figures 16 = .ok (.invokestatic 54, 3) := by decide +kernel
theorem dX12_figures_19 : decode cX12_figures 19 = .ok (.ifCond .ne 7, 3) := by decide +kernel
theorem dX12_figures_22 : decode cX12_figures 22 = .ok (.iconst 1, 1) := by decide +kernel
theorem dX12_figures_23 : decode cX12_figures 23 = .ok (.goto 4, 3) := by decide +kernel
theorem dX12_figures_26 : decode cX12_figures 26 = .ok (.iconst 0, 1) := by decide +kernel
theorem dX12_figures_27 : decode cX12_figures 27 = .ok (.putfield 71, 3) := by decide +kernel
theorem dX12_figures_30 : decode cX12_figures 30 = .ok (.iconst 0, 1) := by decide +kernel
theorem dX12_figures_31 : decode cX12_figures 31 = .ok (.istore_n 1, 1) := by decide +kernel
theorem dX12_figures_32 : decode cX12_figures 32 = .ok (.iconst 0, 1) := by decide +kernel
theorem dX12_figures_33 : decode cX12_figures 33 = .ok (.istore_n 2, 1) := by decide +kernel
theorem dX12_figures_34 : decode cX12_figures 34 = .ok (.iload_n 2, 1) := by decide +kernel
theorem dX12_figures_35 : decode cX12_figures 35 = .ok (.iconst 2, 1) := by decide +kernel
theorem dX12_figures_36 : decode cX12_figures 36 = .ok (.if_icmp .ge 61, 3) := by decide +kernel
theorem dX12_figures_39 : decode cX12_figures 39 = .ok (.aload_n 0, 1) := by decide +kernel
theorem dX12_figures_40 : decode cX12_figures 40 = .ok (.getfield 71, 3) := by decide +kernel
theorem dX12_figures_43 : decode cX12_figures 43 = .ok (.ifCond .ne 54, 3) := by decide +kernel
theorem dX12_figures_46 : decode cX12_figures 46 = .ok (.aload_n 0, 1) := by decide +kernel
theorem dX12_figures_47 : decode cX12_figures 47 = .ok (.invokevirtual 75, 3) := by decide +kernel
theorem dX12_figures_50 : decode cX12_figures 50 = .ok (.bipush 48, 2) := by decide +kernel
theorem dX12_figures_52 : decode cX12_figures 52 = .ok (.bipush 57, 2) := by decide +kernel
theorem dX12_figures_54 : decode cX12_figures 54 = .ok (.invokestatic 54, 3) := by decide +kernel
theorem dX12_figures_57 : decode cX12_figures 57 = .ok (.ifCond .eq 40, 3) := by decide +kernel
theorem dX12_figures_60 : decode cX12_figures 60 = .ok (.iload_n 2, 1) := by decide +kernel
theorem dX12_figures_61 : decode cX12_figures 61 = .ok (.ifCond .eq 7, 3) := by decide +kernel
theorem dX12_figures_64 : decode cX12_figures 64 = .ok (.iload_n 1, 1) := by decide +kernel
theorem dX12_figures_65 : decode cX12_figures 65 = .ok (.ifCond .le 32, 3) := by decide +kernel
theorem dX12_figures_68 : decode cX12_figures 68 = .ok (.bipush 10, 2) := by decide +kernel
theorem dX12_figures_70 : decode cX12_figures 70 = .ok (.iload_n 1, 1) := by decide +kernel
theorem dX12_figures_71 : decode cX12_figures 71 = .ok (.imul, 1) := by decide +kernel
theorem dX12_figures_72 : decode cX12_figures 72 = .ok (.aload_n 0, 1) := by decide +kernel
theorem dX12_figures_73 : decode cX12_figures 73 = .ok (.invokevirtual 75, 3) := by decide +kernel
theorem dX12_figures_76 : decode cX12_figures 76 = .ok (.iadd, 1) := by decide +kernel
theorem dX12_figures_77 : decode cX12_figures 77 = .ok (.bipush 48, 2) := by decide +kernel
theorem dX12_figures_79 : decode cX12_figures 79 = .ok (.isub, 1) := by decide +kernel
theorem dX12_figures_80 : decode cX12_figures 80 = .ok (.istore_n 1, 1) := by decide +kernel
theorem dX12_figures_81 : decode cX12_figures 81 = .ok (.aload_n 0, 1) := by decide +kernel
theorem dX12_figures_82 : decode cX12_figures 82 = .ok (.dup, 1) := by decide +kernel
theorem dX12_figures_83 : decode cX12_figures 83 = .ok (.getfield 65, 3) := by decide +kernel
theorem dX12_figures_86 : decode cX12_figures 86 = .ok (.iconst 1, 1) := by decide +kernel
theorem dX12_figures_87 : decode cX12_figures 87 = .ok (.iadd, 1) := by decide +kernel
theorem dX12_figures_88 : decode cX12_figures 88 = .ok (.putfield 65, 3) := by decide +kernel
theorem dX12_figures_91 : decode cX12_figures 91 = .ok (.iinc 2 1, 3) := by decide +kernel
theorem dX12_figures_94 : decode cX12_figures 94 = .ok (.goto (-60), 3) := by decide +kernel
theorem dX12_figures_97 : decode cX12_figures 97 = .ok (.iload_n 1, 1) := by decide +kernel
theorem dX12_figures_98 : decode cX12_figures 98 = .ok (.ireturn, 1) := by decide +kernel
theorem dX12_among_0 : decode cX12_among 0 = .ok (.iconst 0, 1) := by decide +kernel
theorem dX12_among_1 : decode cX12_among 1 = .ok (.istore_n 2, 1) := by decide +kernel
theorem dX12_among_2 : decode cX12_among 2 = .ok (.iload_n 2, 1) := by decide +kernel
theorem dX12_among_3 : decode cX12_among 3 = .ok (.aload_n 1, 1) := by decide +kernel
theorem dX12_among_4 : decode cX12_among 4 = .ok (.invokevirtual 79, 3) := by decide +kernel
theorem dX12_among_7 : decode cX12_among 7 = .ok (.if_icmp .ge 33, 3) := by decide +kernel
theorem dX12_among_10 : decode cX12_among 10 = .ok (.aload_n 0, 1) := by decide +kernel
theorem dX12_among_11 : decode cX12_among 11 = .ok (.invokevirtual 75, 3) := by decide +kernel
theorem dX12_among_14 : decode cX12_among 14 = .ok (.aload_n 1, 1) := by decide +kernel
theorem dX12_among_15 : decode cX12_among 15 = .ok (.iload_n 2, 1) := by decide +kernel
theorem dX12_among_16 : decode cX12_among 16 = .ok (.invokevirtual 84, 3) := by decide +kernel
theorem dX12_among_19 : decode cX12_among 19 = .ok (.if_icmp .ne 15, 3) := by decide +kernel
theorem dX12_among_22 : decode cX12_among 22 = .ok (.aload_n 0, 1) := by decide +kernel
theorem dX12_among_23 : decode cX12_among 23 = .ok (.dup, 1) := by decide +kernel
theorem dX12_among_24 : decode cX12_among 24 = .ok (.getfield 65, 3) := by decide +kernel
theorem dX12_among_27 : decode cX12_among 27 = .ok (.iconst 1, 1) := by decide +kernel
theorem dX12_among_28 : decode cX12_among 28 = .ok (.iadd, 1) := by decide +kernel
theorem dX12_among_29 : decode cX12_among 29 = .ok (.putfield 65, 3) := by decide +kernel
theorem dX12_among_32 : decode cX12_among 32 = .ok (.iload_n 2, 1) := by decide +kernel
theorem dX12_among_33 : decode cX12_among 33 = .ok (.ireturn, 1) := by decide +kernel
theorem dX12_among_34 : decode cX12_among 34 = .ok (.iinc 2 1, 3) := by decide +kernel
theorem dX12_among_37 : decode cX12_among 37 = .ok (.goto (-35), 3) := by decide +kernel
theorem dX12_among_40 : decode cX12_among 40 = .ok (.iconst (-1), 1) := by decide +kernel
theorem dX12_among_41 : decode cX12_among 41 = .ok (.ireturn, 1) := by decide +kernel
theorem dX12_emits_0 : decode cX12_emits 0 = .ok (.aload_n 0, 1) := by decide +kernel
theorem dX12_emits_1 : decode cX12_emits 1 = .ok (.getfield 71, 3) := by decide +kernel
theorem dX12_emits_4 : decode cX12_emits 4 = .ok (.ifCond .ne 52, 3) := by decide +kernel
theorem dX12_emits_7 : decode cX12_emits 7 = .ok (.aload_n 0, 1) := by decide +kernel
theorem dX12_emits_8 : decode cX12_emits 8 = .ok (.getfield 7, 3) := by decide +kernel
theorem dX12_emits_11 : decode cX12_emits 11 = .ok (.sipush 212, 3) := by decide +kernel
theorem dX12_emits_14 : decode cX12_emits 14 = .ok (.sipush 140, 3) := by decide +kernel
theorem dX12_emits_17 : decode cX12_emits 17 = .ok (.aload_n 0, 1) := by decide +kernel
theorem dX12_emits_18 : decode cX12_emits 18 = .ok (.getfield 92, 3) := by decide +kernel
theorem dX12_emits_21 : decode cX12_emits 21 = .ok (.imul, 1) := by decide +kernel
theorem dX12_emits_22 : decode cX12_emits 22 = .ok (.iadd, 1) := by decide +kernel
theorem dX12_emits_23 : decode cX12_emits 23 = .ok (.aload_n 0, 1) := by decide +kernel
theorem dX12_emits_24 : decode cX12_emits 24 = .ok (.getfield 7, 3) := by decide +kernel
theorem dX12_emits_27 : decode cX12_emits 27 = .ok (.sipush 204, 3) := by decide +kernel
theorem dX12_emits_30 : decode cX12_emits 30 = .ok (.aload_n 0, 1) := by decide +kernel
theorem dX12_emits_31 : decode cX12_emits 31 = .ok (.getfield 92, 3) := by decide +kernel
theorem dX12_emits_34 : decode cX12_emits 34 = .ok (.iadd, 1) := by decide +kernel
theorem dX12_emits_35 : decode cX12_emits 35 = .ok (.iaload, 1) := by decide +kernel
theorem dX12_emits_36 : decode cX12_emits 36 = .ok (.iadd, 1) := by decide +kernel
theorem dX12_emits_37 : decode cX12_emits 37 = .ok (.iload_n 1, 1) := by decide +kernel
theorem dX12_emits_38 : decode cX12_emits 38 = .ok (.iastore, 1) := by decide +kernel
theorem dX12_emits_39 : decode cX12_emits 39 = .ok (.aload_n 0, 1) := by decide +kernel
theorem dX12_emits_40 : decode cX12_emits 40 = .ok (.getfield 7, 3) := by decide +kernel
theorem dX12_emits_43 : decode cX12_emits 43 = .ok (.sipush 204, 3) := by decide +kernel
theorem dX12_emits_46 : decode cX12_emits 46 = .ok (.aload_n 0, 1) := by decide +kernel
theorem dX12_emits_47 : decode cX12_emits 47 = .ok (.getfield 92, 3) := by decide +kernel
theorem dX12_emits_50 : decode cX12_emits 50 = .ok (.iadd, 1) := by decide +kernel
theorem dX12_emits_51 : decode cX12_emits 51 = .ok (.dup2, 1) := by decide +kernel
theorem dX12_emits_52 : decode cX12_emits 52 = .ok (.iaload, 1) := by decide +kernel
theorem dX12_emits_53 : decode cX12_emits 53 = .ok (.iconst 1, 1) := by decide +kernel
theorem dX12_emits_54 : decode cX12_emits 54 = .ok (.iadd, 1) := by decide +kernel
theorem dX12_emits_55 : decode cX12_emits 55 = .ok (.iastore, 1) := by decide +kernel
theorem dX12_emits_56 : decode cX12_emits 56 = .ok (.return_, 1) := by decide +kernel
theorem dX12_factor_0 : decode cX12_factor 0 = .ok (.aload_n 0, 1) := by decide +kernel
theorem dX12_factor_1 : decode cX12_factor 1 = .ok (.getfield 71, 3) := by decide +kernel
theorem dX12_factor_4 : decode cX12_factor 4 = .ok (.ifCond .eq 4, 3) := by decide +kernel
theorem dX12_factor_7 : decode cX12_factor 7 = .ok (.return_, 1) := by decide +kernel
theorem dX12_factor_8 : decode cX12_factor 8 = .ok (.aload_n 0, 1) := by decide +kernel
theorem dX12_factor_9 : decode cX12_factor 9 = .ok (.invokevirtual 75, 3) := by decide +kernel
theorem dX12_factor_12 : decode cX12_factor 12 = .ok (.istore_n 1, 1) := by decide +kernel
theorem dX12_factor_13 : decode cX12_factor 13 = .ok (.iload_n 1, 1) := by decide +kernel
theorem dX12_factor_14 : decode cX12_factor 14 = .ok (.bipush 33, 2) := by decide +kernel
theorem dX12_factor_16 : decode cX12_factor 16 = .ok (.if_icmp .eq 9, 3) := by decide +kernel
theorem dX12_factor_19 : decode cX12_factor 19 = .ok (.iload_n 1, 1) := by decide +kernel
theorem dX12_factor_20 : decode cX12_factor 20 = .ok (.bipush 40, 2) := by decide +kernel
theorem dX12_factor_22 : decode cX12_factor 22 = .ok (.if_icmp .ne 90, 3) := by decide +kernel
theorem dX12_factor_25 : decode cX12_factor 25 = .ok (.aload_n 0, 1) := by decide +kernel
theorem dX12_factor_26 : decode cX12_factor 26 = .ok (.aload_n 0, 1) := by decide +kernel
theorem dX12_factor_27 : decode cX12_factor 27 = .ok (.getfield 95, 3) := by decide +kernel
theorem dX12_factor_30 : decode cX12_factor 30 = .ok (.iconst 5, 1) := by decide +kernel
theorem dX12_factor_31 : decode cX12_factor 31 = .ok (.if_icmp .ne 7, 3) := by decide +kernel
theorem dX12_factor_34 : decode cX12_factor 34 = .ok (.iconst 1, 1) := by decide +kernel
theorem dX12_factor_35 : decode cX12_factor 35 = .ok (.goto 4, 3) := by decide +kernel
theorem dX12_factor_38 : decode cX12_factor 38 = .ok (.iconst 0, 1) := by decide +kernel
theorem dX12_factor_39 : decode cX12_factor 39 = .ok (.putfield 71, 3) := by decide +kernel
theorem dX12_factor_42 : decode cX12_factor 42 = .ok (.aload_n 0, 1) := by decide +kernel
theorem dX12_factor_43 : decode cX12_factor 43 = .ok (.dup, 1) := by decide +kernel
theorem dX12_factor_44 : decode cX12_factor 44 = .ok (.getfield 95, 3) := by decide +kernel
theorem dX12_factor_47 : decode cX12_factor 47 = .ok (.iconst 1, 1) := by decide +kernel
theorem dX12_factor_48 : decode cX12_factor 48 = .ok (.iadd, 1) := by decide +kernel
theorem dX12_factor_49 : decode cX12_factor 49 = .ok (.putfield 95, 3) := by decide +kernel
theorem dX12_factor_52 : decode cX12_factor 52 = .ok (.aload_n 0, 1) := by decide +kernel
theorem dX12_factor_53 : decode cX12_factor 53 = .ok (.dup, 1) := by decide +kernel
theorem dX12_factor_54 : decode cX12_factor 54 = .ok (.getfield 65, 3) := by decide +kernel
theorem dX12_factor_57 : decode cX12_factor 57 = .ok (.aload_n 0, 1) := by decide +kernel
theorem dX12_factor_58 : decode cX12_factor 58 = .ok (.getfield 71, 3) := by decide +kernel
theorem dX12_factor_61 : decode cX12_factor 61 = .ok (.ifCond .eq 7, 3) := by decide +kernel
theorem dX12_factor_64 : decode cX12_factor 64 = .ok (.iconst 0, 1) := by decide +kernel
theorem dX12_factor_65 : decode cX12_factor 65 = .ok (.goto 4, 3) := by decide +kernel
theorem dX12_factor_68 : decode cX12_factor 68 = .ok (.iconst 1, 1) := by decide +kernel
theorem dX12_factor_69 : decode cX12_factor 69 = .ok (.iadd, 1) := by decide +kernel
theorem dX12_factor_70 : decode cX12_factor 70 = .ok (.putfield 65, 3) := by decide +kernel
theorem dX12_factor_73 : decode cX12_factor 73 = .ok (.iload_n 1, 1) := by decide +kernel
theorem dX12_factor_74 : decode cX12_factor 74 = .ok (.bipush 33, 2) := by decide +kernel
theorem dX12_factor_76 : decode cX12_factor 76 = .ok (.if_icmp .ne 15, 3) := by decide +kernel
theorem dX12_factor_79 : decode cX12_factor 79 = .ok (.aload_n 0, 1) := by decide +kernel
theorem dX12_factor_80 : decode cX12_factor 80 = .ok (.invokevirtual 98, 3) := by decide +kernel
theorem dX12_factor_83 : decode cX12_factor 83 = .ok (.aload_n 0, 1) := by decide +kernel
theorem dX12_factor_84 : decode cX12_factor 84 = .ok (.iconst (-1), 1) := by decide +kernel
theorem dX12_factor_85 : decode cX12_factor 85 = .ok (.invokevirtual 101, 3) := by decide +kernel
theorem dX12_factor_88 : decode cX12_factor 88 = .ok (.goto 13, 3) := by decide +kernel
theorem dX12_factor_91 : decode cX12_factor 91 = .ok (.aload_n 0, 1) := by decide +kernel
theorem dX12_factor_92 : decode cX12_factor 92 = .ok (.invokevirtual 104, 3) := by decide +kernel
theorem dX12_factor_95 : decode cX12_factor 95 = .ok (.aload_n 0, 1) := by decide +kernel
theorem dX12_factor_96 : decode cX12_factor 96 = .ok (.bipush 41, 2) := by decide +kernel
theorem dX12_factor_98 : decode cX12_factor 98 = .ok (.invokevirtual 88, 3) := by decide +kernel
theorem dX12_factor_101 : decode cX12_factor 101 = .ok (.aload_n 0, 1) := by decide +kernel
theorem dX12_factor_102 : decode cX12_factor 102 = .ok (.dup, 1) := by decide +kernel
theorem dX12_factor_103 : decode cX12_factor 103 = .ok (.getfield 95, 3) := by decide +kernel
theorem dX12_factor_106 : decode cX12_factor 106 = .ok (.iconst 1, 1) := by decide +kernel
theorem dX12_factor_107 : decode cX12_factor 107 = .ok (.isub, 1) := by decide +kernel
theorem dX12_factor_108 : decode cX12_factor 108 = .ok (.putfield 95, 3) := by decide +kernel
theorem dX12_factor_111 : decode cX12_factor 111 = .ok (.return_, 1) := by decide +kernel
theorem dX12_factor_112 : decode cX12_factor 112 = .ok (.aload_n 0, 1) := by decide +kernel
theorem dX12_factor_113 : decode cX12_factor 113 = .ok (.ldc 107, 2) := by decide +kernel
theorem dX12_factor_115 : decode cX12_factor 115 = .ok (.invokevirtual 109, 3) := by decide +kernel
theorem dX12_factor_118 : decode cX12_factor 118 = .ok (.istore_n 2, 1) := by decide +kernel
theorem dX12_factor_119 : decode cX12_factor 119 = .ok (.aload_n 0, 1) := by decide +kernel
theorem dX12_factor_120 : decode cX12_factor 120 = .ok (.iload_n 2, 1) := by decide +kernel
theorem dX12_factor_121 : decode cX12_factor 121 = .ok (.iconst (-1), 1) := by decide +kernel
theorem dX12_factor_122 : decode cX12_factor 122 = .ok (.if_icmp .ne 7, 3) := by decide +kernel
theorem dX12_factor_125 : decode cX12_factor 125 = .ok (.iconst 1, 1) := by decide +kernel
theorem dX12_factor_126 : decode cX12_factor 126 = .ok (.goto 4, 3) := by decide +kernel
theorem dX12_factor_129 : decode cX12_factor 129 = .ok (.iconst 0, 1) := by decide +kernel
theorem dX12_factor_130 : decode cX12_factor 130 = .ok (.putfield 71, 3) := by decide +kernel
theorem dX12_factor_133 : decode cX12_factor 133 = .ok (.aload_n 0, 1) := by decide +kernel
theorem dX12_factor_134 : decode cX12_factor 134 = .ok (.getfield 71, 3) := by decide +kernel
theorem dX12_factor_137 : decode cX12_factor 137 = .ok (.ifCond .eq 7, 3) := by decide +kernel
theorem dX12_factor_140 : decode cX12_factor 140 = .ok (.iconst 0, 1) := by decide +kernel
theorem dX12_factor_141 : decode cX12_factor 141 = .ok (.goto 9, 3) := by decide +kernel
theorem dX12_factor_144 : decode cX12_factor 144 = .ok (.aload_n 0, 1) := by decide +kernel
theorem dX12_factor_145 : decode cX12_factor 145 = .ok (.ldc 113, 2) := by decide +kernel
theorem dX12_factor_147 : decode cX12_factor 147 = .ok (.invokevirtual 109, 3) := by decide +kernel
theorem dX12_factor_150 : decode cX12_factor 150 = .ok (.istore_n 3, 1) := by decide +kernel
theorem dX12_factor_151 : decode cX12_factor 151 = .ok (.aload_n 0, 1) := by decide +kernel
theorem dX12_factor_152 : decode cX12_factor 152 = .ok (.aload_n 0, 1) := by decide +kernel
theorem dX12_factor_153 : decode cX12_factor 153 = .ok (.getfield 71, 3) := by decide +kernel
theorem dX12_factor_156 : decode cX12_factor 156 = .ok (.ifCond .ne 8, 3) := by decide +kernel
theorem dX12_factor_159 : decode cX12_factor 159 = .ok (.iload_n 3, 1) := by decide +kernel
theorem dX12_factor_160 : decode cX12_factor 160 = .ok (.iconst (-1), 1) := by decide +kernel
theorem dX12_factor_161 : decode cX12_factor 161 = .ok (.if_icmp .ne 7, 3) := by decide +kernel
theorem dX12_factor_164 : decode cX12_factor 164 = .ok (.iconst 1, 1) := by decide +kernel
theorem dX12_factor_165 : decode cX12_factor 165 = .ok (.goto 4, 3) := by decide +kernel
theorem dX12_factor_168 : decode cX12_factor 168 = .ok (.iconst 0, 1) := by decide +kernel
theorem dX12_factor_169 : decode cX12_factor 169 = .ok (.putfield 71, 3) := by decide +kernel
theorem dX12_factor_172 : decode cX12_factor 172 = .ok (.aload_n 0, 1) := by decide +kernel
theorem dX12_factor_173 : decode cX12_factor 173 = .ok (.invokevirtual 115, 3) := by decide +kernel
theorem dX12_factor_176 : decode cX12_factor 176 = .ok (.istore 4, 2) := by decide +kernel
theorem dX12_factor_178 : decode cX12_factor 178 = .ok (.aload_n 0, 1) := by decide +kernel
theorem dX12_factor_179 : decode cX12_factor 179 = .ok (.iload_n 2, 1) := by decide +kernel
theorem dX12_factor_180 : decode cX12_factor 180 = .ok (.bipush 8, 2) := by decide +kernel
theorem dX12_factor_182 : decode cX12_factor 182 = .ok (.iload_n 3, 1) := by decide +kernel
theorem dX12_factor_183 : decode cX12_factor 183 = .ok (.imul, 1) := by decide +kernel
theorem dX12_factor_184 : decode cX12_factor 184 = .ok (.iadd, 1) := by decide +kernel
theorem dX12_factor_185 : decode cX12_factor 185 = .ok (.bipush 32, 2) := by decide +kernel
theorem dX12_factor_187 : decode cX12_factor 187 = .ok (.iload 4, 2) := by decide +kernel
theorem dX12_factor_189 : decode cX12_factor 189 = .ok (.imul, 1) := by decide +kernel
theorem dX12_factor_190 : decode cX12_factor 190 = .ok (.iadd, 1) := by decide +kernel
theorem dX12_factor_191 : decode cX12_factor 191 = .ok (.invokevirtual 101, 3) := by decide +kernel
theorem dX12_factor_194 : decode cX12_factor 194 = .ok (.return_, 1) := by decide +kernel
theorem dX12_every_0 : decode cX12_every 0 = .ok (.aload_n 0, 1) := by decide +kernel
theorem dX12_every_1 : decode cX12_every 1 = .ok (.invokevirtual 98, 3) := by decide +kernel
theorem dX12_every_4 : decode cX12_every 4 = .ok (.aload_n 0, 1) := by decide +kernel
theorem dX12_every_5 : decode cX12_every 5 = .ok (.getfield 71, 3) := by decide +kernel
theorem dX12_every_8 : decode cX12_every 8 = .ok (.ifCond .ne 35, 3) := by decide +kernel
theorem dX12_every_11 : decode cX12_every 11 = .ok (.aload_n 0, 1) := by decide +kernel
theorem dX12_every_12 : decode cX12_every 12 = .ok (.invokevirtual 75, 3) := by decide +kernel
theorem dX12_every_15 : decode cX12_every 15 = .ok (.bipush 38, 2) := by decide +kernel
theorem dX12_every_17 : decode cX12_every 17 = .ok (.if_icmp .ne 26, 3) := by decide +kernel
theorem dX12_every_20 : decode cX12_every 20 = .ok (.aload_n 0, 1) := by decide +kernel
theorem dX12_every_21 : decode cX12_every 21 = .ok (.dup, 1) := by decide +kernel
theorem dX12_every_22 : decode cX12_every 22 = .ok (.getfield 65, 3) := by decide +kernel
theorem dX12_every_25 : decode cX12_every 25 = .ok (.iconst 1, 1) := by decide +kernel
theorem dX12_every_26 : decode cX12_every 26 = .ok (.iadd, 1) := by decide +kernel
theorem dX12_every_27 : decode cX12_every 27 = .ok (.putfield 65, 3) := by decide +kernel
theorem dX12_every_30 : decode cX12_every 30 = .ok (.aload_n 0, 1) := by decide +kernel
theorem dX12_every_31 : decode cX12_every 31 = .ok (.invokevirtual 98, 3) := by decide +kernel
theorem dX12_every_34 : decode cX12_every 34 = .ok (.aload_n 0, 1) := by decide +kernel
theorem dX12_every_35 : decode cX12_every 35 = .ok (.bipush (-2), 2) := by decide +kernel
theorem dX12_every_37 : decode cX12_every 37 = .ok (.invokevirtual 101, 3) := by decide +kernel
theorem dX12_every_40 : decode cX12_every 40 = .ok (.goto (-36), 3) := by decide +kernel
theorem dX12_every_43 : decode cX12_every 43 = .ok (.return_, 1) := by decide +kernel
theorem dX12_some_0 : decode cX12_some 0 = .ok (.aload_n 0, 1) := by decide +kernel
theorem dX12_some_1 : decode cX12_some 1 = .ok (.invokevirtual 118, 3) := by decide +kernel
theorem dX12_some_4 : decode cX12_some 4 = .ok (.aload_n 0, 1) := by decide +kernel
theorem dX12_some_5 : decode cX12_some 5 = .ok (.getfield 71, 3) := by decide +kernel
theorem dX12_some_8 : decode cX12_some 8 = .ok (.ifCond .ne 35, 3) := by decide +kernel
theorem dX12_some_11 : decode cX12_some 11 = .ok (.aload_n 0, 1) := by decide +kernel
theorem dX12_some_12 : decode cX12_some 12 = .ok (.invokevirtual 75, 3) := by decide +kernel
theorem dX12_some_15 : decode cX12_some 15 = .ok (.bipush 124, 2) := by decide +kernel
theorem dX12_some_17 : decode cX12_some 17 = .ok (.if_icmp .ne 26, 3) := by decide +kernel
theorem dX12_some_20 : decode cX12_some 20 = .ok (.aload_n 0, 1) := by decide +kernel
theorem dX12_some_21 : decode cX12_some 21 = .ok (.dup, 1) := by decide +kernel
theorem dX12_some_22 : decode cX12_some 22 = .ok (.getfield 65, 3) := by decide +kernel
theorem dX12_some_25 : decode cX12_some 25 = .ok (.iconst 1, 1) := by decide +kernel
theorem dX12_some_26 : decode cX12_some 26 = .ok (.iadd, 1) := by decide +kernel
theorem dX12_some_27 : decode cX12_some 27 = .ok (.putfield 65, 3) := by decide +kernel
theorem dX12_some_30 : decode cX12_some 30 = .ok (.aload_n 0, 1) := by decide +kernel
theorem dX12_some_31 : decode cX12_some 31 = .ok (.invokevirtual 118, 3) := by decide +kernel
theorem dX12_some_34 : decode cX12_some 34 = .ok (.aload_n 0, 1) := by decide +kernel
theorem dX12_some_35 : decode cX12_some 35 = .ok (.bipush (-3), 2) := by decide +kernel
theorem dX12_some_37 : decode cX12_some 37 = .ok (.invokevirtual 101, 3) := by decide +kernel
theorem dX12_some_40 : decode cX12_some 40 = .ok (.goto (-36), 3) := by decide +kernel
theorem dX12_some_43 : decode cX12_some 43 = .ok (.return_, 1) := by decide +kernel
theorem dX12_much_0 : decode cX12_much 0 = .ok (.aload_n 0, 1) := by decide +kernel
theorem dX12_much_1 : decode cX12_much 1 = .ok (.aload_n 2, 1) := by decide +kernel
theorem dX12_much_2 : decode cX12_much 2 = .ok (.invokevirtual 121, 3) := by decide +kernel
theorem dX12_much_5 : decode cX12_much 5 = .ok (.aload_n 0, 1) := by decide +kernel
theorem dX12_much_6 : decode cX12_much 6 = .ok (.invokevirtual 115, 3) := by decide +kernel
theorem dX12_much_9 : decode cX12_much 9 = .ok (.istore_n 3, 1) := by decide +kernel
theorem dX12_much_10 : decode cX12_much 10 = .ok (.aload_n 0, 1) := by decide +kernel
theorem dX12_much_11 : decode cX12_much 11 = .ok (.bipush 32, 2) := by decide +kernel
theorem dX12_much_13 : decode cX12_much 13 = .ok (.invokevirtual 88, 3) := by decide +kernel
theorem dX12_much_16 : decode cX12_much 16 = .ok (.aload_n 0, 1) := by decide +kernel
theorem dX12_much_17 : decode cX12_much 17 = .ok (.invokevirtual 104, 3) := by decide +kernel
theorem dX12_much_20 : decode cX12_much 20 = .ok (.aload_n 0, 1) := by decide +kernel
theorem dX12_much_21 : decode cX12_much 21 = .ok (.iload_n 1, 1) := by decide +kernel
theorem dX12_much_22 : decode cX12_much 22 = .ok (.iload_n 3, 1) := by decide +kernel
theorem dX12_much_23 : decode cX12_much 23 = .ok (.isub, 1) := by decide +kernel
theorem dX12_much_24 : decode cX12_much 24 = .ok (.invokevirtual 101, 3) := by decide +kernel
theorem dX12_much_27 : decode cX12_much 27 = .ok (.return_, 1) := by decide +kernel
theorem dX12_tellsHere_0 : decode cX12_tellsHere 0 = .ok (.aload_n 0, 1) := by decide +kernel
theorem dX12_tellsHere_1 : decode cX12_tellsHere 1 = .ok (.aload_n 2, 1) := by decide +kernel
theorem dX12_tellsHere_2 : decode cX12_tellsHere 2 = .ok (.invokevirtual 121, 3) := by decide +kernel
theorem dX12_tellsHere_5 : decode cX12_tellsHere 5 = .ok (.aload_n 0, 1) := by decide +kernel
theorem dX12_tellsHere_6 : decode cX12_tellsHere 6 = .ok (.invokevirtual 115, 3) := by decide +kernel
theorem dX12_tellsHere_9 : decode cX12_tellsHere 9 = .ok (.istore_n 3, 1) := by decide +kernel
theorem dX12_tellsHere_10 : decode cX12_tellsHere 10 = .ok (.aload_n 0, 1) := by decide +kernel
theorem dX12_tellsHere_11 : decode cX12_tellsHere 11 = .ok (.getfield 71, 3) := by decide +kernel
theorem dX12_tellsHere_14 : decode cX12_tellsHere 14 = .ok (.ifCond .ne 15, 3) := by decide +kernel
theorem dX12_tellsHere_17 : decode cX12_tellsHere 17 = .ok (.aload_n 0, 1) := by decide +kernel
theorem dX12_tellsHere_18 : decode cX12_tellsHere 18 = .ok (.getfield 7, 3) := by decide +kernel
theorem dX12_tellsHere_21 : decode cX12_tellsHere 21 = .ok (.iload_n 1, 1) := by decide +kernel
theorem dX12_tellsHere_22 : decode cX12_tellsHere 22 = .ok (.aload_n 0, 1) := by decide +kernel
theorem dX12_tellsHere_23 : decode cX12_tellsHere 23 = .ok (.getfield 92, 3) := by decide +kernel
theorem dX12_tellsHere_26 : decode cX12_tellsHere 26 = .ok (.iadd, 1) := by decide +kernel
theorem dX12_tellsHere_27 : decode cX12_tellsHere 27 = .ok (.iload_n 3, 1) := by decide +kernel
theorem dX12_tellsHere_28 : decode cX12_tellsHere 28 = .ok (.iastore, 1) := by decide +kernel
theorem dX12_tellsHere_29 : decode cX12_tellsHere 29 = .ok (.return_, 1) := by decide +kernel
theorem dX12_formHere_0 : decode cX12_formHere 0 = .ok (.aload_n 0, 1) := by decide +kernel
theorem dX12_formHere_1 : decode cX12_formHere 1 = .ok (.ldc 125, 2) := by decide +kernel
theorem dX12_formHere_3 : decode cX12_formHere 3 = .ok (.invokevirtual 121, 3) := by decide +kernel
theorem dX12_formHere_6 : decode cX12_formHere 6 = .ok (.aload_n 0, 1) := by decide +kernel
theorem dX12_formHere_7 : decode cX12_formHere 7 = .ok (.aload_n 0, 1) := by decide +kernel
theorem dX12_formHere_8 : decode cX12_formHere 8 = .ok (.getfield 71, 3) := by decide +kernel
theorem dX12_formHere_11 : decode cX12_formHere 11 = .ok (.ifCond .ne 17, 3) := by decide +kernel
theorem dX12_formHere_14 : decode cX12_formHere 14 = .ok (.aload_n 0, 1) := by decide +kernel
theorem dX12_formHere_15 : decode cX12_formHere 15 = .ok (.invokevirtual 75, 3) := by decide +kernel
theorem dX12_formHere_18 : decode cX12_formHere 18 = .ok (.bipush 49, 2) := by decide +kernel
theorem dX12_formHere_20 : decode cX12_formHere 20 = .ok (.bipush 52, 2) := by decide +kernel
theorem dX12_formHere_22 : decode cX12_formHere 22 = .ok (.invokestatic 54, 3) := by decide +kernel
theorem dX12_formHere_25 : decode cX12_formHere 25 = .ok (.ifCond .ne 7, 3) := by decide +kernel
theorem dX12_formHere_28 : decode cX12_formHere 28 = .ok (.iconst 1, 1) := by decide +kernel
theorem dX12_formHere_29 : decode cX12_formHere 29 = .ok (.goto 4, 3) := by decide +kernel
theorem dX12_formHere_32 : decode cX12_formHere 32 = .ok (.iconst 0, 1) := by decide +kernel
theorem dX12_formHere_33 : decode cX12_formHere 33 = .ok (.putfield 71, 3) := by decide +kernel
theorem dX12_formHere_36 : decode cX12_formHere 36 = .ok (.aload_n 0, 1) := by decide +kernel
theorem dX12_formHere_37 : decode cX12_formHere 37 = .ok (.getfield 71, 3) := by decide +kernel
theorem dX12_formHere_40 : decode cX12_formHere 40 = .ok (.ifCond .eq 7, 3) := by decide +kernel
theorem dX12_formHere_43 : decode cX12_formHere 43 = .ok (.iconst 1, 1) := by decide +kernel
theorem dX12_formHere_44 : decode cX12_formHere 44 = .ok (.goto 10, 3) := by decide +kernel
theorem dX12_formHere_47 : decode cX12_formHere 47 = .ok (.aload_n 0, 1) := by decide +kernel
theorem dX12_formHere_48 : decode cX12_formHere 48 = .ok (.invokevirtual 75, 3) := by decide +kernel
theorem dX12_formHere_51 : decode cX12_formHere 51 = .ok (.bipush 48, 2) := by decide +kernel
theorem dX12_formHere_53 : decode cX12_formHere 53 = .ok (.isub, 1) := by decide +kernel
theorem dX12_formHere_54 : decode cX12_formHere 54 = .ok (.istore_n 1, 1) := by decide +kernel
theorem dX12_formHere_55 : decode cX12_formHere 55 = .ok (.aload_n 0, 1) := by decide +kernel
theorem dX12_formHere_56 : decode cX12_formHere 56 = .ok (.dup, 1) := by decide +kernel
theorem dX12_formHere_57 : decode cX12_formHere 57 = .ok (.getfield 65, 3) := by decide +kernel
theorem dX12_formHere_60 : decode cX12_formHere 60 = .ok (.aload_n 0, 1) := by decide +kernel
theorem dX12_formHere_61 : decode cX12_formHere 61 = .ok (.getfield 71, 3) := by decide +kernel
theorem dX12_formHere_64 : decode cX12_formHere 64 = .ok (.ifCond .eq 7, 3) := by decide +kernel
theorem dX12_formHere_67 : decode cX12_formHere 67 = .ok (.iconst 0, 1) := by decide +kernel
theorem dX12_formHere_68 : decode cX12_formHere 68 = .ok (.goto 4, 3) := by decide +kernel
theorem dX12_formHere_71 : decode cX12_formHere 71 = .ok (.iconst 1, 1) := by decide +kernel
theorem dX12_formHere_72 : decode cX12_formHere 72 = .ok (.iadd, 1) := by decide +kernel
theorem dX12_formHere_73 : decode cX12_formHere 73 = .ok (.putfield 65, 3) := by decide +kernel
theorem dX12_formHere_76 : decode cX12_formHere 76 = .ok (.aload_n 0, 1) := by decide +kernel
theorem dX12_formHere_77 : decode cX12_formHere 77 = .ok (.bipush 32, 2) := by decide +kernel
theorem dX12_formHere_79 : decode cX12_formHere 79 = .ok (.invokevirtual 88, 3) := by decide +kernel
theorem dX12_formHere_82 : decode cX12_formHere 82 = .ok (.aload_n 0, 1) := by decide +kernel
theorem dX12_formHere_83 : decode cX12_formHere 83 = .ok (.invokevirtual 115, 3) := by decide +kernel
theorem dX12_formHere_86 : decode cX12_formHere 86 = .ok (.istore_n 2, 1) := by decide +kernel
theorem dX12_formHere_87 : decode cX12_formHere 87 = .ok (.aload_n 0, 1) := by decide +kernel
theorem dX12_formHere_88 : decode cX12_formHere 88 = .ok (.getfield 71, 3) := by decide +kernel
theorem dX12_formHere_91 : decode cX12_formHere 91 = .ok (.ifCond .ne 23, 3) := by decide +kernel
theorem dX12_formHere_94 : decode cX12_formHere 94 = .ok (.aload_n 0, 1) := by decide +kernel
theorem dX12_formHere_95 : decode cX12_formHere 95 = .ok (.getfield 7, 3) := by decide +kernel
theorem dX12_formHere_98 : decode cX12_formHere 98 = .ok (.sipush 172, 3) := by decide +kernel
theorem dX12_formHere_101 : decode cX12_formHere 101 = .ok (.iconst 4, 1) := by decide +kernel
theorem dX12_formHere_102 : decode cX12_formHere 102 = .ok (.aload_n 0, 1) := by decide +kernel
theorem dX12_formHere_103 : decode cX12_formHere 103 = .ok (.getfield 92, 3) := by decide +kernel
theorem dX12_formHere_106 : decode cX12_formHere 106 = .ok (.imul, 1) := by decide +kernel
theorem dX12_formHere_107 : decode cX12_formHere 107 = .ok (.iadd, 1) := by decide +kernel
theorem dX12_formHere_108 : decode cX12_formHere 108 = .ok (.iload_n 1, 1) := by decide +kernel
theorem dX12_formHere_109 : decode cX12_formHere 109 = .ok (.iadd, 1) := by decide +kernel
theorem dX12_formHere_110 : decode cX12_formHere 110 = .ok (.iconst 1, 1) := by decide +kernel
