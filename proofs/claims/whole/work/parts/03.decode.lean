theorem dX0_init_0 : decode cX0_init 0 = .ok (.aload_n 0, 1) := by decide +kernel
theorem dX0_init_1 : decode cX0_init 1 = .ok (.invokespecial 3, 3) := by decide +kernel
theorem dX0_init_4 : decode cX0_init 4 = .ok (.aload_n 0, 1) := by decide +kernel
theorem dX0_init_5 : decode cX0_init 5 = .ok (.new 9, 3) := by decide +kernel
theorem dX0_init_8 : decode cX0_init 8 = .ok (.dup, 1) := by decide +kernel
theorem dX0_init_9 : decode cX0_init 9 = .ok (.iload_n 1, 1) := by decide +kernel
theorem dX0_init_10 : decode cX0_init 10 = .ok (.bipush 6, 2) := by decide +kernel
theorem dX0_init_12 : decode cX0_init 12 = .ok (.imul, 1) := by decide +kernel
theorem dX0_init_13 : decode cX0_init 13 = .ok (.invokespecial 11, 3) := by decide +kernel
theorem dX0_init_16 : decode cX0_init 16 = .ok (.putfield 14, 3) := by decide +kernel
theorem dX0_init_19 : decode cX0_init 19 = .ok (.aload_n 0, 1) := by decide +kernel
theorem dX0_init_20 : decode cX0_init 20 = .ok (.new 9, 3) := by decide +kernel
theorem dX0_init_23 : decode cX0_init 23 = .ok (.dup, 1) := by decide +kernel
theorem dX0_init_24 : decode cX0_init 24 = .ok (.iload_n 1, 1) := by decide +kernel
theorem dX0_init_25 : decode cX0_init 25 = .ok (.invokespecial 11, 3) := by decide +kernel
theorem dX0_init_28 : decode cX0_init 28 = .ok (.putfield 20, 3) := by decide +kernel
theorem dX0_init_31 : decode cX0_init 31 = .ok (.return_, 1) := by decide +kernel
theorem dX0_amount_0 : decode cX0_amount 0 = .ok (.iload_n 1, 1) := by decide +kernel
theorem dX0_amount_1 : decode cX0_amount 1 = .ok (.ifCond .lt 7, 3) := by decide +kernel
theorem dX0_amount_4 : decode cX0_amount 4 = .ok (.iload_n 2, 1) := by decide +kernel
theorem dX0_amount_5 : decode cX0_amount 5 = .ok (.ifCond .ge 7, 3) := by decide +kernel
theorem dX0_amount_8 : decode cX0_amount 8 = .ok (.iconst 0, 1) := by decide +kernel
theorem dX0_amount_9 : decode cX0_amount 9 = .ok (.goto 16, 3) := by decide +kernel
theorem dX0_amount_12 : decode cX0_amount 12 = .ok (.aload_n 0, 1) := by decide +kernel
theorem dX0_amount_13 : decode cX0_amount 13 = .ok (.getfield 14, 3) := by decide +kernel
theorem dX0_amount_16 : decode cX0_amount 16 = .ok (.iload_n 1, 1) := by decide +kernel
theorem dX0_amount_17 : decode cX0_amount 17 = .ok (.bipush 6, 2) := by decide +kernel
theorem dX0_amount_19 : decode cX0_amount 19 = .ok (.imul, 1) := by decide +kernel
theorem dX0_amount_20 : decode cX0_amount 20 = .ok (.iload_n 2, 1) := by decide +kernel
theorem dX0_amount_21 : decode cX0_amount 21 = .ok (.iadd, 1) := by decide +kernel
theorem dX0_amount_22 : decode cX0_amount 22 = .ok (.invokevirtual 23, 3) := by decide +kernel
theorem dX0_amount_25 : decode cX0_amount 25 = .ok (.ireturn, 1) := by decide +kernel
theorem dX0_broken_0 : decode cX0_broken 0 = .ok (.aload_n 0, 1) := by decide +kernel
theorem dX0_broken_1 : decode cX0_broken 1 = .ok (.getfield 20, 3) := by decide +kernel
theorem dX0_broken_4 : decode cX0_broken 4 = .ok (.iload_n 1, 1) := by decide +kernel
theorem dX0_broken_5 : decode cX0_broken 5 = .ok (.invokevirtual 23, 3) := by decide +kernel
theorem dX0_broken_8 : decode cX0_broken 8 = .ok (.ireturn, 1) := by decide +kernel
theorem dX0_writeAll_0 : decode cX0_writeAll 0 = .ok (.iconst 0, 1) := by decide +kernel
theorem dX0_writeAll_1 : decode cX0_writeAll 1 = .ok (.istore_n 2, 1) := by decide +kernel
theorem dX0_writeAll_2 : decode cX0_writeAll 2 = .ok (.iload_n 2, 1) := by decide +kernel
theorem dX0_writeAll_3 : decode cX0_writeAll 3 = .ok (.bipush 6, 2) := by decide +kernel
theorem dX0_writeAll_5 : decode cX0_writeAll 5 = .ok (.if_icmp .ge 17, 3) := by decide +kernel
theorem dX0_writeAll_8 : decode cX0_writeAll 8 = .ok (.aload_n 0, 1) := by decide +kernel
theorem dX0_writeAll_9 : decode cX0_writeAll 9 = .ok (.iload_n 2, 1) := by decide +kernel
theorem dX0_writeAll_10 : decode cX0_writeAll 10 = .ok (.aload_n 1, 1) := by decide +kernel
theorem dX0_writeAll_11 : decode cX0_writeAll 11 = .ok (.iload_n 2, 1) := by decide +kernel
theorem dX0_writeAll_12 : decode cX0_writeAll 12 = .ok (.iconst 0, 1) := by decide +kernel
theorem dX0_writeAll_13 : decode cX0_writeAll 13 = .ok (.invokevirtual 27, 3) := by decide +kernel
theorem dX0_writeAll_16 : decode cX0_writeAll 16 = .ok (.iinc 2 1, 3) := by decide +kernel
theorem dX0_writeAll_19 : decode cX0_writeAll 19 = .ok (.goto (-17), 3) := by decide +kernel
theorem dX0_writeAll_22 : decode cX0_writeAll 22 = .ok (.return_, 1) := by decide +kernel
theorem dX0_write_0 : decode cX0_write 0 = .ok (.iconst 0, 1) := by decide +kernel
theorem dX0_write_1 : decode cX0_write 1 = .ok (.istore 5, 2) := by decide +kernel
theorem dX0_write_3 : decode cX0_write 3 = .ok (.iload 5, 2) := by decide +kernel
theorem dX0_write_5 : decode cX0_write 5 = .ok (.bipush 6, 2) := by decide +kernel
theorem dX0_write_7 : decode cX0_write 7 = .ok (.if_icmp .ge 24, 3) := by decide +kernel
theorem dX0_write_10 : decode cX0_write 10 = .ok (.aload_n 0, 1) := by decide +kernel
theorem dX0_write_11 : decode cX0_write 11 = .ok (.getfield 14, 3) := by decide +kernel
theorem dX0_write_14 : decode cX0_write 14 = .ok (.iload_n 1, 1) := by decide +kernel
theorem dX0_write_15 : decode cX0_write 15 = .ok (.bipush 6, 2) := by decide +kernel
theorem dX0_write_17 : decode cX0_write 17 = .ok (.imul, 1) := by decide +kernel
theorem dX0_write_18 : decode cX0_write 18 = .ok (.iload 5, 2) := by decide +kernel
theorem dX0_write_20 : decode cX0_write 20 = .ok (.iadd, 1) := by decide +kernel
theorem dX0_write_21 : decode cX0_write 21 = .ok (.iconst 0, 1) := by decide +kernel
theorem dX0_write_22 : decode cX0_write 22 = .ok (.invokevirtual 31, 3) := by decide +kernel
theorem dX0_write_25 : decode cX0_write 25 = .ok (.iinc 5 1, 3) := by decide +kernel
theorem dX0_write_28 : decode cX0_write 28 = .ok (.goto (-25), 3) := by decide +kernel
theorem dX0_write_31 : decode cX0_write 31 = .ok (.aload_n 0, 1) := by decide +kernel
theorem dX0_write_32 : decode cX0_write 32 = .ok (.getfield 20, 3) := by decide +kernel
theorem dX0_write_35 : decode cX0_write 35 = .ok (.iload_n 1, 1) := by decide +kernel
theorem dX0_write_36 : decode cX0_write 36 = .ok (.bipush (-6), 2) := by decide +kernel
theorem dX0_write_38 : decode cX0_write 38 = .ok (.invokevirtual 31, 3) := by decide +kernel
theorem dX0_write_41 : decode cX0_write 41 = .ok (.aload_n 2, 1) := by decide +kernel
theorem dX0_write_42 : decode cX0_write 42 = .ok (.getfield 35, 3) := by decide +kernel
theorem dX0_write_45 : decode cX0_write 45 = .ok (.iload_n 3, 1) := by decide +kernel
theorem dX0_write_46 : decode cX0_write 46 = .ok (.invokevirtual 23, 3) := by decide +kernel
theorem dX0_write_49 : decode cX0_write 49 = .ok (.istore 5, 2) := by decide +kernel
theorem dX0_write_51 : decode cX0_write 51 = .ok (.iload 4, 2) := by decide +kernel
theorem dX0_write_53 : decode cX0_write 53 = .ok (.iload 5, 2) := by decide +kernel
theorem dX0_write_55 : decode cX0_write 55 = .ok (.ishr, 1) := by decide +kernel
theorem dX0_write_56 : decode cX0_write 56 = .ok (.ifCond .eq 4, 3) := by decide +kernel
theorem dX0_write_59 : decode cX0_write 59 = .ok (.return_, 1) := by decide +kernel
theorem dX0_write_60 : decode cX0_write 60 = .ok (.bipush (-6), 2) := by decide +kernel
theorem dX0_write_62 : decode cX0_write 62 = .ok (.istore 6, 2) := by decide +kernel
theorem dX0_write_64 : decode cX0_write 64 = .ok (.bipush (-6), 2) := by decide +kernel
theorem dX0_write_66 : decode cX0_write 66 = .ok (.istore 7, 2) := by decide +kernel
theorem dX0_write_68 : decode cX0_write 68 = .ok (.iconst 0, 1) := by decide +kernel
theorem dX0_write_69 : decode cX0_write 69 = .ok (.istore 8, 2) := by decide +kernel
theorem dX0_write_71 : decode cX0_write 71 = .ok (.iload 8, 2) := by decide +kernel
theorem dX0_write_73 : decode cX0_write 73 = .ok (.iload 5, 2) := by decide +kernel
theorem dX0_write_75 : decode cX0_write 75 = .ok (.if_icmp .ge 93, 3) := by decide +kernel
theorem dX0_write_78 : decode cX0_write 78 = .ok (.aload_n 2, 1) := by decide +kernel
theorem dX0_write_79 : decode cX0_write 79 = .ok (.iload_n 3, 1) := by decide +kernel
theorem dX0_write_80 : decode cX0_write 80 = .ok (.iload 8, 2) := by decide +kernel
theorem dX0_write_82 : decode cX0_write 82 = .ok (.invokevirtual 40, 3) := by decide +kernel
theorem dX0_write_85 : decode cX0_write 85 = .ok (.istore 9, 2) := by decide +kernel
theorem dX0_write_87 : decode cX0_write 87 = .ok (.iload 4, 2) := by decide +kernel
theorem dX0_write_89 : decode cX0_write 89 = .ok (.iload 8, 2) := by decide +kernel
theorem dX0_write_91 : decode cX0_write 91 = .ok (.invokestatic 44, 3) := by decide +kernel
theorem dX0_write_94 : decode cX0_write 94 = .ok (.ifCond .eq 15, 3) := by decide +kernel
theorem dX0_write_97 : decode cX0_write 97 = .ok (.aload_n 2, 1) := by decide +kernel
theorem dX0_write_98 : decode cX0_write 98 = .ok (.getfield 48, 3) := by decide +kernel
theorem dX0_write_101 : decode cX0_write 101 = .ok (.iload 9, 2) := by decide +kernel
theorem dX0_write_103 : decode cX0_write 103 = .ok (.invokevirtual 23, 3) := by decide +kernel
theorem dX0_write_106 : decode cX0_write 106 = .ok (.goto 5, 3) := by decide +kernel
theorem dX0_write_109 : decode cX0_write 109 = .ok (.iload 9, 2) := by decide +kernel
theorem dX0_write_111 : decode cX0_write 111 = .ok (.istore 10, 2) := by decide +kernel
theorem dX0_write_113 : decode cX0_write 113 = .ok (.iload 10, 2) := by decide +kernel
theorem dX0_write_115 : decode cX0_write 115 = .ok (.bipush (-6), 2) := by decide +kernel
theorem dX0_write_117 : decode cX0_write 117 = .ok (.if_icmp .ne 4, 3) := by decide +kernel
theorem dX0_write_120 : decode cX0_write 120 = .ok (.return_, 1) := by decide +kernel
theorem dX0_write_121 : decode cX0_write 121 = .ok (.iload 8, 2) := by decide +kernel
theorem dX0_write_123 : decode cX0_write 123 = .ok (.ifCond .ne 12, 3) := by decide +kernel
theorem dX0_write_126 : decode cX0_write 126 = .ok (.aload_n 2, 1) := by decide +kernel
theorem dX0_write_127 : decode cX0_write 127 = .ok (.iload 10, 2) := by decide +kernel
theorem dX0_write_129 : decode cX0_write 129 = .ok (.iconst 0, 1) := by decide +kernel
theorem dX0_write_130 : decode cX0_write 130 = .ok (.invokevirtual 51, 3) := by decide +kernel
theorem dX0_write_133 : decode cX0_write 133 = .ok (.istore 6, 2) := by decide +kernel
theorem dX0_write_135 : decode cX0_write 135 = .ok (.aload_n 2, 1) := by decide +kernel
theorem dX0_write_136 : decode cX0_write 136 = .ok (.iload 10, 2) := by decide +kernel
theorem dX0_write_138 : decode cX0_write 138 = .ok (.aload_n 2, 1) := by decide +kernel
theorem dX0_write_139 : decode cX0_write 139 = .ok (.getfield 54, 3) := by decide +kernel
theorem dX0_write_142 : decode cX0_write 142 = .ok (.iload 10, 2) := by decide +kernel
theorem dX0_write_144 : decode cX0_write 144 = .ok (.invokevirtual 23, 3) := by decide +kernel
theorem dX0_write_147 : decode cX0_write 147 = .ok (.iconst 1, 1) := by decide +kernel
theorem dX0_write_148 : decode cX0_write 148 = .ok (.isub, 1) := by decide +kernel
theorem dX0_write_149 : decode cX0_write 149 = .ok (.invokevirtual 51, 3) := by decide +kernel
theorem dX0_write_152 : decode cX0_write 152 = .ok (.istore 7, 2) := by decide +kernel
theorem dX0_write_154 : decode cX0_write 154 = .ok (.aload_n 0, 1) := by decide +kernel
theorem dX0_write_155 : decode cX0_write 155 = .ok (.iload_n 1, 1) := by decide +kernel
theorem dX0_write_156 : decode cX0_write 156 = .ok (.aload_n 2, 1) := by decide +kernel
theorem dX0_write_157 : decode cX0_write 157 = .ok (.iload 10, 2) := by decide +kernel
theorem dX0_write_159 : decode cX0_write 159 = .ok (.invokevirtual 57, 3) := by decide +kernel
theorem dX0_write_162 : decode cX0_write 162 = .ok (.iinc 8 1, 3) := by decide +kernel
theorem dX0_write_165 : decode cX0_write 165 = .ok (.goto (-94), 3) := by decide +kernel
theorem dX0_write_168 : decode cX0_write 168 = .ok (.aload_n 0, 1) := by decide +kernel
theorem dX0_write_169 : decode cX0_write 169 = .ok (.getfield 20, 3) := by decide +kernel
theorem dX0_write_172 : decode cX0_write 172 = .ok (.iload_n 1, 1) := by decide +kernel
theorem dX0_write_173 : decode cX0_write 173 = .ok (.aload_n 0, 1) := by decide +kernel
theorem dX0_write_174 : decode cX0_write 174 = .ok (.iload_n 1, 1) := by decide +kernel
theorem dX0_write_175 : decode cX0_write 175 = .ok (.aload_n 2, 1) := by decide +kernel
theorem dX0_write_176 : decode cX0_write 176 = .ok (.getfield 61, 3) := by decide +kernel
theorem dX0_write_179 : decode cX0_write 179 = .ok (.iconst 0, 1) := by decide +kernel
theorem dX0_write_180 : decode cX0_write 180 = .ok (.invokevirtual 23, 3) := by decide +kernel
theorem dX0_write_183 : decode cX0_write 183 = .ok (.iload 6, 2) := by decide +kernel
theorem dX0_write_185 : decode cX0_write 185 = .ok (.iload 7, 2) := by decide +kernel
theorem dX0_write_187 : decode cX0_write 187 = .ok (.invokevirtual 64, 3) := by decide +kernel
theorem dX0_write_190 : decode cX0_write 190 = .ok (.invokevirtual 31, 3) := by decide +kernel
theorem dX0_write_193 : decode cX0_write 193 = .ok (.return_, 1) := by decide +kernel
theorem dX0_addLetters_0 : decode cX0_addLetters 0 = .ok (.iconst 0, 1) := by decide +kernel
theorem dX0_addLetters_1 : decode cX0_addLetters 1 = .ok (.istore 4, 2) := by decide +kernel
theorem dX0_addLetters_3 : decode cX0_addLetters 3 = .ok (.iload 4, 2) := by decide +kernel
theorem dX0_addLetters_5 : decode cX0_addLetters 5 = .ok (.aload_n 2, 1) := by decide +kernel
theorem dX0_addLetters_6 : decode cX0_addLetters 6 = .ok (.getfield 54, 3) := by decide +kernel
theorem dX0_addLetters_9 : decode cX0_addLetters 9 = .ok (.iload_n 3, 1) := by decide +kernel
theorem dX0_addLetters_10 : decode cX0_addLetters 10 = .ok (.invokevirtual 23, 3) := by decide +kernel
theorem dX0_addLetters_13 : decode cX0_addLetters 13 = .ok (.if_icmp .ge 29, 3) := by decide +kernel
theorem dX0_addLetters_16 : decode cX0_addLetters 16 = .ok (.aload_n 0, 1) := by decide +kernel
theorem dX0_addLetters_17 : decode cX0_addLetters 17 = .ok (.getfield 14, 3) := by decide +kernel
theorem dX0_addLetters_20 : decode cX0_addLetters 20 = .ok (.iload_n 1, 1) := by decide +kernel
theorem dX0_addLetters_21 : decode cX0_addLetters 21 = .ok (.bipush 6, 2) := by decide +kernel
theorem dX0_addLetters_23 : decode cX0_addLetters 23 = .ok (.imul, 1) := by decide +kernel
theorem dX0_addLetters_24 : decode cX0_addLetters 24 = .ok (.aload_n 2, 1) := by decide +kernel
theorem dX0_addLetters_25 : decode cX0_addLetters 25 = .ok (.iload_n 3, 1) := by decide +kernel
theorem dX0_addLetters_26 : decode cX0_addLetters 26 = .ok (.iload 4, 2) := by decide +kernel
theorem dX0_addLetters_28 : decode cX0_addLetters 28 = .ok (.invokevirtual 51, 3) := by decide +kernel
theorem dX0_addLetters_31 : decode cX0_addLetters 31 = .ok (.iadd, 1) := by decide +kernel
theorem dX0_addLetters_32 : decode cX0_addLetters 32 = .ok (.iconst 1, 1) := by decide +kernel
theorem dX0_addLetters_33 : decode cX0_addLetters 33 = .ok (.invokevirtual 68, 3) := by decide +kernel
theorem dX0_addLetters_36 : decode cX0_addLetters 36 = .ok (.iinc 4 1, 3) := by decide +kernel
theorem dX0_addLetters_39 : decode cX0_addLetters 39 = .ok (.goto (-36), 3) := by decide +kernel
theorem dX0_addLetters_42 : decode cX0_addLetters 42 = .ok (.return_, 1) := by decide +kernel
theorem dX0_byLaw_0 : decode cX0_byLaw 0 = .ok (.iload_n 2, 1) := by decide +kernel
theorem dX0_byLaw_1 : decode cX0_byLaw 1 = .ok (.iconst 2, 1) := by decide +kernel
theorem dX0_byLaw_2 : decode cX0_byLaw 2 = .ok (.if_icmp .ne 5, 3) := by decide +kernel
theorem dX0_byLaw_5 : decode cX0_byLaw 5 = .ok (.iload_n 3, 1) := by decide +kernel
theorem dX0_byLaw_6 : decode cX0_byLaw 6 = .ok (.ireturn, 1) := by decide +kernel
theorem dX0_byLaw_7 : decode cX0_byLaw 7 = .ok (.iload_n 2, 1) := by decide +kernel
theorem dX0_byLaw_8 : decode cX0_byLaw 8 = .ok (.iconst 3, 1) := by decide +kernel
theorem dX0_byLaw_9 : decode cX0_byLaw 9 = .ok (.if_icmp .ne 6, 3) := by decide +kernel
theorem dX0_byLaw_12 : decode cX0_byLaw 12 = .ok (.iload 4, 2) := by decide +kernel
theorem dX0_byLaw_14 : decode cX0_byLaw 14 = .ok (.ireturn, 1) := by decide +kernel
theorem dX0_byLaw_15 : decode cX0_byLaw 15 = .ok (.bipush (-6), 2) := by decide +kernel
theorem dX0_byLaw_17 : decode cX0_byLaw 17 = .ok (.istore 5, 2) := by decide +kernel
theorem dX0_byLaw_19 : decode cX0_byLaw 19 = .ok (.iconst 0, 1) := by decide +kernel
theorem dX0_byLaw_20 : decode cX0_byLaw 20 = .ok (.istore 6, 2) := by decide +kernel
theorem dX0_byLaw_22 : decode cX0_byLaw 22 = .ok (.iload 6, 2) := by decide +kernel
theorem dX0_byLaw_24 : decode cX0_byLaw 24 = .ok (.bipush 6, 2) := by decide +kernel
theorem dX0_byLaw_26 : decode cX0_byLaw 26 = .ok (.if_icmp .ge 64, 3) := by decide +kernel
theorem dX0_byLaw_29 : decode cX0_byLaw 29 = .ok (.aload_n 0, 1) := by decide +kernel
theorem dX0_byLaw_30 : decode cX0_byLaw 30 = .ok (.iload_n 1, 1) := by decide +kernel
theorem dX0_byLaw_31 : decode cX0_byLaw 31 = .ok (.iload 6, 2) := by decide +kernel
theorem dX0_byLaw_33 : decode cX0_byLaw 33 = .ok (.invokevirtual 71, 3) := by decide +kernel
theorem dX0_byLaw_36 : decode cX0_byLaw 36 = .ok (.aload_n 0, 1) := by decide +kernel
theorem dX0_byLaw_37 : decode cX0_byLaw 37 = .ok (.iload_n 1, 1) := by decide +kernel
theorem dX0_byLaw_38 : decode cX0_byLaw 38 = .ok (.iload 5, 2) := by decide +kernel
theorem dX0_byLaw_40 : decode cX0_byLaw 40 = .ok (.invokevirtual 71, 3) := by decide +kernel
theorem dX0_byLaw_43 : decode cX0_byLaw 43 = .ok (.isub, 1) := by decide +kernel
theorem dX0_byLaw_44 : decode cX0_byLaw 44 = .ok (.istore 7, 2) := by decide +kernel
theorem dX0_byLaw_46 : decode cX0_byLaw 46 = .ok (.aload_n 0, 1) := by decide +kernel
theorem dX0_byLaw_47 : decode cX0_byLaw 47 = .ok (.iload_n 1, 1) := by decide +kernel
theorem dX0_byLaw_48 : decode cX0_byLaw 48 = .ok (.iload 6, 2) := by decide +kernel
theorem dX0_byLaw_50 : decode cX0_byLaw 50 = .ok (.invokevirtual 71, 3) := by decide +kernel
theorem dX0_byLaw_53 : decode cX0_byLaw 53 = .ok (.ifCond .le 31, 3) := by decide +kernel
theorem dX0_byLaw_56 : decode cX0_byLaw 56 = .ok (.iload 5, 2) := by decide +kernel
theorem dX0_byLaw_58 : decode cX0_byLaw 58 = .ok (.bipush (-6), 2) := by decide +kernel
theorem dX0_byLaw_60 : decode cX0_byLaw 60 = .ok (.if_icmp .eq 20, 3) := by decide +kernel
theorem dX0_byLaw_63 : decode cX0_byLaw 63 = .ok (.iload_n 2, 1) := by decide +kernel
theorem dX0_byLaw_64 : decode cX0_byLaw 64 = .ok (.ifCond .ne 11, 3) := by decide +kernel
theorem dX0_byLaw_67 : decode cX0_byLaw 67 = .ok (.iload 7, 2) := by decide +kernel
theorem dX0_byLaw_69 : decode cX0_byLaw 69 = .ok (.ifCond .le 15, 3) := by decide +kernel
theorem dX0_byLaw_72 : decode cX0_byLaw 72 = .ok (.goto 8, 3) := by decide +kernel
theorem dX0_byLaw_75 : decode cX0_byLaw 75 = .ok (.iload 7, 2) := by decide +kernel
theorem dX0_byLaw_77 : decode cX0_byLaw 77 = .ok (.ifCond .ge 7, 3) := by decide +kernel
theorem dX0_byLaw_80 : decode cX0_byLaw 80 = .ok (.iload 6, 2) := by decide +kernel
theorem dX0_byLaw_82 : decode cX0_byLaw 82 = .ok (.istore 5, 2) := by decide +kernel
theorem dX0_byLaw_84 : decode cX0_byLaw 84 = .ok (.iinc 6 1, 3) := by decide +kernel
theorem dX0_byLaw_87 : decode cX0_byLaw 87 = .ok (.goto (-65), 3) := by decide +kernel
theorem dX0_byLaw_90 : decode cX0_byLaw 90 = .ok (.iload 5, 2) := by decide +kernel
theorem dX0_byLaw_92 : decode cX0_byLaw 92 = .ok (.ireturn, 1) := by decide +kernel
theorem dX1_init_0 : decode cX1_init 0 = .ok (.aload_n 0, 1) := by decide +kernel
theorem dX1_init_1 : decode cX1_init 1 = .ok (.invokespecial 3, 3) := by decide +kernel
theorem dX1_init_4 : decode cX1_init 4 = .ok (.aload_n 0, 1) := by decide +kernel
theorem dX1_init_5 : decode cX1_init 5 = .ok (.new 9, 3) := by decide +kernel
theorem dX1_init_8 : decode cX1_init 8 = .ok (.dup, 1) := by decide +kernel
theorem dX1_init_9 : decode cX1_init 9 = .ok (.sipush 384, 3) := by decide +kernel
theorem dX1_init_12 : decode cX1_init 12 = .ok (.invokespecial 13, 3) := by decide +kernel
theorem dX1_init_15 : decode cX1_init 15 = .ok (.putfield 16, 3) := by decide +kernel
theorem dX1_init_18 : decode cX1_init 18 = .ok (.aload_n 0, 1) := by decide +kernel
theorem dX1_init_19 : decode cX1_init 19 = .ok (.new 20, 3) := by decide +kernel
theorem dX1_init_22 : decode cX1_init 22 = .ok (.dup, 1) := by decide +kernel
theorem dX1_init_23 : decode cX1_init 23 = .ok (.invokespecial 22, 3) := by decide +kernel
theorem dX1_init_26 : decode cX1_init 26 = .ok (.putfield 23, 3) := by decide +kernel
theorem dX1_init_29 : decode cX1_init 29 = .ok (.aload_n 0, 1) := by decide +kernel
theorem dX1_init_30 : decode cX1_init 30 = .ok (.new 27, 3) := by decide +kernel
theorem dX1_init_33 : decode cX1_init 33 = .ok (.dup, 1) := by decide +kernel
theorem dX1_init_34 : decode cX1_init 34 = .ok (.bipush 77, 2) := by decide +kernel
theorem dX1_init_36 : decode cX1_init 36 = .ok (.invokespecial 29, 3) := by decide +kernel
theorem dX1_init_39 : decode cX1_init 39 = .ok (.putfield 30, 3) := by decide +kernel
theorem dX1_init_42 : decode cX1_init 42 = .ok (.aload_n 0, 1) := by decide +kernel
theorem dX1_init_43 : decode cX1_init 43 = .ok (.sipush 462, 3) := by decide +kernel
theorem dX1_init_46 : decode cX1_init 46 = .ok (.newarray .long, 2) := by decide +kernel
theorem dX1_init_48 : decode cX1_init 48 = .ok (.putfield 34, 3) := by decide +kernel
theorem dX1_init_51 : decode cX1_init 51 = .ok (.aload_n 0, 1) := by decide +kernel
theorem dX1_init_52 : decode cX1_init 52 = .ok (.iconst 0, 1) := by decide +kernel
theorem dX1_init_53 : decode cX1_init 53 = .ok (.putfield 38, 3) := by decide +kernel
theorem dX1_init_56 : decode cX1_init 56 = .ok (.aload_n 0, 1) := by decide +kernel
theorem dX1_init_57 : decode cX1_init 57 = .ok (.ldc2_w 42, 3) := by decide +kernel
theorem dX1_init_60 : decode cX1_init 60 = .ok (.putfield 44, 3) := by decide +kernel
theorem dX1_init_63 : decode cX1_init 63 = .ok (.iconst 0, 1) := by decide +kernel
theorem dX1_init_64 : decode cX1_init 64 = .ok (.istore_n 1, 1) := by decide +kernel
theorem dX1_init_65 : decode cX1_init 65 = .ok (.iload_n 1, 1) := by decide +kernel
theorem dX1_init_66 : decode cX1_init 66 = .ok (.bipush 11, 2) := by decide +kernel
theorem dX1_init_68 : decode cX1_init 68 = .ok (.if_icmp .ge 80, 3) := by decide +kernel
theorem dX1_init_71 : decode cX1_init 71 = .ok (.aload_n 0, 1) := by decide +kernel
theorem dX1_init_72 : decode cX1_init 72 = .ok (.getfield 30, 3) := by decide +kernel
theorem dX1_init_75 : decode cX1_init 75 = .ok (.iload_n 1, 1) := by decide +kernel
theorem dX1_init_76 : decode cX1_init 76 = .ok (.bipush 7, 2) := by decide +kernel
theorem dX1_init_78 : decode cX1_init 78 = .ok (.imul, 1) := by decide +kernel
theorem dX1_init_79 : decode cX1_init 79 = .ok (.iconst 1, 1) := by decide +kernel
theorem dX1_init_80 : decode cX1_init 80 = .ok (.invokevirtual 48, 3) := by decide +kernel
theorem dX1_init_83 : decode cX1_init 83 = .ok (.iconst 1, 1) := by decide +kernel
theorem dX1_init_84 : decode cX1_init 84 = .ok (.istore_n 2, 1) := by decide +kernel
theorem dX1_init_85 : decode cX1_init 85 = .ok (.iload_n 2, 1) := by decide +kernel
theorem dX1_init_86 : decode cX1_init 86 = .ok (.iload_n 1, 1) := by decide +kernel
theorem dX1_init_87 : decode cX1_init 87 = .ok (.bipush 6, 2) := by decide +kernel
theorem dX1_init_89 : decode cX1_init 89 = .ok (.invokestatic 52, 3) := by decide +kernel
theorem dX1_init_92 : decode cX1_init 92 = .ok (.if_icmp .gt 50, 3) := by decide +kernel
theorem dX1_init_95 : decode cX1_init 95 = .ok (.iload_n 1, 1) := by decide +kernel
theorem dX1_init_96 : decode cX1_init 96 = .ok (.iconst 1, 1) := by decide +kernel
theorem dX1_init_97 : decode cX1_init 97 = .ok (.isub, 1) := by decide +kernel
theorem dX1_init_98 : decode cX1_init 98 = .ok (.bipush 7, 2) := by decide +kernel
theorem dX1_init_100 : decode cX1_init 100 = .ok (.imul, 1) := by decide +kernel
theorem dX1_init_101 : decode cX1_init 101 = .ok (.iload_n 2, 1) := by decide +kernel
theorem dX1_init_102 : decode cX1_init 102 = .ok (.iadd, 1) := by decide +kernel
theorem dX1_init_103 : decode cX1_init 103 = .ok (.istore_n 3, 1) := by decide +kernel
theorem dX1_init_104 : decode cX1_init 104 = .ok (.aload_n 0, 1) := by decide +kernel
theorem dX1_init_105 : decode cX1_init 105 = .ok (.getfield 30, 3) := by decide +kernel
theorem dX1_init_108 : decode cX1_init 108 = .ok (.iload_n 1, 1) := by decide +kernel
theorem dX1_init_109 : decode cX1_init 109 = .ok (.bipush 7, 2) := by decide +kernel
theorem dX1_init_111 : decode cX1_init 111 = .ok (.imul, 1) := by decide +kernel
theorem dX1_init_112 : decode cX1_init 112 = .ok (.iload_n 2, 1) := by decide +kernel
theorem dX1_init_113 : decode cX1_init 113 = .ok (.iadd, 1) := by decide +kernel
theorem dX1_init_114 : decode cX1_init 114 = .ok (.aload_n 0, 1) := by decide +kernel
theorem dX1_init_115 : decode cX1_init 115 = .ok (.getfield 30, 3) := by decide +kernel
theorem dX1_init_118 : decode cX1_init 118 = .ok (.iload_n 3, 1) := by decide +kernel
theorem dX1_init_119 : decode cX1_init 119 = .ok (.invokevirtual 58, 3) := by decide +kernel
theorem dX1_init_122 : decode cX1_init 122 = .ok (.aload_n 0, 1) := by decide +kernel
theorem dX1_init_123 : decode cX1_init 123 = .ok (.getfield 30, 3) := by decide +kernel
theorem dX1_init_126 : decode cX1_init 126 = .ok (.iload_n 3, 1) := by decide +kernel
theorem dX1_init_127 : decode cX1_init 127 = .ok (.iconst 1, 1) := by decide +kernel
theorem dX1_init_128 : decode cX1_init 128 = .ok (.isub, 1) := by decide +kernel
theorem dX1_init_129 : decode cX1_init 129 = .ok (.invokevirtual 58, 3) := by decide +kernel
theorem dX1_init_132 : decode cX1_init 132 = .ok (.iadd, 1) := by decide +kernel
theorem dX1_init_133 : decode cX1_init 133 = .ok (.invokevirtual 48, 3) := by decide +kernel
theorem dX1_init_136 : decode cX1_init 136 = .ok (.iinc 2 1, 3) := by decide +kernel
theorem dX1_init_139 : decode cX1_init 139 = .ok (.goto (-54), 3) := by decide +kernel
theorem dX1_init_142 : decode cX1_init 142 = .ok (.iinc 1 1, 3) := by decide +kernel
theorem dX1_init_145 : decode cX1_init 145 = .ok (.goto (-80), 3) := by decide +kernel
theorem dX1_init_148 : decode cX1_init 148 = .ok (.return_, 1) := by decide +kernel
theorem dX1_load_0 : decode cX1_load 0 = .ok (.aload_n 0, 1) := by decide +kernel
theorem dX1_load_1 : decode cX1_load 1 = .ok (.aload_n 2, 1) := by decide +kernel
theorem dX1_load_2 : decode cX1_load 2 = .ok (.invokevirtual 62, 3) := by decide +kernel
theorem dX1_load_5 : decode cX1_load 5 = .ok (.bipush 6, 2) := by decide +kernel
theorem dX1_load_7 : decode cX1_load 7 = .ok (.invokestatic 52, 3) := by decide +kernel
theorem dX1_load_10 : decode cX1_load 10 = .ok (.putfield 38, 3) := by decide +kernel
theorem dX1_load_13 : decode cX1_load 13 = .ok (.iconst 0, 1) := by decide +kernel
theorem dX1_load_14 : decode cX1_load 14 = .ok (.istore_n 3, 1) := by decide +kernel
theorem dX1_load_15 : decode cX1_load 15 = .ok (.iload_n 3, 1) := by decide +kernel
theorem dX1_load_16 : decode cX1_load 16 = .ok (.aload_n 0, 1) := by decide +kernel
theorem dX1_load_17 : decode cX1_load 17 = .ok (.getfield 38, 3) := by decide +kernel
theorem dX1_load_20 : decode cX1_load 20 = .ok (.if_icmp .ge 47, 3) := by decide +kernel
theorem dX1_load_23 : decode cX1_load 23 = .ok (.iconst 0, 1) := by decide +kernel
theorem dX1_load_24 : decode cX1_load 24 = .ok (.istore 4, 2) := by decide +kernel
theorem dX1_load_26 : decode cX1_load 26 = .ok (.iload 4, 2) := by decide +kernel
theorem dX1_load_28 : decode cX1_load 28 = .ok (.bipush 64, 2) := by decide +kernel
theorem dX1_load_30 : decode cX1_load 30 = .ok (.if_icmp .ge 31, 3) := by decide +kernel
theorem dX1_load_33 : decode cX1_load 33 = .ok (.aload_n 0, 1) := by decide +kernel
theorem dX1_load_34 : decode cX1_load 34 = .ok (.getfield 16, 3) := by decide +kernel
theorem dX1_load_37 : decode cX1_load 37 = .ok (.iload_n 3, 1) := by decide +kernel
theorem dX1_load_38 : decode cX1_load 38 = .ok (.bipush 64, 2) := by decide +kernel
theorem dX1_load_40 : decode cX1_load 40 = .ok (.imul, 1) := by decide +kernel
theorem dX1_load_41 : decode cX1_load 41 = .ok (.iload 4, 2) := by decide +kernel
theorem dX1_load_43 : decode cX1_load 43 = .ok (.iadd, 1) := by decide +kernel
theorem dX1_load_44 : decode cX1_load 44 = .ok (.aload_n 1, 1) := by decide +kernel
theorem dX1_load_45 : decode cX1_load 45 = .ok (.aload_n 2, 1) := by decide +kernel
theorem dX1_load_46 : decode cX1_load 46 = .ok (.iload_n 3, 1) := by decide +kernel
theorem dX1_load_47 : decode cX1_load 47 = .ok (.invokevirtual 67, 3) := by decide +kernel
theorem dX1_load_50 : decode cX1_load 50 = .ok (.iload 4, 2) := by decide +kernel
theorem dX1_load_52 : decode cX1_load 52 = .ok (.invokevirtual 70, 3) := by decide +kernel
theorem dX1_load_55 : decode cX1_load 55 = .ok (.iinc 4 1, 3) := by decide +kernel
theorem dX1_load_58 : decode cX1_load 58 = .ok (.goto (-32), 3) := by decide +kernel
theorem dX1_load_61 : decode cX1_load 61 = .ok (.iinc 3 1, 3) := by decide +kernel
theorem dX1_load_64 : decode cX1_load 64 = .ok (.goto (-49), 3) := by decide +kernel
theorem dX1_load_67 : decode cX1_load 67 = .ok (.aload_n 0, 1) := by decide +kernel
theorem dX1_load_68 : decode cX1_load 68 = .ok (.getfield 23, 3) := by decide +kernel
theorem dX1_load_71 : decode cX1_load 71 = .ok (.aload_n 1, 1) := by decide +kernel
theorem dX1_load_72 : decode cX1_load 72 = .ok (.invokevirtual 74, 3) := by decide +kernel
theorem dX1_load_75 : decode cX1_load 75 = .ok (.iconst 0, 1) := by decide +kernel
theorem dX1_load_76 : decode cX1_load 76 = .ok (.istore_n 3, 1) := by decide +kernel
theorem dX1_load_77 : decode cX1_load 77 = .ok (.iload_n 3, 1) := by decide +kernel
theorem dX1_load_78 : decode cX1_load 78 = .ok (.aload_n 0, 1) := by decide +kernel
theorem dX1_load_79 : decode cX1_load 79 = .ok (.getfield 34, 3) := by decide +kernel
theorem dX1_load_82 : decode cX1_load 82 = .ok (.arraylength, 1) := by decide +kernel
theorem dX1_load_83 : decode cX1_load 83 = .ok (.if_icmp .ge 18, 3) := by decide +kernel
theorem dX1_load_86 : decode cX1_load 86 = .ok (.aload_n 0, 1) := by decide +kernel
theorem dX1_load_87 : decode cX1_load 87 = .ok (.getfield 34, 3) := by decide +kernel
theorem dX1_load_90 : decode cX1_load 90 = .ok (.iload_n 3, 1) := by decide +kernel
theorem dX1_load_91 : decode cX1_load 91 = .ok (.ldc2_w 78, 3) := by decide +kernel
theorem dX1_load_94 : decode cX1_load 94 = .ok (.lastore, 1) := by decide +kernel
theorem dX1_load_95 : decode cX1_load 95 = .ok (.iinc 3 1, 3) := by decide +kernel
theorem dX1_load_98 : decode cX1_load 98 = .ok (.goto (-21), 3) := by decide +kernel
theorem dX1_load_101 : decode cX1_load 101 = .ok (.aload_n 0, 1) := by decide +kernel
theorem dX1_load_102 : decode cX1_load 102 = .ok (.aload_n 0, 1) := by decide +kernel
theorem dX1_load_103 : decode cX1_load 103 = .ok (.iconst 0, 1) := by decide +kernel
theorem dX1_load_104 : decode cX1_load 104 = .ok (.invokevirtual 80, 3) := by decide +kernel
theorem dX1_load_107 : decode cX1_load 107 = .ok (.putfield 44, 3) := by decide +kernel
theorem dX1_load_110 : decode cX1_load 110 = .ok (.return_, 1) := by decide +kernel
theorem dX1_howMany_0 : decode cX1_howMany 0 = .ok (.aload_n 0, 1) := by decide +kernel
theorem dX1_howMany_1 : decode cX1_howMany 1 = .ok (.getfield 44, 3) := by decide +kernel
theorem dX1_howMany_4 : decode cX1_howMany 4 = .ok (.ldc2_w 42, 3) := by decide +kernel
theorem dX1_howMany_7 : decode cX1_howMany 7 = .ok (.lcmp, 1) := by decide +kernel
theorem dX1_howMany_8 : decode cX1_howMany 8 = .ok (.ifCond .ge 14, 3) := by decide +kernel
theorem dX1_howMany_11 : decode cX1_howMany 11 = .ok (.aload_n 0, 1) := by decide +kernel
theorem dX1_howMany_12 : decode cX1_howMany 12 = .ok (.getfield 44, 3) := by decide +kernel
theorem dX1_howMany_15 : decode cX1_howMany 15 = .ok (.bipush 36, 2) := by decide +kernel
theorem dX1_howMany_17 : decode cX1_howMany 17 = .ok (.lshr, 1) := by decide +kernel
theorem dX1_howMany_18 : decode cX1_howMany 18 = .ok (.l2i, 1) := by decide +kernel
theorem dX1_howMany_19 : decode cX1_howMany 19 = .ok (.goto 5, 3) := by decide +kernel
theorem dX1_howMany_22 : decode cX1_howMany 22 = .ok (.bipush (-6), 2) := by decide +kernel
theorem dX1_howMany_24 : decode cX1_howMany 24 = .ok (.ireturn, 1) := by decide +kernel
theorem dX1_placesOf_0 : decode cX1_placesOf 0 = .ok (.aload_n 0, 1) := by decide +kernel
theorem dX1_placesOf_1 : decode cX1_placesOf 1 = .ok (.getfield 44, 3) := by decide +kernel
theorem dX1_placesOf_4 : decode cX1_placesOf 4 = .ok (.ldc2_w 42, 3) := by decide +kernel
theorem dX1_placesOf_7 : decode cX1_placesOf 7 = .ok (.lcmp, 1) := by decide +kernel
theorem dX1_placesOf_8 : decode cX1_placesOf 8 = .ok (.ifCond .ge 19, 3) := by decide +kernel
theorem dX1_placesOf_11 : decode cX1_placesOf 11 = .ok (.aload_n 0, 1) := by decide +kernel
theorem dX1_placesOf_12 : decode cX1_placesOf 12 = .ok (.getfield 44, 3) := by decide +kernel
theorem dX1_placesOf_15 : decode cX1_placesOf 15 = .ok (.iload_n 1, 1) := by decide +kernel
theorem dX1_placesOf_16 : decode cX1_placesOf 16 = .ok (.invokestatic 84, 3) := by decide +kernel
theorem dX1_placesOf_19 : decode cX1_placesOf 19 = .ok (.lshr, 1) := by decide +kernel
theorem dX1_placesOf_20 : decode cX1_placesOf 20 = .ok (.l2i, 1) := by decide +kernel
theorem dX1_placesOf_21 : decode cX1_placesOf 21 = .ok (.bipush 63, 2) := by decide +kernel
theorem dX1_placesOf_23 : decode cX1_placesOf 23 = .ok (.iand, 1) := by decide +kernel
theorem dX1_placesOf_24 : decode cX1_placesOf 24 = .ok (.goto 5, 3) := by decide +kernel
theorem dX1_placesOf_27 : decode cX1_placesOf 27 = .ok (.bipush (-6), 2) := by decide +kernel
theorem dX1_placesOf_29 : decode cX1_placesOf 29 = .ok (.ireturn, 1) := by decide +kernel
theorem dX1_leastFrom_0 : decode cX1_leastFrom 0 = .ok (.iload_n 1, 1) := by decide +kernel
theorem dX1_leastFrom_1 : decode cX1_leastFrom 1 = .ok (.aload_n 0, 1) := by decide +kernel
theorem dX1_leastFrom_2 : decode cX1_leastFrom 2 = .ok (.getfield 38, 3) := by decide +kernel
theorem dX1_leastFrom_5 : decode cX1_leastFrom 5 = .ok (.if_icmp .ge 9, 3) := by decide +kernel
theorem dX1_leastFrom_8 : decode cX1_leastFrom 8 = .ok (.iload_n 1, 1) := by decide +kernel
theorem dX1_leastFrom_9 : decode cX1_leastFrom 9 = .ok (.bipush 6, 2) := by decide +kernel
theorem dX1_leastFrom_11 : decode cX1_leastFrom 11 = .ok (.if_icmp .lt 5, 3) := by decide +kernel
theorem dX1_leastFrom_14 : decode cX1_leastFrom 14 = .ok (.lconst 0, 1) := by decide +kernel
theorem dX1_leastFrom_15 : decode cX1_leastFrom 15 = .ok (.lreturn, 1) := by decide +kernel
theorem dX1_leastFrom_16 : decode cX1_leastFrom 16 = .ok (.aload_n 0, 1) := by decide +kernel
theorem dX1_leastFrom_17 : decode cX1_leastFrom 17 = .ok (.invokevirtual 87, 3) := by decide +kernel
theorem dX1_leastFrom_20 : decode cX1_leastFrom 20 = .ok (.istore_n 2, 1) := by decide +kernel
theorem dX1_leastFrom_21 : decode cX1_leastFrom 21 = .ok (.iload_n 2, 1) := by decide +kernel
theorem dX1_leastFrom_22 : decode cX1_leastFrom 22 = .ok (.ifCond .lt 12, 3) := by decide +kernel
theorem dX1_leastFrom_25 : decode cX1_leastFrom 25 = .ok (.iload_n 2, 1) := by decide +kernel
theorem dX1_leastFrom_26 : decode cX1_leastFrom 26 = .ok (.aload_n 0, 1) := by decide +kernel
theorem dX1_leastFrom_27 : decode cX1_leastFrom 27 = .ok (.getfield 34, 3) := by decide +kernel
theorem dX1_leastFrom_30 : decode cX1_leastFrom 30 = .ok (.arraylength, 1) := by decide +kernel
theorem dX1_leastFrom_31 : decode cX1_leastFrom 31 = .ok (.if_icmp .lt 7, 3) := by decide +kernel
theorem dX1_leastFrom_34 : decode cX1_leastFrom 34 = .ok (.ldc2_w 42, 3) := by decide +kernel
theorem dX1_leastFrom_37 : decode cX1_leastFrom 37 = .ok (.lreturn, 1) := by decide +kernel
theorem dX1_leastFrom_38 : decode cX1_leastFrom 38 = .ok (.aload_n 0, 1) := by decide +kernel
theorem dX1_leastFrom_39 : decode cX1_leastFrom 39 = .ok (.getfield 34, 3) := by decide +kernel
theorem dX1_leastFrom_42 : decode cX1_leastFrom 42 = .ok (.iload_n 2, 1) := by decide +kernel
theorem dX1_leastFrom_43 : decode cX1_leastFrom 43 = .ok (.laload, 1) := by decide +kernel
theorem dX1_leastFrom_44 : decode cX1_leastFrom 44 = .ok (.ldc2_w 78, 3) := by decide +kernel
theorem dX1_leastFrom_47 : decode cX1_leastFrom 47 = .ok (.lcmp, 1) := by decide +kernel
theorem dX1_leastFrom_48 : decode cX1_leastFrom 48 = .ok (.ifCond .ne 14, 3) := by decide +kernel
theorem dX1_leastFrom_51 : decode cX1_leastFrom 51 = .ok (.aload_n 0, 1) := by decide +kernel
theorem dX1_leastFrom_52 : decode cX1_leastFrom 52 = .ok (.getfield 34, 3) := by decide +kernel
theorem dX1_leastFrom_55 : decode cX1_leastFrom 55 = .ok (.iload_n 2, 1) := by decide +kernel
theorem dX1_leastFrom_56 : decode cX1_leastFrom 56 = .ok (.aload_n 0, 1) := by decide +kernel
theorem dX1_leastFrom_57 : decode cX1_leastFrom 57 = .ok (.iload_n 1, 1) := by decide +kernel
theorem dX1_leastFrom_58 : decode cX1_leastFrom 58 = .ok (.invokevirtual 90, 3) := by decide +kernel
theorem dX1_leastFrom_61 : decode cX1_leastFrom 61 = .ok (.lastore, 1) := by decide +kernel
theorem dX1_leastFrom_62 : decode cX1_leastFrom 62 = .ok (.aload_n 0, 1) := by decide +kernel
theorem dX1_leastFrom_63 : decode cX1_leastFrom 63 = .ok (.getfield 34, 3) := by decide +kernel
theorem dX1_leastFrom_66 : decode cX1_leastFrom 66 = .ok (.iload_n 2, 1) := by decide +kernel
theorem dX1_leastFrom_67 : decode cX1_leastFrom 67 = .ok (.laload, 1) := by decide +kernel
theorem dX1_leastFrom_68 : decode cX1_leastFrom 68 = .ok (.lreturn, 1) := by decide +kernel
theorem dX1_searchFrom_0 : decode cX1_searchFrom 0 = .ok (.ldc2_w 42, 3) := by decide +kernel
theorem dX1_searchFrom_3 : decode cX1_searchFrom 3 = .ok (.lstore_n 2, 1) := by decide +kernel
theorem dX1_searchFrom_4 : decode cX1_searchFrom 4 = .ok (.iconst 0, 1) := by decide +kernel
theorem dX1_searchFrom_5 : decode cX1_searchFrom 5 = .ok (.istore 4, 2) := by decide +kernel
theorem dX1_searchFrom_7 : decode cX1_searchFrom 7 = .ok (.iload 4, 2) := by decide +kernel
theorem dX1_searchFrom_9 : decode cX1_searchFrom 9 = .ok (.bipush 64, 2) := by decide +kernel
theorem dX1_searchFrom_11 : decode cX1_searchFrom 11 = .ok (.if_icmp .ge 114, 3) := by decide +kernel
theorem dX1_searchFrom_14 : decode cX1_searchFrom 14 = .ok (.iload_n 1, 1) := by decide +kernel
theorem dX1_searchFrom_15 : decode cX1_searchFrom 15 = .ok (.bipush 64, 2) := by decide +kernel
theorem dX1_searchFrom_17 : decode cX1_searchFrom 17 = .ok (.imul, 1) := by decide +kernel
theorem dX1_searchFrom_18 : decode cX1_searchFrom 18 = .ok (.iload 4, 2) := by decide +kernel
theorem dX1_searchFrom_20 : decode cX1_searchFrom 20 = .ok (.iadd, 1) := by decide +kernel
theorem dX1_searchFrom_21 : decode cX1_searchFrom 21 = .ok (.istore 5, 2) := by decide +kernel
theorem dX1_searchFrom_23 : decode cX1_searchFrom 23 = .ok (.aload_n 0, 1) := by decide +kernel
theorem dX1_searchFrom_24 : decode cX1_searchFrom 24 = .ok (.getfield 16, 3) := by decide +kernel
theorem dX1_searchFrom_27 : decode cX1_searchFrom 27 = .ok (.iload 5, 2) := by decide +kernel
theorem dX1_searchFrom_29 : decode cX1_searchFrom 29 = .ok (.invokevirtual 93, 3) := by decide +kernel
theorem dX1_searchFrom_32 : decode cX1_searchFrom 32 = .ok (.istore 6, 2) := by decide +kernel
theorem dX1_searchFrom_34 : decode cX1_searchFrom 34 = .ok (.iload 4, 2) := by decide +kernel
theorem dX1_searchFrom_36 : decode cX1_searchFrom 36 = .ok (.invokestatic 96, 3) := by decide +kernel
theorem dX1_searchFrom_39 : decode cX1_searchFrom 39 = .ok (.i2l, 1) := by decide +kernel
theorem dX1_searchFrom_40 : decode cX1_searchFrom 40 = .ok (.bipush 36, 2) := by decide +kernel
theorem dX1_searchFrom_42 : decode cX1_searchFrom 42 = .ok (.lshl, 1) := by decide +kernel
theorem dX1_searchFrom_43 : decode cX1_searchFrom 43 = .ok (.iload 4, 2) := by decide +kernel
theorem dX1_searchFrom_45 : decode cX1_searchFrom 45 = .ok (.i2l, 1) := by decide +kernel
theorem dX1_searchFrom_46 : decode cX1_searchFrom 46 = .ok (.iload_n 1, 1) := by decide +kernel
theorem dX1_searchFrom_47 : decode cX1_searchFrom 47 = .ok (.invokestatic 84, 3) := by decide +kernel
theorem dX1_searchFrom_50 : decode cX1_searchFrom 50 = .ok (.lshl, 1) := by decide +kernel
theorem dX1_searchFrom_51 : decode cX1_searchFrom 51 = .ok (.lor, 1) := by decide +kernel
theorem dX1_searchFrom_52 : decode cX1_searchFrom 52 = .ok (.lstore 7, 2) := by decide +kernel
theorem dX1_searchFrom_54 : decode cX1_searchFrom 54 = .ok (.lload 7, 2) := by decide +kernel
theorem dX1_searchFrom_56 : decode cX1_searchFrom 56 = .ok (.lload_n 2, 1) := by decide +kernel
theorem dX1_searchFrom_57 : decode cX1_searchFrom 57 = .ok (.lcmp, 1) := by decide +kernel
theorem dX1_searchFrom_58 : decode cX1_searchFrom 58 = .ok (.ifCond .ge 61, 3) := by decide +kernel
theorem dX1_searchFrom_61 : decode cX1_searchFrom 61 = .ok (.iload 6, 2) := by decide +kernel
theorem dX1_searchFrom_63 : decode cX1_searchFrom 63 = .ok (.bipush (-6), 2) := by decide +kernel
theorem dX1_searchFrom_65 : decode cX1_searchFrom 65 = .ok (.if_icmp .eq 54, 3) := by decide +kernel
theorem dX1_searchFrom_68 : decode cX1_searchFrom 68 = .ok (.aload_n 0, 1) := by decide +kernel
theorem dX1_searchFrom_69 : decode cX1_searchFrom 69 = .ok (.getfield 23, 3) := by decide +kernel
theorem dX1_searchFrom_72 : decode cX1_searchFrom 72 = .ok (.aload_n 0, 1) := by decide +kernel
theorem dX1_searchFrom_73 : decode cX1_searchFrom 73 = .ok (.getfield 16, 3) := by decide +kernel
theorem dX1_searchFrom_76 : decode cX1_searchFrom 76 = .ok (.iload 5, 2) := by decide +kernel
theorem dX1_searchFrom_78 : decode cX1_searchFrom 78 = .ok (.bipush (-6), 2) := by decide +kernel
theorem dX1_searchFrom_80 : decode cX1_searchFrom 80 = .ok (.invokevirtual 101, 3) := by decide +kernel
theorem dX1_searchFrom_83 : decode cX1_searchFrom 83 = .ok (.ifCond .eq 36, 3) := by decide +kernel
theorem dX1_searchFrom_86 : decode cX1_searchFrom 86 = .ok (.aload_n 0, 1) := by decide +kernel
theorem dX1_searchFrom_87 : decode cX1_searchFrom 87 = .ok (.getfield 23, 3) := by decide +kernel
theorem dX1_searchFrom_90 : decode cX1_searchFrom 90 = .ok (.iload 6, 2) := by decide +kernel
theorem dX1_searchFrom_92 : decode cX1_searchFrom 92 = .ok (.invokevirtual 105, 3) := by decide +kernel
theorem dX1_searchFrom_95 : decode cX1_searchFrom 95 = .ok (.lload_n 2, 1) := by decide +kernel
theorem dX1_searchFrom_96 : decode cX1_searchFrom 96 = .ok (.lload 7, 2) := by decide +kernel
theorem dX1_searchFrom_98 : decode cX1_searchFrom 98 = .ok (.aload_n 0, 1) := by decide +kernel
theorem dX1_searchFrom_99 : decode cX1_searchFrom 99 = .ok (.iload_n 1, 1) := by decide +kernel
theorem dX1_searchFrom_100 : decode cX1_searchFrom 100 = .ok (.iconst 1, 1) := by decide +kernel
theorem dX1_searchFrom_101 : decode cX1_searchFrom 101 = .ok (.iadd, 1) := by decide +kernel
theorem dX1_searchFrom_102 : decode cX1_searchFrom 102 = .ok (.invokevirtual 80, 3) := by decide +kernel
theorem dX1_searchFrom_105 : decode cX1_searchFrom 105 = .ok (.ladd, 1) := by decide +kernel
theorem dX1_searchFrom_106 : decode cX1_searchFrom 106 = .ok (.invokestatic 108, 3) := by decide +kernel
theorem dX1_searchFrom_109 : decode cX1_searchFrom 109 = .ok (.lstore_n 2, 1) := by decide +kernel
theorem dX1_searchFrom_110 : decode cX1_searchFrom 110 = .ok (.aload_n 0, 1) := by decide +kernel
theorem dX1_searchFrom_111 : decode cX1_searchFrom 111 = .ok (.getfield 23, 3) := by decide +kernel
theorem dX1_searchFrom_114 : decode cX1_searchFrom 114 = .ok (.iload 6, 2) := by decide +kernel
theorem dX1_searchFrom_116 : decode cX1_searchFrom 116 = .ok (.invokevirtual 111, 3) := by decide +kernel
theorem dX1_searchFrom_119 : decode cX1_searchFrom 119 = .ok (.iinc 4 1, 3) := by decide +kernel
theorem dX1_searchFrom_122 : decode cX1_searchFrom 122 = .ok (.goto (-115), 3) := by decide +kernel
theorem dX1_searchFrom_125 : decode cX1_searchFrom 125 = .ok (.lload_n 2, 1) := by decide +kernel
theorem dX1_searchFrom_126 : decode cX1_searchFrom 126 = .ok (.lreturn, 1) := by decide +kernel
theorem dX1_shiftOf_0 : decode cX1_shiftOf 0 = .ok (.iconst 5, 1) := by decide +kernel
theorem dX1_shiftOf_1 : decode cX1_shiftOf 1 = .ok (.iload_n 0, 1) := by decide +kernel
theorem dX1_shiftOf_2 : decode cX1_shiftOf 2 = .ok (.isub, 1) := by decide +kernel
theorem dX1_shiftOf_3 : decode cX1_shiftOf 3 = .ok (.bipush 6, 2) := by decide +kernel
theorem dX1_shiftOf_5 : decode cX1_shiftOf 5 = .ok (.imul, 1) := by decide +kernel
theorem dX1_shiftOf_6 : decode cX1_shiftOf 6 = .ok (.ireturn, 1) := by decide +kernel
theorem dX1_lossNumber_0 : decode cX1_lossNumber 0 = .ok (.iconst 0, 1) := by decide +kernel
theorem dX1_lossNumber_1 : decode cX1_lossNumber 1 = .ok (.istore_n 1, 1) := by decide +kernel
theorem dX1_lossNumber_2 : decode cX1_lossNumber 2 = .ok (.iconst 0, 1) := by decide +kernel
theorem dX1_lossNumber_3 : decode cX1_lossNumber 3 = .ok (.istore_n 2, 1) := by decide +kernel
theorem dX1_lossNumber_4 : decode cX1_lossNumber 4 = .ok (.iconst 0, 1) := by decide +kernel
theorem dX1_lossNumber_5 : decode cX1_lossNumber 5 = .ok (.istore_n 3, 1) := by decide +kernel
theorem dX1_lossNumber_6 : decode cX1_lossNumber 6 = .ok (.iload_n 3, 1) := by decide +kernel
theorem dX1_lossNumber_7 : decode cX1_lossNumber 7 = .ok (.bipush 6, 2) := by decide +kernel
theorem dX1_lossNumber_9 : decode cX1_lossNumber 9 = .ok (.if_icmp .ge 40, 3) := by decide +kernel
theorem dX1_lossNumber_12 : decode cX1_lossNumber 12 = .ok (.iload_n 2, 1) := by decide +kernel
theorem dX1_lossNumber_13 : decode cX1_lossNumber 13 = .ok (.aload_n 0, 1) := by decide +kernel
theorem dX1_lossNumber_14 : decode cX1_lossNumber 14 = .ok (.getfield 23, 3) := by decide +kernel
theorem dX1_lossNumber_17 : decode cX1_lossNumber 17 = .ok (.iload_n 3, 1) := by decide +kernel
theorem dX1_lossNumber_18 : decode cX1_lossNumber 18 = .ok (.invokevirtual 114, 3) := by decide +kernel
theorem dX1_lossNumber_21 : decode cX1_lossNumber 21 = .ok (.iadd, 1) := by decide +kernel
theorem dX1_lossNumber_22 : decode cX1_lossNumber 22 = .ok (.istore_n 2, 1) := by decide +kernel
theorem dX1_lossNumber_23 : decode cX1_lossNumber 23 = .ok (.iload_n 1, 1) := by decide +kernel
theorem dX1_lossNumber_24 : decode cX1_lossNumber 24 = .ok (.aload_n 0, 1) := by decide +kernel
theorem dX1_lossNumber_25 : decode cX1_lossNumber 25 = .ok (.getfield 30, 3) := by decide +kernel
theorem dX1_lossNumber_28 : decode cX1_lossNumber 28 = .ok (.iload_n 2, 1) := by decide +kernel
theorem dX1_lossNumber_29 : decode cX1_lossNumber 29 = .ok (.iload_n 3, 1) := by decide +kernel
theorem dX1_lossNumber_30 : decode cX1_lossNumber 30 = .ok (.iadd, 1) := by decide +kernel
theorem dX1_lossNumber_31 : decode cX1_lossNumber 31 = .ok (.bipush 7, 2) := by decide +kernel
theorem dX1_lossNumber_33 : decode cX1_lossNumber 33 = .ok (.imul, 1) := by decide +kernel
theorem dX1_lossNumber_34 : decode cX1_lossNumber 34 = .ok (.iload_n 3, 1) := by decide +kernel
theorem dX1_lossNumber_35 : decode cX1_lossNumber 35 = .ok (.iadd, 1) := by decide +kernel
theorem dX1_lossNumber_36 : decode cX1_lossNumber 36 = .ok (.iconst 1, 1) := by decide +kernel
theorem dX1_lossNumber_37 : decode cX1_lossNumber 37 = .ok (.iadd, 1) := by decide +kernel
theorem dX1_lossNumber_38 : decode cX1_lossNumber 38 = .ok (.invokevirtual 58, 3) := by decide +kernel
theorem dX1_lossNumber_41 : decode cX1_lossNumber 41 = .ok (.iadd, 1) := by decide +kernel
theorem dX1_lossNumber_42 : decode cX1_lossNumber 42 = .ok (.istore_n 1, 1) := by decide +kernel
theorem dX1_lossNumber_43 : decode cX1_lossNumber 43 = .ok (.iinc 3 1, 3) := by decide +kernel
theorem dX1_lossNumber_46 : decode cX1_lossNumber 46 = .ok (.goto (-40), 3) := by decide +kernel
theorem dX1_lossNumber_49 : decode cX1_lossNumber 49 = .ok (.iload_n 1, 1) := by decide +kernel
theorem dX1_lossNumber_50 : decode cX1_lossNumber 50 = .ok (.ireturn, 1) := by decide +kernel
theorem dX2_init_0 : decode cX2_init 0 = .ok (.aload_n 0, 1) := by decide +kernel
theorem dX2_init_1 : decode cX2_init 1 = .ok (.invokespecial 1, 3) := by decide +kernel
theorem dX2_init_4 : decode cX2_init 4 = .ok (.aload_n 0, 1) := by decide +kernel
theorem dX2_init_5 : decode cX2_init 5 = .ok (.new 7, 3) := by decide +kernel
theorem dX2_init_8 : decode cX2_init 8 = .ok (.dup, 1) := by decide +kernel
theorem dX2_init_9 : decode cX2_init 9 = .ok (.invokespecial 9, 3) := by decide +kernel
theorem dX2_init_12 : decode cX2_init 12 = .ok (.putfield 10, 3) := by decide +kernel
theorem dX2_init_15 : decode cX2_init 15 = .ok (.aload_n 0, 1) := by decide +kernel
theorem dX2_init_16 : decode cX2_init 16 = .ok (.iconst 0, 1) := by decide +kernel
theorem dX2_init_17 : decode cX2_init 17 = .ok (.putfield 16, 3) := by decide +kernel
theorem dX2_init_20 : decode cX2_init 20 = .ok (.return_, 1) := by decide +kernel
theorem dX2_keep_0 : decode cX2_keep 0 = .ok (.aload_n 0, 1) := by decide +kernel
theorem dX2_keep_1 : decode cX2_keep 1 = .ok (.getfield 10, 3) := by decide +kernel
theorem dX2_keep_4 : decode cX2_keep 4 = .ok (.aload_n 1, 1) := by decide +kernel
theorem dX2_keep_5 : decode cX2_keep 5 = .ok (.invokevirtual 20, 3) := by decide +kernel
theorem dX2_keep_8 : decode cX2_keep 8 = .ok (.aload_n 0, 1) := by decide +kernel
theorem dX2_keep_9 : decode cX2_keep 9 = .ok (.iconst 1, 1) := by decide +kernel
theorem dX2_keep_10 : decode cX2_keep 10 = .ok (.putfield 16, 3) := by decide +kernel
theorem dX2_keep_13 : decode cX2_keep 13 = .ok (.return_, 1) := by decide +kernel
theorem dX2_giveTo_0 : decode cX2_giveTo 0 = .ok (.aload_n 0, 1) := by decide +kernel
theorem dX2_giveTo_1 : decode cX2_giveTo 1 = .ok (.getfield 16, 3) := by decide +kernel
theorem dX2_giveTo_4 : decode cX2_giveTo 4 = .ok (.ifCond .eq 11, 3) := by decide +kernel
theorem dX2_giveTo_7 : decode cX2_giveTo 7 = .ok (.aload_n 1, 1) := by decide +kernel
theorem dX2_giveTo_8 : decode cX2_giveTo 8 = .ok (.aload_n 0, 1) := by decide +kernel
theorem dX2_giveTo_9 : decode cX2_giveTo 9 = .ok (.getfield 10, 3) := by decide +kernel
theorem dX2_giveTo_12 : decode cX2_giveTo 12 = .ok (.invokevirtual 20, 3) := by decide +kernel
theorem dX2_giveTo_15 : decode cX2_giveTo 15 = .ok (.aload_n 0, 1) := by decide +kernel
theorem dX2_giveTo_16 : decode cX2_giveTo 16 = .ok (.getfield 16, 3) := by decide +kernel
theorem dX2_giveTo_19 : decode cX2_giveTo 19 = .ok (.ireturn, 1) := by decide +kernel
theorem dX3_init_0 : decode cX3_init 0 = .ok (.aload_n 0, 1) := by decide +kernel
theorem dX3_init_1 : decode cX3_init 1 = .ok (.invokespecial 3, 3) := by decide +kernel
theorem dX3_init_4 : decode cX3_init 4 = .ok (.aload_n 0, 1) := by decide +kernel
theorem dX3_init_5 : decode cX3_init 5 = .ok (.new 9, 3) := by decide +kernel
theorem dX3_init_8 : decode cX3_init 8 = .ok (.dup, 1) := by decide +kernel
theorem dX3_init_9 : decode cX3_init 9 = .ok (.bipush 14, 2) := by decide +kernel
theorem dX3_init_11 : decode cX3_init 11 = .ok (.invokespecial 11, 3) := by decide +kernel
theorem dX3_init_14 : decode cX3_init 14 = .ok (.putfield 14, 3) := by decide +kernel
theorem dX3_init_17 : decode cX3_init 17 = .ok (.aload_n 0, 1) := by decide +kernel
theorem dX3_init_18 : decode cX3_init 18 = .ok (.iconst 0, 1) := by decide +kernel
theorem dX3_init_19 : decode cX3_init 19 = .ok (.putfield 20, 3) := by decide +kernel
theorem dX3_init_22 : decode cX3_init 22 = .ok (.return_, 1) := by decide +kernel
theorem dX3_count_0 : decode cX3_count 0 = .ok (.aload_n 0, 1) := by decide +kernel
theorem dX3_count_1 : decode cX3_count 1 = .ok (.getfield 20, 3) := by decide +kernel
theorem dX3_count_4 : decode cX3_count 4 = .ok (.ireturn, 1) := by decide +kernel
theorem dX3_add_0 : decode cX3_add 0 = .ok (.aload_n 0, 1) := by decide +kernel
theorem dX3_add_1 : decode cX3_add 1 = .ok (.getfield 14, 3) := by decide +kernel
theorem dX3_add_4 : decode cX3_add 4 = .ok (.aload_n 0, 1) := by decide +kernel
theorem dX3_add_5 : decode cX3_add 5 = .ok (.getfield 20, 3) := by decide +kernel
theorem dX3_add_8 : decode cX3_add 8 = .ok (.iload_n 1, 1) := by decide +kernel
theorem dX3_add_9 : decode cX3_add 9 = .ok (.invokevirtual 24, 3) := by decide +kernel
theorem dX3_add_12 : decode cX3_add 12 = .ok (.aload_n 0, 1) := by decide +kernel
theorem dX3_add_13 : decode cX3_add 13 = .ok (.dup, 1) := by decide +kernel
theorem dX3_add_14 : decode cX3_add 14 = .ok (.getfield 20, 3) := by decide +kernel
theorem dX3_add_17 : decode cX3_add 17 = .ok (.iconst 1, 1) := by decide +kernel
theorem dX3_add_18 : decode cX3_add 18 = .ok (.iadd, 1) := by decide +kernel
theorem dX3_add_19 : decode cX3_add 19 = .ok (.putfield 20, 3) := by decide +kernel
theorem dX3_add_22 : decode cX3_add 22 = .ok (.aload_n 0, 1) := by decide +kernel
theorem dX3_add_23 : decode cX3_add 23 = .ok (.getfield 20, 3) := by decide +kernel
theorem dX3_add_26 : decode cX3_add 26 = .ok (.ireturn, 1) := by decide +kernel
theorem dX3_empty_0 : decode cX3_empty 0 = .ok (.aload_n 0, 1) := by decide +kernel
theorem dX3_empty_1 : decode cX3_empty 1 = .ok (.getfield 20, 3) := by decide +kernel
theorem dX3_empty_4 : decode cX3_empty 4 = .ok (.istore_n 1, 1) := by decide +kernel
theorem dX3_empty_5 : decode cX3_empty 5 = .ok (.aload_n 0, 1) := by decide +kernel
theorem dX3_empty_6 : decode cX3_empty 6 = .ok (.iconst 0, 1) := by decide +kernel
theorem dX3_empty_7 : decode cX3_empty 7 = .ok (.putfield 20, 3) := by decide +kernel
theorem dX3_empty_10 : decode cX3_empty 10 = .ok (.iload_n 1, 1) := by decide +kernel
theorem dX3_empty_11 : decode cX3_empty 11 = .ok (.ireturn, 1) := by decide +kernel
theorem dX3_letterAt_0 : decode cX3_letterAt 0 = .ok (.aload_n 0, 1) := by decide +kernel
theorem dX3_letterAt_1 : decode cX3_letterAt 1 = .ok (.getfield 14, 3) := by decide +kernel
theorem dX3_letterAt_4 : decode cX3_letterAt 4 = .ok (.iload_n 1, 1) := by decide +kernel
theorem dX3_letterAt_5 : decode cX3_letterAt 5 = .ok (.invokevirtual 28, 3) := by decide +kernel
theorem dX3_letterAt_8 : decode cX3_letterAt 8 = .ok (.bipush 97, 2) := by decide +kernel
theorem dX3_letterAt_10 : decode cX3_letterAt 10 = .ok (.isub, 1) := by decide +kernel
theorem dX3_letterAt_11 : decode cX3_letterAt 11 = .ok (.ireturn, 1) := by decide +kernel
theorem dX3_digitAt_0 : decode cX3_digitAt 0 = .ok (.aload_n 0, 1) := by decide +kernel
theorem dX3_digitAt_1 : decode cX3_digitAt 1 = .ok (.getfield 14, 3) := by decide +kernel
theorem dX3_digitAt_4 : decode cX3_digitAt 4 = .ok (.iload_n 1, 1) := by decide +kernel
theorem dX3_digitAt_5 : decode cX3_digitAt 5 = .ok (.invokevirtual 28, 3) := by decide +kernel
theorem dX3_digitAt_8 : decode cX3_digitAt 8 = .ok (.bipush 48, 2) := by decide +kernel
theorem dX3_digitAt_10 : decode cX3_digitAt 10 = .ok (.isub, 1) := by decide +kernel
theorem dX3_digitAt_11 : decode cX3_digitAt 11 = .ok (.ireturn, 1) := by decide +kernel
theorem dX3_colon_0 : decode cX3_colon 0 = .ok (.iconst 0, 1) := by decide +kernel
theorem dX3_colon_1 : decode cX3_colon 1 = .ok (.istore_n 1, 1) := by decide +kernel
theorem dX3_colon_2 : decode cX3_colon 2 = .ok (.iload_n 1, 1) := by decide +kernel
theorem dX3_colon_3 : decode cX3_colon 3 = .ok (.aload_n 0, 1) := by decide +kernel
theorem dX3_colon_4 : decode cX3_colon 4 = .ok (.getfield 20, 3) := by decide +kernel
theorem dX3_colon_7 : decode cX3_colon 7 = .ok (.if_icmp .ge 24, 3) := by decide +kernel
theorem dX3_colon_10 : decode cX3_colon 10 = .ok (.aload_n 0, 1) := by decide +kernel
theorem dX3_colon_11 : decode cX3_colon 11 = .ok (.getfield 14, 3) := by decide +kernel
theorem dX3_colon_14 : decode cX3_colon 14 = .ok (.iload_n 1, 1) := by decide +kernel
theorem dX3_colon_15 : decode cX3_colon 15 = .ok (.invokevirtual 28, 3) := by decide +kernel
theorem dX3_colon_18 : decode cX3_colon 18 = .ok (.bipush 58, 2) := by decide +kernel
theorem dX3_colon_20 : decode cX3_colon 20 = .ok (.if_icmp .ne 5, 3) := by decide +kernel
theorem dX3_colon_23 : decode cX3_colon 23 = .ok (.iload_n 1, 1) := by decide +kernel
theorem dX3_colon_24 : decode cX3_colon 24 = .ok (.ireturn, 1) := by decide +kernel
theorem dX3_colon_25 : decode cX3_colon 25 = .ok (.iinc 1 1, 3) := by decide +kernel
theorem dX3_colon_28 : decode cX3_colon 28 = .ok (.goto (-26), 3) := by decide +kernel
theorem dX3_colon_31 : decode cX3_colon 31 = .ok (.aload_n 0, 1) := by decide +kernel
theorem dX3_colon_32 : decode cX3_colon 32 = .ok (.getfield 20, 3) := by decide +kernel
theorem dX3_colon_35 : decode cX3_colon 35 = .ok (.ireturn, 1) := by decide +kernel
theorem dX3_faultAs_0 : decode cX3_faultAs 0 = .ok (.iload_n 1, 1) := by decide +kernel
theorem dX3_faultAs_1 : decode cX3_faultAs 1 = .ok (.ifCond .ne 13, 3) := by decide +kernel
theorem dX3_faultAs_4 : decode cX3_faultAs 4 = .ok (.aload_n 0, 1) := by decide +kernel
theorem dX3_faultAs_5 : decode cX3_faultAs 5 = .ok (.bipush 97, 2) := by decide +kernel
theorem dX3_faultAs_7 : decode cX3_faultAs 7 = .ok (.bipush 102, 2) := by decide +kernel
theorem dX3_faultAs_9 : decode cX3_faultAs 9 = .ok (.iconst 5, 1) := by decide +kernel
theorem dX3_faultAs_10 : decode cX3_faultAs 10 = .ok (.invokevirtual 32, 3) := by decide +kernel
theorem dX3_faultAs_13 : decode cX3_faultAs 13 = .ok (.ireturn, 1) := by decide +kernel
theorem dX3_faultAs_14 : decode cX3_faultAs 14 = .ok (.iload_n 1, 1) := by decide +kernel
theorem dX3_faultAs_15 : decode cX3_faultAs 15 = .ok (.iconst 1, 1) := by decide +kernel
theorem dX3_faultAs_16 : decode cX3_faultAs 16 = .ok (.if_icmp .ne 14, 3) := by decide +kernel
theorem dX3_faultAs_19 : decode cX3_faultAs 19 = .ok (.aload_n 0, 1) := by decide +kernel
theorem dX3_faultAs_20 : decode cX3_faultAs 20 = .ok (.bipush 48, 2) := by decide +kernel
theorem dX3_faultAs_22 : decode cX3_faultAs 22 = .ok (.bipush 57, 2) := by decide +kernel
theorem dX3_faultAs_24 : decode cX3_faultAs 24 = .ok (.bipush 6, 2) := by decide +kernel
theorem dX3_faultAs_26 : decode cX3_faultAs 26 = .ok (.invokevirtual 32, 3) := by decide +kernel
theorem dX3_faultAs_29 : decode cX3_faultAs 29 = .ok (.ireturn, 1) := by decide +kernel
theorem dX3_faultAs_30 : decode cX3_faultAs 30 = .ok (.aload_n 0, 1) := by decide +kernel
theorem dX3_faultAs_31 : decode cX3_faultAs 31 = .ok (.iload_n 2, 1) := by decide +kernel
theorem dX3_faultAs_32 : decode cX3_faultAs 32 = .ok (.iload_n 1, 1) := by decide +kernel
theorem dX3_faultAs_33 : decode cX3_faultAs 33 = .ok (.iconst 3, 1) := by decide +kernel
theorem dX3_faultAs_34 : decode cX3_faultAs 34 = .ok (.if_icmp .ne 7, 3) := by decide +kernel
theorem dX3_faultAs_37 : decode cX3_faultAs 37 = .ok (.iconst 2, 1) := by decide +kernel
theorem dX3_faultAs_38 : decode cX3_faultAs 38 = .ok (.goto 4, 3) := by decide +kernel
theorem dX3_faultAs_41 : decode cX3_faultAs 41 = .ok (.iconst 1, 1) := by decide +kernel
theorem dX3_faultAs_42 : decode cX3_faultAs 42 = .ok (.invokevirtual 36, 3) := by decide +kernel
theorem dX3_faultAs_45 : decode cX3_faultAs 45 = .ok (.ireturn, 1) := by decide +kernel
theorem dX3_faultAmong_0 : decode cX3_faultAmong 0 = .ok (.iconst 0, 1) := by decide +kernel
theorem dX3_faultAmong_1 : decode cX3_faultAmong 1 = .ok (.istore 4, 2) := by decide +kernel
theorem dX3_faultAmong_3 : decode cX3_faultAmong 3 = .ok (.iload 4, 2) := by decide +kernel
theorem dX3_faultAmong_5 : decode cX3_faultAmong 5 = .ok (.aload_n 0, 1) := by decide +kernel
theorem dX3_faultAmong_6 : decode cX3_faultAmong 6 = .ok (.getfield 20, 3) := by decide +kernel
theorem dX3_faultAmong_9 : decode cX3_faultAmong 9 = .ok (.if_icmp .ge 35, 3) := by decide +kernel
theorem dX3_faultAmong_12 : decode cX3_faultAmong 12 = .ok (.iload 4, 2) := by decide +kernel
theorem dX3_faultAmong_14 : decode cX3_faultAmong 14 = .ok (.iload_n 3, 1) := by decide +kernel
theorem dX3_faultAmong_15 : decode cX3_faultAmong 15 = .ok (.if_icmp .ge 20, 3) := by decide +kernel
theorem dX3_faultAmong_18 : decode cX3_faultAmong 18 = .ok (.aload_n 0, 1) := by decide +kernel
theorem dX3_faultAmong_19 : decode cX3_faultAmong 19 = .ok (.getfield 14, 3) := by decide +kernel
theorem dX3_faultAmong_22 : decode cX3_faultAmong 22 = .ok (.iload 4, 2) := by decide +kernel
theorem dX3_faultAmong_24 : decode cX3_faultAmong 24 = .ok (.invokevirtual 28, 3) := by decide +kernel
theorem dX3_faultAmong_27 : decode cX3_faultAmong 27 = .ok (.iload_n 1, 1) := by decide +kernel
theorem dX3_faultAmong_28 : decode cX3_faultAmong 28 = .ok (.iload_n 2, 1) := by decide +kernel
theorem dX3_faultAmong_29 : decode cX3_faultAmong 29 = .ok (.invokestatic 40, 3) := by decide +kernel
theorem dX3_faultAmong_32 : decode cX3_faultAmong 32 = .ok (.ifCond .ne 6, 3) := by decide +kernel
theorem dX3_faultAmong_35 : decode cX3_faultAmong 35 = .ok (.iload 4, 2) := by decide +kernel
theorem dX3_faultAmong_37 : decode cX3_faultAmong 37 = .ok (.ireturn, 1) := by decide +kernel
theorem dX3_faultAmong_38 : decode cX3_faultAmong 38 = .ok (.iinc 4 1, 3) := by decide +kernel
theorem dX3_faultAmong_41 : decode cX3_faultAmong 41 = .ok (.goto (-38), 3) := by decide +kernel
theorem dX3_faultAmong_44 : decode cX3_faultAmong 44 = .ok (.aload_n 0, 1) := by decide +kernel
theorem dX3_faultAmong_45 : decode cX3_faultAmong 45 = .ok (.getfield 20, 3) := by decide +kernel
theorem dX3_faultAmong_48 : decode cX3_faultAmong 48 = .ok (.ifCond .ne 7, 3) := by decide +kernel
theorem dX3_faultAmong_51 : decode cX3_faultAmong 51 = .ok (.iconst 0, 1) := by decide +kernel
theorem dX3_faultAmong_52 : decode cX3_faultAmong 52 = .ok (.goto 5, 3) := by decide +kernel
theorem dX3_faultAmong_55 : decode cX3_faultAmong 55 = .ok (.bipush (-6), 2) := by decide +kernel
theorem dX3_faultAmong_57 : decode cX3_faultAmong 57 = .ok (.ireturn, 1) := by decide +kernel
theorem dX3_faultInOrders_0 : decode cX3_faultInOrders 0 = .ok (.iload_n 1, 1) := by decide +kernel
theorem dX3_faultInOrders_1 : decode cX3_faultInOrders 1 = .ok (.istore_n 3, 1) := by decide +kernel
theorem dX3_faultInOrders_2 : decode cX3_faultInOrders 2 = .ok (.iload_n 2, 1) := by decide +kernel
theorem dX3_faultInOrders_3 : decode cX3_faultInOrders 3 = .ok (.iconst 1, 1) := by decide +kernel
theorem dX3_faultInOrders_4 : decode cX3_faultInOrders 4 = .ok (.isub, 1) := by decide +kernel
theorem dX3_faultInOrders_5 : decode cX3_faultInOrders 5 = .ok (.istore 4, 2) := by decide +kernel
theorem dX3_faultInOrders_7 : decode cX3_faultInOrders 7 = .ok (.iconst 0, 1) := by decide +kernel
theorem dX3_faultInOrders_8 : decode cX3_faultInOrders 8 = .ok (.istore 5, 2) := by decide +kernel
theorem dX3_faultInOrders_10 : decode cX3_faultInOrders 10 = .ok (.iconst 0, 1) := by decide +kernel
theorem dX3_faultInOrders_11 : decode cX3_faultInOrders 11 = .ok (.istore 6, 2) := by decide +kernel
theorem dX3_faultInOrders_13 : decode cX3_faultInOrders 13 = .ok (.iload 6, 2) := by decide +kernel
theorem dX3_faultInOrders_15 : decode cX3_faultInOrders 15 = .ok (.aload_n 0, 1) := by decide +kernel
theorem dX3_faultInOrders_16 : decode cX3_faultInOrders 16 = .ok (.getfield 20, 3) := by decide +kernel
theorem dX3_faultInOrders_19 : decode cX3_faultInOrders 19 = .ok (.if_icmp .ge 85, 3) := by decide +kernel
theorem dX3_faultInOrders_22 : decode cX3_faultInOrders 22 = .ok (.aload_n 0, 1) := by decide +kernel
theorem dX3_faultInOrders_23 : decode cX3_faultInOrders 23 = .ok (.iload 6, 2) := by decide +kernel
theorem dX3_faultInOrders_25 : decode cX3_faultInOrders 25 = .ok (.invokevirtual 44, 3) := by decide +kernel
theorem dX3_faultInOrders_28 : decode cX3_faultInOrders 28 = .ok (.istore 7, 2) := by decide +kernel
theorem dX3_faultInOrders_30 : decode cX3_faultInOrders 30 = .ok (.aload_n 0, 1) := by decide +kernel
theorem dX3_faultInOrders_31 : decode cX3_faultInOrders 31 = .ok (.getfield 14, 3) := by decide +kernel
theorem dX3_faultInOrders_34 : decode cX3_faultInOrders 34 = .ok (.iload 6, 2) := by decide +kernel
theorem dX3_faultInOrders_36 : decode cX3_faultInOrders 36 = .ok (.invokevirtual 28, 3) := by decide +kernel
theorem dX3_faultInOrders_39 : decode cX3_faultInOrders 39 = .ok (.bipush 58, 2) := by decide +kernel
theorem dX3_faultInOrders_41 : decode cX3_faultInOrders 41 = .ok (.if_icmp .ne 22, 3) := by decide +kernel
theorem dX3_faultInOrders_44 : decode cX3_faultInOrders 44 = .ok (.iload 5, 2) := by decide +kernel
theorem dX3_faultInOrders_46 : decode cX3_faultInOrders 46 = .ok (.ifCond .le 17, 3) := by decide +kernel
theorem dX3_faultInOrders_49 : decode cX3_faultInOrders 49 = .ok (.iload 4, 2) := by decide +kernel
theorem dX3_faultInOrders_51 : decode cX3_faultInOrders 51 = .ok (.ifCond .le 12, 3) := by decide +kernel
theorem dX3_faultInOrders_54 : decode cX3_faultInOrders 54 = .ok (.iinc 4 (-1), 3) := by decide +kernel
theorem dX3_faultInOrders_57 : decode cX3_faultInOrders 57 = .ok (.iconst 0, 1) := by decide +kernel
theorem dX3_faultInOrders_58 : decode cX3_faultInOrders 58 = .ok (.istore 5, 2) := by decide +kernel
theorem dX3_faultInOrders_60 : decode cX3_faultInOrders 60 = .ok (.goto 38, 3) := by decide +kernel
theorem dX3_faultInOrders_63 : decode cX3_faultInOrders 63 = .ok (.iload 7, 2) := by decide +kernel
theorem dX3_faultInOrders_65 : decode cX3_faultInOrders 65 = .ok (.invokestatic 47, 3) := by decide +kernel
theorem dX3_faultInOrders_68 : decode cX3_faultInOrders 68 = .ok (.ifCond .eq 27, 3) := by decide +kernel
theorem dX3_faultInOrders_71 : decode cX3_faultInOrders 71 = .ok (.iload_n 3, 1) := by decide +kernel
theorem dX3_faultInOrders_72 : decode cX3_faultInOrders 72 = .ok (.iload 7, 2) := by decide +kernel
theorem dX3_faultInOrders_74 : decode cX3_faultInOrders 74 = .ok (.invokestatic 51, 3) := by decide +kernel
theorem dX3_faultInOrders_77 : decode cX3_faultInOrders 77 = .ok (.ifCond .eq 18, 3) := by decide +kernel
theorem dX3_faultInOrders_80 : decode cX3_faultInOrders 80 = .ok (.iload_n 3, 1) := by decide +kernel
theorem dX3_faultInOrders_81 : decode cX3_faultInOrders 81 = .ok (.iconst 1, 1) := by decide +kernel
theorem dX3_faultInOrders_82 : decode cX3_faultInOrders 82 = .ok (.iload 7, 2) := by decide +kernel
theorem dX3_faultInOrders_84 : decode cX3_faultInOrders 84 = .ok (.ishl, 1) := by decide +kernel
theorem dX3_faultInOrders_85 : decode cX3_faultInOrders 85 = .ok (.iconst (-1), 1) := by decide +kernel
theorem dX3_faultInOrders_86 : decode cX3_faultInOrders 86 = .ok (.ixor, 1) := by decide +kernel
theorem dX3_faultInOrders_87 : decode cX3_faultInOrders 87 = .ok (.iand, 1) := by decide +kernel
theorem dX3_faultInOrders_88 : decode cX3_faultInOrders 88 = .ok (.istore_n 3, 1) := by decide +kernel
theorem dX3_faultInOrders_89 : decode cX3_faultInOrders 89 = .ok (.iinc 5 1, 3) := by decide +kernel
theorem dX3_faultInOrders_92 : decode cX3_faultInOrders 92 = .ok (.goto 6, 3) := by decide +kernel
theorem dX3_faultInOrders_95 : decode cX3_faultInOrders 95 = .ok (.iload 6, 2) := by decide +kernel
theorem dX3_faultInOrders_97 : decode cX3_faultInOrders 97 = .ok (.ireturn, 1) := by decide +kernel
theorem dX3_faultInOrders_98 : decode cX3_faultInOrders 98 = .ok (.iinc 6 1, 3) := by decide +kernel
theorem dX3_faultInOrders_101 : decode cX3_faultInOrders 101 = .ok (.goto (-88), 3) := by decide +kernel
theorem dX3_faultInOrders_104 : decode cX3_faultInOrders 104 = .ok (.iload 5, 2) := by decide +kernel
theorem dX3_faultInOrders_106 : decode cX3_faultInOrders 106 = .ok (.ifCond .eq 8, 3) := by decide +kernel
theorem dX3_faultInOrders_109 : decode cX3_faultInOrders 109 = .ok (.iload 4, 2) := by decide +kernel
theorem dX3_faultInOrders_111 : decode cX3_faultInOrders 111 = .ok (.ifCond .le 10, 3) := by decide +kernel
theorem dX3_faultInOrders_114 : decode cX3_faultInOrders 114 = .ok (.aload_n 0, 1) := by decide +kernel
theorem dX3_faultInOrders_115 : decode cX3_faultInOrders 115 = .ok (.getfield 20, 3) := by decide +kernel
theorem dX3_faultInOrders_118 : decode cX3_faultInOrders 118 = .ok (.goto 5, 3) := by decide +kernel
theorem dX3_faultInOrders_121 : decode cX3_faultInOrders 121 = .ok (.bipush (-6), 2) := by decide +kernel
theorem dX3_faultInOrders_123 : decode cX3_faultInOrders 123 = .ok (.ireturn, 1) := by decide +kernel
theorem dX4_init_0 : decode cX4_init 0 = .ok (.aload_n 0, 1) := by decide +kernel
theorem dX4_init_1 : decode cX4_init 1 = .ok (.invokespecial 3, 3) := by decide +kernel
theorem dX4_init_4 : decode cX4_init 4 = .ok (.aload_n 0, 1) := by decide +kernel
theorem dX4_init_5 : decode cX4_init 5 = .ok (.new 9, 3) := by decide +kernel
theorem dX4_init_8 : decode cX4_init 8 = .ok (.dup, 1) := by decide +kernel
theorem dX4_init_9 : decode cX4_init 9 = .ok (.bipush 6, 2) := by decide +kernel
theorem dX4_init_11 : decode cX4_init 11 = .ok (.invokespecial 11, 3) := by decide +kernel
theorem dX4_init_14 : decode cX4_init 14 = .ok (.putfield 14, 3) := by decide +kernel
theorem dX4_init_17 : decode cX4_init 17 = .ok (.aload_n 0, 1) := by decide +kernel
theorem dX4_init_18 : decode cX4_init 18 = .ok (.new 20, 3) := by decide +kernel
theorem dX4_init_21 : decode cX4_init 21 = .ok (.dup, 1) := by decide +kernel
theorem dX4_init_22 : decode cX4_init 22 = .ok (.invokespecial 22, 3) := by decide +kernel
theorem dX4_init_25 : decode cX4_init 25 = .ok (.putfield 23, 3) := by decide +kernel
theorem dX4_init_28 : decode cX4_init 28 = .ok (.aload_n 0, 1) := by decide +kernel
theorem dX4_init_29 : decode cX4_init 29 = .ok (.new 27, 3) := by decide +kernel
theorem dX4_init_32 : decode cX4_init 32 = .ok (.dup, 1) := by decide +kernel
theorem dX4_init_33 : decode cX4_init 33 = .ok (.bipush 6, 2) := by decide +kernel
theorem dX4_init_35 : decode cX4_init 35 = .ok (.invokespecial 29, 3) := by decide +kernel
theorem dX4_init_38 : decode cX4_init 38 = .ok (.putfield 30, 3) := by decide +kernel
theorem dX4_init_41 : decode cX4_init 41 = .ok (.aload_n 0, 1) := by decide +kernel
theorem dX4_init_42 : decode cX4_init 42 = .ok (.new 27, 3) := by decide +kernel
theorem dX4_init_45 : decode cX4_init 45 = .ok (.dup, 1) := by decide +kernel
theorem dX4_init_46 : decode cX4_init 46 = .ok (.bipush 6, 2) := by decide +kernel
theorem dX4_init_48 : decode cX4_init 48 = .ok (.invokespecial 29, 3) := by decide +kernel
theorem dX4_init_51 : decode cX4_init 51 = .ok (.putfield 34, 3) := by decide +kernel
theorem dX4_init_54 : decode cX4_init 54 = .ok (.aload_n 0, 1) := by decide +kernel
theorem dX4_init_55 : decode cX4_init 55 = .ok (.new 27, 3) := by decide +kernel
theorem dX4_init_58 : decode cX4_init 58 = .ok (.dup, 1) := by decide +kernel
theorem dX4_init_59 : decode cX4_init 59 = .ok (.bipush 49, 2) := by decide +kernel
theorem dX4_init_61 : decode cX4_init 61 = .ok (.invokespecial 29, 3) := by decide +kernel
theorem dX4_init_64 : decode cX4_init 64 = .ok (.putfield 37, 3) := by decide +kernel
theorem dX4_init_67 : decode cX4_init 67 = .ok (.aload_n 0, 1) := by decide +kernel
theorem dX4_init_68 : decode cX4_init 68 = .ok (.iconst 0, 1) := by decide +kernel
theorem dX4_init_69 : decode cX4_init 69 = .ok (.putfield 40, 3) := by decide +kernel
theorem dX4_init_72 : decode cX4_init 72 = .ok (.aload_n 0, 1) := by decide +kernel
theorem dX4_init_73 : decode cX4_init 73 = .ok (.iconst 0, 1) := by decide +kernel
theorem dX4_init_74 : decode cX4_init 74 = .ok (.putfield 44, 3) := by decide +kernel
theorem dX4_init_77 : decode cX4_init 77 = .ok (.return_, 1) := by decide +kernel
theorem dX4_load_0 : decode cX4_load 0 = .ok (.aload_n 0, 1) := by decide +kernel
theorem dX4_load_1 : decode cX4_load 1 = .ok (.getfield 14, 3) := by decide +kernel
theorem dX4_load_4 : decode cX4_load 4 = .ok (.aload_n 1, 1) := by decide +kernel
theorem dX4_load_5 : decode cX4_load 5 = .ok (.invokevirtual 47, 3) := by decide +kernel
theorem dX4_load_8 : decode cX4_load 8 = .ok (.aload_n 0, 1) := by decide +kernel
theorem dX4_load_9 : decode cX4_load 9 = .ok (.getfield 23, 3) := by decide +kernel
theorem dX4_load_12 : decode cX4_load 12 = .ok (.aload_n 1, 1) := by decide +kernel
theorem dX4_load_13 : decode cX4_load 13 = .ok (.invokevirtual 51, 3) := by decide +kernel
theorem dX4_load_16 : decode cX4_load 16 = .ok (.aload_n 0, 1) := by decide +kernel
theorem dX4_load_17 : decode cX4_load 17 = .ok (.getfield 30, 3) := by decide +kernel
theorem dX4_load_20 : decode cX4_load 20 = .ok (.bipush (-6), 2) := by decide +kernel
theorem dX4_load_22 : decode cX4_load 22 = .ok (.invokevirtual 54, 3) := by decide +kernel
theorem dX4_load_25 : decode cX4_load 25 = .ok (.aload_n 0, 1) := by decide +kernel
theorem dX4_load_26 : decode cX4_load 26 = .ok (.getfield 34, 3) := by decide +kernel
theorem dX4_load_29 : decode cX4_load 29 = .ok (.bipush (-6), 2) := by decide +kernel
theorem dX4_load_31 : decode cX4_load 31 = .ok (.invokevirtual 54, 3) := by decide +kernel
theorem dX4_load_34 : decode cX4_load 34 = .ok (.aload_n 0, 1) := by decide +kernel
theorem dX4_load_35 : decode cX4_load 35 = .ok (.aload_n 2, 1) := by decide +kernel
theorem dX4_load_36 : decode cX4_load 36 = .ok (.invokevirtual 57, 3) := by decide +kernel
theorem dX4_load_39 : decode cX4_load 39 = .ok (.bipush 6, 2) := by decide +kernel
theorem dX4_load_41 : decode cX4_load 41 = .ok (.invokestatic 63, 3) := by decide +kernel
theorem dX4_load_44 : decode cX4_load 44 = .ok (.putfield 40, 3) := by decide +kernel
theorem dX4_load_47 : decode cX4_load 47 = .ok (.aload_n 0, 1) := by decide +kernel
theorem dX4_load_48 : decode cX4_load 48 = .ok (.aload_n 2, 1) := by decide +kernel
theorem dX4_load_49 : decode cX4_load 49 = .ok (.invokevirtual 69, 3) := by decide +kernel
theorem dX4_load_52 : decode cX4_load 52 = .ok (.aload_n 2, 1) := by decide +kernel
theorem dX4_load_53 : decode cX4_load 53 = .ok (.invokevirtual 57, 3) := by decide +kernel
theorem dX4_load_56 : decode cX4_load 56 = .ok (.isub, 1) := by decide +kernel
theorem dX4_load_57 : decode cX4_load 57 = .ok (.iconst 1, 1) := by decide +kernel
theorem dX4_load_58 : decode cX4_load 58 = .ok (.isub, 1) := by decide +kernel
theorem dX4_load_59 : decode cX4_load 59 = .ok (.bipush 6, 2) := by decide +kernel
theorem dX4_load_61 : decode cX4_load 61 = .ok (.invokestatic 63, 3) := by decide +kernel
theorem dX4_load_64 : decode cX4_load 64 = .ok (.putfield 44, 3) := by decide +kernel
theorem dX4_load_67 : decode cX4_load 67 = .ok (.iconst 0, 1) := by decide +kernel
theorem dX4_load_68 : decode cX4_load 68 = .ok (.istore_n 3, 1) := by decide +kernel
theorem dX4_load_69 : decode cX4_load 69 = .ok (.iload_n 3, 1) := by decide +kernel
theorem dX4_load_70 : decode cX4_load 70 = .ok (.aload_n 0, 1) := by decide +kernel
theorem dX4_load_71 : decode cX4_load 71 = .ok (.getfield 40, 3) := by decide +kernel
theorem dX4_load_74 : decode cX4_load 74 = .ok (.if_icmp .ge 22, 3) := by decide +kernel
theorem dX4_load_77 : decode cX4_load 77 = .ok (.aload_n 0, 1) := by decide +kernel
theorem dX4_load_78 : decode cX4_load 78 = .ok (.getfield 30, 3) := by decide +kernel
theorem dX4_load_81 : decode cX4_load 81 = .ok (.iload_n 3, 1) := by decide +kernel
theorem dX4_load_82 : decode cX4_load 82 = .ok (.aload_n 2, 1) := by decide +kernel
theorem dX4_load_83 : decode cX4_load 83 = .ok (.iload_n 3, 1) := by decide +kernel
theorem dX4_load_84 : decode cX4_load 84 = .ok (.invokevirtual 72, 3) := by decide +kernel
theorem dX4_load_87 : decode cX4_load 87 = .ok (.invokevirtual 76, 3) := by decide +kernel
theorem dX4_load_90 : decode cX4_load 90 = .ok (.iinc 3 1, 3) := by decide +kernel
theorem dX4_load_93 : decode cX4_load 93 = .ok (.goto (-24), 3) := by decide +kernel
theorem dX4_load_96 : decode cX4_load 96 = .ok (.iconst 0, 1) := by decide +kernel
theorem dX4_load_97 : decode cX4_load 97 = .ok (.istore_n 3, 1) := by decide +kernel
theorem dX4_load_98 : decode cX4_load 98 = .ok (.iload_n 3, 1) := by decide +kernel
theorem dX4_load_99 : decode cX4_load 99 = .ok (.aload_n 0, 1) := by decide +kernel
theorem dX4_load_100 : decode cX4_load 100 = .ok (.getfield 44, 3) := by decide +kernel
theorem dX4_load_103 : decode cX4_load 103 = .ok (.if_icmp .ge 29, 3) := by decide +kernel
theorem dX4_load_106 : decode cX4_load 106 = .ok (.aload_n 0, 1) := by decide +kernel
theorem dX4_load_107 : decode cX4_load 107 = .ok (.getfield 34, 3) := by decide +kernel
theorem dX4_load_110 : decode cX4_load 110 = .ok (.iload_n 3, 1) := by decide +kernel
theorem dX4_load_111 : decode cX4_load 111 = .ok (.aload_n 2, 1) := by decide +kernel
theorem dX4_load_112 : decode cX4_load 112 = .ok (.aload_n 0, 1) := by decide +kernel
theorem dX4_load_113 : decode cX4_load 113 = .ok (.getfield 40, 3) := by decide +kernel
theorem dX4_load_116 : decode cX4_load 116 = .ok (.iconst 1, 1) := by decide +kernel
theorem dX4_load_117 : decode cX4_load 117 = .ok (.iadd, 1) := by decide +kernel
theorem dX4_load_118 : decode cX4_load 118 = .ok (.iload_n 3, 1) := by decide +kernel
theorem dX4_load_119 : decode cX4_load 119 = .ok (.iadd, 1) := by decide +kernel
theorem dX4_load_120 : decode cX4_load 120 = .ok (.invokevirtual 72, 3) := by decide +kernel
theorem dX4_load_123 : decode cX4_load 123 = .ok (.invokevirtual 76, 3) := by decide +kernel
theorem dX4_load_126 : decode cX4_load 126 = .ok (.iinc 3 1, 3) := by decide +kernel
theorem dX4_load_129 : decode cX4_load 129 = .ok (.goto (-31), 3) := by decide +kernel
theorem dX4_load_132 : decode cX4_load 132 = .ok (.return_, 1) := by decide +kernel
theorem dX4_fewestSteps_0 : decode cX4_fewestSteps 0 = .ok (.aload_n 0, 1) := by decide +kernel
theorem dX4_fewestSteps_1 : decode cX4_fewestSteps 1 = .ok (.getfield 37, 3) := by decide +kernel
theorem dX4_fewestSteps_4 : decode cX4_fewestSteps 4 = .ok (.bipush (-6), 2) := by decide +kernel
theorem dX4_fewestSteps_6 : decode cX4_fewestSteps 6 = .ok (.invokevirtual 54, 3) := by decide +kernel
theorem dX4_fewestSteps_9 : decode cX4_fewestSteps 9 = .ok (.aload_n 0, 1) := by decide +kernel
theorem dX4_fewestSteps_10 : decode cX4_fewestSteps 10 = .ok (.getfield 37, 3) := by decide +kernel
theorem dX4_fewestSteps_13 : decode cX4_fewestSteps 13 = .ok (.iconst 0, 1) := by decide +kernel
theorem dX4_fewestSteps_14 : decode cX4_fewestSteps 14 = .ok (.iconst 0, 1) := by decide +kernel
theorem dX4_fewestSteps_15 : decode cX4_fewestSteps 15 = .ok (.invokevirtual 76, 3) := by decide +kernel
theorem dX4_fewestSteps_18 : decode cX4_fewestSteps 18 = .ok (.iconst 0, 1) := by decide +kernel
theorem dX4_fewestSteps_19 : decode cX4_fewestSteps 19 = .ok (.istore_n 1, 1) := by decide +kernel
theorem dX4_fewestSteps_20 : decode cX4_fewestSteps 20 = .ok (.iload_n 1, 1) := by decide +kernel
theorem dX4_fewestSteps_21 : decode cX4_fewestSteps 21 = .ok (.aload_n 0, 1) := by decide +kernel
theorem dX4_fewestSteps_22 : decode cX4_fewestSteps 22 = .ok (.getfield 40, 3) := by decide +kernel
theorem dX4_fewestSteps_25 : decode cX4_fewestSteps 25 = .ok (.if_icmp .gt 42, 3) := by decide +kernel
theorem dX4_fewestSteps_28 : decode cX4_fewestSteps 28 = .ok (.iconst 0, 1) := by decide +kernel
theorem dX4_fewestSteps_29 : decode cX4_fewestSteps 29 = .ok (.istore_n 2, 1) := by decide +kernel
theorem dX4_fewestSteps_30 : decode cX4_fewestSteps 30 = .ok (.iload_n 2, 1) := by decide +kernel
theorem dX4_fewestSteps_31 : decode cX4_fewestSteps 31 = .ok (.aload_n 0, 1) := by decide +kernel
theorem dX4_fewestSteps_32 : decode cX4_fewestSteps 32 = .ok (.getfield 44, 3) := by decide +kernel
theorem dX4_fewestSteps_35 : decode cX4_fewestSteps 35 = .ok (.if_icmp .gt 26, 3) := by decide +kernel
theorem dX4_fewestSteps_38 : decode cX4_fewestSteps 38 = .ok (.aload_n 0, 1) := by decide +kernel
theorem dX4_fewestSteps_39 : decode cX4_fewestSteps 39 = .ok (.iload_n 1, 1) := by decide +kernel
theorem dX4_fewestSteps_40 : decode cX4_fewestSteps 40 = .ok (.iload_n 2, 1) := by decide +kernel
theorem dX4_fewestSteps_41 : decode cX4_fewestSteps 41 = .ok (.invokevirtual 80, 3) := by decide +kernel
theorem dX4_fewestSteps_44 : decode cX4_fewestSteps 44 = .ok (.bipush (-6), 2) := by decide +kernel
theorem dX4_fewestSteps_46 : decode cX4_fewestSteps 46 = .ok (.if_icmp .eq 9, 3) := by decide +kernel
theorem dX4_fewestSteps_49 : decode cX4_fewestSteps 49 = .ok (.aload_n 0, 1) := by decide +kernel
theorem dX4_fewestSteps_50 : decode cX4_fewestSteps 50 = .ok (.iload_n 1, 1) := by decide +kernel
theorem dX4_fewestSteps_51 : decode cX4_fewestSteps 51 = .ok (.iload_n 2, 1) := by decide +kernel
theorem dX4_fewestSteps_52 : decode cX4_fewestSteps 52 = .ok (.invokevirtual 83, 3) := by decide +kernel
theorem dX4_fewestSteps_55 : decode cX4_fewestSteps 55 = .ok (.iinc 2 1, 3) := by decide +kernel
theorem dX4_fewestSteps_58 : decode cX4_fewestSteps 58 = .ok (.goto (-28), 3) := by decide +kernel
theorem dX4_fewestSteps_61 : decode cX4_fewestSteps 61 = .ok (.iinc 1 1, 3) := by decide +kernel
theorem dX4_fewestSteps_64 : decode cX4_fewestSteps 64 = .ok (.goto (-44), 3) := by decide +kernel
theorem dX4_fewestSteps_67 : decode cX4_fewestSteps 67 = .ok (.aload_n 0, 1) := by decide +kernel
theorem dX4_fewestSteps_68 : decode cX4_fewestSteps 68 = .ok (.aload_n 0, 1) := by decide +kernel
theorem dX4_fewestSteps_69 : decode cX4_fewestSteps 69 = .ok (.getfield 40, 3) := by decide +kernel
theorem dX4_fewestSteps_72 : decode cX4_fewestSteps 72 = .ok (.aload_n 0, 1) := by decide +kernel
theorem dX4_fewestSteps_73 : decode cX4_fewestSteps 73 = .ok (.getfield 44, 3) := by decide +kernel
theorem dX4_fewestSteps_76 : decode cX4_fewestSteps 76 = .ok (.invokevirtual 80, 3) := by decide +kernel
theorem dX4_fewestSteps_79 : decode cX4_fewestSteps 79 = .ok (.ireturn, 1) := by decide +kernel
theorem dX4_stepFrom_0 : decode cX4_stepFrom 0 = .ok (.aload_n 0, 1) := by decide +kernel
theorem dX4_stepFrom_1 : decode cX4_stepFrom 1 = .ok (.iload_n 1, 1) := by decide +kernel
theorem dX4_stepFrom_2 : decode cX4_stepFrom 2 = .ok (.iload_n 2, 1) := by decide +kernel
theorem dX4_stepFrom_3 : decode cX4_stepFrom 3 = .ok (.invokevirtual 86, 3) := by decide +kernel
theorem dX4_stepFrom_6 : decode cX4_stepFrom 6 = .ok (.iload_n 1, 1) := by decide +kernel
theorem dX4_stepFrom_7 : decode cX4_stepFrom 7 = .ok (.aload_n 0, 1) := by decide +kernel
theorem dX4_stepFrom_8 : decode cX4_stepFrom 8 = .ok (.getfield 40, 3) := by decide +kernel
theorem dX4_stepFrom_11 : decode cX4_stepFrom 11 = .ok (.if_icmp .ge 7, 3) := by decide +kernel
theorem dX4_stepFrom_14 : decode cX4_stepFrom 14 = .ok (.iconst 1, 1) := by decide +kernel
theorem dX4_stepFrom_15 : decode cX4_stepFrom 15 = .ok (.goto 4, 3) := by decide +kernel
theorem dX4_stepFrom_18 : decode cX4_stepFrom 18 = .ok (.iconst 0, 1) := by decide +kernel
theorem dX4_stepFrom_19 : decode cX4_stepFrom 19 = .ok (.istore_n 3, 1) := by decide +kernel
theorem dX4_stepFrom_20 : decode cX4_stepFrom 20 = .ok (.iload_n 2, 1) := by decide +kernel
theorem dX4_stepFrom_21 : decode cX4_stepFrom 21 = .ok (.aload_n 0, 1) := by decide +kernel
theorem dX4_stepFrom_22 : decode cX4_stepFrom 22 = .ok (.getfield 44, 3) := by decide +kernel
theorem dX4_stepFrom_25 : decode cX4_stepFrom 25 = .ok (.if_icmp .ge 7, 3) := by decide +kernel
theorem dX4_stepFrom_28 : decode cX4_stepFrom 28 = .ok (.iconst 1, 1) := by decide +kernel
theorem dX4_stepFrom_29 : decode cX4_stepFrom 29 = .ok (.goto 4, 3) := by decide +kernel
theorem dX4_stepFrom_32 : decode cX4_stepFrom 32 = .ok (.iconst 0, 1) := by decide +kernel
theorem dX4_stepFrom_33 : decode cX4_stepFrom 33 = .ok (.istore 4, 2) := by decide +kernel
theorem dX4_stepFrom_35 : decode cX4_stepFrom 35 = .ok (.aload_n 0, 1) := by decide +kernel
theorem dX4_stepFrom_36 : decode cX4_stepFrom 36 = .ok (.iload_n 1, 1) := by decide +kernel
theorem dX4_stepFrom_37 : decode cX4_stepFrom 37 = .ok (.iload_n 2, 1) := by decide +kernel
theorem dX4_stepFrom_38 : decode cX4_stepFrom 38 = .ok (.invokevirtual 80, 3) := by decide +kernel
theorem dX4_stepFrom_41 : decode cX4_stepFrom 41 = .ok (.iconst 1, 1) := by decide +kernel
theorem dX4_stepFrom_42 : decode cX4_stepFrom 42 = .ok (.iadd, 1) := by decide +kernel
theorem dX4_stepFrom_43 : decode cX4_stepFrom 43 = .ok (.istore 5, 2) := by decide +kernel
theorem dX4_stepFrom_45 : decode cX4_stepFrom 45 = .ok (.iload_n 3, 1) := by decide +kernel
theorem dX4_stepFrom_46 : decode cX4_stepFrom 46 = .ok (.ifCond .eq 37, 3) := by decide +kernel
theorem dX4_stepFrom_49 : decode cX4_stepFrom 49 = .ok (.aload_n 0, 1) := by decide +kernel
theorem dX4_stepFrom_50 : decode cX4_stepFrom 50 = .ok (.getfield 23, 3) := by decide +kernel
theorem dX4_stepFrom_53 : decode cX4_stepFrom 53 = .ok (.aload_n 0, 1) := by decide +kernel
theorem dX4_stepFrom_54 : decode cX4_stepFrom 54 = .ok (.getfield 14, 3) := by decide +kernel
theorem dX4_stepFrom_57 : decode cX4_stepFrom 57 = .ok (.aload_n 0, 1) := by decide +kernel
theorem dX4_stepFrom_58 : decode cX4_stepFrom 58 = .ok (.getfield 30, 3) := by decide +kernel
theorem dX4_stepFrom_61 : decode cX4_stepFrom 61 = .ok (.iload_n 1, 1) := by decide +kernel
theorem dX4_stepFrom_62 : decode cX4_stepFrom 62 = .ok (.invokevirtual 89, 3) := by decide +kernel
theorem dX4_stepFrom_65 : decode cX4_stepFrom 65 = .ok (.bipush (-6), 2) := by decide +kernel
theorem dX4_stepFrom_67 : decode cX4_stepFrom 67 = .ok (.invokevirtual 92, 3) := by decide +kernel
theorem dX4_stepFrom_70 : decode cX4_stepFrom 70 = .ok (.ifCond .eq 13, 3) := by decide +kernel
theorem dX4_stepFrom_73 : decode cX4_stepFrom 73 = .ok (.aload_n 0, 1) := by decide +kernel
theorem dX4_stepFrom_74 : decode cX4_stepFrom 74 = .ok (.iload_n 1, 1) := by decide +kernel
theorem dX4_stepFrom_75 : decode cX4_stepFrom 75 = .ok (.iconst 1, 1) := by decide +kernel
theorem dX4_stepFrom_76 : decode cX4_stepFrom 76 = .ok (.iadd, 1) := by decide +kernel
theorem dX4_stepFrom_77 : decode cX4_stepFrom 77 = .ok (.iload_n 2, 1) := by decide +kernel
theorem dX4_stepFrom_78 : decode cX4_stepFrom 78 = .ok (.iload 5, 2) := by decide +kernel
theorem dX4_stepFrom_80 : decode cX4_stepFrom 80 = .ok (.invokevirtual 96, 3) := by decide +kernel
theorem dX4_stepFrom_83 : decode cX4_stepFrom 83 = .ok (.iload 4, 2) := by decide +kernel
theorem dX4_stepFrom_85 : decode cX4_stepFrom 85 = .ok (.ifCond .eq 37, 3) := by decide +kernel
theorem dX4_stepFrom_88 : decode cX4_stepFrom 88 = .ok (.aload_n 0, 1) := by decide +kernel
theorem dX4_stepFrom_89 : decode cX4_stepFrom 89 = .ok (.getfield 23, 3) := by decide +kernel
theorem dX4_stepFrom_92 : decode cX4_stepFrom 92 = .ok (.aload_n 0, 1) := by decide +kernel
theorem dX4_stepFrom_93 : decode cX4_stepFrom 93 = .ok (.getfield 14, 3) := by decide +kernel
theorem dX4_stepFrom_96 : decode cX4_stepFrom 96 = .ok (.aload_n 0, 1) := by decide +kernel
theorem dX4_stepFrom_97 : decode cX4_stepFrom 97 = .ok (.getfield 34, 3) := by decide +kernel
theorem dX4_stepFrom_100 : decode cX4_stepFrom 100 = .ok (.iload_n 2, 1) := by decide +kernel
theorem dX4_stepFrom_101 : decode cX4_stepFrom 101 = .ok (.invokevirtual 89, 3) := by decide +kernel
theorem dX4_stepFrom_104 : decode cX4_stepFrom 104 = .ok (.bipush (-6), 2) := by decide +kernel
theorem dX4_stepFrom_106 : decode cX4_stepFrom 106 = .ok (.invokevirtual 92, 3) := by decide +kernel
theorem dX4_stepFrom_109 : decode cX4_stepFrom 109 = .ok (.ifCond .eq 13, 3) := by decide +kernel
theorem dX4_stepFrom_112 : decode cX4_stepFrom 112 = .ok (.aload_n 0, 1) := by decide +kernel
theorem dX4_stepFrom_113 : decode cX4_stepFrom 113 = .ok (.iload_n 1, 1) := by decide +kernel
theorem dX4_stepFrom_114 : decode cX4_stepFrom 114 = .ok (.iload_n 2, 1) := by decide +kernel
theorem dX4_stepFrom_115 : decode cX4_stepFrom 115 = .ok (.iconst 1, 1) := by decide +kernel
theorem dX4_stepFrom_116 : decode cX4_stepFrom 116 = .ok (.iadd, 1) := by decide +kernel
theorem dX4_stepFrom_117 : decode cX4_stepFrom 117 = .ok (.iload 5, 2) := by decide +kernel
theorem dX4_stepFrom_119 : decode cX4_stepFrom 119 = .ok (.invokevirtual 96, 3) := by decide +kernel
theorem dX4_stepFrom_122 : decode cX4_stepFrom 122 = .ok (.iload_n 3, 1) := by decide +kernel
theorem dX4_stepFrom_123 : decode cX4_stepFrom 123 = .ok (.ifCond .eq 50, 3) := by decide +kernel
theorem dX4_stepFrom_126 : decode cX4_stepFrom 126 = .ok (.iload 4, 2) := by decide +kernel
theorem dX4_stepFrom_128 : decode cX4_stepFrom 128 = .ok (.ifCond .eq 45, 3) := by decide +kernel
theorem dX4_stepFrom_131 : decode cX4_stepFrom 131 = .ok (.aload_n 0, 1) := by decide +kernel
theorem dX4_stepFrom_132 : decode cX4_stepFrom 132 = .ok (.getfield 23, 3) := by decide +kernel
theorem dX4_stepFrom_135 : decode cX4_stepFrom 135 = .ok (.aload_n 0, 1) := by decide +kernel
theorem dX4_stepFrom_136 : decode cX4_stepFrom 136 = .ok (.getfield 14, 3) := by decide +kernel
theorem dX4_stepFrom_139 : decode cX4_stepFrom 139 = .ok (.aload_n 0, 1) := by decide +kernel
theorem dX4_stepFrom_140 : decode cX4_stepFrom 140 = .ok (.getfield 30, 3) := by decide +kernel
theorem dX4_stepFrom_143 : decode cX4_stepFrom 143 = .ok (.iload_n 1, 1) := by decide +kernel
theorem dX4_stepFrom_144 : decode cX4_stepFrom 144 = .ok (.invokevirtual 89, 3) := by decide +kernel
theorem dX4_stepFrom_147 : decode cX4_stepFrom 147 = .ok (.aload_n 0, 1) := by decide +kernel
theorem dX4_stepFrom_148 : decode cX4_stepFrom 148 = .ok (.getfield 34, 3) := by decide +kernel
theorem dX4_stepFrom_151 : decode cX4_stepFrom 151 = .ok (.iload_n 2, 1) := by decide +kernel
theorem dX4_stepFrom_152 : decode cX4_stepFrom 152 = .ok (.invokevirtual 89, 3) := by decide +kernel
theorem dX4_stepFrom_155 : decode cX4_stepFrom 155 = .ok (.invokevirtual 92, 3) := by decide +kernel
theorem dX4_stepFrom_158 : decode cX4_stepFrom 158 = .ok (.ifCond .eq 15, 3) := by decide +kernel
theorem dX4_stepFrom_161 : decode cX4_stepFrom 161 = .ok (.aload_n 0, 1) := by decide +kernel
theorem dX4_stepFrom_162 : decode cX4_stepFrom 162 = .ok (.iload_n 1, 1) := by decide +kernel
theorem dX4_stepFrom_163 : decode cX4_stepFrom 163 = .ok (.iconst 1, 1) := by decide +kernel
theorem dX4_stepFrom_164 : decode cX4_stepFrom 164 = .ok (.iadd, 1) := by decide +kernel
theorem dX4_stepFrom_165 : decode cX4_stepFrom 165 = .ok (.iload_n 2, 1) := by decide +kernel
theorem dX4_stepFrom_166 : decode cX4_stepFrom 166 = .ok (.iconst 1, 1) := by decide +kernel
theorem dX4_stepFrom_167 : decode cX4_stepFrom 167 = .ok (.iadd, 1) := by decide +kernel
theorem dX4_stepFrom_168 : decode cX4_stepFrom 168 = .ok (.iload 5, 2) := by decide +kernel
theorem dX4_stepFrom_170 : decode cX4_stepFrom 170 = .ok (.invokevirtual 96, 3) := by decide +kernel
theorem dX4_stepFrom_173 : decode cX4_stepFrom 173 = .ok (.return_, 1) := by decide +kernel
theorem dX4_print_0 : decode cX4_print 0 = .ok (.aload_n 0, 1) := by decide +kernel
theorem dX4_print_1 : decode cX4_print 1 = .ok (.getfield 23, 3) := by decide +kernel
theorem dX4_print_4 : decode cX4_print 4 = .ok (.invokevirtual 100, 3) := by decide +kernel
theorem dX4_print_7 : decode cX4_print 7 = .ok (.iconst 0, 1) := by decide +kernel
theorem dX4_print_8 : decode cX4_print 8 = .ok (.istore_n 3, 1) := by decide +kernel
theorem dX4_print_9 : decode cX4_print 9 = .ok (.iload_n 3, 1) := by decide +kernel
theorem dX4_print_10 : decode cX4_print 10 = .ok (.iload_n 1, 1) := by decide +kernel
theorem dX4_print_11 : decode cX4_print 11 = .ok (.if_icmp .ge 31, 3) := by decide +kernel
theorem dX4_print_14 : decode cX4_print 14 = .ok (.aload_n 0, 1) := by decide +kernel
theorem dX4_print_15 : decode cX4_print 15 = .ok (.getfield 23, 3) := by decide +kernel
theorem dX4_print_18 : decode cX4_print 18 = .ok (.aload_n 0, 1) := by decide +kernel
theorem dX4_print_19 : decode cX4_print 19 = .ok (.getfield 14, 3) := by decide +kernel
theorem dX4_print_22 : decode cX4_print 22 = .ok (.aload_n 0, 1) := by decide +kernel
theorem dX4_print_23 : decode cX4_print 23 = .ok (.getfield 30, 3) := by decide +kernel
theorem dX4_print_26 : decode cX4_print 26 = .ok (.iload_n 3, 1) := by decide +kernel
theorem dX4_print_27 : decode cX4_print 27 = .ok (.invokevirtual 89, 3) := by decide +kernel
theorem dX4_print_30 : decode cX4_print 30 = .ok (.invokevirtual 103, 3) := by decide +kernel
theorem dX4_print_33 : decode cX4_print 33 = .ok (.invokevirtual 106, 3) := by decide +kernel
theorem dX4_print_36 : decode cX4_print 36 = .ok (.iinc 3 1, 3) := by decide +kernel
theorem dX4_print_39 : decode cX4_print 39 = .ok (.goto (-30), 3) := by decide +kernel
theorem dX4_print_42 : decode cX4_print 42 = .ok (.iconst 0, 1) := by decide +kernel
theorem dX4_print_43 : decode cX4_print 43 = .ok (.istore_n 3, 1) := by decide +kernel
theorem dX4_print_44 : decode cX4_print 44 = .ok (.iload_n 3, 1) := by decide +kernel
theorem dX4_print_45 : decode cX4_print 45 = .ok (.iload_n 2, 1) := by decide +kernel
theorem dX4_print_46 : decode cX4_print 46 = .ok (.if_icmp .ge 31, 3) := by decide +kernel
theorem dX4_print_49 : decode cX4_print 49 = .ok (.aload_n 0, 1) := by decide +kernel
theorem dX4_print_50 : decode cX4_print 50 = .ok (.getfield 23, 3) := by decide +kernel
theorem dX4_print_53 : decode cX4_print 53 = .ok (.aload_n 0, 1) := by decide +kernel
theorem dX4_print_54 : decode cX4_print 54 = .ok (.getfield 14, 3) := by decide +kernel
theorem dX4_print_57 : decode cX4_print 57 = .ok (.aload_n 0, 1) := by decide +kernel
theorem dX4_print_58 : decode cX4_print 58 = .ok (.getfield 34, 3) := by decide +kernel
theorem dX4_print_61 : decode cX4_print 61 = .ok (.iload_n 3, 1) := by decide +kernel
theorem dX4_print_62 : decode cX4_print 62 = .ok (.invokevirtual 89, 3) := by decide +kernel
theorem dX4_print_65 : decode cX4_print 65 = .ok (.invokevirtual 103, 3) := by decide +kernel
theorem dX4_print_68 : decode cX4_print 68 = .ok (.invokevirtual 106, 3) := by decide +kernel
theorem dX4_print_71 : decode cX4_print 71 = .ok (.iinc 3 1, 3) := by decide +kernel
theorem dX4_print_74 : decode cX4_print 74 = .ok (.goto (-30), 3) := by decide +kernel
theorem dX4_print_77 : decode cX4_print 77 = .ok (.return_, 1) := by decide +kernel
theorem dX4_stepsTo_0 : decode cX4_stepsTo 0 = .ok (.aload_n 0, 1) := by decide +kernel
theorem dX4_stepsTo_1 : decode cX4_stepsTo 1 = .ok (.getfield 37, 3) := by decide +kernel
theorem dX4_stepsTo_4 : decode cX4_stepsTo 4 = .ok (.iload_n 1, 1) := by decide +kernel
theorem dX4_stepsTo_5 : decode cX4_stepsTo 5 = .ok (.bipush 7, 2) := by decide +kernel
theorem dX4_stepsTo_7 : decode cX4_stepsTo 7 = .ok (.imul, 1) := by decide +kernel
theorem dX4_stepsTo_8 : decode cX4_stepsTo 8 = .ok (.iload_n 2, 1) := by decide +kernel
theorem dX4_stepsTo_9 : decode cX4_stepsTo 9 = .ok (.iadd, 1) := by decide +kernel
theorem dX4_stepsTo_10 : decode cX4_stepsTo 10 = .ok (.invokevirtual 89, 3) := by decide +kernel
theorem dX4_stepsTo_13 : decode cX4_stepsTo 13 = .ok (.ireturn, 1) := by decide +kernel
theorem dX4_reach_0 : decode cX4_reach 0 = .ok (.aload_n 0, 1) := by decide +kernel
theorem dX4_reach_1 : decode cX4_reach 1 = .ok (.iload_n 1, 1) := by decide +kernel
theorem dX4_reach_2 : decode cX4_reach 2 = .ok (.iload_n 2, 1) := by decide +kernel
theorem dX4_reach_3 : decode cX4_reach 3 = .ok (.invokevirtual 80, 3) := by decide +kernel
theorem dX4_reach_6 : decode cX4_reach 6 = .ok (.istore 4, 2) := by decide +kernel
theorem dX4_reach_8 : decode cX4_reach 8 = .ok (.iload 4, 2) := by decide +kernel
theorem dX4_reach_10 : decode cX4_reach 10 = .ok (.bipush (-6), 2) := by decide +kernel
theorem dX4_reach_12 : decode cX4_reach 12 = .ok (.if_icmp .eq 9, 3) := by decide +kernel
theorem dX4_reach_15 : decode cX4_reach 15 = .ok (.iload_n 3, 1) := by decide +kernel
theorem dX4_reach_16 : decode cX4_reach 16 = .ok (.iload 4, 2) := by decide +kernel
theorem dX4_reach_18 : decode cX4_reach 18 = .ok (.if_icmp .ge 17, 3) := by decide +kernel
theorem dX4_reach_21 : decode cX4_reach 21 = .ok (.aload_n 0, 1) := by decide +kernel
theorem dX4_reach_22 : decode cX4_reach 22 = .ok (.getfield 37, 3) := by decide +kernel
theorem dX4_reach_25 : decode cX4_reach 25 = .ok (.iload_n 1, 1) := by decide +kernel
theorem dX4_reach_26 : decode cX4_reach 26 = .ok (.bipush 7, 2) := by decide +kernel
theorem dX4_reach_28 : decode cX4_reach 28 = .ok (.imul, 1) := by decide +kernel
theorem dX4_reach_29 : decode cX4_reach 29 = .ok (.iload_n 2, 1) := by decide +kernel
theorem dX4_reach_30 : decode cX4_reach 30 = .ok (.iadd, 1) := by decide +kernel
theorem dX4_reach_31 : decode cX4_reach 31 = .ok (.iload_n 3, 1) := by decide +kernel
theorem dX4_reach_32 : decode cX4_reach 32 = .ok (.invokevirtual 76, 3) := by decide +kernel
theorem dX4_reach_35 : decode cX4_reach 35 = .ok (.return_, 1) := by decide +kernel
theorem dX5_init_0 : decode cX5_init 0 = .ok (.aload_n 0, 1) := by decide +kernel
theorem dX5_init_1 : decode cX5_init 1 = .ok (.invokespecial 1, 3) := by decide +kernel
theorem dX5_init_4 : decode cX5_init 4 = .ok (.aload_n 0, 1) := by decide +kernel
theorem dX5_init_5 : decode cX5_init 5 = .ok (.iconst 0, 1) := by decide +kernel
theorem dX5_init_6 : decode cX5_init 6 = .ok (.iload_n 1, 1) := by decide +kernel
theorem dX5_init_7 : decode cX5_init 7 = .ok (.invokestatic 7, 3) := by decide +kernel
theorem dX5_init_10 : decode cX5_init 10 = .ok (.newarray .int, 2) := by decide +kernel
theorem dX5_init_12 : decode cX5_init 12 = .ok (.putfield 13, 3) := by decide +kernel
theorem dX5_init_15 : decode cX5_init 15 = .ok (.return_, 1) := by decide +kernel
theorem dX5_at_0 : decode cX5_at 0 = .ok (.iload_n 1, 1) := by decide +kernel
theorem dX5_at_1 : decode cX5_at 1 = .ok (.ifCond .lt 21, 3) := by decide +kernel
theorem dX5_at_4 : decode cX5_at 4 = .ok (.iload_n 1, 1) := by decide +kernel
theorem dX5_at_5 : decode cX5_at 5 = .ok (.aload_n 0, 1) := by decide +kernel
theorem dX5_at_6 : decode cX5_at 6 = .ok (.getfield 13, 3) := by decide +kernel
theorem dX5_at_9 : decode cX5_at 9 = .ok (.arraylength, 1) := by decide +kernel
theorem dX5_at_10 : decode cX5_at 10 = .ok (.if_icmp .ge 12, 3) := by decide +kernel
theorem dX5_at_13 : decode cX5_at 13 = .ok (.aload_n 0, 1) := by decide +kernel
theorem dX5_at_14 : decode cX5_at 14 = .ok (.getfield 13, 3) := by decide +kernel
theorem dX5_at_17 : decode cX5_at 17 = .ok (.iload_n 1, 1) := by decide +kernel
theorem dX5_at_18 : decode cX5_at 18 = .ok (.iaload, 1) := by decide +kernel
theorem dX5_at_19 : decode cX5_at 19 = .ok (.goto 4, 3) := by decide +kernel
theorem dX5_at_22 : decode cX5_at 22 = .ok (.iconst 0, 1) := by decide +kernel
theorem dX5_at_23 : decode cX5_at 23 = .ok (.ireturn, 1) := by decide +kernel
theorem dX5_put_0 : decode cX5_put 0 = .ok (.iload_n 1, 1) := by decide +kernel
theorem dX5_put_1 : decode cX5_put 1 = .ok (.ifCond .lt 19, 3) := by decide +kernel
theorem dX5_put_4 : decode cX5_put 4 = .ok (.iload_n 1, 1) := by decide +kernel
theorem dX5_put_5 : decode cX5_put 5 = .ok (.aload_n 0, 1) := by decide +kernel
theorem dX5_put_6 : decode cX5_put 6 = .ok (.getfield 13, 3) := by decide +kernel
theorem dX5_put_9 : decode cX5_put 9 = .ok (.arraylength, 1) := by decide +kernel
theorem dX5_put_10 : decode cX5_put 10 = .ok (.if_icmp .ge 10, 3) := by decide +kernel
theorem dX5_put_13 : decode cX5_put 13 = .ok (.aload_n 0, 1) := by decide +kernel
theorem dX5_put_14 : decode cX5_put 14 = .ok (.getfield 13, 3) := by decide +kernel
theorem dX5_put_17 : decode cX5_put 17 = .ok (.iload_n 1, 1) := by decide +kernel
theorem dX5_put_18 : decode cX5_put 18 = .ok (.iload_n 2, 1) := by decide +kernel
theorem dX5_put_19 : decode cX5_put 19 = .ok (.iastore, 1) := by decide +kernel
theorem dX5_put_20 : decode cX5_put 20 = .ok (.return_, 1) := by decide +kernel
theorem dX5_swap_0 : decode cX5_swap 0 = .ok (.aload_n 0, 1) := by decide +kernel
theorem dX5_swap_1 : decode cX5_swap 1 = .ok (.iload_n 1, 1) := by decide +kernel
theorem dX5_swap_2 : decode cX5_swap 2 = .ok (.invokevirtual 19, 3) := by decide +kernel
theorem dX5_swap_5 : decode cX5_swap 5 = .ok (.istore_n 3, 1) := by decide +kernel
theorem dX5_swap_6 : decode cX5_swap 6 = .ok (.aload_n 0, 1) := by decide +kernel
theorem dX5_swap_7 : decode cX5_swap 7 = .ok (.iload_n 1, 1) := by decide +kernel
theorem dX5_swap_8 : decode cX5_swap 8 = .ok (.iload_n 2, 1) := by decide +kernel
theorem dX5_swap_9 : decode cX5_swap 9 = .ok (.invokevirtual 23, 3) := by decide +kernel
theorem dX5_swap_12 : decode cX5_swap 12 = .ok (.iload_n 3, 1) := by decide +kernel
theorem dX5_swap_13 : decode cX5_swap 13 = .ok (.ireturn, 1) := by decide +kernel
theorem dX5_add_0 : decode cX5_add 0 = .ok (.aload_n 0, 1) := by decide +kernel
theorem dX5_add_1 : decode cX5_add 1 = .ok (.iload_n 1, 1) := by decide +kernel
theorem dX5_add_2 : decode cX5_add 2 = .ok (.aload_n 0, 1) := by decide +kernel
theorem dX5_add_3 : decode cX5_add 3 = .ok (.iload_n 1, 1) := by decide +kernel
theorem dX5_add_4 : decode cX5_add 4 = .ok (.invokevirtual 19, 3) := by decide +kernel
theorem dX5_add_7 : decode cX5_add 7 = .ok (.iload_n 2, 1) := by decide +kernel
theorem dX5_add_8 : decode cX5_add 8 = .ok (.iadd, 1) := by decide +kernel
theorem dX5_add_9 : decode cX5_add 9 = .ok (.invokevirtual 23, 3) := by decide +kernel
theorem dX5_add_12 : decode cX5_add 12 = .ok (.return_, 1) := by decide +kernel
theorem dX5_fill_0 : decode cX5_fill 0 = .ok (.aload_n 0, 1) := by decide +kernel
theorem dX5_fill_1 : decode cX5_fill 1 = .ok (.iconst 0, 1) := by decide +kernel
theorem dX5_fill_2 : decode cX5_fill 2 = .ok (.iload_n 1, 1) := by decide +kernel
theorem dX5_fill_3 : decode cX5_fill 3 = .ok (.invokevirtual 27, 3) := by decide +kernel
theorem dX5_fill_6 : decode cX5_fill 6 = .ok (.return_, 1) := by decide +kernel
theorem dX5_fillFrom_0 : decode cX5_fillFrom 0 = .ok (.iconst 0, 1) := by decide +kernel
theorem dX5_fillFrom_1 : decode cX5_fillFrom 1 = .ok (.iload_n 1, 1) := by decide +kernel
theorem dX5_fillFrom_2 : decode cX5_fillFrom 2 = .ok (.invokestatic 7, 3) := by decide +kernel
theorem dX5_fillFrom_5 : decode cX5_fillFrom 5 = .ok (.istore_n 3, 1) := by decide +kernel
theorem dX5_fillFrom_6 : decode cX5_fillFrom 6 = .ok (.iload_n 3, 1) := by decide +kernel
theorem dX5_fillFrom_7 : decode cX5_fillFrom 7 = .ok (.aload_n 0, 1) := by decide +kernel
theorem dX5_fillFrom_8 : decode cX5_fillFrom 8 = .ok (.getfield 13, 3) := by decide +kernel
theorem dX5_fillFrom_11 : decode cX5_fillFrom 11 = .ok (.arraylength, 1) := by decide +kernel
theorem dX5_fillFrom_12 : decode cX5_fillFrom 12 = .ok (.if_icmp .ge 16, 3) := by decide +kernel
theorem dX5_fillFrom_15 : decode cX5_fillFrom 15 = .ok (.aload_n 0, 1) := by decide +kernel
theorem dX5_fillFrom_16 : decode cX5_fillFrom 16 = .ok (.getfield 13, 3) := by decide +kernel
theorem dX5_fillFrom_19 : decode cX5_fillFrom 19 = .ok (.iload_n 3, 1) := by decide +kernel
theorem dX5_fillFrom_20 : decode cX5_fillFrom 20 = .ok (.iload_n 2, 1) := by decide +kernel
theorem dX5_fillFrom_21 : decode cX5_fillFrom 21 = .ok (.iastore, 1) := by decide +kernel
theorem dX5_fillFrom_22 : decode cX5_fillFrom 22 = .ok (.iinc 3 1, 3) := by decide +kernel
theorem dX5_fillFrom_25 : decode cX5_fillFrom 25 = .ok (.goto (-19), 3) := by decide +kernel
theorem dX5_fillFrom_28 : decode cX5_fillFrom 28 = .ok (.return_, 1) := by decide +kernel
theorem dX5_copy_0 : decode cX5_copy 0 = .ok (.iconst 0, 1) := by decide +kernel
theorem dX5_copy_1 : decode cX5_copy 1 = .ok (.istore_n 2, 1) := by decide +kernel
theorem dX5_copy_2 : decode cX5_copy 2 = .ok (.iload_n 2, 1) := by decide +kernel
theorem dX5_copy_3 : decode cX5_copy 3 = .ok (.aload_n 0, 1) := by decide +kernel
theorem dX5_copy_4 : decode cX5_copy 4 = .ok (.getfield 13, 3) := by decide +kernel
theorem dX5_copy_7 : decode cX5_copy 7 = .ok (.arraylength, 1) := by decide +kernel
theorem dX5_copy_8 : decode cX5_copy 8 = .ok (.if_icmp .ge 20, 3) := by decide +kernel
theorem dX5_copy_11 : decode cX5_copy 11 = .ok (.aload_n 0, 1) := by decide +kernel
theorem dX5_copy_12 : decode cX5_copy 12 = .ok (.getfield 13, 3) := by decide +kernel
theorem dX5_copy_15 : decode cX5_copy 15 = .ok (.iload_n 2, 1) := by decide +kernel
theorem dX5_copy_16 : decode cX5_copy 16 = .ok (.aload_n 1, 1) := by decide +kernel
theorem dX5_copy_17 : decode cX5_copy 17 = .ok (.iload_n 2, 1) := by decide +kernel
theorem dX5_copy_18 : decode cX5_copy 18 = .ok (.invokevirtual 19, 3) := by decide +kernel
theorem dX5_copy_21 : decode cX5_copy 21 = .ok (.iastore, 1) := by decide +kernel
theorem dX5_copy_22 : decode cX5_copy 22 = .ok (.iinc 2 1, 3) := by decide +kernel
theorem dX5_copy_25 : decode cX5_copy 25 = .ok (.goto (-23), 3) := by decide +kernel
theorem dX5_copy_28 : decode cX5_copy 28 = .ok (.return_, 1) := by decide +kernel
theorem dX5_sum_0 : decode cX5_sum 0 = .ok (.iconst 0, 1) := by decide +kernel
theorem dX5_sum_1 : decode cX5_sum 1 = .ok (.istore_n 1, 1) := by decide +kernel
theorem dX5_sum_2 : decode cX5_sum 2 = .ok (.iconst 0, 1) := by decide +kernel
theorem dX5_sum_3 : decode cX5_sum 3 = .ok (.istore_n 2, 1) := by decide +kernel
theorem dX5_sum_4 : decode cX5_sum 4 = .ok (.iload_n 2, 1) := by decide +kernel
theorem dX5_sum_5 : decode cX5_sum 5 = .ok (.aload_n 0, 1) := by decide +kernel
theorem dX5_sum_6 : decode cX5_sum 6 = .ok (.getfield 13, 3) := by decide +kernel
theorem dX5_sum_9 : decode cX5_sum 9 = .ok (.arraylength, 1) := by decide +kernel
theorem dX5_sum_10 : decode cX5_sum 10 = .ok (.if_icmp .ge 18, 3) := by decide +kernel
theorem dX5_sum_13 : decode cX5_sum 13 = .ok (.iload_n 1, 1) := by decide +kernel
theorem dX5_sum_14 : decode cX5_sum 14 = .ok (.aload_n 0, 1) := by decide +kernel
theorem dX5_sum_15 : decode cX5_sum 15 = .ok (.getfield 13, 3) := by decide +kernel
theorem dX5_sum_18 : decode cX5_sum 18 = .ok (.iload_n 2, 1) := by decide +kernel
theorem dX5_sum_19 : decode cX5_sum 19 = .ok (.iaload, 1) := by decide +kernel
theorem dX5_sum_20 : decode cX5_sum 20 = .ok (.iadd, 1) := by decide +kernel
theorem dX5_sum_21 : decode cX5_sum 21 = .ok (.istore_n 1, 1) := by decide +kernel
theorem dX5_sum_22 : decode cX5_sum 22 = .ok (.iinc 2 1, 3) := by decide +kernel
theorem dX5_sum_25 : decode cX5_sum 25 = .ok (.goto (-21), 3) := by decide +kernel
theorem dX5_sum_28 : decode cX5_sum 28 = .ok (.iload_n 1, 1) := by decide +kernel
theorem dX5_sum_29 : decode cX5_sum 29 = .ok (.ireturn, 1) := by decide +kernel
theorem dX6_init_0 : decode cX6_init 0 = .ok (.aload_n 0, 1) := by decide +kernel
theorem dX6_init_1 : decode cX6_init 1 = .ok (.invokespecial 3, 3) := by decide +kernel
theorem dX6_init_4 : decode cX6_init 4 = .ok (.aload_n 0, 1) := by decide +kernel
theorem dX6_init_5 : decode cX6_init 5 = .ok (.new 9, 3) := by decide +kernel
theorem dX6_init_8 : decode cX6_init 8 = .ok (.dup, 1) := by decide +kernel
theorem dX6_init_9 : decode cX6_init 9 = .ok (.bipush 16, 2) := by decide +kernel
theorem dX6_init_11 : decode cX6_init 11 = .ok (.invokespecial 11, 3) := by decide +kernel
theorem dX6_init_14 : decode cX6_init 14 = .ok (.putfield 14, 3) := by decide +kernel
theorem dX6_init_17 : decode cX6_init 17 = .ok (.aload_n 0, 1) := by decide +kernel
theorem dX6_init_18 : decode cX6_init 18 = .ok (.new 9, 3) := by decide +kernel
theorem dX6_init_21 : decode cX6_init 21 = .ok (.dup, 1) := by decide +kernel
theorem dX6_init_22 : decode cX6_init 22 = .ok (.bipush 6, 2) := by decide +kernel
theorem dX6_init_24 : decode cX6_init 24 = .ok (.invokespecial 11, 3) := by decide +kernel
theorem dX6_init_27 : decode cX6_init 27 = .ok (.putfield 20, 3) := by decide +kernel
theorem dX6_init_30 : decode cX6_init 30 = .ok (.aload_n 0, 1) := by decide +kernel
theorem dX6_init_31 : decode cX6_init 31 = .ok (.new 9, 3) := by decide +kernel
theorem dX6_init_34 : decode cX6_init 34 = .ok (.dup, 1) := by decide +kernel
theorem dX6_init_35 : decode cX6_init 35 = .ok (.bipush 50, 2) := by decide +kernel
theorem dX6_init_37 : decode cX6_init 37 = .ok (.invokespecial 11, 3) := by decide +kernel
theorem dX6_init_40 : decode cX6_init 40 = .ok (.putfield 23, 3) := by decide +kernel
theorem dX6_init_43 : decode cX6_init 43 = .ok (.aload_n 0, 1) := by decide +kernel
theorem dX6_init_44 : decode cX6_init 44 = .ok (.new 9, 3) := by decide +kernel
theorem dX6_init_47 : decode cX6_init 47 = .ok (.dup, 1) := by decide +kernel
theorem dX6_init_48 : decode cX6_init 48 = .ok (.bipush 10, 2) := by decide +kernel
theorem dX6_init_50 : decode cX6_init 50 = .ok (.invokespecial 11, 3) := by decide +kernel
theorem dX6_init_53 : decode cX6_init 53 = .ok (.putfield 26, 3) := by decide +kernel
theorem dX6_init_56 : decode cX6_init 56 = .ok (.aload_n 0, 1) := by decide +kernel
theorem dX6_init_57 : decode cX6_init 57 = .ok (.new 9, 3) := by decide +kernel
theorem dX6_init_60 : decode cX6_init 60 = .ok (.dup, 1) := by decide +kernel
theorem dX6_init_61 : decode cX6_init 61 = .ok (.bipush 10, 2) := by decide +kernel
theorem dX6_init_63 : decode cX6_init 63 = .ok (.invokespecial 11, 3) := by decide +kernel
theorem dX6_init_66 : decode cX6_init 66 = .ok (.putfield 29, 3) := by decide +kernel
theorem dX6_init_69 : decode cX6_init 69 = .ok (.aload_n 0, 1) := by decide +kernel
theorem dX6_init_70 : decode cX6_init 70 = .ok (.new 9, 3) := by decide +kernel
theorem dX6_init_73 : decode cX6_init 73 = .ok (.dup, 1) := by decide +kernel
theorem dX6_init_74 : decode cX6_init 74 = .ok (.bipush 36, 2) := by decide +kernel
theorem dX6_init_76 : decode cX6_init 76 = .ok (.invokespecial 11, 3) := by decide +kernel
theorem dX6_init_79 : decode cX6_init 79 = .ok (.putfield 32, 3) := by decide +kernel
theorem dX6_init_82 : decode cX6_init 82 = .ok (.aload_n 0, 1) := by decide +kernel
theorem dX6_init_83 : decode cX6_init 83 = .ok (.new 9, 3) := by decide +kernel
theorem dX6_init_86 : decode cX6_init 86 = .ok (.dup, 1) := by decide +kernel
theorem dX6_init_87 : decode cX6_init 87 = .ok (.bipush 6, 2) := by decide +kernel
theorem dX6_init_89 : decode cX6_init 89 = .ok (.invokespecial 11, 3) := by decide +kernel
theorem dX6_init_92 : decode cX6_init 92 = .ok (.putfield 35, 3) := by decide +kernel
theorem dX6_init_95 : decode cX6_init 95 = .ok (.aload_n 0, 1) := by decide +kernel
theorem dX6_init_96 : decode cX6_init 96 = .ok (.new 9, 3) := by decide +kernel
theorem dX6_init_99 : decode cX6_init 99 = .ok (.dup, 1) := by decide +kernel
theorem dX6_init_100 : decode cX6_init 100 = .ok (.bipush 6, 2) := by decide +kernel
theorem dX6_init_102 : decode cX6_init 102 = .ok (.invokespecial 11, 3) := by decide +kernel
theorem dX6_init_105 : decode cX6_init 105 = .ok (.putfield 38, 3) := by decide +kernel
theorem dX6_init_108 : decode cX6_init 108 = .ok (.aload_n 0, 1) := by decide +kernel
theorem dX6_init_109 : decode cX6_init 109 = .ok (.getfield 14, 3) := by decide +kernel
theorem dX6_init_112 : decode cX6_init 112 = .ok (.iconst 1, 1) := by decide +kernel
theorem dX6_init_113 : decode cX6_init 113 = .ok (.iconst 5, 1) := by decide +kernel
theorem dX6_init_114 : decode cX6_init 114 = .ok (.invokevirtual 41, 3) := by decide +kernel
theorem dX6_init_117 : decode cX6_init 117 = .ok (.aload_n 0, 1) := by decide +kernel
theorem dX6_init_118 : decode cX6_init 118 = .ok (.getfield 14, 3) := by decide +kernel
theorem dX6_init_121 : decode cX6_init 121 = .ok (.bipush 10, 2) := by decide +kernel
theorem dX6_init_123 : decode cX6_init 123 = .ok (.iconst 2, 1) := by decide +kernel
theorem dX6_init_124 : decode cX6_init 124 = .ok (.invokevirtual 45, 3) := by decide +kernel
theorem dX6_init_127 : decode cX6_init 127 = .ok (.aload_n 0, 1) := by decide +kernel
theorem dX6_init_128 : decode cX6_init 128 = .ok (.getfield 20, 3) := by decide +kernel
theorem dX6_init_131 : decode cX6_init 131 = .ok (.bipush 9, 2) := by decide +kernel
theorem dX6_init_133 : decode cX6_init 133 = .ok (.invokevirtual 48, 3) := by decide +kernel
theorem dX6_init_136 : decode cX6_init 136 = .ok (.aload_n 0, 1) := by decide +kernel
theorem dX6_init_137 : decode cX6_init 137 = .ok (.getfield 26, 3) := by decide +kernel
theorem dX6_init_140 : decode cX6_init 140 = .ok (.iconst 1, 1) := by decide +kernel
theorem dX6_init_141 : decode cX6_init 141 = .ok (.invokevirtual 48, 3) := by decide +kernel
theorem dX6_init_144 : decode cX6_init 144 = .ok (.aload_n 0, 1) := by decide +kernel
theorem dX6_init_145 : decode cX6_init 145 = .ok (.getfield 29, 3) := by decide +kernel
theorem dX6_init_148 : decode cX6_init 148 = .ok (.bipush (-6), 2) := by decide +kernel
theorem dX6_init_150 : decode cX6_init 150 = .ok (.invokevirtual 48, 3) := by decide +kernel
theorem dX6_init_153 : decode cX6_init 153 = .ok (.aload_n 0, 1) := by decide +kernel
theorem dX6_init_154 : decode cX6_init 154 = .ok (.getfield 38, 3) := by decide +kernel
theorem dX6_init_157 : decode cX6_init 157 = .ok (.bipush (-6), 2) := by decide +kernel
theorem dX6_init_159 : decode cX6_init 159 = .ok (.invokevirtual 48, 3) := by decide +kernel
theorem dX6_init_162 : decode cX6_init 162 = .ok (.return_, 1) := by decide +kernel
theorem dX6_copy_0 : decode cX6_copy 0 = .ok (.aload_n 0, 1) := by decide +kernel
theorem dX6_copy_1 : decode cX6_copy 1 = .ok (.getfield 14, 3) := by decide +kernel
theorem dX6_copy_4 : decode cX6_copy 4 = .ok (.aload_n 1, 1) := by decide +kernel
theorem dX6_copy_5 : decode cX6_copy 5 = .ok (.getfield 14, 3) := by decide +kernel
theorem dX6_copy_8 : decode cX6_copy 8 = .ok (.invokevirtual 51, 3) := by decide +kernel
theorem dX6_copy_11 : decode cX6_copy 11 = .ok (.aload_n 0, 1) := by decide +kernel
theorem dX6_copy_12 : decode cX6_copy 12 = .ok (.getfield 20, 3) := by decide +kernel
theorem dX6_copy_15 : decode cX6_copy 15 = .ok (.aload_n 1, 1) := by decide +kernel
theorem dX6_copy_16 : decode cX6_copy 16 = .ok (.getfield 20, 3) := by decide +kernel
theorem dX6_copy_19 : decode cX6_copy 19 = .ok (.invokevirtual 51, 3) := by decide +kernel
theorem dX6_copy_22 : decode cX6_copy 22 = .ok (.aload_n 0, 1) := by decide +kernel
theorem dX6_copy_23 : decode cX6_copy 23 = .ok (.getfield 23, 3) := by decide +kernel
theorem dX6_copy_26 : decode cX6_copy 26 = .ok (.aload_n 1, 1) := by decide +kernel
theorem dX6_copy_27 : decode cX6_copy 27 = .ok (.getfield 23, 3) := by decide +kernel
theorem dX6_copy_30 : decode cX6_copy 30 = .ok (.invokevirtual 51, 3) := by decide +kernel
theorem dX6_copy_33 : decode cX6_copy 33 = .ok (.aload_n 0, 1) := by decide +kernel
theorem dX6_copy_34 : decode cX6_copy 34 = .ok (.getfield 26, 3) := by decide +kernel
theorem dX6_copy_37 : decode cX6_copy 37 = .ok (.aload_n 1, 1) := by decide +kernel
theorem dX6_copy_38 : decode cX6_copy 38 = .ok (.getfield 26, 3) := by decide +kernel
theorem dX6_copy_41 : decode cX6_copy 41 = .ok (.invokevirtual 51, 3) := by decide +kernel
theorem dX6_copy_44 : decode cX6_copy 44 = .ok (.aload_n 0, 1) := by decide +kernel
theorem dX6_copy_45 : decode cX6_copy 45 = .ok (.getfield 29, 3) := by decide +kernel
theorem dX6_copy_48 : decode cX6_copy 48 = .ok (.aload_n 1, 1) := by decide +kernel
theorem dX6_copy_49 : decode cX6_copy 49 = .ok (.getfield 29, 3) := by decide +kernel
theorem dX6_copy_52 : decode cX6_copy 52 = .ok (.invokevirtual 51, 3) := by decide +kernel
theorem dX6_copy_55 : decode cX6_copy 55 = .ok (.aload_n 0, 1) := by decide +kernel
theorem dX6_copy_56 : decode cX6_copy 56 = .ok (.getfield 32, 3) := by decide +kernel
theorem dX6_copy_59 : decode cX6_copy 59 = .ok (.aload_n 1, 1) := by decide +kernel
theorem dX6_copy_60 : decode cX6_copy 60 = .ok (.getfield 32, 3) := by decide +kernel
theorem dX6_copy_63 : decode cX6_copy 63 = .ok (.invokevirtual 51, 3) := by decide +kernel
theorem dX6_copy_66 : decode cX6_copy 66 = .ok (.aload_n 0, 1) := by decide +kernel
theorem dX6_copy_67 : decode cX6_copy 67 = .ok (.getfield 35, 3) := by decide +kernel
theorem dX6_copy_70 : decode cX6_copy 70 = .ok (.aload_n 1, 1) := by decide +kernel
theorem dX6_copy_71 : decode cX6_copy 71 = .ok (.getfield 35, 3) := by decide +kernel
theorem dX6_copy_74 : decode cX6_copy 74 = .ok (.invokevirtual 51, 3) := by decide +kernel
theorem dX6_copy_77 : decode cX6_copy 77 = .ok (.aload_n 0, 1) := by decide +kernel
theorem dX6_copy_78 : decode cX6_copy 78 = .ok (.getfield 38, 3) := by decide +kernel
theorem dX6_copy_81 : decode cX6_copy 81 = .ok (.aload_n 1, 1) := by decide +kernel
theorem dX6_copy_82 : decode cX6_copy 82 = .ok (.getfield 38, 3) := by decide +kernel
theorem dX6_copy_85 : decode cX6_copy 85 = .ok (.invokevirtual 51, 3) := by decide +kernel
theorem dX6_copy_88 : decode cX6_copy 88 = .ok (.return_, 1) := by decide +kernel
theorem dX6_spell_0 : decode cX6_spell 0 = .ok (.aload_n 0, 1) := by decide +kernel
theorem dX6_spell_1 : decode cX6_spell 1 = .ok (.getfield 26, 3) := by decide +kernel
theorem dX6_spell_4 : decode cX6_spell 4 = .ok (.iload_n 1, 1) := by decide +kernel
theorem dX6_spell_5 : decode cX6_spell 5 = .ok (.aload_n 2, 1) := by decide +kernel
theorem dX6_spell_6 : decode cX6_spell 6 = .ok (.invokevirtual 55, 3) := by decide +kernel
theorem dX6_spell_9 : decode cX6_spell 9 = .ok (.invokevirtual 41, 3) := by decide +kernel
theorem dX6_spell_12 : decode cX6_spell 12 = .ok (.iconst 0, 1) := by decide +kernel
theorem dX6_spell_13 : decode cX6_spell 13 = .ok (.istore_n 3, 1) := by decide +kernel
theorem dX6_spell_14 : decode cX6_spell 14 = .ok (.iload_n 3, 1) := by decide +kernel
theorem dX6_spell_15 : decode cX6_spell 15 = .ok (.iconst 5, 1) := by decide +kernel
theorem dX6_spell_16 : decode cX6_spell 16 = .ok (.if_icmp .ge 26, 3) := by decide +kernel
theorem dX6_spell_19 : decode cX6_spell 19 = .ok (.aload_n 0, 1) := by decide +kernel
theorem dX6_spell_20 : decode cX6_spell 20 = .ok (.getfield 23, 3) := by decide +kernel
theorem dX6_spell_23 : decode cX6_spell 23 = .ok (.iload_n 1, 1) := by decide +kernel
theorem dX6_spell_24 : decode cX6_spell 24 = .ok (.iconst 5, 1) := by decide +kernel
theorem dX6_spell_25 : decode cX6_spell 25 = .ok (.imul, 1) := by decide +kernel
theorem dX6_spell_26 : decode cX6_spell 26 = .ok (.iload_n 3, 1) := by decide +kernel
theorem dX6_spell_27 : decode cX6_spell 27 = .ok (.iadd, 1) := by decide +kernel
theorem dX6_spell_28 : decode cX6_spell 28 = .ok (.aload_n 2, 1) := by decide +kernel
theorem dX6_spell_29 : decode cX6_spell 29 = .ok (.iload_n 3, 1) := by decide +kernel
theorem dX6_spell_30 : decode cX6_spell 30 = .ok (.invokevirtual 61, 3) := by decide +kernel
theorem dX6_spell_33 : decode cX6_spell 33 = .ok (.invokevirtual 41, 3) := by decide +kernel
theorem dX6_spell_36 : decode cX6_spell 36 = .ok (.iinc 3 1, 3) := by decide +kernel
theorem dX6_spell_39 : decode cX6_spell 39 = .ok (.goto (-25), 3) := by decide +kernel
theorem dX6_spell_42 : decode cX6_spell 42 = .ok (.return_, 1) := by decide +kernel
theorem dX6_compose_0 : decode cX6_compose 0 = .ok (.aload_n 0, 1) := by decide +kernel
theorem dX6_compose_1 : decode cX6_compose 1 = .ok (.getfield 35, 3) := by decide +kernel
theorem dX6_compose_4 : decode cX6_compose 4 = .ok (.iload_n 1, 1) := by decide +kernel
theorem dX6_compose_5 : decode cX6_compose 5 = .ok (.aload_n 2, 1) := by decide +kernel
theorem dX6_compose_6 : decode cX6_compose 6 = .ok (.invokevirtual 55, 3) := by decide +kernel
theorem dX6_compose_9 : decode cX6_compose 9 = .ok (.invokevirtual 41, 3) := by decide +kernel
theorem dX6_compose_12 : decode cX6_compose 12 = .ok (.iconst 0, 1) := by decide +kernel
theorem dX6_compose_13 : decode cX6_compose 13 = .ok (.istore_n 3, 1) := by decide +kernel
theorem dX6_compose_14 : decode cX6_compose 14 = .ok (.iload_n 3, 1) := by decide +kernel
theorem dX6_compose_15 : decode cX6_compose 15 = .ok (.bipush 6, 2) := by decide +kernel
theorem dX6_compose_17 : decode cX6_compose 17 = .ok (.if_icmp .ge 27, 3) := by decide +kernel
theorem dX6_compose_20 : decode cX6_compose 20 = .ok (.aload_n 0, 1) := by decide +kernel
theorem dX6_compose_21 : decode cX6_compose 21 = .ok (.getfield 32, 3) := by decide +kernel
theorem dX6_compose_24 : decode cX6_compose 24 = .ok (.iload_n 1, 1) := by decide +kernel
theorem dX6_compose_25 : decode cX6_compose 25 = .ok (.bipush 6, 2) := by decide +kernel
theorem dX6_compose_27 : decode cX6_compose 27 = .ok (.imul, 1) := by decide +kernel
theorem dX6_compose_28 : decode cX6_compose 28 = .ok (.iload_n 3, 1) := by decide +kernel
theorem dX6_compose_29 : decode cX6_compose 29 = .ok (.iadd, 1) := by decide +kernel
theorem dX6_compose_30 : decode cX6_compose 30 = .ok (.aload_n 2, 1) := by decide +kernel
theorem dX6_compose_31 : decode cX6_compose 31 = .ok (.iload_n 3, 1) := by decide +kernel
theorem dX6_compose_32 : decode cX6_compose 32 = .ok (.invokevirtual 65, 3) := by decide +kernel
theorem dX6_compose_35 : decode cX6_compose 35 = .ok (.invokevirtual 41, 3) := by decide +kernel
theorem dX6_compose_38 : decode cX6_compose 38 = .ok (.iinc 3 1, 3) := by decide +kernel
theorem dX6_compose_41 : decode cX6_compose 41 = .ok (.goto (-27), 3) := by decide +kernel
theorem dX6_compose_44 : decode cX6_compose 44 = .ok (.return_, 1) := by decide +kernel
theorem dX6_letterOf_0 : decode cX6_letterOf 0 = .ok (.aload_n 0, 1) := by decide +kernel
theorem dX6_letterOf_1 : decode cX6_letterOf 1 = .ok (.getfield 23, 3) := by decide +kernel
theorem dX6_letterOf_4 : decode cX6_letterOf 4 = .ok (.iload_n 1, 1) := by decide +kernel
theorem dX6_letterOf_5 : decode cX6_letterOf 5 = .ok (.iconst 5, 1) := by decide +kernel
theorem dX6_letterOf_6 : decode cX6_letterOf 6 = .ok (.imul, 1) := by decide +kernel
theorem dX6_letterOf_7 : decode cX6_letterOf 7 = .ok (.iload_n 2, 1) := by decide +kernel
theorem dX6_letterOf_8 : decode cX6_letterOf 8 = .ok (.iadd, 1) := by decide +kernel
theorem dX6_letterOf_9 : decode cX6_letterOf 9 = .ok (.invokevirtual 68, 3) := by decide +kernel
theorem dX6_letterOf_12 : decode cX6_letterOf 12 = .ok (.ireturn, 1) := by decide +kernel
theorem dX6_wordAt_0 : decode cX6_wordAt 0 = .ok (.aload_n 0, 1) := by decide +kernel
theorem dX6_wordAt_1 : decode cX6_wordAt 1 = .ok (.getfield 32, 3) := by decide +kernel
theorem dX6_wordAt_4 : decode cX6_wordAt 4 = .ok (.iload_n 1, 1) := by decide +kernel
theorem dX6_wordAt_5 : decode cX6_wordAt 5 = .ok (.bipush 6, 2) := by decide +kernel
theorem dX6_wordAt_7 : decode cX6_wordAt 7 = .ok (.imul, 1) := by decide +kernel
theorem dX6_wordAt_8 : decode cX6_wordAt 8 = .ok (.iload_n 2, 1) := by decide +kernel
theorem dX6_wordAt_9 : decode cX6_wordAt 9 = .ok (.iadd, 1) := by decide +kernel
theorem dX6_wordAt_10 : decode cX6_wordAt 10 = .ok (.invokevirtual 68, 3) := by decide +kernel
theorem dX6_wordAt_13 : decode cX6_wordAt 13 = .ok (.ireturn, 1) := by decide +kernel
theorem dX6_there_0 : decode cX6_there 0 = .ok (.iconst 0, 1) := by decide +kernel
theorem dX6_there_1 : decode cX6_there 1 = .ok (.istore_n 1, 1) := by decide +kernel
theorem dX6_there_2 : decode cX6_there 2 = .ok (.iconst 0, 1) := by decide +kernel
theorem dX6_there_3 : decode cX6_there 3 = .ok (.istore_n 2, 1) := by decide +kernel
theorem dX6_there_4 : decode cX6_there 4 = .ok (.iload_n 2, 1) := by decide +kernel
theorem dX6_there_5 : decode cX6_there 5 = .ok (.bipush 6, 2) := by decide +kernel
theorem dX6_there_7 : decode cX6_there 7 = .ok (.if_icmp .ge 26, 3) := by decide +kernel
theorem dX6_there_10 : decode cX6_there 10 = .ok (.aload_n 0, 1) := by decide +kernel
theorem dX6_there_11 : decode cX6_there 11 = .ok (.getfield 35, 3) := by decide +kernel
theorem dX6_there_14 : decode cX6_there 14 = .ok (.iload_n 2, 1) := by decide +kernel
theorem dX6_there_15 : decode cX6_there 15 = .ok (.invokevirtual 68, 3) := by decide +kernel
theorem dX6_there_18 : decode cX6_there 18 = .ok (.ifCond .le 9, 3) := by decide +kernel
theorem dX6_there_21 : decode cX6_there 21 = .ok (.iload_n 1, 1) := by decide +kernel
theorem dX6_there_22 : decode cX6_there 22 = .ok (.iconst 1, 1) := by decide +kernel
theorem dX6_there_23 : decode cX6_there 23 = .ok (.iload_n 2, 1) := by decide +kernel
theorem dX6_there_24 : decode cX6_there 24 = .ok (.ishl, 1) := by decide +kernel
theorem dX6_there_25 : decode cX6_there 25 = .ok (.ior, 1) := by decide +kernel
theorem dX6_there_26 : decode cX6_there 26 = .ok (.istore_n 1, 1) := by decide +kernel
theorem dX6_there_27 : decode cX6_there 27 = .ok (.iinc 2 1, 3) := by decide +kernel
theorem dX6_there_30 : decode cX6_there 30 = .ok (.goto (-26), 3) := by decide +kernel
theorem dX6_there_33 : decode cX6_there 33 = .ok (.iload_n 1, 1) := by decide +kernel
theorem dX6_there_34 : decode cX6_there 34 = .ok (.ireturn, 1) := by decide +kernel
theorem dX6_isClear_0 : decode cX6_isClear 0 = .ok (.iconst 0, 1) := by decide +kernel
theorem dX6_isClear_1 : decode cX6_isClear 1 = .ok (.istore_n 3, 1) := by decide +kernel
theorem dX6_isClear_2 : decode cX6_isClear 2 = .ok (.iload_n 3, 1) := by decide +kernel
theorem dX6_isClear_3 : decode cX6_isClear 3 = .ok (.bipush 10, 2) := by decide +kernel
theorem dX6_isClear_5 : decode cX6_isClear 5 = .ok (.if_icmp .ge 21, 3) := by decide +kernel
theorem dX6_isClear_8 : decode cX6_isClear 8 = .ok (.aload_n 0, 1) := by decide +kernel
theorem dX6_isClear_9 : decode cX6_isClear 9 = .ok (.iload_n 1, 1) := by decide +kernel
theorem dX6_isClear_10 : decode cX6_isClear 10 = .ok (.iload_n 3, 1) := by decide +kernel
theorem dX6_isClear_11 : decode cX6_isClear 11 = .ok (.iload_n 2, 1) := by decide +kernel
theorem dX6_isClear_12 : decode cX6_isClear 12 = .ok (.invokevirtual 71, 3) := by decide +kernel
theorem dX6_isClear_15 : decode cX6_isClear 15 = .ok (.ifCond .eq 5, 3) := by decide +kernel
theorem dX6_isClear_18 : decode cX6_isClear 18 = .ok (.iconst 0, 1) := by decide +kernel
theorem dX6_isClear_19 : decode cX6_isClear 19 = .ok (.ireturn, 1) := by decide +kernel
theorem dX6_isClear_20 : decode cX6_isClear 20 = .ok (.iinc 3 1, 3) := by decide +kernel
theorem dX6_isClear_23 : decode cX6_isClear 23 = .ok (.goto (-21), 3) := by decide +kernel
theorem dX6_isClear_26 : decode cX6_isClear 26 = .ok (.iconst 1, 1) := by decide +kernel
theorem dX6_isClear_27 : decode cX6_isClear 27 = .ok (.ireturn, 1) := by decide +kernel
theorem dX6_clearPlaces_0 : decode cX6_clearPlaces 0 = .ok (.iconst 0, 1) := by decide +kernel
theorem dX6_clearPlaces_1 : decode cX6_clearPlaces 1 = .ok (.istore_n 3, 1) := by decide +kernel
theorem dX6_clearPlaces_2 : decode cX6_clearPlaces 2 = .ok (.iconst 0, 1) := by decide +kernel
theorem dX6_clearPlaces_3 : decode cX6_clearPlaces 3 = .ok (.istore 4, 2) := by decide +kernel
theorem dX6_clearPlaces_5 : decode cX6_clearPlaces 5 = .ok (.iload 4, 2) := by decide +kernel
theorem dX6_clearPlaces_7 : decode cX6_clearPlaces 7 = .ok (.aload_n 0, 1) := by decide +kernel
theorem dX6_clearPlaces_8 : decode cX6_clearPlaces 8 = .ok (.getfield 35, 3) := by decide +kernel
theorem dX6_clearPlaces_11 : decode cX6_clearPlaces 11 = .ok (.iload_n 1, 1) := by decide +kernel
theorem dX6_clearPlaces_12 : decode cX6_clearPlaces 12 = .ok (.invokevirtual 68, 3) := by decide +kernel
theorem dX6_clearPlaces_15 : decode cX6_clearPlaces 15 = .ok (.if_icmp .ge 27, 3) := by decide +kernel
theorem dX6_clearPlaces_18 : decode cX6_clearPlaces 18 = .ok (.aload_n 0, 1) := by decide +kernel
theorem dX6_clearPlaces_19 : decode cX6_clearPlaces 19 = .ok (.aload_n 0, 1) := by decide +kernel
theorem dX6_clearPlaces_20 : decode cX6_clearPlaces 20 = .ok (.iload_n 1, 1) := by decide +kernel
theorem dX6_clearPlaces_21 : decode cX6_clearPlaces 21 = .ok (.iload 4, 2) := by decide +kernel
theorem dX6_clearPlaces_23 : decode cX6_clearPlaces 23 = .ok (.invokevirtual 75, 3) := by decide +kernel
theorem dX6_clearPlaces_26 : decode cX6_clearPlaces 26 = .ok (.iload_n 2, 1) := by decide +kernel
theorem dX6_clearPlaces_27 : decode cX6_clearPlaces 27 = .ok (.invokevirtual 79, 3) := by decide +kernel
theorem dX6_clearPlaces_30 : decode cX6_clearPlaces 30 = .ok (.ifCond .eq 6, 3) := by decide +kernel
theorem dX6_clearPlaces_33 : decode cX6_clearPlaces 33 = .ok (.iinc 3 1, 3) := by decide +kernel
theorem dX6_clearPlaces_36 : decode cX6_clearPlaces 36 = .ok (.iinc 4 1, 3) := by decide +kernel
theorem dX6_clearPlaces_39 : decode cX6_clearPlaces 39 = .ok (.goto (-34), 3) := by decide +kernel
theorem dX6_clearPlaces_42 : decode cX6_clearPlaces 42 = .ok (.iload_n 3, 1) := by decide +kernel
theorem dX6_clearPlaces_43 : decode cX6_clearPlaces 43 = .ok (.ireturn, 1) := by decide +kernel
theorem dX6_couldBeMeant_0 : decode cX6_couldBeMeant 0 = .ok (.aload_n 0, 1) := by decide +kernel
theorem dX6_couldBeMeant_1 : decode cX6_couldBeMeant 1 = .ok (.getfield 26, 3) := by decide +kernel
theorem dX6_couldBeMeant_4 : decode cX6_couldBeMeant 4 = .ok (.iload_n 1, 1) := by decide +kernel
theorem dX6_couldBeMeant_5 : decode cX6_couldBeMeant 5 = .ok (.invokevirtual 68, 3) := by decide +kernel
theorem dX6_couldBeMeant_8 : decode cX6_couldBeMeant 8 = .ok (.aload_n 0, 1) := by decide +kernel
theorem dX6_couldBeMeant_9 : decode cX6_couldBeMeant 9 = .ok (.getfield 26, 3) := by decide +kernel
theorem dX6_couldBeMeant_12 : decode cX6_couldBeMeant 12 = .ok (.iload_n 2, 1) := by decide +kernel
theorem dX6_couldBeMeant_13 : decode cX6_couldBeMeant 13 = .ok (.invokevirtual 68, 3) := by decide +kernel
theorem dX6_couldBeMeant_16 : decode cX6_couldBeMeant 16 = .ok (.if_icmp .eq 5, 3) := by decide +kernel
theorem dX6_couldBeMeant_19 : decode cX6_couldBeMeant 19 = .ok (.iconst 0, 1) := by decide +kernel
theorem dX6_couldBeMeant_20 : decode cX6_couldBeMeant 20 = .ok (.ireturn, 1) := by decide +kernel
theorem dX6_couldBeMeant_21 : decode cX6_couldBeMeant 21 = .ok (.iconst 1, 1) := by decide +kernel
theorem dX6_couldBeMeant_22 : decode cX6_couldBeMeant 22 = .ok (.istore 4, 2) := by decide +kernel
theorem dX6_couldBeMeant_24 : decode cX6_couldBeMeant 24 = .ok (.iconst 0, 1) := by decide +kernel
theorem dX6_couldBeMeant_25 : decode cX6_couldBeMeant 25 = .ok (.istore 5, 2) := by decide +kernel
theorem dX6_couldBeMeant_27 : decode cX6_couldBeMeant 27 = .ok (.iload 5, 2) := by decide +kernel
theorem dX6_couldBeMeant_29 : decode cX6_couldBeMeant 29 = .ok (.aload_n 0, 1) := by decide +kernel
theorem dX6_couldBeMeant_30 : decode cX6_couldBeMeant 30 = .ok (.getfield 26, 3) := by decide +kernel
theorem dX6_couldBeMeant_33 : decode cX6_couldBeMeant 33 = .ok (.iload_n 1, 1) := by decide +kernel
theorem dX6_couldBeMeant_34 : decode cX6_couldBeMeant 34 = .ok (.invokevirtual 68, 3) := by decide +kernel
theorem dX6_couldBeMeant_37 : decode cX6_couldBeMeant 37 = .ok (.if_icmp .ge 57, 3) := by decide +kernel
theorem dX6_couldBeMeant_40 : decode cX6_couldBeMeant 40 = .ok (.aload_n 0, 1) := by decide +kernel
theorem dX6_couldBeMeant_41 : decode cX6_couldBeMeant 41 = .ok (.iload_n 1, 1) := by decide +kernel
theorem dX6_couldBeMeant_42 : decode cX6_couldBeMeant 42 = .ok (.iload 5, 2) := by decide +kernel
theorem dX6_couldBeMeant_44 : decode cX6_couldBeMeant 44 = .ok (.invokevirtual 83, 3) := by decide +kernel
theorem dX6_couldBeMeant_47 : decode cX6_couldBeMeant 47 = .ok (.istore 6, 2) := by decide +kernel
theorem dX6_couldBeMeant_49 : decode cX6_couldBeMeant 49 = .ok (.aload_n 0, 1) := by decide +kernel
theorem dX6_couldBeMeant_50 : decode cX6_couldBeMeant 50 = .ok (.iload_n 2, 1) := by decide +kernel
theorem dX6_couldBeMeant_51 : decode cX6_couldBeMeant 51 = .ok (.iload 5, 2) := by decide +kernel
theorem dX6_couldBeMeant_53 : decode cX6_couldBeMeant 53 = .ok (.invokevirtual 83, 3) := by decide +kernel
theorem dX6_couldBeMeant_56 : decode cX6_couldBeMeant 56 = .ok (.istore 7, 2) := by decide +kernel
theorem dX6_couldBeMeant_58 : decode cX6_couldBeMeant 58 = .ok (.iload 6, 2) := by decide +kernel
theorem dX6_couldBeMeant_60 : decode cX6_couldBeMeant 60 = .ok (.iload 7, 2) := by decide +kernel
theorem dX6_couldBeMeant_62 : decode cX6_couldBeMeant 62 = .ok (.if_icmp .eq 26, 3) := by decide +kernel
theorem dX6_couldBeMeant_65 : decode cX6_couldBeMeant 65 = .ok (.iconst 0, 1) := by decide +kernel
theorem dX6_couldBeMeant_66 : decode cX6_couldBeMeant 66 = .ok (.istore 4, 2) := by decide +kernel
theorem dX6_couldBeMeant_68 : decode cX6_couldBeMeant 68 = .ok (.iload_n 3, 1) := by decide +kernel
theorem dX6_couldBeMeant_69 : decode cX6_couldBeMeant 69 = .ok (.iload 6, 2) := by decide +kernel
theorem dX6_couldBeMeant_71 : decode cX6_couldBeMeant 71 = .ok (.invokestatic 86, 3) := by decide +kernel
theorem dX6_couldBeMeant_74 : decode cX6_couldBeMeant 74 = .ok (.ifCond .eq 12, 3) := by decide +kernel
theorem dX6_couldBeMeant_77 : decode cX6_couldBeMeant 77 = .ok (.iload_n 3, 1) := by decide +kernel
theorem dX6_couldBeMeant_78 : decode cX6_couldBeMeant 78 = .ok (.iload 7, 2) := by decide +kernel
theorem dX6_couldBeMeant_80 : decode cX6_couldBeMeant 80 = .ok (.invokestatic 86, 3) := by decide +kernel
theorem dX6_couldBeMeant_83 : decode cX6_couldBeMeant 83 = .ok (.ifCond .ne 5, 3) := by decide +kernel
theorem dX6_couldBeMeant_86 : decode cX6_couldBeMeant 86 = .ok (.iconst 0, 1) := by decide +kernel
theorem dX6_couldBeMeant_87 : decode cX6_couldBeMeant 87 = .ok (.ireturn, 1) := by decide +kernel
theorem dX6_couldBeMeant_88 : decode cX6_couldBeMeant 88 = .ok (.iinc 5 1, 3) := by decide +kernel
theorem dX6_couldBeMeant_91 : decode cX6_couldBeMeant 91 = .ok (.goto (-64), 3) := by decide +kernel
theorem dX6_couldBeMeant_94 : decode cX6_couldBeMeant 94 = .ok (.iload 4, 2) := by decide +kernel
theorem dX6_couldBeMeant_96 : decode cX6_couldBeMeant 96 = .ok (.ifCond .ne 7, 3) := by decide +kernel
theorem dX6_couldBeMeant_99 : decode cX6_couldBeMeant 99 = .ok (.iconst 1, 1) := by decide +kernel
theorem dX6_couldBeMeant_100 : decode cX6_couldBeMeant 100 = .ok (.goto 4, 3) := by decide +kernel
theorem dX6_couldBeMeant_103 : decode cX6_couldBeMeant 103 = .ok (.iconst 0, 1) := by decide +kernel
theorem dX6_couldBeMeant_104 : decode cX6_couldBeMeant 104 = .ok (.ireturn, 1) := by decide +kernel
theorem dX7_init_0 : decode cX7_init 0 = .ok (.aload_n 0, 1) := by decide +kernel
theorem dX7_init_1 : decode cX7_init 1 = .ok (.invokespecial 3, 3) := by decide +kernel
theorem dX7_init_4 : decode cX7_init 4 = .ok (.aload_n 0, 1) := by decide +kernel
theorem dX7_init_5 : decode cX7_init 5 = .ok (.new 9, 3) := by decide +kernel
theorem dX7_init_8 : decode cX7_init 8 = .ok (.dup, 1) := by decide +kernel
theorem dX7_init_9 : decode cX7_init 9 = .ok (.bipush 6, 2) := by decide +kernel
theorem dX7_init_11 : decode cX7_init 11 = .ok (.invokespecial 11, 3) := by decide +kernel
theorem dX7_init_14 : decode cX7_init 14 = .ok (.putfield 14, 3) := by decide +kernel
theorem dX7_init_17 : decode cX7_init 17 = .ok (.aload_n 0, 1) := by decide +kernel
theorem dX7_init_18 : decode cX7_init 18 = .ok (.new 9, 3) := by decide +kernel
theorem dX7_init_21 : decode cX7_init 21 = .ok (.dup, 1) := by decide +kernel
theorem dX7_init_22 : decode cX7_init 22 = .ok (.bipush 6, 2) := by decide +kernel
theorem dX7_init_24 : decode cX7_init 24 = .ok (.invokespecial 11, 3) := by decide +kernel
theorem dX7_init_27 : decode cX7_init 27 = .ok (.putfield 20, 3) := by decide +kernel
theorem dX7_init_30 : decode cX7_init 30 = .ok (.return_, 1) := by decide +kernel
theorem dX7_load_0 : decode cX7_load 0 = .ok (.aload_n 0, 1) := by decide +kernel
theorem dX7_load_1 : decode cX7_load 1 = .ok (.getfield 14, 3) := by decide +kernel
theorem dX7_load_4 : decode cX7_load 4 = .ok (.aload_n 1, 1) := by decide +kernel
theorem dX7_load_5 : decode cX7_load 5 = .ok (.getfield 23, 3) := by decide +kernel
theorem dX7_load_8 : decode cX7_load 8 = .ok (.invokevirtual 28, 3) := by decide +kernel
theorem dX7_load_11 : decode cX7_load 11 = .ok (.aload_n 0, 1) := by decide +kernel
theorem dX7_load_12 : decode cX7_load 12 = .ok (.invokevirtual 32, 3) := by decide +kernel
theorem dX7_load_15 : decode cX7_load 15 = .ok (.return_, 1) := by decide +kernel
theorem dX7_refill_0 : decode cX7_refill 0 = .ok (.aload_n 0, 1) := by decide +kernel
theorem dX7_refill_1 : decode cX7_refill 1 = .ok (.getfield 20, 3) := by decide +kernel
theorem dX7_refill_4 : decode cX7_refill 4 = .ok (.aload_n 0, 1) := by decide +kernel
theorem dX7_refill_5 : decode cX7_refill 5 = .ok (.getfield 14, 3) := by decide +kernel
theorem dX7_refill_8 : decode cX7_refill 8 = .ok (.invokevirtual 28, 3) := by decide +kernel
theorem dX7_refill_11 : decode cX7_refill 11 = .ok (.return_, 1) := by decide +kernel
theorem dX7_whole_0 : decode cX7_whole 0 = .ok (.aload_n 0, 1) := by decide +kernel
theorem dX7_whole_1 : decode cX7_whole 1 = .ok (.getfield 14, 3) := by decide +kernel
theorem dX7_whole_4 : decode cX7_whole 4 = .ok (.invokevirtual 35, 3) := by decide +kernel
theorem dX7_whole_7 : decode cX7_whole 7 = .ok (.ireturn, 1) := by decide +kernel
theorem dX7_lost_0 : decode cX7_lost 0 = .ok (.aload_n 0, 1) := by decide +kernel
theorem dX7_lost_1 : decode cX7_lost 1 = .ok (.getfield 14, 3) := by decide +kernel
theorem dX7_lost_4 : decode cX7_lost 4 = .ok (.iload_n 1, 1) := by decide +kernel
theorem dX7_lost_5 : decode cX7_lost 5 = .ok (.invokevirtual 39, 3) := by decide +kernel
theorem dX7_lost_8 : decode cX7_lost 8 = .ok (.aload_n 0, 1) := by decide +kernel
theorem dX7_lost_9 : decode cX7_lost 9 = .ok (.getfield 20, 3) := by decide +kernel
theorem dX7_lost_12 : decode cX7_lost 12 = .ok (.iload_n 1, 1) := by decide +kernel
theorem dX7_lost_13 : decode cX7_lost 13 = .ok (.invokevirtual 39, 3) := by decide +kernel
theorem dX7_lost_16 : decode cX7_lost 16 = .ok (.isub, 1) := by decide +kernel
theorem dX7_lost_17 : decode cX7_lost 17 = .ok (.ireturn, 1) := by decide +kernel
theorem dX7_lackOf_0 : decode cX7_lackOf 0 = .ok (.iconst 0, 1) := by decide +kernel
theorem dX7_lackOf_1 : decode cX7_lackOf 1 = .ok (.aload_n 1, 1) := by decide +kernel
theorem dX7_lackOf_2 : decode cX7_lackOf 2 = .ok (.iload_n 2, 1) := by decide +kernel
theorem dX7_lackOf_3 : decode cX7_lackOf 3 = .ok (.iload_n 3, 1) := by decide +kernel
theorem dX7_lackOf_4 : decode cX7_lackOf 4 = .ok (.invokevirtual 43, 3) := by decide +kernel
theorem dX7_lackOf_7 : decode cX7_lackOf 7 = .ok (.aload_n 0, 1) := by decide +kernel
theorem dX7_lackOf_8 : decode cX7_lackOf 8 = .ok (.getfield 20, 3) := by decide +kernel
theorem dX7_lackOf_11 : decode cX7_lackOf 11 = .ok (.iload_n 3, 1) := by decide +kernel
theorem dX7_lackOf_12 : decode cX7_lackOf 12 = .ok (.invokevirtual 39, 3) := by decide +kernel
theorem dX7_lackOf_15 : decode cX7_lackOf 15 = .ok (.isub, 1) := by decide +kernel
theorem dX7_lackOf_16 : decode cX7_lackOf 16 = .ok (.invokestatic 49, 3) := by decide +kernel
theorem dX7_lackOf_19 : decode cX7_lackOf 19 = .ok (.ireturn, 1) := by decide +kernel
theorem dX7_lacks_0 : decode cX7_lacks 0 = .ok (.iconst 0, 1) := by decide +kernel
theorem dX7_lacks_1 : decode cX7_lacks 1 = .ok (.istore_n 3, 1) := by decide +kernel
theorem dX7_lacks_2 : decode cX7_lacks 2 = .ok (.iconst 0, 1) := by decide +kernel
theorem dX7_lacks_3 : decode cX7_lacks 3 = .ok (.istore 4, 2) := by decide +kernel
theorem dX7_lacks_5 : decode cX7_lacks 5 = .ok (.iload 4, 2) := by decide +kernel
theorem dX7_lacks_7 : decode cX7_lacks 7 = .ok (.bipush 6, 2) := by decide +kernel
theorem dX7_lacks_9 : decode cX7_lacks 9 = .ok (.if_icmp .ge 33, 3) := by decide +kernel
theorem dX7_lacks_12 : decode cX7_lacks 12 = .ok (.iload_n 3, 1) := by decide +kernel
theorem dX7_lacks_13 : decode cX7_lacks 13 = .ok (.iconst 0, 1) := by decide +kernel
theorem dX7_lacks_14 : decode cX7_lacks 14 = .ok (.aload_n 1, 1) := by decide +kernel
theorem dX7_lacks_15 : decode cX7_lacks 15 = .ok (.iload_n 2, 1) := by decide +kernel
theorem dX7_lacks_16 : decode cX7_lacks 16 = .ok (.iload 4, 2) := by decide +kernel
theorem dX7_lacks_18 : decode cX7_lacks 18 = .ok (.invokevirtual 43, 3) := by decide +kernel
theorem dX7_lacks_21 : decode cX7_lacks 21 = .ok (.aload_n 0, 1) := by decide +kernel
theorem dX7_lacks_22 : decode cX7_lacks 22 = .ok (.getfield 20, 3) := by decide +kernel
theorem dX7_lacks_25 : decode cX7_lacks 25 = .ok (.iload 4, 2) := by decide +kernel
theorem dX7_lacks_27 : decode cX7_lacks 27 = .ok (.invokevirtual 39, 3) := by decide +kernel
theorem dX7_lacks_30 : decode cX7_lacks 30 = .ok (.isub, 1) := by decide +kernel
theorem dX7_lacks_31 : decode cX7_lacks 31 = .ok (.invokestatic 49, 3) := by decide +kernel
theorem dX7_lacks_34 : decode cX7_lacks 34 = .ok (.iadd, 1) := by decide +kernel
theorem dX7_lacks_35 : decode cX7_lacks 35 = .ok (.istore_n 3, 1) := by decide +kernel
theorem dX7_lacks_36 : decode cX7_lacks 36 = .ok (.iinc 4 1, 3) := by decide +kernel
theorem dX7_lacks_39 : decode cX7_lacks 39 = .ok (.goto (-34), 3) := by decide +kernel
theorem dX7_lacks_42 : decode cX7_lacks 42 = .ok (.iload_n 3, 1) := by decide +kernel
theorem dX7_lacks_43 : decode cX7_lacks 43 = .ok (.ireturn, 1) := by decide +kernel
theorem dX7_hasFor_0 : decode cX7_hasFor 0 = .ok (.iconst 0, 1) := by decide +kernel
theorem dX7_hasFor_1 : decode cX7_hasFor 1 = .ok (.istore 4, 2) := by decide +kernel
theorem dX7_hasFor_3 : decode cX7_hasFor 3 = .ok (.iload 4, 2) := by decide +kernel
theorem dX7_hasFor_5 : decode cX7_hasFor 5 = .ok (.bipush 6, 2) := by decide +kernel
theorem dX7_hasFor_7 : decode cX7_hasFor 7 = .ok (.if_icmp .ge 38, 3) := by decide +kernel
theorem dX7_hasFor_10 : decode cX7_hasFor 10 = .ok (.aload_n 1, 1) := by decide +kernel
theorem dX7_hasFor_11 : decode cX7_hasFor 11 = .ok (.iload_n 2, 1) := by decide +kernel
theorem dX7_hasFor_12 : decode cX7_hasFor 12 = .ok (.iload 4, 2) := by decide +kernel
theorem dX7_hasFor_14 : decode cX7_hasFor 14 = .ok (.invokevirtual 43, 3) := by decide +kernel
theorem dX7_hasFor_17 : decode cX7_hasFor 17 = .ok (.aload_n 1, 1) := by decide +kernel
theorem dX7_hasFor_18 : decode cX7_hasFor 18 = .ok (.iload_n 3, 1) := by decide +kernel
theorem dX7_hasFor_19 : decode cX7_hasFor 19 = .ok (.iload 4, 2) := by decide +kernel
theorem dX7_hasFor_21 : decode cX7_hasFor 21 = .ok (.invokevirtual 43, 3) := by decide +kernel
theorem dX7_hasFor_24 : decode cX7_hasFor 24 = .ok (.iadd, 1) := by decide +kernel
theorem dX7_hasFor_25 : decode cX7_hasFor 25 = .ok (.aload_n 0, 1) := by decide +kernel
theorem dX7_hasFor_26 : decode cX7_hasFor 26 = .ok (.getfield 20, 3) := by decide +kernel
theorem dX7_hasFor_29 : decode cX7_hasFor 29 = .ok (.iload 4, 2) := by decide +kernel
theorem dX7_hasFor_31 : decode cX7_hasFor 31 = .ok (.invokevirtual 39, 3) := by decide +kernel
theorem dX7_hasFor_34 : decode cX7_hasFor 34 = .ok (.if_icmp .le 5, 3) := by decide +kernel
theorem dX7_hasFor_37 : decode cX7_hasFor 37 = .ok (.iconst 0, 1) := by decide +kernel
theorem dX7_hasFor_38 : decode cX7_hasFor 38 = .ok (.ireturn, 1) := by decide +kernel
theorem dX7_hasFor_39 : decode cX7_hasFor 39 = .ok (.iinc 4 1, 3) := by decide +kernel
theorem dX7_hasFor_42 : decode cX7_hasFor 42 = .ok (.goto (-39), 3) := by decide +kernel
theorem dX7_hasFor_45 : decode cX7_hasFor 45 = .ok (.iconst 1, 1) := by decide +kernel
theorem dX7_hasFor_46 : decode cX7_hasFor 46 = .ok (.ireturn, 1) := by decide +kernel
theorem dX7_breakOne_0 : decode cX7_breakOne 0 = .ok (.aload_n 0, 1) := by decide +kernel
theorem dX7_breakOne_1 : decode cX7_breakOne 1 = .ok (.getfield 20, 3) := by decide +kernel
theorem dX7_breakOne_4 : decode cX7_breakOne 4 = .ok (.iload_n 1, 1) := by decide +kernel
theorem dX7_breakOne_5 : decode cX7_breakOne 5 = .ok (.invokevirtual 39, 3) := by decide +kernel
theorem dX7_breakOne_8 : decode cX7_breakOne 8 = .ok (.ifCond .le 12, 3) := by decide +kernel
theorem dX7_breakOne_11 : decode cX7_breakOne 11 = .ok (.aload_n 0, 1) := by decide +kernel
theorem dX7_breakOne_12 : decode cX7_breakOne 12 = .ok (.getfield 20, 3) := by decide +kernel
theorem dX7_breakOne_15 : decode cX7_breakOne 15 = .ok (.iload_n 1, 1) := by decide +kernel
theorem dX7_breakOne_16 : decode cX7_breakOne 16 = .ok (.iconst (-1), 1) := by decide +kernel
theorem dX7_breakOne_17 : decode cX7_breakOne 17 = .ok (.invokevirtual 54, 3) := by decide +kernel
theorem dX7_breakOne_20 : decode cX7_breakOne 20 = .ok (.return_, 1) := by decide +kernel
theorem dX7_mendOne_0 : decode cX7_mendOne 0 = .ok (.aload_n 0, 1) := by decide +kernel
theorem dX7_mendOne_1 : decode cX7_mendOne 1 = .ok (.getfield 20, 3) := by decide +kernel
theorem dX7_mendOne_4 : decode cX7_mendOne 4 = .ok (.iload_n 1, 1) := by decide +kernel
theorem dX7_mendOne_5 : decode cX7_mendOne 5 = .ok (.iconst 1, 1) := by decide +kernel
theorem dX7_mendOne_6 : decode cX7_mendOne 6 = .ok (.invokevirtual 54, 3) := by decide +kernel
theorem dX7_mendOne_9 : decode cX7_mendOne 9 = .ok (.return_, 1) := by decide +kernel
theorem dX8_init_0 : decode cX8_init 0 = .ok (.aload_n 0, 1) := by decide +kernel
theorem dX8_init_1 : decode cX8_init 1 = .ok (.invokespecial 3, 3) := by decide +kernel
theorem dX8_init_4 : decode cX8_init 4 = .ok (.aload_n 0, 1) := by decide +kernel
theorem dX8_init_5 : decode cX8_init 5 = .ok (.new 9, 3) := by decide +kernel
theorem dX8_init_8 : decode cX8_init 8 = .ok (.dup, 1) := by decide +kernel
theorem dX8_init_9 : decode cX8_init 9 = .ok (.bipush 6, 2) := by decide +kernel
theorem dX8_init_11 : decode cX8_init 11 = .ok (.invokespecial 11, 3) := by decide +kernel
theorem dX8_init_14 : decode cX8_init 14 = .ok (.putfield 14, 3) := by decide +kernel
theorem dX8_init_17 : decode cX8_init 17 = .ok (.aload_n 0, 1) := by decide +kernel
theorem dX8_init_18 : decode cX8_init 18 = .ok (.new 20, 3) := by decide +kernel
theorem dX8_init_21 : decode cX8_init 21 = .ok (.dup, 1) := by decide +kernel
theorem dX8_init_22 : decode cX8_init 22 = .ok (.invokespecial 22, 3) := by decide +kernel
theorem dX8_init_25 : decode cX8_init 25 = .ok (.putfield 23, 3) := by decide +kernel
theorem dX8_init_28 : decode cX8_init 28 = .ok (.aload_n 0, 1) := by decide +kernel
theorem dX8_init_29 : decode cX8_init 29 = .ok (.new 27, 3) := by decide +kernel
theorem dX8_init_32 : decode cX8_init 32 = .ok (.dup, 1) := by decide +kernel
theorem dX8_init_33 : decode cX8_init 33 = .ok (.bipush 6, 2) := by decide +kernel
theorem dX8_init_35 : decode cX8_init 35 = .ok (.invokespecial 29, 3) := by decide +kernel
theorem dX8_init_38 : decode cX8_init 38 = .ok (.putfield 30, 3) := by decide +kernel
theorem dX8_init_41 : decode cX8_init 41 = .ok (.aload_n 0, 1) := by decide +kernel
theorem dX8_init_42 : decode cX8_init 42 = .ok (.new 27, 3) := by decide +kernel
theorem dX8_init_45 : decode cX8_init 45 = .ok (.dup, 1) := by decide +kernel
theorem dX8_init_46 : decode cX8_init 46 = .ok (.bipush 6, 2) := by decide +kernel
theorem dX8_init_48 : decode cX8_init 48 = .ok (.invokespecial 29, 3) := by decide +kernel
theorem dX8_init_51 : decode cX8_init 51 = .ok (.putfield 34, 3) := by decide +kernel
theorem dX8_init_54 : decode cX8_init 54 = .ok (.aload_n 0, 1) := by decide +kernel
theorem dX8_init_55 : decode cX8_init 55 = .ok (.new 27, 3) := by decide +kernel
theorem dX8_init_58 : decode cX8_init 58 = .ok (.dup, 1) := by decide +kernel
theorem dX8_init_59 : decode cX8_init 59 = .ok (.bipush 6, 2) := by decide +kernel
theorem dX8_init_61 : decode cX8_init 61 = .ok (.invokespecial 29, 3) := by decide +kernel
theorem dX8_init_64 : decode cX8_init 64 = .ok (.putfield 37, 3) := by decide +kernel
theorem dX8_init_67 : decode cX8_init 67 = .ok (.aload_n 0, 1) := by decide +kernel
theorem dX8_init_68 : decode cX8_init 68 = .ok (.new 27, 3) := by decide +kernel
theorem dX8_init_71 : decode cX8_init 71 = .ok (.dup, 1) := by decide +kernel
theorem dX8_init_72 : decode cX8_init 72 = .ok (.bipush 6, 2) := by decide +kernel
theorem dX8_init_74 : decode cX8_init 74 = .ok (.invokespecial 29, 3) := by decide +kernel
theorem dX8_init_77 : decode cX8_init 77 = .ok (.putfield 40, 3) := by decide +kernel
theorem dX8_init_80 : decode cX8_init 80 = .ok (.aload_n 0, 1) := by decide +kernel
theorem dX8_init_81 : decode cX8_init 81 = .ok (.iconst 0, 1) := by decide +kernel
theorem dX8_init_82 : decode cX8_init 82 = .ok (.putfield 43, 3) := by decide +kernel
theorem dX8_init_85 : decode cX8_init 85 = .ok (.return_, 1) := by decide +kernel
theorem dX8_load_0 : decode cX8_load 0 = .ok (.aload_n 0, 1) := by decide +kernel
theorem dX8_load_1 : decode cX8_load 1 = .ok (.getfield 14, 3) := by decide +kernel
theorem dX8_load_4 : decode cX8_load 4 = .ok (.aload_n 1, 1) := by decide +kernel
theorem dX8_load_5 : decode cX8_load 5 = .ok (.invokevirtual 47, 3) := by decide +kernel
theorem dX8_load_8 : decode cX8_load 8 = .ok (.aload_n 0, 1) := by decide +kernel
theorem dX8_load_9 : decode cX8_load 9 = .ok (.getfield 23, 3) := by decide +kernel
theorem dX8_load_12 : decode cX8_load 12 = .ok (.aload_n 1, 1) := by decide +kernel
theorem dX8_load_13 : decode cX8_load 13 = .ok (.invokevirtual 51, 3) := by decide +kernel
theorem dX8_load_16 : decode cX8_load 16 = .ok (.aload_n 0, 1) := by decide +kernel
theorem dX8_load_17 : decode cX8_load 17 = .ok (.aload_n 2, 1) := by decide +kernel
theorem dX8_load_18 : decode cX8_load 18 = .ok (.invokevirtual 54, 3) := by decide +kernel
theorem dX8_load_21 : decode cX8_load 21 = .ok (.bipush 6, 2) := by decide +kernel
theorem dX8_load_23 : decode cX8_load 23 = .ok (.invokestatic 59, 3) := by decide +kernel
theorem dX8_load_26 : decode cX8_load 26 = .ok (.putfield 43, 3) := by decide +kernel
theorem dX8_load_29 : decode cX8_load 29 = .ok (.iconst 0, 1) := by decide +kernel
theorem dX8_load_30 : decode cX8_load 30 = .ok (.istore_n 3, 1) := by decide +kernel
theorem dX8_load_31 : decode cX8_load 31 = .ok (.iload_n 3, 1) := by decide +kernel
theorem dX8_load_32 : decode cX8_load 32 = .ok (.aload_n 0, 1) := by decide +kernel
theorem dX8_load_33 : decode cX8_load 33 = .ok (.getfield 43, 3) := by decide +kernel
theorem dX8_load_36 : decode cX8_load 36 = .ok (.if_icmp .ge 22, 3) := by decide +kernel
theorem dX8_load_39 : decode cX8_load 39 = .ok (.aload_n 0, 1) := by decide +kernel
theorem dX8_load_40 : decode cX8_load 40 = .ok (.getfield 30, 3) := by decide +kernel
theorem dX8_load_43 : decode cX8_load 43 = .ok (.iload_n 3, 1) := by decide +kernel
theorem dX8_load_44 : decode cX8_load 44 = .ok (.aload_n 2, 1) := by decide +kernel
theorem dX8_load_45 : decode cX8_load 45 = .ok (.iload_n 3, 1) := by decide +kernel
theorem dX8_load_46 : decode cX8_load 46 = .ok (.invokevirtual 65, 3) := by decide +kernel
theorem dX8_load_49 : decode cX8_load 49 = .ok (.invokevirtual 69, 3) := by decide +kernel
theorem dX8_load_52 : decode cX8_load 52 = .ok (.iinc 3 1, 3) := by decide +kernel
theorem dX8_load_55 : decode cX8_load 55 = .ok (.goto (-24), 3) := by decide +kernel
theorem dX8_load_58 : decode cX8_load 58 = .ok (.return_, 1) := by decide +kernel
theorem dX8_verdict_0 : decode cX8_verdict 0 = .ok (.iconst 0, 1) := by decide +kernel
theorem dX8_verdict_1 : decode cX8_verdict 1 = .ok (.istore_n 2, 1) := by decide +kernel
theorem dX8_verdict_2 : decode cX8_verdict 2 = .ok (.iload_n 2, 1) := by decide +kernel
theorem dX8_verdict_3 : decode cX8_verdict 3 = .ok (.aload_n 0, 1) := by decide +kernel
theorem dX8_verdict_4 : decode cX8_verdict 4 = .ok (.getfield 43, 3) := by decide +kernel
theorem dX8_verdict_7 : decode cX8_verdict 7 = .ok (.if_icmp .ge 91, 3) := by decide +kernel
theorem dX8_verdict_10 : decode cX8_verdict 10 = .ok (.aload_n 0, 1) := by decide +kernel
theorem dX8_verdict_11 : decode cX8_verdict 11 = .ok (.getfield 30, 3) := by decide +kernel
theorem dX8_verdict_14 : decode cX8_verdict 14 = .ok (.iload_n 2, 1) := by decide +kernel
theorem dX8_verdict_15 : decode cX8_verdict 15 = .ok (.invokevirtual 73, 3) := by decide +kernel
theorem dX8_verdict_18 : decode cX8_verdict 18 = .ok (.istore_n 3, 1) := by decide +kernel
theorem dX8_verdict_19 : decode cX8_verdict 19 = .ok (.iconst 0, 1) := by decide +kernel
theorem dX8_verdict_20 : decode cX8_verdict 20 = .ok (.istore 4, 2) := by decide +kernel
theorem dX8_verdict_22 : decode cX8_verdict 22 = .ok (.iload 4, 2) := by decide +kernel
theorem dX8_verdict_24 : decode cX8_verdict 24 = .ok (.bipush 6, 2) := by decide +kernel
theorem dX8_verdict_26 : decode cX8_verdict 26 = .ok (.if_icmp .ge 51, 3) := by decide +kernel
theorem dX8_verdict_29 : decode cX8_verdict 29 = .ok (.aload_n 0, 1) := by decide +kernel
theorem dX8_verdict_30 : decode cX8_verdict 30 = .ok (.getfield 23, 3) := by decide +kernel
theorem dX8_verdict_33 : decode cX8_verdict 33 = .ok (.aload_n 0, 1) := by decide +kernel
theorem dX8_verdict_34 : decode cX8_verdict 34 = .ok (.getfield 14, 3) := by decide +kernel
theorem dX8_verdict_37 : decode cX8_verdict 37 = .ok (.iload_n 3, 1) := by decide +kernel
theorem dX8_verdict_38 : decode cX8_verdict 38 = .ok (.iload 4, 2) := by decide +kernel
theorem dX8_verdict_40 : decode cX8_verdict 40 = .ok (.invokevirtual 76, 3) := by decide +kernel
theorem dX8_verdict_43 : decode cX8_verdict 43 = .ok (.istore 5, 2) := by decide +kernel
theorem dX8_verdict_45 : decode cX8_verdict 45 = .ok (.iload 5, 2) := by decide +kernel
theorem dX8_verdict_47 : decode cX8_verdict 47 = .ok (.ifCond .le 24, 3) := by decide +kernel
theorem dX8_verdict_50 : decode cX8_verdict 50 = .ok (.iload_n 1, 1) := by decide +kernel
theorem dX8_verdict_51 : decode cX8_verdict 51 = .ok (.ifCond .ne 7, 3) := by decide +kernel
theorem dX8_verdict_54 : decode cX8_verdict 54 = .ok (.iload_n 2, 1) := by decide +kernel
theorem dX8_verdict_55 : decode cX8_verdict 55 = .ok (.goto 15, 3) := by decide +kernel
theorem dX8_verdict_58 : decode cX8_verdict 58 = .ok (.iload_n 1, 1) := by decide +kernel
theorem dX8_verdict_59 : decode cX8_verdict 59 = .ok (.iconst 1, 1) := by decide +kernel
theorem dX8_verdict_60 : decode cX8_verdict 60 = .ok (.if_icmp .ne 8, 3) := by decide +kernel
theorem dX8_verdict_63 : decode cX8_verdict 63 = .ok (.iload 4, 2) := by decide +kernel
theorem dX8_verdict_65 : decode cX8_verdict 65 = .ok (.goto 5, 3) := by decide +kernel
theorem dX8_verdict_68 : decode cX8_verdict 68 = .ok (.iload 5, 2) := by decide +kernel
theorem dX8_verdict_70 : decode cX8_verdict 70 = .ok (.ireturn, 1) := by decide +kernel
theorem dX8_verdict_71 : decode cX8_verdict 71 = .ok (.iinc 4 1, 3) := by decide +kernel
theorem dX8_verdict_74 : decode cX8_verdict 74 = .ok (.goto (-52), 3) := by decide +kernel
theorem dX8_verdict_77 : decode cX8_verdict 77 = .ok (.aload_n 0, 1) := by decide +kernel
theorem dX8_verdict_78 : decode cX8_verdict 78 = .ok (.getfield 23, 3) := by decide +kernel
theorem dX8_verdict_81 : decode cX8_verdict 81 = .ok (.aload_n 0, 1) := by decide +kernel
theorem dX8_verdict_82 : decode cX8_verdict 82 = .ok (.getfield 14, 3) := by decide +kernel
theorem dX8_verdict_85 : decode cX8_verdict 85 = .ok (.iload_n 3, 1) := by decide +kernel
theorem dX8_verdict_86 : decode cX8_verdict 86 = .ok (.invokevirtual 80, 3) := by decide +kernel
theorem dX8_verdict_89 : decode cX8_verdict 89 = .ok (.invokevirtual 83, 3) := by decide +kernel
theorem dX8_verdict_92 : decode cX8_verdict 92 = .ok (.iinc 2 1, 3) := by decide +kernel
theorem dX8_verdict_95 : decode cX8_verdict 95 = .ok (.goto (-93), 3) := by decide +kernel
theorem dX8_verdict_98 : decode cX8_verdict 98 = .ok (.bipush (-6), 2) := by decide +kernel
theorem dX8_verdict_100 : decode cX8_verdict 100 = .ok (.ireturn, 1) := by decide +kernel
theorem dX8_costOfAll_0 : decode cX8_costOfAll 0 = .ok (.iconst 0, 1) := by decide +kernel
theorem dX8_costOfAll_1 : decode cX8_costOfAll 1 = .ok (.istore_n 2, 1) := by decide +kernel
theorem dX8_costOfAll_2 : decode cX8_costOfAll 2 = .ok (.iconst 0, 1) := by decide +kernel
theorem dX8_costOfAll_3 : decode cX8_costOfAll 3 = .ok (.istore_n 3, 1) := by decide +kernel
theorem dX8_costOfAll_4 : decode cX8_costOfAll 4 = .ok (.iload_n 3, 1) := by decide +kernel
theorem dX8_costOfAll_5 : decode cX8_costOfAll 5 = .ok (.bipush 6, 2) := by decide +kernel
theorem dX8_costOfAll_7 : decode cX8_costOfAll 7 = .ok (.if_icmp .ge 18, 3) := by decide +kernel
theorem dX8_costOfAll_10 : decode cX8_costOfAll 10 = .ok (.iload_n 2, 1) := by decide +kernel
theorem dX8_costOfAll_11 : decode cX8_costOfAll 11 = .ok (.aload_n 0, 1) := by decide +kernel
theorem dX8_costOfAll_12 : decode cX8_costOfAll 12 = .ok (.aload_n 1, 1) := by decide +kernel
theorem dX8_costOfAll_13 : decode cX8_costOfAll 13 = .ok (.iload_n 3, 1) := by decide +kernel
theorem dX8_costOfAll_14 : decode cX8_costOfAll 14 = .ok (.invokevirtual 86, 3) := by decide +kernel
theorem dX8_costOfAll_17 : decode cX8_costOfAll 17 = .ok (.iadd, 1) := by decide +kernel
theorem dX8_costOfAll_18 : decode cX8_costOfAll 18 = .ok (.istore_n 2, 1) := by decide +kernel
theorem dX8_costOfAll_19 : decode cX8_costOfAll 19 = .ok (.iinc 3 1, 3) := by decide +kernel
theorem dX8_costOfAll_22 : decode cX8_costOfAll 22 = .ok (.goto (-18), 3) := by decide +kernel
theorem dX8_costOfAll_25 : decode cX8_costOfAll 25 = .ok (.iload_n 2, 1) := by decide +kernel
theorem dX8_costOfAll_26 : decode cX8_costOfAll 26 = .ok (.ireturn, 1) := by decide +kernel
theorem dX8_costOf_0 : decode cX8_costOf 0 = .ok (.aload_n 0, 1) := by decide +kernel
theorem dX8_costOf_1 : decode cX8_costOf 1 = .ok (.getfield 23, 3) := by decide +kernel
theorem dX8_costOf_4 : decode cX8_costOf 4 = .ok (.invokevirtual 90, 3) := by decide +kernel
theorem dX8_costOf_7 : decode cX8_costOf 7 = .ok (.iconst 0, 1) := by decide +kernel
theorem dX8_costOf_8 : decode cX8_costOf 8 = .ok (.istore_n 3, 1) := by decide +kernel
theorem dX8_costOf_9 : decode cX8_costOf 9 = .ok (.iconst 0, 1) := by decide +kernel
theorem dX8_costOf_10 : decode cX8_costOf 10 = .ok (.istore 4, 2) := by decide +kernel
theorem dX8_costOf_12 : decode cX8_costOf 12 = .ok (.iload 4, 2) := by decide +kernel
theorem dX8_costOf_14 : decode cX8_costOf 14 = .ok (.aload_n 0, 1) := by decide +kernel
theorem dX8_costOf_15 : decode cX8_costOf 15 = .ok (.getfield 43, 3) := by decide +kernel
theorem dX8_costOf_18 : decode cX8_costOf 18 = .ok (.if_icmp .ge 70, 3) := by decide +kernel
theorem dX8_costOf_21 : decode cX8_costOf 21 = .ok (.aload_n 0, 1) := by decide +kernel
theorem dX8_costOf_22 : decode cX8_costOf 22 = .ok (.getfield 30, 3) := by decide +kernel
theorem dX8_costOf_25 : decode cX8_costOf 25 = .ok (.iload 4, 2) := by decide +kernel
theorem dX8_costOf_27 : decode cX8_costOf 27 = .ok (.invokevirtual 73, 3) := by decide +kernel
theorem dX8_costOf_30 : decode cX8_costOf 30 = .ok (.istore 5, 2) := by decide +kernel
theorem dX8_costOf_32 : decode cX8_costOf 32 = .ok (.aload_n 0, 1) := by decide +kernel
theorem dX8_costOf_33 : decode cX8_costOf 33 = .ok (.getfield 23, 3) := by decide +kernel
theorem dX8_costOf_36 : decode cX8_costOf 36 = .ok (.aload_n 0, 1) := by decide +kernel
theorem dX8_costOf_37 : decode cX8_costOf 37 = .ok (.getfield 14, 3) := by decide +kernel
theorem dX8_costOf_40 : decode cX8_costOf 40 = .ok (.iload 5, 2) := by decide +kernel
theorem dX8_costOf_42 : decode cX8_costOf 42 = .ok (.iload_n 2, 1) := by decide +kernel
theorem dX8_costOf_43 : decode cX8_costOf 43 = .ok (.invokevirtual 76, 3) := by decide +kernel
theorem dX8_costOf_46 : decode cX8_costOf 46 = .ok (.istore 6, 2) := by decide +kernel
theorem dX8_costOf_48 : decode cX8_costOf 48 = .ok (.aload_n 0, 1) := by decide +kernel
theorem dX8_costOf_49 : decode cX8_costOf 49 = .ok (.getfield 34, 3) := by decide +kernel
theorem dX8_costOf_52 : decode cX8_costOf 52 = .ok (.iload 4, 2) := by decide +kernel
theorem dX8_costOf_54 : decode cX8_costOf 54 = .ok (.iload 6, 2) := by decide +kernel
theorem dX8_costOf_56 : decode cX8_costOf 56 = .ok (.invokevirtual 69, 3) := by decide +kernel
theorem dX8_costOf_59 : decode cX8_costOf 59 = .ok (.iload_n 3, 1) := by decide +kernel
theorem dX8_costOf_60 : decode cX8_costOf 60 = .ok (.iload 6, 2) := by decide +kernel
theorem dX8_costOf_62 : decode cX8_costOf 62 = .ok (.invokestatic 93, 3) := by decide +kernel
theorem dX8_costOf_65 : decode cX8_costOf 65 = .ok (.istore_n 3, 1) := by decide +kernel
theorem dX8_costOf_66 : decode cX8_costOf 66 = .ok (.aload_n 0, 1) := by decide +kernel
theorem dX8_costOf_67 : decode cX8_costOf 67 = .ok (.getfield 23, 3) := by decide +kernel
theorem dX8_costOf_70 : decode cX8_costOf 70 = .ok (.aload_n 0, 1) := by decide +kernel
theorem dX8_costOf_71 : decode cX8_costOf 71 = .ok (.getfield 14, 3) := by decide +kernel
theorem dX8_costOf_74 : decode cX8_costOf 74 = .ok (.iload 5, 2) := by decide +kernel
theorem dX8_costOf_76 : decode cX8_costOf 76 = .ok (.invokevirtual 80, 3) := by decide +kernel
theorem dX8_costOf_79 : decode cX8_costOf 79 = .ok (.invokevirtual 83, 3) := by decide +kernel
theorem dX8_costOf_82 : decode cX8_costOf 82 = .ok (.iinc 4 1, 3) := by decide +kernel
theorem dX8_costOf_85 : decode cX8_costOf 85 = .ok (.goto (-73), 3) := by decide +kernel
theorem dX8_costOf_88 : decode cX8_costOf 88 = .ok (.iconst 0, 1) := by decide +kernel
theorem dX8_costOf_89 : decode cX8_costOf 89 = .ok (.istore 4, 2) := by decide +kernel
theorem dX8_costOf_91 : decode cX8_costOf 91 = .ok (.iconst 1, 1) := by decide +kernel
theorem dX8_costOf_92 : decode cX8_costOf 92 = .ok (.istore 5, 2) := by decide +kernel
theorem dX8_costOf_94 : decode cX8_costOf 94 = .ok (.iload 5, 2) := by decide +kernel
theorem dX8_costOf_96 : decode cX8_costOf 96 = .ok (.iload_n 3, 1) := by decide +kernel
theorem dX8_costOf_97 : decode cX8_costOf 97 = .ok (.if_icmp .gt 39, 3) := by decide +kernel
theorem dX8_costOf_100 : decode cX8_costOf 100 = .ok (.iload 4, 2) := by decide +kernel
theorem dX8_costOf_102 : decode cX8_costOf 102 = .ok (.aload_n 0, 1) := by decide +kernel
theorem dX8_costOf_103 : decode cX8_costOf 103 = .ok (.iload 5, 2) := by decide +kernel
theorem dX8_costOf_105 : decode cX8_costOf 105 = .ok (.aload_n 1, 1) := by decide +kernel
theorem dX8_costOf_106 : decode cX8_costOf 106 = .ok (.getfield 96, 3) := by decide +kernel
theorem dX8_costOf_109 : decode cX8_costOf 109 = .ok (.iconst 1, 1) := by decide +kernel
theorem dX8_costOf_110 : decode cX8_costOf 110 = .ok (.invokevirtual 73, 3) := by decide +kernel
theorem dX8_costOf_113 : decode cX8_costOf 113 = .ok (.aload_n 1, 1) := by decide +kernel
theorem dX8_costOf_114 : decode cX8_costOf 114 = .ok (.getfield 96, 3) := by decide +kernel
theorem dX8_costOf_117 : decode cX8_costOf 117 = .ok (.bipush 10, 2) := by decide +kernel
theorem dX8_costOf_119 : decode cX8_costOf 119 = .ok (.iload_n 2, 1) := by decide +kernel
theorem dX8_costOf_120 : decode cX8_costOf 120 = .ok (.iadd, 1) := by decide +kernel
theorem dX8_costOf_121 : decode cX8_costOf 121 = .ok (.invokevirtual 73, 3) := by decide +kernel
theorem dX8_costOf_124 : decode cX8_costOf 124 = .ok (.invokevirtual 101, 3) := by decide +kernel
theorem dX8_costOf_127 : decode cX8_costOf 127 = .ok (.iadd, 1) := by decide +kernel
theorem dX8_costOf_128 : decode cX8_costOf 128 = .ok (.istore 4, 2) := by decide +kernel
theorem dX8_costOf_130 : decode cX8_costOf 130 = .ok (.iinc 5 1, 3) := by decide +kernel
theorem dX8_costOf_133 : decode cX8_costOf 133 = .ok (.goto (-39), 3) := by decide +kernel
theorem dX8_costOf_136 : decode cX8_costOf 136 = .ok (.iload 4, 2) := by decide +kernel
theorem dX8_costOf_138 : decode cX8_costOf 138 = .ok (.ireturn, 1) := by decide +kernel
theorem dX8_costOfLevel_0 : decode cX8_costOfLevel 0 = .ok (.iconst 0, 1) := by decide +kernel
theorem dX8_costOfLevel_1 : decode cX8_costOfLevel 1 = .ok (.istore 4, 2) := by decide +kernel
theorem dX8_costOfLevel_3 : decode cX8_costOfLevel 3 = .ok (.bipush (-6), 2) := by decide +kernel
theorem dX8_costOfLevel_5 : decode cX8_costOfLevel 5 = .ok (.istore 5, 2) := by decide +kernel
theorem dX8_costOfLevel_7 : decode cX8_costOfLevel 7 = .ok (.iconst 0, 1) := by decide +kernel
theorem dX8_costOfLevel_8 : decode cX8_costOfLevel 8 = .ok (.istore 6, 2) := by decide +kernel
theorem dX8_costOfLevel_10 : decode cX8_costOfLevel 10 = .ok (.iload 6, 2) := by decide +kernel
theorem dX8_costOfLevel_12 : decode cX8_costOfLevel 12 = .ok (.aload_n 0, 1) := by decide +kernel
theorem dX8_costOfLevel_13 : decode cX8_costOfLevel 13 = .ok (.getfield 43, 3) := by decide +kernel
theorem dX8_costOfLevel_16 : decode cX8_costOfLevel 16 = .ok (.if_icmp .ge 61, 3) := by decide +kernel
theorem dX8_costOfLevel_19 : decode cX8_costOfLevel 19 = .ok (.aload_n 0, 1) := by decide +kernel
theorem dX8_costOfLevel_20 : decode cX8_costOfLevel 20 = .ok (.getfield 34, 3) := by decide +kernel
theorem dX8_costOfLevel_23 : decode cX8_costOfLevel 23 = .ok (.iload 6, 2) := by decide +kernel
theorem dX8_costOfLevel_25 : decode cX8_costOfLevel 25 = .ok (.invokevirtual 73, 3) := by decide +kernel
theorem dX8_costOfLevel_28 : decode cX8_costOfLevel 28 = .ok (.iload_n 1, 1) := by decide +kernel
theorem dX8_costOfLevel_29 : decode cX8_costOfLevel 29 = .ok (.if_icmp .lt 42, 3) := by decide +kernel
theorem dX8_costOfLevel_32 : decode cX8_costOfLevel 32 = .ok (.iload 5, 2) := by decide +kernel
theorem dX8_costOfLevel_34 : decode cX8_costOfLevel 34 = .ok (.bipush (-6), 2) := by decide +kernel
theorem dX8_costOfLevel_36 : decode cX8_costOfLevel 36 = .ok (.if_icmp .ne 7, 3) := by decide +kernel
theorem dX8_costOfLevel_39 : decode cX8_costOfLevel 39 = .ok (.iload_n 2, 1) := by decide +kernel
theorem dX8_costOfLevel_40 : decode cX8_costOfLevel 40 = .ok (.goto 12, 3) := by decide +kernel
theorem dX8_costOfLevel_43 : decode cX8_costOfLevel 43 = .ok (.iload 6, 2) := by decide +kernel
theorem dX8_costOfLevel_45 : decode cX8_costOfLevel 45 = .ok (.iload 5, 2) := by decide +kernel
theorem dX8_costOfLevel_47 : decode cX8_costOfLevel 47 = .ok (.isub, 1) := by decide +kernel
theorem dX8_costOfLevel_48 : decode cX8_costOfLevel 48 = .ok (.iconst 1, 1) := by decide +kernel
theorem dX8_costOfLevel_49 : decode cX8_costOfLevel 49 = .ok (.isub, 1) := by decide +kernel
theorem dX8_costOfLevel_50 : decode cX8_costOfLevel 50 = .ok (.iload_n 3, 1) := by decide +kernel
theorem dX8_costOfLevel_51 : decode cX8_costOfLevel 51 = .ok (.imul, 1) := by decide +kernel
theorem dX8_costOfLevel_52 : decode cX8_costOfLevel 52 = .ok (.istore 7, 2) := by decide +kernel
theorem dX8_costOfLevel_54 : decode cX8_costOfLevel 54 = .ok (.iload 4, 2) := by decide +kernel
theorem dX8_costOfLevel_56 : decode cX8_costOfLevel 56 = .ok (.iload_n 3, 1) := by decide +kernel
theorem dX8_costOfLevel_57 : decode cX8_costOfLevel 57 = .ok (.iload_n 2, 1) := by decide +kernel
theorem dX8_costOfLevel_58 : decode cX8_costOfLevel 58 = .ok (.iload 7, 2) := by decide +kernel
theorem dX8_costOfLevel_60 : decode cX8_costOfLevel 60 = .ok (.invokestatic 59, 3) := by decide +kernel
theorem dX8_costOfLevel_63 : decode cX8_costOfLevel 63 = .ok (.iadd, 1) := by decide +kernel
theorem dX8_costOfLevel_64 : decode cX8_costOfLevel 64 = .ok (.iadd, 1) := by decide +kernel
theorem dX8_costOfLevel_65 : decode cX8_costOfLevel 65 = .ok (.istore 4, 2) := by decide +kernel
theorem dX8_costOfLevel_67 : decode cX8_costOfLevel 67 = .ok (.iload 6, 2) := by decide +kernel
theorem dX8_costOfLevel_69 : decode cX8_costOfLevel 69 = .ok (.istore 5, 2) := by decide +kernel
theorem dX8_costOfLevel_71 : decode cX8_costOfLevel 71 = .ok (.iinc 6 1, 3) := by decide +kernel
theorem dX8_costOfLevel_74 : decode cX8_costOfLevel 74 = .ok (.goto (-64), 3) := by decide +kernel
theorem dX8_costOfLevel_77 : decode cX8_costOfLevel 77 = .ok (.iload 4, 2) := by decide +kernel
theorem dX8_costOfLevel_79 : decode cX8_costOfLevel 79 = .ok (.ireturn, 1) := by decide +kernel
theorem dX8_meltingPlace_0 : decode cX8_meltingPlace 0 = .ok (.iconst 0, 1) := by decide +kernel
theorem dX8_meltingPlace_1 : decode cX8_meltingPlace 1 = .ok (.istore_n 1, 1) := by decide +kernel
theorem dX8_meltingPlace_2 : decode cX8_meltingPlace 2 = .ok (.iload_n 1, 1) := by decide +kernel
theorem dX8_meltingPlace_3 : decode cX8_meltingPlace 3 = .ok (.aload_n 0, 1) := by decide +kernel
theorem dX8_meltingPlace_4 : decode cX8_meltingPlace 4 = .ok (.getfield 43, 3) := by decide +kernel
theorem dX8_meltingPlace_7 : decode cX8_meltingPlace 7 = .ok (.if_icmp .gt 75, 3) := by decide +kernel
theorem dX8_meltingPlace_10 : decode cX8_meltingPlace 10 = .ok (.aload_n 0, 1) := by decide +kernel
theorem dX8_meltingPlace_11 : decode cX8_meltingPlace 11 = .ok (.iload_n 1, 1) := by decide +kernel
theorem dX8_meltingPlace_12 : decode cX8_meltingPlace 12 = .ok (.invokevirtual 105, 3) := by decide +kernel
theorem dX8_meltingPlace_15 : decode cX8_meltingPlace 15 = .ok (.aload_n 0, 1) := by decide +kernel
theorem dX8_meltingPlace_16 : decode cX8_meltingPlace 16 = .ok (.getfield 37, 3) := by decide +kernel
theorem dX8_meltingPlace_19 : decode cX8_meltingPlace 19 = .ok (.invokevirtual 108, 3) := by decide +kernel
theorem dX8_meltingPlace_22 : decode cX8_meltingPlace 22 = .ok (.aload_n 0, 1) := by decide +kernel
theorem dX8_meltingPlace_23 : decode cX8_meltingPlace 23 = .ok (.getfield 23, 3) := by decide +kernel
theorem dX8_meltingPlace_26 : decode cX8_meltingPlace 26 = .ok (.invokevirtual 111, 3) := by decide +kernel
theorem dX8_meltingPlace_29 : decode cX8_meltingPlace 29 = .ok (.if_icmp .gt 5, 3) := by decide +kernel
theorem dX8_meltingPlace_32 : decode cX8_meltingPlace 32 = .ok (.iload_n 1, 1) := by decide +kernel
theorem dX8_meltingPlace_33 : decode cX8_meltingPlace 33 = .ok (.ireturn, 1) := by decide +kernel
theorem dX8_meltingPlace_34 : decode cX8_meltingPlace 34 = .ok (.aload_n 0, 1) := by decide +kernel
theorem dX8_meltingPlace_35 : decode cX8_meltingPlace 35 = .ok (.getfield 30, 3) := by decide +kernel
theorem dX8_meltingPlace_38 : decode cX8_meltingPlace 38 = .ok (.iload_n 1, 1) := by decide +kernel
theorem dX8_meltingPlace_39 : decode cX8_meltingPlace 39 = .ok (.invokevirtual 73, 3) := by decide +kernel
theorem dX8_meltingPlace_42 : decode cX8_meltingPlace 42 = .ok (.istore_n 2, 1) := by decide +kernel
theorem dX8_meltingPlace_43 : decode cX8_meltingPlace 43 = .ok (.aload_n 0, 1) := by decide +kernel
theorem dX8_meltingPlace_44 : decode cX8_meltingPlace 44 = .ok (.getfield 23, 3) := by decide +kernel
theorem dX8_meltingPlace_47 : decode cX8_meltingPlace 47 = .ok (.aload_n 0, 1) := by decide +kernel
theorem dX8_meltingPlace_48 : decode cX8_meltingPlace 48 = .ok (.getfield 14, 3) := by decide +kernel
theorem dX8_meltingPlace_51 : decode cX8_meltingPlace 51 = .ok (.iload_n 2, 1) := by decide +kernel
theorem dX8_meltingPlace_52 : decode cX8_meltingPlace 52 = .ok (.invokevirtual 114, 3) := by decide +kernel
theorem dX8_meltingPlace_55 : decode cX8_meltingPlace 55 = .ok (.ifCond .le 6, 3) := by decide +kernel
theorem dX8_meltingPlace_58 : decode cX8_meltingPlace 58 = .ok (.bipush (-6), 2) := by decide +kernel
theorem dX8_meltingPlace_60 : decode cX8_meltingPlace 60 = .ok (.ireturn, 1) := by decide +kernel
theorem dX8_meltingPlace_61 : decode cX8_meltingPlace 61 = .ok (.aload_n 0, 1) := by decide +kernel
theorem dX8_meltingPlace_62 : decode cX8_meltingPlace 62 = .ok (.getfield 23, 3) := by decide +kernel
theorem dX8_meltingPlace_65 : decode cX8_meltingPlace 65 = .ok (.aload_n 0, 1) := by decide +kernel
theorem dX8_meltingPlace_66 : decode cX8_meltingPlace 66 = .ok (.getfield 14, 3) := by decide +kernel
theorem dX8_meltingPlace_69 : decode cX8_meltingPlace 69 = .ok (.iload_n 2, 1) := by decide +kernel
theorem dX8_meltingPlace_70 : decode cX8_meltingPlace 70 = .ok (.invokevirtual 80, 3) := by decide +kernel
theorem dX8_meltingPlace_73 : decode cX8_meltingPlace 73 = .ok (.invokevirtual 83, 3) := by decide +kernel
theorem dX8_meltingPlace_76 : decode cX8_meltingPlace 76 = .ok (.iinc 1 1, 3) := by decide +kernel
theorem dX8_meltingPlace_79 : decode cX8_meltingPlace 79 = .ok (.goto (-77), 3) := by decide +kernel
theorem dX8_meltingPlace_82 : decode cX8_meltingPlace 82 = .ok (.bipush (-6), 2) := by decide +kernel
theorem dX8_meltingPlace_84 : decode cX8_meltingPlace 84 = .ok (.ireturn, 1) := by decide +kernel
theorem dX8_newOf_0 : decode cX8_newOf 0 = .ok (.iload_n 1, 1) := by decide +kernel
theorem dX8_newOf_1 : decode cX8_newOf 1 = .ok (.ifCond .ne 30, 3) := by decide +kernel
theorem dX8_newOf_4 : decode cX8_newOf 4 = .ok (.aload_n 0, 1) := by decide +kernel
theorem dX8_newOf_5 : decode cX8_newOf 5 = .ok (.getfield 23, 3) := by decide +kernel
theorem dX8_newOf_8 : decode cX8_newOf 8 = .ok (.invokevirtual 111, 3) := by decide +kernel
theorem dX8_newOf_11 : decode cX8_newOf 11 = .ok (.aload_n 0, 1) := by decide +kernel
theorem dX8_newOf_12 : decode cX8_newOf 12 = .ok (.getfield 37, 3) := by decide +kernel
theorem dX8_newOf_15 : decode cX8_newOf 15 = .ok (.invokevirtual 108, 3) := by decide +kernel
theorem dX8_newOf_18 : decode cX8_newOf 18 = .ok (.isub, 1) := by decide +kernel
theorem dX8_newOf_19 : decode cX8_newOf 19 = .ok (.aload_n 0, 1) := by decide +kernel
theorem dX8_newOf_20 : decode cX8_newOf 20 = .ok (.getfield 37, 3) := by decide +kernel
theorem dX8_newOf_23 : decode cX8_newOf 23 = .ok (.iconst 0, 1) := by decide +kernel
theorem dX8_newOf_24 : decode cX8_newOf 24 = .ok (.invokevirtual 73, 3) := by decide +kernel
theorem dX8_newOf_27 : decode cX8_newOf 27 = .ok (.iadd, 1) := by decide +kernel
theorem dX8_newOf_28 : decode cX8_newOf 28 = .ok (.goto 11, 3) := by decide +kernel
theorem dX8_newOf_31 : decode cX8_newOf 31 = .ok (.aload_n 0, 1) := by decide +kernel
theorem dX8_newOf_32 : decode cX8_newOf 32 = .ok (.getfield 37, 3) := by decide +kernel
theorem dX8_newOf_35 : decode cX8_newOf 35 = .ok (.iload_n 1, 1) := by decide +kernel
theorem dX8_newOf_36 : decode cX8_newOf 36 = .ok (.invokevirtual 73, 3) := by decide +kernel
theorem dX8_newOf_39 : decode cX8_newOf 39 = .ok (.ireturn, 1) := by decide +kernel
theorem dX8_wantFrom_0 : decode cX8_wantFrom 0 = .ok (.aload_n 0, 1) := by decide +kernel
theorem dX8_wantFrom_1 : decode cX8_wantFrom 1 = .ok (.getfield 37, 3) := by decide +kernel
theorem dX8_wantFrom_4 : decode cX8_wantFrom 4 = .ok (.iconst 0, 1) := by decide +kernel
theorem dX8_wantFrom_5 : decode cX8_wantFrom 5 = .ok (.invokevirtual 118, 3) := by decide +kernel
theorem dX8_wantFrom_8 : decode cX8_wantFrom 8 = .ok (.aload_n 0, 1) := by decide +kernel
theorem dX8_wantFrom_9 : decode cX8_wantFrom 9 = .ok (.getfield 40, 3) := by decide +kernel
theorem dX8_wantFrom_12 : decode cX8_wantFrom 12 = .ok (.iconst 0, 1) := by decide +kernel
theorem dX8_wantFrom_13 : decode cX8_wantFrom 13 = .ok (.invokevirtual 118, 3) := by decide +kernel
theorem dX8_wantFrom_16 : decode cX8_wantFrom 16 = .ok (.iload_n 1, 1) := by decide +kernel
theorem dX8_wantFrom_17 : decode cX8_wantFrom 17 = .ok (.istore_n 2, 1) := by decide +kernel
theorem dX8_wantFrom_18 : decode cX8_wantFrom 18 = .ok (.iload_n 2, 1) := by decide +kernel
theorem dX8_wantFrom_19 : decode cX8_wantFrom 19 = .ok (.aload_n 0, 1) := by decide +kernel
theorem dX8_wantFrom_20 : decode cX8_wantFrom 20 = .ok (.getfield 43, 3) := by decide +kernel
theorem dX8_wantFrom_23 : decode cX8_wantFrom 23 = .ok (.if_icmp .ge 95, 3) := by decide +kernel
theorem dX8_wantFrom_26 : decode cX8_wantFrom 26 = .ok (.aload_n 0, 1) := by decide +kernel
theorem dX8_wantFrom_27 : decode cX8_wantFrom 27 = .ok (.getfield 30, 3) := by decide +kernel
theorem dX8_wantFrom_30 : decode cX8_wantFrom 30 = .ok (.iload_n 2, 1) := by decide +kernel
theorem dX8_wantFrom_31 : decode cX8_wantFrom 31 = .ok (.invokevirtual 73, 3) := by decide +kernel
theorem dX8_wantFrom_34 : decode cX8_wantFrom 34 = .ok (.istore_n 3, 1) := by decide +kernel
theorem dX8_wantFrom_35 : decode cX8_wantFrom 35 = .ok (.iconst 0, 1) := by decide +kernel
theorem dX8_wantFrom_36 : decode cX8_wantFrom 36 = .ok (.istore 4, 2) := by decide +kernel
theorem dX8_wantFrom_38 : decode cX8_wantFrom 38 = .ok (.iload 4, 2) := by decide +kernel
theorem dX8_wantFrom_40 : decode cX8_wantFrom 40 = .ok (.bipush 6, 2) := by decide +kernel
theorem dX8_wantFrom_42 : decode cX8_wantFrom 42 = .ok (.if_icmp .ge 54, 3) := by decide +kernel
theorem dX8_wantFrom_45 : decode cX8_wantFrom 45 = .ok (.aload_n 0, 1) := by decide +kernel
theorem dX8_wantFrom_46 : decode cX8_wantFrom 46 = .ok (.getfield 14, 3) := by decide +kernel
theorem dX8_wantFrom_49 : decode cX8_wantFrom 49 = .ok (.iload_n 3, 1) := by decide +kernel
theorem dX8_wantFrom_50 : decode cX8_wantFrom 50 = .ok (.iload 4, 2) := by decide +kernel
theorem dX8_wantFrom_52 : decode cX8_wantFrom 52 = .ok (.invokevirtual 121, 3) := by decide +kernel
theorem dX8_wantFrom_55 : decode cX8_wantFrom 55 = .ok (.aload_n 0, 1) := by decide +kernel
theorem dX8_wantFrom_56 : decode cX8_wantFrom 56 = .ok (.getfield 40, 3) := by decide +kernel
theorem dX8_wantFrom_59 : decode cX8_wantFrom 59 = .ok (.iload 4, 2) := by decide +kernel
theorem dX8_wantFrom_61 : decode cX8_wantFrom 61 = .ok (.invokevirtual 73, 3) := by decide +kernel
theorem dX8_wantFrom_64 : decode cX8_wantFrom 64 = .ok (.iadd, 1) := by decide +kernel
theorem dX8_wantFrom_65 : decode cX8_wantFrom 65 = .ok (.istore 5, 2) := by decide +kernel
theorem dX8_wantFrom_67 : decode cX8_wantFrom 67 = .ok (.aload_n 0, 1) := by decide +kernel
theorem dX8_wantFrom_68 : decode cX8_wantFrom 68 = .ok (.getfield 37, 3) := by decide +kernel
theorem dX8_wantFrom_71 : decode cX8_wantFrom 71 = .ok (.iload 4, 2) := by decide +kernel
theorem dX8_wantFrom_73 : decode cX8_wantFrom 73 = .ok (.aload_n 0, 1) := by decide +kernel
theorem dX8_wantFrom_74 : decode cX8_wantFrom 74 = .ok (.getfield 37, 3) := by decide +kernel
theorem dX8_wantFrom_77 : decode cX8_wantFrom 77 = .ok (.iload 4, 2) := by decide +kernel
theorem dX8_wantFrom_79 : decode cX8_wantFrom 79 = .ok (.invokevirtual 73, 3) := by decide +kernel
theorem dX8_wantFrom_82 : decode cX8_wantFrom 82 = .ok (.iload 5, 2) := by decide +kernel
theorem dX8_wantFrom_84 : decode cX8_wantFrom 84 = .ok (.invokestatic 93, 3) := by decide +kernel
theorem dX8_wantFrom_87 : decode cX8_wantFrom 87 = .ok (.invokevirtual 69, 3) := by decide +kernel
theorem dX8_wantFrom_90 : decode cX8_wantFrom 90 = .ok (.iinc 4 1, 3) := by decide +kernel
theorem dX8_wantFrom_93 : decode cX8_wantFrom 93 = .ok (.goto (-55), 3) := by decide +kernel
theorem dX8_wantFrom_96 : decode cX8_wantFrom 96 = .ok (.aload_n 0, 1) := by decide +kernel
theorem dX8_wantFrom_97 : decode cX8_wantFrom 97 = .ok (.getfield 40, 3) := by decide +kernel
theorem dX8_wantFrom_100 : decode cX8_wantFrom 100 = .ok (.aload_n 0, 1) := by decide +kernel
theorem dX8_wantFrom_101 : decode cX8_wantFrom 101 = .ok (.getfield 14, 3) := by decide +kernel
theorem dX8_wantFrom_104 : decode cX8_wantFrom 104 = .ok (.iload_n 3, 1) := by decide +kernel
theorem dX8_wantFrom_105 : decode cX8_wantFrom 105 = .ok (.invokevirtual 80, 3) := by decide +kernel
theorem dX8_wantFrom_108 : decode cX8_wantFrom 108 = .ok (.iconst 1, 1) := by decide +kernel
theorem dX8_wantFrom_109 : decode cX8_wantFrom 109 = .ok (.invokevirtual 124, 3) := by decide +kernel
theorem dX8_wantFrom_112 : decode cX8_wantFrom 112 = .ok (.iinc 2 1, 3) := by decide +kernel
theorem dX8_wantFrom_115 : decode cX8_wantFrom 115 = .ok (.goto (-97), 3) := by decide +kernel
theorem dX8_wantFrom_118 : decode cX8_wantFrom 118 = .ok (.return_, 1) := by decide +kernel
theorem dX9_init_0 : decode cX9_init 0 = .ok (.aload_n 0, 1) := by decide +kernel
theorem dX9_init_1 : decode cX9_init 1 = .ok (.invokespecial 3, 3) := by decide +kernel
theorem dX9_init_4 : decode cX9_init 4 = .ok (.aload_n 0, 1) := by decide +kernel
theorem dX9_init_5 : decode cX9_init 5 = .ok (.new 9, 3) := by decide +kernel
theorem dX9_init_8 : decode cX9_init 8 = .ok (.dup, 1) := by decide +kernel
theorem dX9_init_9 : decode cX9_init 9 = .ok (.bipush 6, 2) := by decide +kernel
theorem dX9_init_11 : decode cX9_init 11 = .ok (.invokespecial 11, 3) := by decide +kernel
theorem dX9_init_14 : decode cX9_init 14 = .ok (.putfield 14, 3) := by decide +kernel
theorem dX9_init_17 : decode cX9_init 17 = .ok (.aload_n 0, 1) := by decide +kernel
theorem dX9_init_18 : decode cX9_init 18 = .ok (.new 20, 3) := by decide +kernel
theorem dX9_init_21 : decode cX9_init 21 = .ok (.dup, 1) := by decide +kernel
theorem dX9_init_22 : decode cX9_init 22 = .ok (.invokespecial 22, 3) := by decide +kernel
theorem dX9_init_25 : decode cX9_init 25 = .ok (.putfield 23, 3) := by decide +kernel
theorem dX9_init_28 : decode cX9_init 28 = .ok (.aload_n 0, 1) := by decide +kernel
theorem dX9_init_29 : decode cX9_init 29 = .ok (.new 27, 3) := by decide +kernel
theorem dX9_init_32 : decode cX9_init 32 = .ok (.dup, 1) := by decide +kernel
theorem dX9_init_33 : decode cX9_init 33 = .ok (.bipush 6, 2) := by decide +kernel
theorem dX9_init_35 : decode cX9_init 35 = .ok (.invokespecial 29, 3) := by decide +kernel
theorem dX9_init_38 : decode cX9_init 38 = .ok (.putfield 30, 3) := by decide +kernel
theorem dX9_init_41 : decode cX9_init 41 = .ok (.aload_n 0, 1) := by decide +kernel
theorem dX9_init_42 : decode cX9_init 42 = .ok (.new 27, 3) := by decide +kernel
theorem dX9_init_45 : decode cX9_init 45 = .ok (.dup, 1) := by decide +kernel
theorem dX9_init_46 : decode cX9_init 46 = .ok (.bipush 64, 2) := by decide +kernel
theorem dX9_init_48 : decode cX9_init 48 = .ok (.invokespecial 29, 3) := by decide +kernel
theorem dX9_init_51 : decode cX9_init 51 = .ok (.putfield 34, 3) := by decide +kernel
theorem dX9_init_54 : decode cX9_init 54 = .ok (.aload_n 0, 1) := by decide +kernel
theorem dX9_init_55 : decode cX9_init 55 = .ok (.iconst 0, 1) := by decide +kernel
theorem dX9_init_56 : decode cX9_init 56 = .ok (.putfield 37, 3) := by decide +kernel
theorem dX9_init_59 : decode cX9_init 59 = .ok (.return_, 1) := by decide +kernel
theorem dX9_load_0 : decode cX9_load 0 = .ok (.aload_n 0, 1) := by decide +kernel
theorem dX9_load_1 : decode cX9_load 1 = .ok (.getfield 14, 3) := by decide +kernel
theorem dX9_load_4 : decode cX9_load 4 = .ok (.aload_n 1, 1) := by decide +kernel
theorem dX9_load_5 : decode cX9_load 5 = .ok (.invokevirtual 41, 3) := by decide +kernel
theorem dX9_load_8 : decode cX9_load 8 = .ok (.aload_n 0, 1) := by decide +kernel
theorem dX9_load_9 : decode cX9_load 9 = .ok (.getfield 23, 3) := by decide +kernel
theorem dX9_load_12 : decode cX9_load 12 = .ok (.aload_n 1, 1) := by decide +kernel
theorem dX9_load_13 : decode cX9_load 13 = .ok (.invokevirtual 45, 3) := by decide +kernel
theorem dX9_load_16 : decode cX9_load 16 = .ok (.aload_n 0, 1) := by decide +kernel
theorem dX9_load_17 : decode cX9_load 17 = .ok (.aload_n 1, 1) := by decide +kernel
theorem dX9_load_18 : decode cX9_load 18 = .ok (.invokevirtual 48, 3) := by decide +kernel
theorem dX9_load_21 : decode cX9_load 21 = .ok (.putfield 37, 3) := by decide +kernel
theorem dX9_load_24 : decode cX9_load 24 = .ok (.return_, 1) := by decide +kernel
theorem dX9_wantNoneUpsideDown_0 : decode cX9_wantNoneUpsideDown 0 = .ok (.aload_n 0, 1) := by decide +kernel
theorem dX9_wantNoneUpsideDown_1 : decode cX9_wantNoneUpsideDown 1 = .ok (.getfield 30, 3) := by decide +kernel
theorem dX9_wantNoneUpsideDown_4 : decode cX9_wantNoneUpsideDown 4 = .ok (.iconst 0, 1) := by decide +kernel
theorem dX9_wantNoneUpsideDown_5 : decode cX9_wantNoneUpsideDown 5 = .ok (.invokevirtual 53, 3) := by decide +kernel
theorem dX9_wantNoneUpsideDown_8 : decode cX9_wantNoneUpsideDown 8 = .ok (.return_, 1) := by decide +kernel
theorem dX9_wantAsSeen_0 : decode cX9_wantAsSeen 0 = .ok (.aload_n 0, 1) := by decide +kernel
theorem dX9_wantAsSeen_1 : decode cX9_wantAsSeen 1 = .ok (.getfield 30, 3) := by decide +kernel
theorem dX9_wantAsSeen_4 : decode cX9_wantAsSeen 4 = .ok (.aload_n 1, 1) := by decide +kernel
theorem dX9_wantAsSeen_5 : decode cX9_wantAsSeen 5 = .ok (.getfield 56, 3) := by decide +kernel
theorem dX9_wantAsSeen_8 : decode cX9_wantAsSeen 8 = .ok (.invokevirtual 59, 3) := by decide +kernel
theorem dX9_wantAsSeen_11 : decode cX9_wantAsSeen 11 = .ok (.return_, 1) := by decide +kernel
theorem dX9_count_0 : decode cX9_count 0 = .ok (.bipush 63, 2) := by decide +kernel
theorem dX9_count_2 : decode cX9_count 2 = .ok (.istore_n 3, 1) := by decide +kernel
theorem dX9_count_3 : decode cX9_count 3 = .ok (.iload_n 3, 1) := by decide +kernel
theorem dX9_count_4 : decode cX9_count 4 = .ok (.ifCond .lt 24, 3) := by decide +kernel
theorem dX9_count_7 : decode cX9_count 7 = .ok (.aload_n 0, 1) := by decide +kernel
theorem dX9_count_8 : decode cX9_count 8 = .ok (.getfield 34, 3) := by decide +kernel
theorem dX9_count_11 : decode cX9_count 11 = .ok (.iload_n 3, 1) := by decide +kernel
theorem dX9_count_12 : decode cX9_count 12 = .ok (.aload_n 0, 1) := by decide +kernel
theorem dX9_count_13 : decode cX9_count 13 = .ok (.iload_n 3, 1) := by decide +kernel
theorem dX9_count_14 : decode cX9_count 14 = .ok (.iload_n 1, 1) := by decide +kernel
theorem dX9_count_15 : decode cX9_count 15 = .ok (.iload_n 2, 1) := by decide +kernel
theorem dX9_count_16 : decode cX9_count 16 = .ok (.invokevirtual 63, 3) := by decide +kernel
theorem dX9_count_19 : decode cX9_count 19 = .ok (.invokevirtual 67, 3) := by decide +kernel
theorem dX9_count_22 : decode cX9_count 22 = .ok (.iinc 3 (-1), 3) := by decide +kernel
theorem dX9_count_25 : decode cX9_count 25 = .ok (.goto (-22), 3) := by decide +kernel
theorem dX9_count_28 : decode cX9_count 28 = .ok (.aload_n 0, 1) := by decide +kernel
theorem dX9_count_29 : decode cX9_count 29 = .ok (.getfield 34, 3) := by decide +kernel
theorem dX9_count_32 : decode cX9_count 32 = .ok (.iconst 0, 1) := by decide +kernel
theorem dX9_count_33 : decode cX9_count 33 = .ok (.invokevirtual 71, 3) := by decide +kernel
theorem dX9_count_36 : decode cX9_count 36 = .ok (.ireturn, 1) := by decide +kernel
theorem dX9_countRests_0 : decode cX9_countRests 0 = .ok (.iload_n 1, 1) := by decide +kernel
theorem dX9_countRests_1 : decode cX9_countRests 1 = .ok (.aload_n 0, 1) := by decide +kernel
theorem dX9_countRests_2 : decode cX9_countRests 2 = .ok (.getfield 37, 3) := by decide +kernel
theorem dX9_countRests_5 : decode cX9_countRests 5 = .ok (.if_icmp .ne 5, 3) := by decide +kernel
theorem dX9_countRests_8 : decode cX9_countRests 8 = .ok (.iconst 1, 1) := by decide +kernel
theorem dX9_countRests_9 : decode cX9_countRests 9 = .ok (.ireturn, 1) := by decide +kernel
theorem dX9_countRests_10 : decode cX9_countRests 10 = .ok (.iload_n 1, 1) := by decide +kernel
theorem dX9_countRests_11 : decode cX9_countRests 11 = .ok (.aload_n 0, 1) := by decide +kernel
theorem dX9_countRests_12 : decode cX9_countRests 12 = .ok (.getfield 37, 3) := by decide +kernel
theorem dX9_countRests_15 : decode cX9_countRests 15 = .ok (.iconst (-1), 1) := by decide +kernel
theorem dX9_countRests_16 : decode cX9_countRests 16 = .ok (.ixor, 1) := by decide +kernel
theorem dX9_countRests_17 : decode cX9_countRests 17 = .ok (.iand, 1) := by decide +kernel
theorem dX9_countRests_18 : decode cX9_countRests 18 = .ok (.ifCond .eq 5, 3) := by decide +kernel
theorem dX9_countRests_21 : decode cX9_countRests 21 = .ok (.iconst 0, 1) := by decide +kernel
theorem dX9_countRests_22 : decode cX9_countRests 22 = .ok (.ireturn, 1) := by decide +kernel
theorem dX9_countRests_23 : decode cX9_countRests 23 = .ok (.aload_n 0, 1) := by decide +kernel
theorem dX9_countRests_24 : decode cX9_countRests 24 = .ok (.iload_n 1, 1) := by decide +kernel
theorem dX9_countRests_25 : decode cX9_countRests 25 = .ok (.invokevirtual 75, 3) := by decide +kernel
theorem dX9_countRests_28 : decode cX9_countRests 28 = .ok (.iconst 0, 1) := by decide +kernel
theorem dX9_countRests_29 : decode cX9_countRests 29 = .ok (.istore 4, 2) := by decide +kernel
theorem dX9_countRests_31 : decode cX9_countRests 31 = .ok (.iconst 0, 1) := by decide +kernel
theorem dX9_countRests_32 : decode cX9_countRests 32 = .ok (.istore 5, 2) := by decide +kernel
theorem dX9_countRests_34 : decode cX9_countRests 34 = .ok (.iload 5, 2) := by decide +kernel
theorem dX9_countRests_36 : decode cX9_countRests 36 = .ok (.bipush 6, 2) := by decide +kernel
theorem dX9_countRests_38 : decode cX9_countRests 38 = .ok (.if_icmp .ge 63, 3) := by decide +kernel
theorem dX9_countRests_41 : decode cX9_countRests 41 = .ok (.iload 5, 2) := by decide +kernel
theorem dX9_countRests_43 : decode cX9_countRests 43 = .ok (.iload_n 3, 1) := by decide +kernel
theorem dX9_countRests_44 : decode cX9_countRests 44 = .ok (.if_icmp .ne 15, 3) := by decide +kernel
theorem dX9_countRests_47 : decode cX9_countRests 47 = .ok (.iload_n 1, 1) := by decide +kernel
theorem dX9_countRests_48 : decode cX9_countRests 48 = .ok (.iload_n 2, 1) := by decide +kernel
theorem dX9_countRests_49 : decode cX9_countRests 49 = .ok (.invokestatic 78, 3) := by decide +kernel
theorem dX9_countRests_52 : decode cX9_countRests 52 = .ok (.ifCond .ne 7, 3) := by decide +kernel
theorem dX9_countRests_55 : decode cX9_countRests 55 = .ok (.iconst 1, 1) := by decide +kernel
theorem dX9_countRests_56 : decode cX9_countRests 56 = .ok (.goto 4, 3) := by decide +kernel
theorem dX9_countRests_59 : decode cX9_countRests 59 = .ok (.iconst 0, 1) := by decide +kernel
theorem dX9_countRests_60 : decode cX9_countRests 60 = .ok (.istore 6, 2) := by decide +kernel
theorem dX9_countRests_62 : decode cX9_countRests 62 = .ok (.iload 6, 2) := by decide +kernel
theorem dX9_countRests_64 : decode cX9_countRests 64 = .ok (.ifCond .ne 31, 3) := by decide +kernel
theorem dX9_countRests_67 : decode cX9_countRests 67 = .ok (.aload_n 0, 1) := by decide +kernel
theorem dX9_countRests_68 : decode cX9_countRests 68 = .ok (.iload_n 1, 1) := by decide +kernel
theorem dX9_countRests_69 : decode cX9_countRests 69 = .ok (.iload 5, 2) := by decide +kernel
theorem dX9_countRests_71 : decode cX9_countRests 71 = .ok (.invokevirtual 82, 3) := by decide +kernel
theorem dX9_countRests_74 : decode cX9_countRests 74 = .ok (.ifCond .eq 21, 3) := by decide +kernel
theorem dX9_countRests_77 : decode cX9_countRests 77 = .ok (.iload 4, 2) := by decide +kernel
theorem dX9_countRests_79 : decode cX9_countRests 79 = .ok (.aload_n 0, 1) := by decide +kernel
theorem dX9_countRests_80 : decode cX9_countRests 80 = .ok (.getfield 34, 3) := by decide +kernel
theorem dX9_countRests_83 : decode cX9_countRests 83 = .ok (.iload_n 1, 1) := by decide +kernel
theorem dX9_countRests_84 : decode cX9_countRests 84 = .ok (.iconst 1, 1) := by decide +kernel
theorem dX9_countRests_85 : decode cX9_countRests 85 = .ok (.iload 5, 2) := by decide +kernel
theorem dX9_countRests_87 : decode cX9_countRests 87 = .ok (.ishl, 1) := by decide +kernel
theorem dX9_countRests_88 : decode cX9_countRests 88 = .ok (.ior, 1) := by decide +kernel
theorem dX9_countRests_89 : decode cX9_countRests 89 = .ok (.invokevirtual 71, 3) := by decide +kernel
theorem dX9_countRests_92 : decode cX9_countRests 92 = .ok (.iadd, 1) := by decide +kernel
theorem dX9_countRests_93 : decode cX9_countRests 93 = .ok (.istore 4, 2) := by decide +kernel
theorem dX9_countRests_95 : decode cX9_countRests 95 = .ok (.iinc 5 1, 3) := by decide +kernel
theorem dX9_countRests_98 : decode cX9_countRests 98 = .ok (.goto (-64), 3) := by decide +kernel
theorem dX9_countRests_101 : decode cX9_countRests 101 = .ok (.iload 4, 2) := by decide +kernel
theorem dX9_countRests_103 : decode cX9_countRests 103 = .ok (.ireturn, 1) := by decide +kernel
theorem dX9_leastAt_0 : decode cX9_leastAt 0 = .ok (.iconst 0, 1) := by decide +kernel
theorem dX9_leastAt_1 : decode cX9_leastAt 1 = .ok (.istore_n 2, 1) := by decide +kernel
theorem dX9_leastAt_2 : decode cX9_leastAt 2 = .ok (.iconst 0, 1) := by decide +kernel
theorem dX9_leastAt_3 : decode cX9_leastAt 3 = .ok (.istore_n 3, 1) := by decide +kernel
theorem dX9_leastAt_4 : decode cX9_leastAt 4 = .ok (.iload_n 3, 1) := by decide +kernel
theorem dX9_leastAt_5 : decode cX9_leastAt 5 = .ok (.bipush 6, 2) := by decide +kernel
theorem dX9_leastAt_7 : decode cX9_leastAt 7 = .ok (.if_icmp .ge 38, 3) := by decide +kernel
theorem dX9_leastAt_10 : decode cX9_leastAt 10 = .ok (.aload_n 0, 1) := by decide +kernel
theorem dX9_leastAt_11 : decode cX9_leastAt 11 = .ok (.iload_n 2, 1) := by decide +kernel
theorem dX9_leastAt_12 : decode cX9_leastAt 12 = .ok (.invokevirtual 85, 3) := by decide +kernel
theorem dX9_leastAt_15 : decode cX9_leastAt 15 = .ok (.istore 4, 2) := by decide +kernel
theorem dX9_leastAt_17 : decode cX9_leastAt 17 = .ok (.iload 4, 2) := by decide +kernel
theorem dX9_leastAt_19 : decode cX9_leastAt 19 = .ok (.bipush (-6), 2) := by decide +kernel
theorem dX9_leastAt_21 : decode cX9_leastAt 21 = .ok (.if_icmp .eq 8, 3) := by decide +kernel
theorem dX9_leastAt_24 : decode cX9_leastAt 24 = .ok (.iload_n 3, 1) := by decide +kernel
theorem dX9_leastAt_25 : decode cX9_leastAt 25 = .ok (.iload_n 1, 1) := by decide +kernel
theorem dX9_leastAt_26 : decode cX9_leastAt 26 = .ok (.if_icmp .ne 6, 3) := by decide +kernel
theorem dX9_leastAt_29 : decode cX9_leastAt 29 = .ok (.iload 4, 2) := by decide +kernel
theorem dX9_leastAt_31 : decode cX9_leastAt 31 = .ok (.ireturn, 1) := by decide +kernel
theorem dX9_leastAt_32 : decode cX9_leastAt 32 = .ok (.iload_n 2, 1) := by decide +kernel
theorem dX9_leastAt_33 : decode cX9_leastAt 33 = .ok (.iconst 1, 1) := by decide +kernel
theorem dX9_leastAt_34 : decode cX9_leastAt 34 = .ok (.iload 4, 2) := by decide +kernel
theorem dX9_leastAt_36 : decode cX9_leastAt 36 = .ok (.ishl, 1) := by decide +kernel
theorem dX9_leastAt_37 : decode cX9_leastAt 37 = .ok (.ior, 1) := by decide +kernel
theorem dX9_leastAt_38 : decode cX9_leastAt 38 = .ok (.istore_n 2, 1) := by decide +kernel
theorem dX9_leastAt_39 : decode cX9_leastAt 39 = .ok (.iinc 3 1, 3) := by decide +kernel
theorem dX9_leastAt_42 : decode cX9_leastAt 42 = .ok (.goto (-38), 3) := by decide +kernel
theorem dX9_leastAt_45 : decode cX9_leastAt 45 = .ok (.bipush (-6), 2) := by decide +kernel
theorem dX9_leastAt_47 : decode cX9_leastAt 47 = .ok (.ireturn, 1) := by decide +kernel
theorem dX9_leastAfter_0 : decode cX9_leastAfter 0 = .ok (.aload_n 0, 1) := by decide +kernel
theorem dX9_leastAfter_1 : decode cX9_leastAfter 1 = .ok (.iload_n 1, 1) := by decide +kernel
theorem dX9_leastAfter_2 : decode cX9_leastAfter 2 = .ok (.invokevirtual 75, 3) := by decide +kernel
theorem dX9_leastAfter_5 : decode cX9_leastAfter 5 = .ok (.iconst 0, 1) := by decide +kernel
theorem dX9_leastAfter_6 : decode cX9_leastAfter 6 = .ok (.istore_n 2, 1) := by decide +kernel
theorem dX9_leastAfter_7 : decode cX9_leastAfter 7 = .ok (.iload_n 2, 1) := by decide +kernel
theorem dX9_leastAfter_8 : decode cX9_leastAfter 8 = .ok (.bipush 6, 2) := by decide +kernel
theorem dX9_leastAfter_10 : decode cX9_leastAfter 10 = .ok (.if_icmp .ge 35, 3) := by decide +kernel
theorem dX9_leastAfter_13 : decode cX9_leastAfter 13 = .ok (.aload_n 0, 1) := by decide +kernel
theorem dX9_leastAfter_14 : decode cX9_leastAfter 14 = .ok (.iload_n 1, 1) := by decide +kernel
theorem dX9_leastAfter_15 : decode cX9_leastAfter 15 = .ok (.iload_n 2, 1) := by decide +kernel
theorem dX9_leastAfter_16 : decode cX9_leastAfter 16 = .ok (.invokevirtual 82, 3) := by decide +kernel
theorem dX9_leastAfter_19 : decode cX9_leastAfter 19 = .ok (.ifCond .eq 20, 3) := by decide +kernel
theorem dX9_leastAfter_22 : decode cX9_leastAfter 22 = .ok (.aload_n 0, 1) := by decide +kernel
theorem dX9_leastAfter_23 : decode cX9_leastAfter 23 = .ok (.getfield 34, 3) := by decide +kernel
theorem dX9_leastAfter_26 : decode cX9_leastAfter 26 = .ok (.iload_n 1, 1) := by decide +kernel
theorem dX9_leastAfter_27 : decode cX9_leastAfter 27 = .ok (.iconst 1, 1) := by decide +kernel
theorem dX9_leastAfter_28 : decode cX9_leastAfter 28 = .ok (.iload_n 2, 1) := by decide +kernel
theorem dX9_leastAfter_29 : decode cX9_leastAfter 29 = .ok (.ishl, 1) := by decide +kernel
theorem dX9_leastAfter_30 : decode cX9_leastAfter 30 = .ok (.ior, 1) := by decide +kernel
theorem dX9_leastAfter_31 : decode cX9_leastAfter 31 = .ok (.invokevirtual 71, 3) := by decide +kernel
theorem dX9_leastAfter_34 : decode cX9_leastAfter 34 = .ok (.ifCond .le 5, 3) := by decide +kernel
theorem dX9_leastAfter_37 : decode cX9_leastAfter 37 = .ok (.iload_n 2, 1) := by decide +kernel
theorem dX9_leastAfter_38 : decode cX9_leastAfter 38 = .ok (.ireturn, 1) := by decide +kernel
theorem dX9_leastAfter_39 : decode cX9_leastAfter 39 = .ok (.iinc 2 1, 3) := by decide +kernel
theorem dX9_leastAfter_42 : decode cX9_leastAfter 42 = .ok (.goto (-35), 3) := by decide +kernel
theorem dX9_leastAfter_45 : decode cX9_leastAfter 45 = .ok (.bipush (-6), 2) := by decide +kernel
theorem dX9_leastAfter_47 : decode cX9_leastAfter 47 = .ok (.ireturn, 1) := by decide +kernel
theorem dX9_largest_0 : decode cX9_largest 0 = .ok (.iconst 0, 1) := by decide +kernel
theorem dX9_largest_1 : decode cX9_largest 1 = .ok (.istore_n 1, 1) := by decide +kernel
theorem dX9_largest_2 : decode cX9_largest 2 = .ok (.aload_n 0, 1) := by decide +kernel
theorem dX9_largest_3 : decode cX9_largest 3 = .ok (.getfield 34, 3) := by decide +kernel
theorem dX9_largest_6 : decode cX9_largest 6 = .ok (.iconst 0, 1) := by decide +kernel
theorem dX9_largest_7 : decode cX9_largest 7 = .ok (.invokevirtual 53, 3) := by decide +kernel
theorem dX9_largest_10 : decode cX9_largest 10 = .ok (.aload_n 0, 1) := by decide +kernel
theorem dX9_largest_11 : decode cX9_largest 11 = .ok (.getfield 34, 3) := by decide +kernel
theorem dX9_largest_14 : decode cX9_largest 14 = .ok (.iconst 0, 1) := by decide +kernel
theorem dX9_largest_15 : decode cX9_largest 15 = .ok (.iconst 1, 1) := by decide +kernel
theorem dX9_largest_16 : decode cX9_largest 16 = .ok (.invokevirtual 67, 3) := by decide +kernel
theorem dX9_largest_19 : decode cX9_largest 19 = .ok (.iconst 0, 1) := by decide +kernel
theorem dX9_largest_20 : decode cX9_largest 20 = .ok (.istore_n 2, 1) := by decide +kernel
theorem dX9_largest_21 : decode cX9_largest 21 = .ok (.iload_n 2, 1) := by decide +kernel
theorem dX9_largest_22 : decode cX9_largest 22 = .ok (.bipush 64, 2) := by decide +kernel
theorem dX9_largest_24 : decode cX9_largest 24 = .ok (.if_icmp .ge 77, 3) := by decide +kernel
theorem dX9_largest_27 : decode cX9_largest 27 = .ok (.aload_n 0, 1) := by decide +kernel
theorem dX9_largest_28 : decode cX9_largest 28 = .ok (.getfield 34, 3) := by decide +kernel
theorem dX9_largest_31 : decode cX9_largest 31 = .ok (.iload_n 2, 1) := by decide +kernel
theorem dX9_largest_32 : decode cX9_largest 32 = .ok (.invokevirtual 71, 3) := by decide +kernel
theorem dX9_largest_35 : decode cX9_largest 35 = .ok (.ifCond .ne 6, 3) := by decide +kernel
theorem dX9_largest_38 : decode cX9_largest 38 = .ok (.goto 57, 3) := by decide +kernel
theorem dX9_largest_41 : decode cX9_largest 41 = .ok (.iload_n 2, 1) := by decide +kernel
theorem dX9_largest_42 : decode cX9_largest 42 = .ok (.invokestatic 88, 3) := by decide +kernel
theorem dX9_largest_45 : decode cX9_largest 45 = .ok (.iload_n 1, 1) := by decide +kernel
theorem dX9_largest_46 : decode cX9_largest 46 = .ok (.invokestatic 88, 3) := by decide +kernel
theorem dX9_largest_49 : decode cX9_largest 49 = .ok (.if_icmp .le 5, 3) := by decide +kernel
theorem dX9_largest_52 : decode cX9_largest 52 = .ok (.iload_n 2, 1) := by decide +kernel
theorem dX9_largest_53 : decode cX9_largest 53 = .ok (.istore_n 1, 1) := by decide +kernel
theorem dX9_largest_54 : decode cX9_largest 54 = .ok (.aload_n 0, 1) := by decide +kernel
theorem dX9_largest_55 : decode cX9_largest 55 = .ok (.iload_n 2, 1) := by decide +kernel
theorem dX9_largest_56 : decode cX9_largest 56 = .ok (.invokevirtual 75, 3) := by decide +kernel
theorem dX9_largest_59 : decode cX9_largest 59 = .ok (.iconst 0, 1) := by decide +kernel
theorem dX9_largest_60 : decode cX9_largest 60 = .ok (.istore_n 3, 1) := by decide +kernel
theorem dX9_largest_61 : decode cX9_largest 61 = .ok (.iload_n 3, 1) := by decide +kernel
theorem dX9_largest_62 : decode cX9_largest 62 = .ok (.bipush 6, 2) := by decide +kernel
theorem dX9_largest_64 : decode cX9_largest 64 = .ok (.if_icmp .ge 31, 3) := by decide +kernel
theorem dX9_largest_67 : decode cX9_largest 67 = .ok (.aload_n 0, 1) := by decide +kernel
theorem dX9_largest_68 : decode cX9_largest 68 = .ok (.iload_n 2, 1) := by decide +kernel
theorem dX9_largest_69 : decode cX9_largest 69 = .ok (.iload_n 3, 1) := by decide +kernel
theorem dX9_largest_70 : decode cX9_largest 70 = .ok (.invokevirtual 82, 3) := by decide +kernel
theorem dX9_largest_73 : decode cX9_largest 73 = .ok (.ifCond .eq 16, 3) := by decide +kernel
theorem dX9_largest_76 : decode cX9_largest 76 = .ok (.aload_n 0, 1) := by decide +kernel
theorem dX9_largest_77 : decode cX9_largest 77 = .ok (.getfield 34, 3) := by decide +kernel
theorem dX9_largest_80 : decode cX9_largest 80 = .ok (.iload_n 2, 1) := by decide +kernel
theorem dX9_largest_81 : decode cX9_largest 81 = .ok (.iconst 1, 1) := by decide +kernel
theorem dX9_largest_82 : decode cX9_largest 82 = .ok (.iload_n 3, 1) := by decide +kernel
theorem dX9_largest_83 : decode cX9_largest 83 = .ok (.ishl, 1) := by decide +kernel
theorem dX9_largest_84 : decode cX9_largest 84 = .ok (.ior, 1) := by decide +kernel
theorem dX9_largest_85 : decode cX9_largest 85 = .ok (.iconst 1, 1) := by decide +kernel
theorem dX9_largest_86 : decode cX9_largest 86 = .ok (.invokevirtual 67, 3) := by decide +kernel
theorem dX9_largest_89 : decode cX9_largest 89 = .ok (.iinc 3 1, 3) := by decide +kernel
theorem dX9_largest_92 : decode cX9_largest 92 = .ok (.goto (-31), 3) := by decide +kernel
theorem dX9_largest_95 : decode cX9_largest 95 = .ok (.iinc 2 1, 3) := by decide +kernel
theorem dX9_largest_98 : decode cX9_largest 98 = .ok (.goto (-77), 3) := by decide +kernel
theorem dX9_largest_101 : decode cX9_largest 101 = .ok (.iload_n 1, 1) := by decide +kernel
theorem dX9_largest_102 : decode cX9_largest 102 = .ok (.ireturn, 1) := by decide +kernel
theorem dX9_print_0 : decode cX9_print 0 = .ok (.aload_n 0, 1) := by decide +kernel
theorem dX9_print_1 : decode cX9_print 1 = .ok (.getfield 23, 3) := by decide +kernel
theorem dX9_print_4 : decode cX9_print 4 = .ok (.invokevirtual 93, 3) := by decide +kernel
theorem dX9_print_7 : decode cX9_print 7 = .ok (.iconst 0, 1) := by decide +kernel
theorem dX9_print_8 : decode cX9_print 8 = .ok (.istore_n 2, 1) := by decide +kernel
theorem dX9_print_9 : decode cX9_print 9 = .ok (.iload_n 2, 1) := by decide +kernel
theorem dX9_print_10 : decode cX9_print 10 = .ok (.bipush 6, 2) := by decide +kernel
theorem dX9_print_12 : decode cX9_print 12 = .ok (.if_icmp .ge 32, 3) := by decide +kernel
theorem dX9_print_15 : decode cX9_print 15 = .ok (.iload_n 1, 1) := by decide +kernel
theorem dX9_print_16 : decode cX9_print 16 = .ok (.iload_n 2, 1) := by decide +kernel
theorem dX9_print_17 : decode cX9_print 17 = .ok (.invokestatic 78, 3) := by decide +kernel
theorem dX9_print_20 : decode cX9_print 20 = .ok (.ifCond .eq 18, 3) := by decide +kernel
theorem dX9_print_23 : decode cX9_print 23 = .ok (.aload_n 0, 1) := by decide +kernel
theorem dX9_print_24 : decode cX9_print 24 = .ok (.getfield 23, 3) := by decide +kernel
theorem dX9_print_27 : decode cX9_print 27 = .ok (.aload_n 0, 1) := by decide +kernel
theorem dX9_print_28 : decode cX9_print 28 = .ok (.getfield 14, 3) := by decide +kernel
theorem dX9_print_31 : decode cX9_print 31 = .ok (.iload_n 2, 1) := by decide +kernel
theorem dX9_print_32 : decode cX9_print 32 = .ok (.invokevirtual 96, 3) := by decide +kernel
theorem dX9_print_35 : decode cX9_print 35 = .ok (.invokevirtual 99, 3) := by decide +kernel
theorem dX9_print_38 : decode cX9_print 38 = .ok (.iinc 2 1, 3) := by decide +kernel
theorem dX9_print_41 : decode cX9_print 41 = .ok (.goto (-32), 3) := by decide +kernel
theorem dX9_print_44 : decode cX9_print 44 = .ok (.return_, 1) := by decide +kernel
theorem dX9_canFollow_0 : decode cX9_canFollow 0 = .ok (.aload_n 0, 1) := by decide +kernel
theorem dX9_canFollow_1 : decode cX9_canFollow 1 = .ok (.getfield 37, 3) := by decide +kernel
theorem dX9_canFollow_4 : decode cX9_canFollow 4 = .ok (.iload_n 1, 1) := by decide +kernel
theorem dX9_canFollow_5 : decode cX9_canFollow 5 = .ok (.iconst (-1), 1) := by decide +kernel
theorem dX9_canFollow_6 : decode cX9_canFollow 6 = .ok (.ixor, 1) := by decide +kernel
theorem dX9_canFollow_7 : decode cX9_canFollow 7 = .ok (.iand, 1) := by decide +kernel
theorem dX9_canFollow_8 : decode cX9_canFollow 8 = .ok (.iload_n 2, 1) := by decide +kernel
theorem dX9_canFollow_9 : decode cX9_canFollow 9 = .ok (.invokestatic 78, 3) := by decide +kernel
theorem dX9_canFollow_12 : decode cX9_canFollow 12 = .ok (.ifCond .ne 5, 3) := by decide +kernel
theorem dX9_canFollow_15 : decode cX9_canFollow 15 = .ok (.iconst 0, 1) := by decide +kernel
theorem dX9_canFollow_16 : decode cX9_canFollow 16 = .ok (.ireturn, 1) := by decide +kernel
theorem dX9_canFollow_17 : decode cX9_canFollow 17 = .ok (.aload_n 0, 1) := by decide +kernel
theorem dX9_canFollow_18 : decode cX9_canFollow 18 = .ok (.getfield 30, 3) := by decide +kernel
theorem dX9_canFollow_21 : decode cX9_canFollow 21 = .ok (.iload_n 2, 1) := by decide +kernel
theorem dX9_canFollow_22 : decode cX9_canFollow 22 = .ok (.invokevirtual 71, 3) := by decide +kernel
theorem dX9_canFollow_25 : decode cX9_canFollow 25 = .ok (.bipush (-6), 2) := by decide +kernel
theorem dX9_canFollow_27 : decode cX9_canFollow 27 = .ok (.if_icmp .eq 26, 3) := by decide +kernel
theorem dX9_canFollow_30 : decode cX9_canFollow 30 = .ok (.aload_n 0, 1) := by decide +kernel
theorem dX9_canFollow_31 : decode cX9_canFollow 31 = .ok (.getfield 23, 3) := by decide +kernel
theorem dX9_canFollow_34 : decode cX9_canFollow 34 = .ok (.aload_n 0, 1) := by decide +kernel
theorem dX9_canFollow_35 : decode cX9_canFollow 35 = .ok (.getfield 14, 3) := by decide +kernel
theorem dX9_canFollow_38 : decode cX9_canFollow 38 = .ok (.iload_n 2, 1) := by decide +kernel
theorem dX9_canFollow_39 : decode cX9_canFollow 39 = .ok (.invokevirtual 102, 3) := by decide +kernel
theorem dX9_canFollow_42 : decode cX9_canFollow 42 = .ok (.aload_n 0, 1) := by decide +kernel
theorem dX9_canFollow_43 : decode cX9_canFollow 43 = .ok (.getfield 30, 3) := by decide +kernel
theorem dX9_canFollow_46 : decode cX9_canFollow 46 = .ok (.iload_n 2, 1) := by decide +kernel
theorem dX9_canFollow_47 : decode cX9_canFollow 47 = .ok (.invokevirtual 71, 3) := by decide +kernel
theorem dX9_canFollow_50 : decode cX9_canFollow 50 = .ok (.if_icmp .ne 7, 3) := by decide +kernel
theorem dX9_canFollow_53 : decode cX9_canFollow 53 = .ok (.iconst 1, 1) := by decide +kernel
theorem dX9_canFollow_54 : decode cX9_canFollow 54 = .ok (.goto 4, 3) := by decide +kernel
theorem dX9_canFollow_57 : decode cX9_canFollow 57 = .ok (.iconst 0, 1) := by decide +kernel
theorem dX9_canFollow_58 : decode cX9_canFollow 58 = .ok (.ireturn, 1) := by decide +kernel
theorem dX10_init_0 : decode cX10_init 0 = .ok (.aload_n 0, 1) := by decide +kernel
theorem dX10_init_1 : decode cX10_init 1 = .ok (.invokespecial 1, 3) := by decide +kernel
theorem dX10_init_4 : decode cX10_init 4 = .ok (.aload_n 0, 1) := by decide +kernel
theorem dX10_init_5 : decode cX10_init 5 = .ok (.new 7, 3) := by decide +kernel
theorem dX10_init_8 : decode cX10_init 8 = .ok (.dup, 1) := by decide +kernel
theorem dX10_init_9 : decode cX10_init 9 = .ok (.invokespecial 9, 3) := by decide +kernel
theorem dX10_init_12 : decode cX10_init 12 = .ok (.putfield 10, 3) := by decide +kernel
theorem dX10_init_15 : decode cX10_init 15 = .ok (.aload_n 0, 1) := by decide +kernel
theorem dX10_init_16 : decode cX10_init 16 = .ok (.new 16, 3) := by decide +kernel
theorem dX10_init_19 : decode cX10_init 19 = .ok (.dup, 1) := by decide +kernel
theorem dX10_init_20 : decode cX10_init 20 = .ok (.invokespecial 18, 3) := by decide +kernel
theorem dX10_init_23 : decode cX10_init 23 = .ok (.putfield 19, 3) := by decide +kernel
theorem dX10_init_26 : decode cX10_init 26 = .ok (.aload_n 0, 1) := by decide +kernel
theorem dX10_init_27 : decode cX10_init 27 = .ok (.new 23, 3) := by decide +kernel
theorem dX10_init_30 : decode cX10_init 30 = .ok (.dup, 1) := by decide +kernel
theorem dX10_init_31 : decode cX10_init 31 = .ok (.invokespecial 25, 3) := by decide +kernel
theorem dX10_init_34 : decode cX10_init 34 = .ok (.putfield 26, 3) := by decide +kernel
theorem dX10_init_37 : decode cX10_init 37 = .ok (.aload_n 0, 1) := by decide +kernel
theorem dX10_init_38 : decode cX10_init 38 = .ok (.new 23, 3) := by decide +kernel
theorem dX10_init_41 : decode cX10_init 41 = .ok (.dup, 1) := by decide +kernel
theorem dX10_init_42 : decode cX10_init 42 = .ok (.invokespecial 25, 3) := by decide +kernel
theorem dX10_init_45 : decode cX10_init 45 = .ok (.putfield 30, 3) := by decide +kernel
theorem dX10_init_48 : decode cX10_init 48 = .ok (.aload_n 0, 1) := by decide +kernel
theorem dX10_init_49 : decode cX10_init 49 = .ok (.new 33, 3) := by decide +kernel
theorem dX10_init_52 : decode cX10_init 52 = .ok (.dup, 1) := by decide +kernel
theorem dX10_init_53 : decode cX10_init 53 = .ok (.bipush 6, 2) := by decide +kernel
theorem dX10_init_55 : decode cX10_init 55 = .ok (.invokespecial 35, 3) := by decide +kernel
theorem dX10_init_58 : decode cX10_init 58 = .ok (.putfield 38, 3) := by decide +kernel
theorem dX10_init_61 : decode cX10_init 61 = .ok (.aload_n 0, 1) := by decide +kernel
theorem dX10_init_62 : decode cX10_init 62 = .ok (.new 42, 3) := by decide +kernel
theorem dX10_init_65 : decode cX10_init 65 = .ok (.dup, 1) := by decide +kernel
theorem dX10_init_66 : decode cX10_init 66 = .ok (.invokespecial 44, 3) := by decide +kernel
theorem dX10_init_69 : decode cX10_init 69 = .ok (.putfield 45, 3) := by decide +kernel
theorem dX10_init_72 : decode cX10_init 72 = .ok (.aload_n 0, 1) := by decide +kernel
theorem dX10_init_73 : decode cX10_init 73 = .ok (.new 49, 3) := by decide +kernel
theorem dX10_init_76 : decode cX10_init 76 = .ok (.dup, 1) := by decide +kernel
theorem dX10_init_77 : decode cX10_init 77 = .ok (.invokespecial 51, 3) := by decide +kernel
theorem dX10_init_80 : decode cX10_init 80 = .ok (.putfield 52, 3) := by decide +kernel
theorem dX10_init_83 : decode cX10_init 83 = .ok (.aload_n 0, 1) := by decide +kernel
theorem dX10_init_84 : decode cX10_init 84 = .ok (.new 56, 3) := by decide +kernel
theorem dX10_init_87 : decode cX10_init 87 = .ok (.dup, 1) := by decide +kernel
theorem dX10_init_88 : decode cX10_init 88 = .ok (.invokespecial 58, 3) := by decide +kernel
theorem dX10_init_91 : decode cX10_init 91 = .ok (.putfield 59, 3) := by decide +kernel
theorem dX10_init_94 : decode cX10_init 94 = .ok (.aload_n 0, 1) := by decide +kernel
theorem dX10_init_95 : decode cX10_init 95 = .ok (.new 63, 3) := by decide +kernel
theorem dX10_init_98 : decode cX10_init 98 = .ok (.dup, 1) := by decide +kernel
theorem dX10_init_99 : decode cX10_init 99 = .ok (.invokespecial 65, 3) := by decide +kernel
theorem dX10_init_102 : decode cX10_init 102 = .ok (.putfield 66, 3) := by decide +kernel
theorem dX10_init_105 : decode cX10_init 105 = .ok (.return_, 1) := by decide +kernel
theorem dX10_say_0 : decode cX10_say 0 = .ok (.iload_n 1, 1) := by decide +kernel
theorem dX10_say_1 : decode cX10_say 1 = .ok (.bipush 33, 2) := by decide +kernel
theorem dX10_say_3 : decode cX10_say 3 = .ok (.bipush 126, 2) := by decide +kernel
theorem dX10_say_5 : decode cX10_say 5 = .ok (.invokestatic 70, 3) := by decide +kernel
theorem dX10_say_8 : decode cX10_say 8 = .ok (.ifCond .ne 6, 3) := by decide +kernel
theorem dX10_say_11 : decode cX10_say 11 = .ok (.bipush (-2), 2) := by decide +kernel
theorem dX10_say_13 : decode cX10_say 13 = .ok (.ireturn, 1) := by decide +kernel
theorem dX10_say_14 : decode cX10_say 14 = .ok (.aload_n 0, 1) := by decide +kernel
theorem dX10_say_15 : decode cX10_say 15 = .ok (.getfield 19, 3) := by decide +kernel
theorem dX10_say_18 : decode cX10_say 18 = .ok (.invokevirtual 74, 3) := by decide +kernel
theorem dX10_say_21 : decode cX10_say 21 = .ok (.bipush 14, 2) := by decide +kernel
theorem dX10_say_23 : decode cX10_say 23 = .ok (.if_icmp .ge 14, 3) := by decide +kernel
theorem dX10_say_26 : decode cX10_say 26 = .ok (.aload_n 0, 1) := by decide +kernel
theorem dX10_say_27 : decode cX10_say 27 = .ok (.getfield 19, 3) := by decide +kernel
theorem dX10_say_30 : decode cX10_say 30 = .ok (.iload_n 1, 1) := by decide +kernel
theorem dX10_say_31 : decode cX10_say 31 = .ok (.invokevirtual 78, 3) := by decide +kernel
theorem dX10_say_34 : decode cX10_say 34 = .ok (.goto 5, 3) := by decide +kernel
theorem dX10_say_37 : decode cX10_say 37 = .ok (.bipush (-4), 2) := by decide +kernel
theorem dX10_say_39 : decode cX10_say 39 = .ok (.ireturn, 1) := by decide +kernel
theorem dX10_wipe_0 : decode cX10_wipe 0 = .ok (.aload_n 0, 1) := by decide +kernel
theorem dX10_wipe_1 : decode cX10_wipe 1 = .ok (.getfield 19, 3) := by decide +kernel
theorem dX10_wipe_4 : decode cX10_wipe 4 = .ok (.invokevirtual 82, 3) := by decide +kernel
theorem dX10_wipe_7 : decode cX10_wipe 7 = .ok (.ireturn, 1) := by decide +kernel
theorem dX10_fault_0 : decode cX10_fault 0 = .ok (.iload_n 1, 1) := by decide +kernel
theorem dX10_fault_1 : decode cX10_fault 1 = .ok (.iconst 0, 1) := by decide +kernel
theorem dX10_fault_2 : decode cX10_fault 2 = .ok (.iconst 3, 1) := by decide +kernel
theorem dX10_fault_3 : decode cX10_fault 3 = .ok (.invokestatic 70, 3) := by decide +kernel
theorem dX10_fault_6 : decode cX10_fault 6 = .ok (.ifCond .eq 11, 3) := by decide +kernel
theorem dX10_fault_9 : decode cX10_fault 9 = .ok (.aload_n 0, 1) := by decide +kernel
theorem dX10_fault_10 : decode cX10_fault 10 = .ok (.iload_n 1, 1) := by decide +kernel
theorem dX10_fault_11 : decode cX10_fault 11 = .ok (.invokevirtual 85, 3) := by decide +kernel
theorem dX10_fault_14 : decode cX10_fault 14 = .ok (.goto 5, 3) := by decide +kernel
theorem dX10_fault_17 : decode cX10_fault 17 = .ok (.bipush (-2), 2) := by decide +kernel
theorem dX10_fault_19 : decode cX10_fault 19 = .ok (.ireturn, 1) := by decide +kernel
theorem dX10_word_0 : decode cX10_word 0 = .ok (.iload_n 1, 1) := by decide +kernel
theorem dX10_word_1 : decode cX10_word 1 = .ok (.invokestatic 88, 3) := by decide +kernel
theorem dX10_word_4 : decode cX10_word 4 = .ok (.ifCond .ne 5, 3) := by decide +kernel
theorem dX10_word_7 : decode cX10_word 7 = .ok (.iconst (-1), 1) := by decide +kernel
theorem dX10_word_8 : decode cX10_word 8 = .ok (.ireturn, 1) := by decide +kernel
theorem dX10_word_9 : decode cX10_word 9 = .ok (.aload_n 0, 1) := by decide +kernel
theorem dX10_word_10 : decode cX10_word 10 = .ok (.iconst 0, 1) := by decide +kernel
theorem dX10_word_11 : decode cX10_word 11 = .ok (.invokevirtual 85, 3) := by decide +kernel
theorem dX10_word_14 : decode cX10_word 14 = .ok (.bipush (-6), 2) := by decide +kernel
theorem dX10_word_16 : decode cX10_word 16 = .ok (.if_icmp .eq 6, 3) := by decide +kernel
theorem dX10_word_19 : decode cX10_word 19 = .ok (.bipush (-5), 2) := by decide +kernel
theorem dX10_word_21 : decode cX10_word 21 = .ok (.ireturn, 1) := by decide +kernel
theorem dX10_word_22 : decode cX10_word 22 = .ok (.aload_n 0, 1) := by decide +kernel
theorem dX10_word_23 : decode cX10_word 23 = .ok (.getfield 10, 3) := by decide +kernel
theorem dX10_word_26 : decode cX10_word 26 = .ok (.iload_n 1, 1) := by decide +kernel
theorem dX10_word_27 : decode cX10_word 27 = .ok (.aload_n 0, 1) := by decide +kernel
theorem dX10_word_28 : decode cX10_word 28 = .ok (.getfield 19, 3) := by decide +kernel
theorem dX10_word_31 : decode cX10_word 31 = .ok (.invokevirtual 92, 3) := by decide +kernel
theorem dX10_word_34 : decode cX10_word 34 = .ok (.aload_n 0, 1) := by decide +kernel
theorem dX10_word_35 : decode cX10_word 35 = .ok (.getfield 19, 3) := by decide +kernel
theorem dX10_word_38 : decode cX10_word 38 = .ok (.invokevirtual 82, 3) := by decide +kernel
theorem dX10_word_41 : decode cX10_word 41 = .ok (.ireturn, 1) := by decide +kernel
theorem dX10_sheet_0 : decode cX10_sheet 0 = .ok (.iload_n 1, 1) := by decide +kernel
theorem dX10_sheet_1 : decode cX10_sheet 1 = .ok (.invokestatic 96, 3) := by decide +kernel
theorem dX10_sheet_4 : decode cX10_sheet 4 = .ok (.ifCond .ne 5, 3) := by decide +kernel
theorem dX10_sheet_7 : decode cX10_sheet 7 = .ok (.iconst (-1), 1) := by decide +kernel
theorem dX10_sheet_8 : decode cX10_sheet 8 = .ok (.ireturn, 1) := by decide +kernel
theorem dX10_sheet_9 : decode cX10_sheet 9 = .ok (.aload_n 0, 1) := by decide +kernel
theorem dX10_sheet_10 : decode cX10_sheet 10 = .ok (.iconst 1, 1) := by decide +kernel
theorem dX10_sheet_11 : decode cX10_sheet 11 = .ok (.invokevirtual 85, 3) := by decide +kernel
theorem dX10_sheet_14 : decode cX10_sheet 14 = .ok (.bipush (-6), 2) := by decide +kernel
theorem dX10_sheet_16 : decode cX10_sheet 16 = .ok (.if_icmp .eq 6, 3) := by decide +kernel
theorem dX10_sheet_19 : decode cX10_sheet 19 = .ok (.bipush (-5), 2) := by decide +kernel
theorem dX10_sheet_21 : decode cX10_sheet 21 = .ok (.ireturn, 1) := by decide +kernel
theorem dX10_sheet_22 : decode cX10_sheet 22 = .ok (.aload_n 0, 1) := by decide +kernel
theorem dX10_sheet_23 : decode cX10_sheet 23 = .ok (.getfield 10, 3) := by decide +kernel
theorem dX10_sheet_26 : decode cX10_sheet 26 = .ok (.iload_n 1, 1) := by decide +kernel
theorem dX10_sheet_27 : decode cX10_sheet 27 = .ok (.aload_n 0, 1) := by decide +kernel
theorem dX10_sheet_28 : decode cX10_sheet 28 = .ok (.getfield 19, 3) := by decide +kernel
theorem dX10_sheet_31 : decode cX10_sheet 31 = .ok (.invokevirtual 99, 3) := by decide +kernel
theorem dX10_sheet_34 : decode cX10_sheet 34 = .ok (.aload_n 0, 1) := by decide +kernel
theorem dX10_sheet_35 : decode cX10_sheet 35 = .ok (.getfield 19, 3) := by decide +kernel
theorem dX10_sheet_38 : decode cX10_sheet 38 = .ok (.invokevirtual 82, 3) := by decide +kernel
theorem dX10_sheet_41 : decode cX10_sheet 41 = .ok (.ireturn, 1) := by decide +kernel
theorem dX10_take_0 : decode cX10_take 0 = .ok (.iload_n 1, 1) := by decide +kernel
theorem dX10_take_1 : decode cX10_take 1 = .ok (.invokestatic 96, 3) := by decide +kernel
theorem dX10_take_4 : decode cX10_take 4 = .ok (.ifCond .eq 18, 3) := by decide +kernel
theorem dX10_take_7 : decode cX10_take 7 = .ok (.aload_n 0, 1) := by decide +kernel
theorem dX10_take_8 : decode cX10_take 8 = .ok (.getfield 10, 3) := by decide +kernel
theorem dX10_take_11 : decode cX10_take 11 = .ok (.getfield 102, 3) := by decide +kernel
theorem dX10_take_14 : decode cX10_take 14 = .ok (.iload_n 1, 1) := by decide +kernel
theorem dX10_take_15 : decode cX10_take 15 = .ok (.iconst 0, 1) := by decide +kernel
theorem dX10_take_16 : decode cX10_take 16 = .ok (.invokevirtual 106, 3) := by decide +kernel
theorem dX10_take_19 : decode cX10_take 19 = .ok (.goto 4, 3) := by decide +kernel
theorem dX10_take_22 : decode cX10_take 22 = .ok (.iconst (-1), 1) := by decide +kernel
theorem dX10_take_23 : decode cX10_take 23 = .ok (.ireturn, 1) := by decide +kernel
theorem dX10_stand_0 : decode cX10_stand 0 = .ok (.iload_n 1, 1) := by decide +kernel
theorem dX10_stand_1 : decode cX10_stand 1 = .ok (.invokestatic 88, 3) := by decide +kernel
theorem dX10_stand_4 : decode cX10_stand 4 = .ok (.ifCond .ne 5, 3) := by decide +kernel
theorem dX10_stand_7 : decode cX10_stand 7 = .ok (.iconst (-1), 1) := by decide +kernel
theorem dX10_stand_8 : decode cX10_stand 8 = .ok (.ireturn, 1) := by decide +kernel
theorem dX10_stand_9 : decode cX10_stand 9 = .ok (.iload_n 2, 1) := by decide +kernel
theorem dX10_stand_10 : decode cX10_stand 10 = .ok (.iconst (-1), 1) := by decide +kernel
theorem dX10_stand_11 : decode cX10_stand 11 = .ok (.bipush 9, 2) := by decide +kernel
theorem dX10_stand_13 : decode cX10_stand 13 = .ok (.invokestatic 70, 3) := by decide +kernel
theorem dX10_stand_16 : decode cX10_stand 16 = .ok (.ifCond .eq 8, 3) := by decide +kernel
theorem dX10_stand_19 : decode cX10_stand 19 = .ok (.iload_n 2, 1) := by decide +kernel
theorem dX10_stand_20 : decode cX10_stand 20 = .ok (.iload_n 1, 1) := by decide +kernel
theorem dX10_stand_21 : decode cX10_stand 21 = .ok (.if_icmp .ne 6, 3) := by decide +kernel
theorem dX10_stand_24 : decode cX10_stand 24 = .ok (.bipush (-2), 2) := by decide +kernel
theorem dX10_stand_26 : decode cX10_stand 26 = .ok (.ireturn, 1) := by decide +kernel
theorem dX10_stand_27 : decode cX10_stand 27 = .ok (.aload_n 0, 1) := by decide +kernel
theorem dX10_stand_28 : decode cX10_stand 28 = .ok (.getfield 10, 3) := by decide +kernel
theorem dX10_stand_31 : decode cX10_stand 31 = .ok (.getfield 112, 3) := by decide +kernel
theorem dX10_stand_34 : decode cX10_stand 34 = .ok (.iload_n 1, 1) := by decide +kernel
theorem dX10_stand_35 : decode cX10_stand 35 = .ok (.iload_n 2, 1) := by decide +kernel
theorem dX10_stand_36 : decode cX10_stand 36 = .ok (.ifCond .ge 8, 3) := by decide +kernel
theorem dX10_stand_39 : decode cX10_stand 39 = .ok (.bipush (-6), 2) := by decide +kernel
theorem dX10_stand_41 : decode cX10_stand 41 = .ok (.goto 4, 3) := by decide +kernel
theorem dX10_stand_44 : decode cX10_stand 44 = .ok (.iload_n 2, 1) := by decide +kernel
theorem dX10_stand_45 : decode cX10_stand 45 = .ok (.invokevirtual 106, 3) := by decide +kernel
theorem dX10_stand_48 : decode cX10_stand 48 = .ok (.ireturn, 1) := by decide +kernel
theorem dX10_lay_0 : decode cX10_lay 0 = .ok (.iload_n 1, 1) := by decide +kernel
theorem dX10_lay_1 : decode cX10_lay 1 = .ok (.invokestatic 115, 3) := by decide +kernel
theorem dX10_lay_4 : decode cX10_lay 4 = .ok (.ifCond .ne 5, 3) := by decide +kernel
theorem dX10_lay_7 : decode cX10_lay 7 = .ok (.iconst (-1), 1) := by decide +kernel
theorem dX10_lay_8 : decode cX10_lay 8 = .ok (.ireturn, 1) := by decide +kernel
theorem dX10_lay_9 : decode cX10_lay 9 = .ok (.iload_n 2, 1) := by decide +kernel
theorem dX10_lay_10 : decode cX10_lay 10 = .ok (.iconst 0, 1) := by decide +kernel
theorem dX10_lay_11 : decode cX10_lay 11 = .ok (.bipush 99, 2) := by decide +kernel
theorem dX10_lay_13 : decode cX10_lay 13 = .ok (.invokestatic 70, 3) := by decide +kernel
theorem dX10_lay_16 : decode cX10_lay 16 = .ok (.ifCond .eq 18, 3) := by decide +kernel
theorem dX10_lay_19 : decode cX10_lay 19 = .ok (.aload_n 0, 1) := by decide +kernel
theorem dX10_lay_20 : decode cX10_lay 20 = .ok (.getfield 10, 3) := by decide +kernel
theorem dX10_lay_23 : decode cX10_lay 23 = .ok (.getfield 118, 3) := by decide +kernel
theorem dX10_lay_26 : decode cX10_lay 26 = .ok (.iload_n 1, 1) := by decide +kernel
theorem dX10_lay_27 : decode cX10_lay 27 = .ok (.iload_n 2, 1) := by decide +kernel
theorem dX10_lay_28 : decode cX10_lay 28 = .ok (.invokevirtual 106, 3) := by decide +kernel
theorem dX10_lay_31 : decode cX10_lay 31 = .ok (.goto 5, 3) := by decide +kernel
theorem dX10_lay_34 : decode cX10_lay 34 = .ok (.bipush (-2), 2) := by decide +kernel
theorem dX10_lay_36 : decode cX10_lay 36 = .ok (.ireturn, 1) := by decide +kernel
theorem dX10_set_0 : decode cX10_set 0 = .ok (.iload_n 1, 1) := by decide +kernel
theorem dX10_set_1 : decode cX10_set 1 = .ok (.ifCond .ne 30, 3) := by decide +kernel
theorem dX10_set_4 : decode cX10_set 4 = .ok (.iload_n 2, 1) := by decide +kernel
theorem dX10_set_5 : decode cX10_set 5 = .ok (.iconst 0, 1) := by decide +kernel
theorem dX10_set_6 : decode cX10_set 6 = .ok (.iconst 3, 1) := by decide +kernel
theorem dX10_set_7 : decode cX10_set 7 = .ok (.invokestatic 70, 3) := by decide +kernel
theorem dX10_set_10 : decode cX10_set 10 = .ok (.ifCond .eq 18, 3) := by decide +kernel
theorem dX10_set_13 : decode cX10_set 13 = .ok (.aload_n 0, 1) := by decide +kernel
theorem dX10_set_14 : decode cX10_set 14 = .ok (.getfield 10, 3) := by decide +kernel
theorem dX10_set_17 : decode cX10_set 17 = .ok (.getfield 121, 3) := by decide +kernel
theorem dX10_set_20 : decode cX10_set 20 = .ok (.iload_n 1, 1) := by decide +kernel
theorem dX10_set_21 : decode cX10_set 21 = .ok (.iload_n 2, 1) := by decide +kernel
theorem dX10_set_22 : decode cX10_set 22 = .ok (.invokevirtual 106, 3) := by decide +kernel
theorem dX10_set_25 : decode cX10_set 25 = .ok (.goto 5, 3) := by decide +kernel
theorem dX10_set_28 : decode cX10_set 28 = .ok (.bipush (-2), 2) := by decide +kernel
theorem dX10_set_30 : decode cX10_set 30 = .ok (.ireturn, 1) := by decide +kernel
theorem dX10_set_31 : decode cX10_set 31 = .ok (.iload_n 1, 1) := by decide +kernel
theorem dX10_set_32 : decode cX10_set 32 = .ok (.iconst 1, 1) := by decide +kernel
theorem dX10_set_33 : decode cX10_set 33 = .ok (.if_icmp .eq 10, 3) := by decide +kernel
theorem dX10_set_36 : decode cX10_set 36 = .ok (.iload_n 1, 1) := by decide +kernel
theorem dX10_set_37 : decode cX10_set 37 = .ok (.invokestatic 124, 3) := by decide +kernel
theorem dX10_set_40 : decode cX10_set 40 = .ok (.ifCond .eq 31, 3) := by decide +kernel
theorem dX10_set_43 : decode cX10_set 43 = .ok (.iload_n 2, 1) := by decide +kernel
theorem dX10_set_44 : decode cX10_set 44 = .ok (.iconst 0, 1) := by decide +kernel
theorem dX10_set_45 : decode cX10_set 45 = .ok (.bipush 99, 2) := by decide +kernel
theorem dX10_set_47 : decode cX10_set 47 = .ok (.invokestatic 70, 3) := by decide +kernel
theorem dX10_set_50 : decode cX10_set 50 = .ok (.ifCond .eq 18, 3) := by decide +kernel
theorem dX10_set_53 : decode cX10_set 53 = .ok (.aload_n 0, 1) := by decide +kernel
theorem dX10_set_54 : decode cX10_set 54 = .ok (.getfield 10, 3) := by decide +kernel
theorem dX10_set_57 : decode cX10_set 57 = .ok (.getfield 121, 3) := by decide +kernel
theorem dX10_set_60 : decode cX10_set 60 = .ok (.iload_n 1, 1) := by decide +kernel
theorem dX10_set_61 : decode cX10_set 61 = .ok (.iload_n 2, 1) := by decide +kernel
theorem dX10_set_62 : decode cX10_set 62 = .ok (.invokevirtual 106, 3) := by decide +kernel
theorem dX10_set_65 : decode cX10_set 65 = .ok (.goto 5, 3) := by decide +kernel
theorem dX10_set_68 : decode cX10_set 68 = .ok (.bipush (-2), 2) := by decide +kernel
theorem dX10_set_70 : decode cX10_set 70 = .ok (.ireturn, 1) := by decide +kernel
theorem dX10_set_71 : decode cX10_set 71 = .ok (.bipush (-2), 2) := by decide +kernel
theorem dX10_set_73 : decode cX10_set 73 = .ok (.ireturn, 1) := by decide +kernel
theorem dX10_needs_0 : decode cX10_needs 0 = .ok (.iload_n 1, 1) := by decide +kernel
theorem dX10_needs_1 : decode cX10_needs 1 = .ok (.invokestatic 96, 3) := by decide +kernel
theorem dX10_needs_4 : decode cX10_needs 4 = .ok (.ifCond .eq 10, 3) := by decide +kernel
theorem dX10_needs_7 : decode cX10_needs 7 = .ok (.iload_n 2, 1) := by decide +kernel
theorem dX10_needs_8 : decode cX10_needs 8 = .ok (.invokestatic 127, 3) := by decide +kernel
theorem dX10_needs_11 : decode cX10_needs 11 = .ok (.ifCond .ne 5, 3) := by decide +kernel
theorem dX10_needs_14 : decode cX10_needs 14 = .ok (.iconst (-1), 1) := by decide +kernel
theorem dX10_needs_15 : decode cX10_needs 15 = .ok (.ireturn, 1) := by decide +kernel
theorem dX10_needs_16 : decode cX10_needs 16 = .ok (.aload_n 0, 1) := by decide +kernel
theorem dX10_needs_17 : decode cX10_needs 17 = .ok (.getfield 38, 3) := by decide +kernel
theorem dX10_needs_20 : decode cX10_needs 20 = .ok (.iload_n 1, 1) := by decide +kernel
theorem dX10_needs_21 : decode cX10_needs 21 = .ok (.aload_n 0, 1) := by decide +kernel
theorem dX10_needs_22 : decode cX10_needs 22 = .ok (.getfield 10, 3) := by decide +kernel
theorem dX10_needs_25 : decode cX10_needs 25 = .ok (.iload_n 1, 1) := by decide +kernel
theorem dX10_needs_26 : decode cX10_needs 26 = .ok (.iconst 0, 1) := by decide +kernel
theorem dX10_needs_27 : decode cX10_needs 27 = .ok (.invokevirtual 130, 3) := by decide +kernel
theorem dX10_needs_30 : decode cX10_needs 30 = .ok (.iload_n 2, 1) := by decide +kernel
theorem dX10_needs_31 : decode cX10_needs 31 = .ok (.ifCond .ge 14, 3) := by decide +kernel
theorem dX10_needs_34 : decode cX10_needs 34 = .ok (.aload_n 0, 1) := by decide +kernel
theorem dX10_needs_35 : decode cX10_needs 35 = .ok (.getfield 38, 3) := by decide +kernel
theorem dX10_needs_38 : decode cX10_needs 38 = .ok (.iload_n 1, 1) := by decide +kernel
theorem dX10_needs_39 : decode cX10_needs 39 = .ok (.invokevirtual 134, 3) := by decide +kernel
theorem dX10_needs_42 : decode cX10_needs 42 = .ok (.goto 12, 3) := by decide +kernel
theorem dX10_needs_45 : decode cX10_needs 45 = .ok (.aload_n 0, 1) := by decide +kernel
theorem dX10_needs_46 : decode cX10_needs 46 = .ok (.getfield 38, 3) := by decide +kernel
theorem dX10_needs_49 : decode cX10_needs 49 = .ok (.iload_n 1, 1) := by decide +kernel
theorem dX10_needs_50 : decode cX10_needs 50 = .ok (.iload_n 2, 1) := by decide +kernel
theorem dX10_needs_51 : decode cX10_needs 51 = .ok (.invokevirtual 137, 3) := by decide +kernel
theorem dX10_needs_54 : decode cX10_needs 54 = .ok (.ireturn, 1) := by decide +kernel
theorem dX10_judge_0 : decode cX10_judge 0 = .ok (.iload_n 1, 1) := by decide +kernel
theorem dX10_judge_1 : decode cX10_judge 1 = .ok (.iconst 0, 1) := by decide +kernel
theorem dX10_judge_2 : decode cX10_judge 2 = .ok (.iconst 2, 1) := by decide +kernel
theorem dX10_judge_3 : decode cX10_judge 3 = .ok (.invokestatic 70, 3) := by decide +kernel
theorem dX10_judge_6 : decode cX10_judge 6 = .ok (.ifCond .ne 6, 3) := by decide +kernel
theorem dX10_judge_9 : decode cX10_judge 9 = .ok (.bipush (-2), 2) := by decide +kernel
theorem dX10_judge_11 : decode cX10_judge 11 = .ok (.ireturn, 1) := by decide +kernel
theorem dX10_judge_12 : decode cX10_judge 12 = .ok (.aload_n 0, 1) := by decide +kernel
theorem dX10_judge_13 : decode cX10_judge 13 = .ok (.iconst 2, 1) := by decide +kernel
theorem dX10_judge_14 : decode cX10_judge 14 = .ok (.invokevirtual 85, 3) := by decide +kernel
theorem dX10_judge_17 : decode cX10_judge 17 = .ok (.bipush (-6), 2) := by decide +kernel
theorem dX10_judge_19 : decode cX10_judge 19 = .ok (.if_icmp .eq 6, 3) := by decide +kernel
theorem dX10_judge_22 : decode cX10_judge 22 = .ok (.bipush (-5), 2) := by decide +kernel
theorem dX10_judge_24 : decode cX10_judge 24 = .ok (.ireturn, 1) := by decide +kernel
theorem dX10_judge_25 : decode cX10_judge 25 = .ok (.aload_n 0, 1) := by decide +kernel
theorem dX10_judge_26 : decode cX10_judge 26 = .ok (.getfield 52, 3) := by decide +kernel
theorem dX10_judge_29 : decode cX10_judge 29 = .ok (.aload_n 0, 1) := by decide +kernel
theorem dX10_judge_30 : decode cX10_judge 30 = .ok (.getfield 10, 3) := by decide +kernel
theorem dX10_judge_33 : decode cX10_judge 33 = .ok (.aload_n 0, 1) := by decide +kernel
theorem dX10_judge_34 : decode cX10_judge 34 = .ok (.getfield 19, 3) := by decide +kernel
theorem dX10_judge_37 : decode cX10_judge 37 = .ok (.invokevirtual 140, 3) := by decide +kernel
theorem dX10_judge_40 : decode cX10_judge 40 = .ok (.aload_n 0, 1) := by decide +kernel
theorem dX10_judge_41 : decode cX10_judge 41 = .ok (.getfield 52, 3) := by decide +kernel
theorem dX10_judge_44 : decode cX10_judge 44 = .ok (.iload_n 1, 1) := by decide +kernel
theorem dX10_judge_45 : decode cX10_judge 45 = .ok (.invokevirtual 144, 3) := by decide +kernel
theorem dX10_judge_48 : decode cX10_judge 48 = .ok (.ireturn, 1) := by decide +kernel
theorem dX10_orders_0 : decode cX10_orders 0 = .ok (.aload_n 0, 1) := by decide +kernel
theorem dX10_orders_1 : decode cX10_orders 1 = .ok (.getfield 45, 3) := by decide +kernel
theorem dX10_orders_4 : decode cX10_orders 4 = .ok (.aload_n 0, 1) := by decide +kernel
theorem dX10_orders_5 : decode cX10_orders 5 = .ok (.getfield 10, 3) := by decide +kernel
theorem dX10_orders_8 : decode cX10_orders 8 = .ok (.invokevirtual 147, 3) := by decide +kernel
theorem dX10_orders_11 : decode cX10_orders 11 = .ok (.aload_n 0, 1) := by decide +kernel
theorem dX10_orders_12 : decode cX10_orders 12 = .ok (.getfield 45, 3) := by decide +kernel
theorem dX10_orders_15 : decode cX10_orders 15 = .ok (.invokevirtual 150, 3) := by decide +kernel
theorem dX10_orders_18 : decode cX10_orders 18 = .ok (.aload_n 0, 1) := by decide +kernel
theorem dX10_orders_19 : decode cX10_orders 19 = .ok (.getfield 45, 3) := by decide +kernel
theorem dX10_orders_22 : decode cX10_orders 22 = .ok (.bipush (-6), 2) := by decide +kernel
theorem dX10_orders_24 : decode cX10_orders 24 = .ok (.bipush (-6), 2) := by decide +kernel
theorem dX10_orders_26 : decode cX10_orders 26 = .ok (.invokevirtual 153, 3) := by decide +kernel
theorem dX10_orders_29 : decode cX10_orders 29 = .ok (.ireturn, 1) := by decide +kernel
theorem dX10_first_0 : decode cX10_first 0 = .ok (.aload_n 0, 1) := by decide +kernel
theorem dX10_first_1 : decode cX10_first 1 = .ok (.getfield 45, 3) := by decide +kernel
theorem dX10_first_4 : decode cX10_first 4 = .ok (.aload_n 0, 1) := by decide +kernel
theorem dX10_first_5 : decode cX10_first 5 = .ok (.getfield 10, 3) := by decide +kernel
theorem dX10_first_8 : decode cX10_first 8 = .ok (.invokevirtual 147, 3) := by decide +kernel
theorem dX10_first_11 : decode cX10_first 11 = .ok (.aload_n 0, 1) := by decide +kernel
theorem dX10_first_12 : decode cX10_first 12 = .ok (.getfield 45, 3) := by decide +kernel
theorem dX10_first_15 : decode cX10_first 15 = .ok (.invokevirtual 150, 3) := by decide +kernel
theorem dX10_first_18 : decode cX10_first 18 = .ok (.aload_n 0, 1) := by decide +kernel
theorem dX10_first_19 : decode cX10_first 19 = .ok (.getfield 45, 3) := by decide +kernel
theorem dX10_first_22 : decode cX10_first 22 = .ok (.bipush (-6), 2) := by decide +kernel
theorem dX10_first_24 : decode cX10_first 24 = .ok (.bipush (-6), 2) := by decide +kernel
theorem dX10_first_26 : decode cX10_first 26 = .ok (.invokevirtual 153, 3) := by decide +kernel
theorem dX10_first_29 : decode cX10_first 29 = .ok (.pop, 1) := by decide +kernel
theorem dX10_first_30 : decode cX10_first 30 = .ok (.aload_n 0, 1) := by decide +kernel
theorem dX10_first_31 : decode cX10_first 31 = .ok (.getfield 45, 3) := by decide +kernel
theorem dX10_first_34 : decode cX10_first 34 = .ok (.iload_n 1, 1) := by decide +kernel
theorem dX10_first_35 : decode cX10_first 35 = .ok (.invokevirtual 155, 3) := by decide +kernel
theorem dX10_first_38 : decode cX10_first 38 = .ok (.ireturn, 1) := by decide +kernel
theorem dX10_most_0 : decode cX10_most 0 = .ok (.iload_n 1, 1) := by decide +kernel
theorem dX10_most_1 : decode cX10_most 1 = .ok (.iconst 0, 1) := by decide +kernel
theorem dX10_most_2 : decode cX10_most 2 = .ok (.iconst 1, 1) := by decide +kernel
theorem dX10_most_3 : decode cX10_most 3 = .ok (.invokestatic 70, 3) := by decide +kernel
theorem dX10_most_6 : decode cX10_most 6 = .ok (.ifCond .ne 6, 3) := by decide +kernel
theorem dX10_most_9 : decode cX10_most 9 = .ok (.bipush (-2), 2) := by decide +kernel
theorem dX10_most_11 : decode cX10_most 11 = .ok (.ireturn, 1) := by decide +kernel
theorem dX10_most_12 : decode cX10_most 12 = .ok (.aload_n 0, 1) := by decide +kernel
theorem dX10_most_13 : decode cX10_most 13 = .ok (.getfield 45, 3) := by decide +kernel
theorem dX10_most_16 : decode cX10_most 16 = .ok (.aload_n 0, 1) := by decide +kernel
theorem dX10_most_17 : decode cX10_most 17 = .ok (.getfield 10, 3) := by decide +kernel
theorem dX10_most_20 : decode cX10_most 20 = .ok (.invokevirtual 147, 3) := by decide +kernel
theorem dX10_most_23 : decode cX10_most 23 = .ok (.aload_n 0, 1) := by decide +kernel
theorem dX10_most_24 : decode cX10_most 24 = .ok (.getfield 45, 3) := by decide +kernel
theorem dX10_most_27 : decode cX10_most 27 = .ok (.invokevirtual 150, 3) := by decide +kernel
theorem dX10_most_30 : decode cX10_most 30 = .ok (.aload_n 0, 1) := by decide +kernel
theorem dX10_most_31 : decode cX10_most 31 = .ok (.getfield 45, 3) := by decide +kernel
theorem dX10_most_34 : decode cX10_most 34 = .ok (.invokevirtual 158, 3) := by decide +kernel
theorem dX10_most_37 : decode cX10_most 37 = .ok (.istore_n 2, 1) := by decide +kernel
theorem dX10_most_38 : decode cX10_most 38 = .ok (.iload_n 1, 1) := by decide +kernel
theorem dX10_most_39 : decode cX10_most 39 = .ok (.ifCond .ne 10, 3) := by decide +kernel
theorem dX10_most_42 : decode cX10_most 42 = .ok (.iload_n 2, 1) := by decide +kernel
theorem dX10_most_43 : decode cX10_most 43 = .ok (.invokestatic 161, 3) := by decide +kernel
theorem dX10_most_46 : decode cX10_most 46 = .ok (.goto 4, 3) := by decide +kernel
theorem dX10_most_49 : decode cX10_most 49 = .ok (.iload_n 2, 1) := by decide +kernel
theorem dX10_most_50 : decode cX10_most 50 = .ok (.ireturn, 1) := by decide +kernel
theorem dX10_changes_0 : decode cX10_changes 0 = .ok (.aload_n 0, 1) := by decide +kernel
theorem dX10_changes_1 : decode cX10_changes 1 = .ok (.iconst 2, 1) := by decide +kernel
theorem dX10_changes_2 : decode cX10_changes 2 = .ok (.invokevirtual 85, 3) := by decide +kernel
theorem dX10_changes_5 : decode cX10_changes 5 = .ok (.bipush (-6), 2) := by decide +kernel
theorem dX10_changes_7 : decode cX10_changes 7 = .ok (.if_icmp .eq 6, 3) := by decide +kernel
theorem dX10_changes_10 : decode cX10_changes 10 = .ok (.bipush (-5), 2) := by decide +kernel
theorem dX10_changes_12 : decode cX10_changes 12 = .ok (.ireturn, 1) := by decide +kernel
theorem dX10_changes_13 : decode cX10_changes 13 = .ok (.iload_n 1, 1) := by decide +kernel
theorem dX10_changes_14 : decode cX10_changes 14 = .ok (.iconst (-1), 1) := by decide +kernel
theorem dX10_changes_15 : decode cX10_changes 15 = .ok (.aload_n 0, 1) := by decide +kernel
theorem dX10_changes_16 : decode cX10_changes 16 = .ok (.getfield 19, 3) := by decide +kernel
theorem dX10_changes_19 : decode cX10_changes 19 = .ok (.invokevirtual 74, 3) := by decide +kernel
theorem dX10_changes_22 : decode cX10_changes 22 = .ok (.iconst 1, 1) := by decide +kernel
theorem dX10_changes_23 : decode cX10_changes 23 = .ok (.isub, 1) := by decide +kernel
theorem dX10_changes_24 : decode cX10_changes 24 = .ok (.invokestatic 70, 3) := by decide +kernel
theorem dX10_changes_27 : decode cX10_changes 27 = .ok (.ifCond .ne 6, 3) := by decide +kernel
theorem dX10_changes_30 : decode cX10_changes 30 = .ok (.bipush (-6), 2) := by decide +kernel
theorem dX10_changes_32 : decode cX10_changes 32 = .ok (.ireturn, 1) := by decide +kernel
theorem dX10_changes_33 : decode cX10_changes 33 = .ok (.aload_n 0, 1) := by decide +kernel
theorem dX10_changes_34 : decode cX10_changes 34 = .ok (.getfield 59, 3) := by decide +kernel
theorem dX10_changes_37 : decode cX10_changes 37 = .ok (.aload_n 0, 1) := by decide +kernel
theorem dX10_changes_38 : decode cX10_changes 38 = .ok (.getfield 10, 3) := by decide +kernel
theorem dX10_changes_41 : decode cX10_changes 41 = .ok (.aload_n 0, 1) := by decide +kernel
theorem dX10_changes_42 : decode cX10_changes 42 = .ok (.getfield 19, 3) := by decide +kernel
theorem dX10_changes_45 : decode cX10_changes 45 = .ok (.invokevirtual 166, 3) := by decide +kernel
theorem dX10_changes_48 : decode cX10_changes 48 = .ok (.iload_n 1, 1) := by decide +kernel
theorem dX10_changes_49 : decode cX10_changes 49 = .ok (.ifCond .ge 13, 3) := by decide +kernel
theorem dX10_changes_52 : decode cX10_changes 52 = .ok (.aload_n 0, 1) := by decide +kernel
theorem dX10_changes_53 : decode cX10_changes 53 = .ok (.getfield 59, 3) := by decide +kernel
theorem dX10_changes_56 : decode cX10_changes 56 = .ok (.invokevirtual 167, 3) := by decide +kernel
theorem dX10_changes_59 : decode cX10_changes 59 = .ok (.goto 11, 3) := by decide +kernel
theorem dX10_changes_62 : decode cX10_changes 62 = .ok (.aload_n 0, 1) := by decide +kernel
theorem dX10_changes_63 : decode cX10_changes 63 = .ok (.getfield 59, 3) := by decide +kernel
theorem dX10_changes_66 : decode cX10_changes 66 = .ok (.iload_n 1, 1) := by decide +kernel
theorem dX10_changes_67 : decode cX10_changes 67 = .ok (.invokevirtual 170, 3) := by decide +kernel
theorem dX10_changes_70 : decode cX10_changes 70 = .ok (.ireturn, 1) := by decide +kernel
theorem dX10_loans_0 : decode cX10_loans 0 = .ok (.iload_n 1, 1) := by decide +kernel
theorem dX10_loans_1 : decode cX10_loans 1 = .ok (.invokestatic 127, 3) := by decide +kernel
theorem dX10_loans_4 : decode cX10_loans 4 = .ok (.ifCond .ne 5, 3) := by decide +kernel
theorem dX10_loans_7 : decode cX10_loans 7 = .ok (.iconst (-1), 1) := by decide +kernel
theorem dX10_loans_8 : decode cX10_loans 8 = .ok (.ireturn, 1) := by decide +kernel
theorem dX10_loans_9 : decode cX10_loans 9 = .ok (.aload_n 0, 1) := by decide +kernel
theorem dX10_loans_10 : decode cX10_loans 10 = .ok (.iconst 2, 1) := by decide +kernel
theorem dX10_loans_11 : decode cX10_loans 11 = .ok (.invokevirtual 85, 3) := by decide +kernel
theorem dX10_loans_14 : decode cX10_loans 14 = .ok (.bipush (-6), 2) := by decide +kernel
theorem dX10_loans_16 : decode cX10_loans 16 = .ok (.if_icmp .eq 6, 3) := by decide +kernel
theorem dX10_loans_19 : decode cX10_loans 19 = .ok (.bipush (-5), 2) := by decide +kernel
theorem dX10_loans_21 : decode cX10_loans 21 = .ok (.ireturn, 1) := by decide +kernel
theorem dX10_loans_22 : decode cX10_loans 22 = .ok (.aload_n 0, 1) := by decide +kernel
theorem dX10_loans_23 : decode cX10_loans 23 = .ok (.getfield 52, 3) := by decide +kernel
theorem dX10_loans_26 : decode cX10_loans 26 = .ok (.aload_n 0, 1) := by decide +kernel
theorem dX10_loans_27 : decode cX10_loans 27 = .ok (.getfield 10, 3) := by decide +kernel
theorem dX10_loans_30 : decode cX10_loans 30 = .ok (.aload_n 0, 1) := by decide +kernel
theorem dX10_loans_31 : decode cX10_loans 31 = .ok (.getfield 19, 3) := by decide +kernel
theorem dX10_loans_34 : decode cX10_loans 34 = .ok (.invokevirtual 140, 3) := by decide +kernel
theorem dX10_loans_37 : decode cX10_loans 37 = .ok (.iload_n 1, 1) := by decide +kernel
theorem dX10_loans_38 : decode cX10_loans 38 = .ok (.ifCond .ge 17, 3) := by decide +kernel
theorem dX10_loans_41 : decode cX10_loans 41 = .ok (.aload_n 0, 1) := by decide +kernel
theorem dX10_loans_42 : decode cX10_loans 42 = .ok (.getfield 52, 3) := by decide +kernel
theorem dX10_loans_45 : decode cX10_loans 45 = .ok (.aload_n 0, 1) := by decide +kernel
theorem dX10_loans_46 : decode cX10_loans 46 = .ok (.getfield 10, 3) := by decide +kernel
theorem dX10_loans_49 : decode cX10_loans 49 = .ok (.invokevirtual 173, 3) := by decide +kernel
theorem dX10_loans_52 : decode cX10_loans 52 = .ok (.goto 15, 3) := by decide +kernel
theorem dX10_loans_55 : decode cX10_loans 55 = .ok (.aload_n 0, 1) := by decide +kernel
theorem dX10_loans_56 : decode cX10_loans 56 = .ok (.getfield 52, 3) := by decide +kernel
theorem dX10_loans_59 : decode cX10_loans 59 = .ok (.aload_n 0, 1) := by decide +kernel
theorem dX10_loans_60 : decode cX10_loans 60 = .ok (.getfield 10, 3) := by decide +kernel
theorem dX10_loans_63 : decode cX10_loans 63 = .ok (.iload_n 1, 1) := by decide +kernel
theorem dX10_loans_64 : decode cX10_loans 64 = .ok (.invokevirtual 177, 3) := by decide +kernel
theorem dX10_loans_67 : decode cX10_loans 67 = .ok (.ireturn, 1) := by decide +kernel
theorem dX10_presses_0 : decode cX10_presses 0 = .ok (.aload_n 0, 1) := by decide +kernel
theorem dX10_presses_1 : decode cX10_presses 1 = .ok (.iconst 3, 1) := by decide +kernel
theorem dX10_presses_2 : decode cX10_presses 2 = .ok (.invokevirtual 85, 3) := by decide +kernel
theorem dX10_presses_5 : decode cX10_presses 5 = .ok (.bipush (-6), 2) := by decide +kernel
theorem dX10_presses_7 : decode cX10_presses 7 = .ok (.if_icmp .eq 6, 3) := by decide +kernel
theorem dX10_presses_10 : decode cX10_presses 10 = .ok (.bipush (-5), 2) := by decide +kernel
theorem dX10_presses_12 : decode cX10_presses 12 = .ok (.ireturn, 1) := by decide +kernel
theorem dX10_presses_13 : decode cX10_presses 13 = .ok (.aload_n 0, 1) := by decide +kernel
theorem dX10_presses_14 : decode cX10_presses 14 = .ok (.getfield 66, 3) := by decide +kernel
theorem dX10_presses_17 : decode cX10_presses 17 = .ok (.aload_n 0, 1) := by decide +kernel
theorem dX10_presses_18 : decode cX10_presses 18 = .ok (.getfield 10, 3) := by decide +kernel
theorem dX10_presses_21 : decode cX10_presses 21 = .ok (.aload_n 0, 1) := by decide +kernel
theorem dX10_presses_22 : decode cX10_presses 22 = .ok (.getfield 19, 3) := by decide +kernel
theorem dX10_presses_25 : decode cX10_presses 25 = .ok (.invokevirtual 181, 3) := by decide +kernel
theorem dX10_presses_28 : decode cX10_presses 28 = .ok (.aload_n 0, 1) := by decide +kernel
theorem dX10_presses_29 : decode cX10_presses 29 = .ok (.getfield 66, 3) := by decide +kernel
theorem dX10_presses_32 : decode cX10_presses 32 = .ok (.invokevirtual 182, 3) := by decide +kernel
theorem dX10_presses_35 : decode cX10_presses 35 = .ok (.ireturn, 1) := by decide +kernel
theorem dX10_melt_0 : decode cX10_melt 0 = .ok (.iload_n 1, 1) := by decide +kernel
theorem dX10_melt_1 : decode cX10_melt 1 = .ok (.invokestatic 127, 3) := by decide +kernel
theorem dX10_melt_4 : decode cX10_melt 4 = .ok (.ifCond .ne 5, 3) := by decide +kernel
theorem dX10_melt_7 : decode cX10_melt 7 = .ok (.iconst (-1), 1) := by decide +kernel
theorem dX10_melt_8 : decode cX10_melt 8 = .ok (.ireturn, 1) := by decide +kernel
theorem dX10_melt_9 : decode cX10_melt 9 = .ok (.aload_n 0, 1) := by decide +kernel
theorem dX10_melt_10 : decode cX10_melt 10 = .ok (.iconst 2, 1) := by decide +kernel
theorem dX10_melt_11 : decode cX10_melt 11 = .ok (.invokevirtual 85, 3) := by decide +kernel
theorem dX10_melt_14 : decode cX10_melt 14 = .ok (.bipush (-6), 2) := by decide +kernel
theorem dX10_melt_16 : decode cX10_melt 16 = .ok (.if_icmp .eq 6, 3) := by decide +kernel
theorem dX10_melt_19 : decode cX10_melt 19 = .ok (.bipush (-5), 2) := by decide +kernel
theorem dX10_melt_21 : decode cX10_melt 21 = .ok (.ireturn, 1) := by decide +kernel
theorem dX10_melt_22 : decode cX10_melt 22 = .ok (.aload_n 0, 1) := by decide +kernel
theorem dX10_melt_23 : decode cX10_melt 23 = .ok (.getfield 52, 3) := by decide +kernel
theorem dX10_melt_26 : decode cX10_melt 26 = .ok (.aload_n 0, 1) := by decide +kernel
theorem dX10_melt_27 : decode cX10_melt 27 = .ok (.getfield 10, 3) := by decide +kernel
theorem dX10_melt_30 : decode cX10_melt 30 = .ok (.aload_n 0, 1) := by decide +kernel
theorem dX10_melt_31 : decode cX10_melt 31 = .ok (.getfield 19, 3) := by decide +kernel
theorem dX10_melt_34 : decode cX10_melt 34 = .ok (.invokevirtual 140, 3) := by decide +kernel
theorem dX10_melt_37 : decode cX10_melt 37 = .ok (.aload_n 0, 1) := by decide +kernel
theorem dX10_melt_38 : decode cX10_melt 38 = .ok (.getfield 52, 3) := by decide +kernel
theorem dX10_melt_41 : decode cX10_melt 41 = .ok (.invokevirtual 185, 3) := by decide +kernel
theorem dX10_melt_44 : decode cX10_melt 44 = .ok (.istore_n 2, 1) := by decide +kernel
theorem dX10_melt_45 : decode cX10_melt 45 = .ok (.iload_n 1, 1) := by decide +kernel
theorem dX10_melt_46 : decode cX10_melt 46 = .ok (.ifCond .lt 9, 3) := by decide +kernel
theorem dX10_melt_49 : decode cX10_melt 49 = .ok (.iload_n 2, 1) := by decide +kernel
theorem dX10_melt_50 : decode cX10_melt 50 = .ok (.bipush (-6), 2) := by decide +kernel
theorem dX10_melt_52 : decode cX10_melt 52 = .ok (.if_icmp .ne 7, 3) := by decide +kernel
theorem dX10_melt_55 : decode cX10_melt 55 = .ok (.iload_n 2, 1) := by decide +kernel
theorem dX10_melt_56 : decode cX10_melt 56 = .ok (.goto 11, 3) := by decide +kernel
theorem dX10_melt_59 : decode cX10_melt 59 = .ok (.aload_n 0, 1) := by decide +kernel
theorem dX10_melt_60 : decode cX10_melt 60 = .ok (.getfield 52, 3) := by decide +kernel
theorem dX10_melt_63 : decode cX10_melt 63 = .ok (.iload_n 1, 1) := by decide +kernel
theorem dX10_melt_64 : decode cX10_melt 64 = .ok (.invokevirtual 188, 3) := by decide +kernel
theorem dX10_melt_67 : decode cX10_melt 67 = .ok (.ireturn, 1) := by decide +kernel
theorem dX10_seen_0 : decode cX10_seen 0 = .ok (.iload_n 1, 1) := by decide +kernel
theorem dX10_seen_1 : decode cX10_seen 1 = .ok (.invokestatic 96, 3) := by decide +kernel
theorem dX10_seen_4 : decode cX10_seen 4 = .ok (.ifCond .ne 5, 3) := by decide +kernel
theorem dX10_seen_7 : decode cX10_seen 7 = .ok (.iconst (-1), 1) := by decide +kernel
theorem dX10_seen_8 : decode cX10_seen 8 = .ok (.ireturn, 1) := by decide +kernel
theorem dX10_seen_9 : decode cX10_seen 9 = .ok (.iload_n 2, 1) := by decide +kernel
theorem dX10_seen_10 : decode cX10_seen 10 = .ok (.iconst (-1), 1) := by decide +kernel
theorem dX10_seen_11 : decode cX10_seen 11 = .ok (.bipush 30, 2) := by decide +kernel
theorem dX10_seen_13 : decode cX10_seen 13 = .ok (.invokestatic 70, 3) := by decide +kernel
theorem dX10_seen_16 : decode cX10_seen 16 = .ok (.ifCond .ne 6, 3) := by decide +kernel
theorem dX10_seen_19 : decode cX10_seen 19 = .ok (.bipush (-2), 2) := by decide +kernel
theorem dX10_seen_21 : decode cX10_seen 21 = .ok (.ireturn, 1) := by decide +kernel
theorem dX10_seen_22 : decode cX10_seen 22 = .ok (.aload_n 0, 1) := by decide +kernel
theorem dX10_seen_23 : decode cX10_seen 23 = .ok (.getfield 10, 3) := by decide +kernel
theorem dX10_seen_26 : decode cX10_seen 26 = .ok (.getfield 191, 3) := by decide +kernel
theorem dX10_seen_29 : decode cX10_seen 29 = .ok (.iload_n 1, 1) := by decide +kernel
theorem dX10_seen_30 : decode cX10_seen 30 = .ok (.iload_n 2, 1) := by decide +kernel
theorem dX10_seen_31 : decode cX10_seen 31 = .ok (.ifCond .ge 8, 3) := by decide +kernel
theorem dX10_seen_34 : decode cX10_seen 34 = .ok (.bipush (-6), 2) := by decide +kernel
theorem dX10_seen_36 : decode cX10_seen 36 = .ok (.goto 4, 3) := by decide +kernel
theorem dX10_seen_39 : decode cX10_seen 39 = .ok (.iload_n 2, 1) := by decide +kernel
theorem dX10_seen_40 : decode cX10_seen 40 = .ok (.invokevirtual 106, 3) := by decide +kernel
theorem dX10_seen_43 : decode cX10_seen 43 = .ok (.ireturn, 1) := by decide +kernel
theorem dX10_fits_0 : decode cX10_fits 0 = .ok (.aload_n 0, 1) := by decide +kernel
theorem dX10_fits_1 : decode cX10_fits 1 = .ok (.getfield 45, 3) := by decide +kernel
theorem dX10_fits_4 : decode cX10_fits 4 = .ok (.aload_n 0, 1) := by decide +kernel
theorem dX10_fits_5 : decode cX10_fits 5 = .ok (.getfield 10, 3) := by decide +kernel
theorem dX10_fits_8 : decode cX10_fits 8 = .ok (.invokevirtual 147, 3) := by decide +kernel
theorem dX10_fits_11 : decode cX10_fits 11 = .ok (.aload_n 0, 1) := by decide +kernel
theorem dX10_fits_12 : decode cX10_fits 12 = .ok (.getfield 45, 3) := by decide +kernel
theorem dX10_fits_15 : decode cX10_fits 15 = .ok (.aload_n 0, 1) := by decide +kernel
theorem dX10_fits_16 : decode cX10_fits 16 = .ok (.getfield 10, 3) := by decide +kernel
theorem dX10_fits_19 : decode cX10_fits 19 = .ok (.invokevirtual 194, 3) := by decide +kernel
theorem dX10_fits_22 : decode cX10_fits 22 = .ok (.aload_n 0, 1) := by decide +kernel
theorem dX10_fits_23 : decode cX10_fits 23 = .ok (.getfield 45, 3) := by decide +kernel
theorem dX10_fits_26 : decode cX10_fits 26 = .ok (.bipush (-6), 2) := by decide +kernel
theorem dX10_fits_28 : decode cX10_fits 28 = .ok (.bipush (-6), 2) := by decide +kernel
theorem dX10_fits_30 : decode cX10_fits 30 = .ok (.invokevirtual 153, 3) := by decide +kernel
theorem dX10_fits_33 : decode cX10_fits 33 = .ok (.ireturn, 1) := by decide +kernel
theorem dX10_ahead_0 : decode cX10_ahead 0 = .ok (.aload_n 0, 1) := by decide +kernel
theorem dX10_ahead_1 : decode cX10_ahead 1 = .ok (.iload_n 1, 1) := by decide +kernel
theorem dX10_ahead_2 : decode cX10_ahead 2 = .ok (.invokevirtual 197, 3) := by decide +kernel
theorem dX10_ahead_5 : decode cX10_ahead 5 = .ok (.ifCond .eq 16, 3) := by decide +kernel
theorem dX10_ahead_8 : decode cX10_ahead 8 = .ok (.aload_n 0, 1) := by decide +kernel
theorem dX10_ahead_9 : decode cX10_ahead 9 = .ok (.iload_n 2, 1) := by decide +kernel
theorem dX10_ahead_10 : decode cX10_ahead 10 = .ok (.invokevirtual 197, 3) := by decide +kernel
theorem dX10_ahead_13 : decode cX10_ahead 13 = .ok (.ifCond .eq 8, 3) := by decide +kernel
theorem dX10_ahead_16 : decode cX10_ahead 16 = .ok (.iload_n 1, 1) := by decide +kernel
theorem dX10_ahead_17 : decode cX10_ahead 17 = .ok (.iload_n 2, 1) := by decide +kernel
theorem dX10_ahead_18 : decode cX10_ahead 18 = .ok (.if_icmp .ne 5, 3) := by decide +kernel
theorem dX10_ahead_21 : decode cX10_ahead 21 = .ok (.iconst (-1), 1) := by decide +kernel
theorem dX10_ahead_22 : decode cX10_ahead 22 = .ok (.ireturn, 1) := by decide +kernel
theorem dX10_ahead_23 : decode cX10_ahead 23 = .ok (.aload_n 0, 1) := by decide +kernel
theorem dX10_ahead_24 : decode cX10_ahead 24 = .ok (.getfield 45, 3) := by decide +kernel
theorem dX10_ahead_27 : decode cX10_ahead 27 = .ok (.aload_n 0, 1) := by decide +kernel
theorem dX10_ahead_28 : decode cX10_ahead 28 = .ok (.getfield 10, 3) := by decide +kernel
theorem dX10_ahead_31 : decode cX10_ahead 31 = .ok (.invokevirtual 147, 3) := by decide +kernel
theorem dX10_ahead_34 : decode cX10_ahead 34 = .ok (.aload_n 0, 1) := by decide +kernel
theorem dX10_ahead_35 : decode cX10_ahead 35 = .ok (.getfield 45, 3) := by decide +kernel
theorem dX10_ahead_38 : decode cX10_ahead 38 = .ok (.aload_n 0, 1) := by decide +kernel
theorem dX10_ahead_39 : decode cX10_ahead 39 = .ok (.getfield 10, 3) := by decide +kernel
theorem dX10_ahead_42 : decode cX10_ahead 42 = .ok (.invokevirtual 194, 3) := by decide +kernel
theorem dX10_ahead_45 : decode cX10_ahead 45 = .ok (.aload_n 0, 1) := by decide +kernel
theorem dX10_ahead_46 : decode cX10_ahead 46 = .ok (.getfield 45, 3) := by decide +kernel
theorem dX10_ahead_49 : decode cX10_ahead 49 = .ok (.bipush (-6), 2) := by decide +kernel
theorem dX10_ahead_51 : decode cX10_ahead 51 = .ok (.bipush (-6), 2) := by decide +kernel
theorem dX10_ahead_53 : decode cX10_ahead 53 = .ok (.invokevirtual 153, 3) := by decide +kernel
theorem dX10_ahead_56 : decode cX10_ahead 56 = .ok (.istore_n 3, 1) := by decide +kernel
theorem dX10_ahead_57 : decode cX10_ahead 57 = .ok (.iload_n 3, 1) := by decide +kernel
theorem dX10_ahead_58 : decode cX10_ahead 58 = .ok (.ifCond .ne 6, 3) := by decide +kernel
theorem dX10_ahead_61 : decode cX10_ahead 61 = .ok (.bipush (-5), 2) := by decide +kernel
theorem dX10_ahead_63 : decode cX10_ahead 63 = .ok (.ireturn, 1) := by decide +kernel
theorem dX10_ahead_64 : decode cX10_ahead 64 = .ok (.aload_n 0, 1) := by decide +kernel
theorem dX10_ahead_65 : decode cX10_ahead 65 = .ok (.getfield 45, 3) := by decide +kernel
theorem dX10_ahead_68 : decode cX10_ahead 68 = .ok (.iload_n 1, 1) := by decide +kernel
theorem dX10_ahead_69 : decode cX10_ahead 69 = .ok (.iload_n 2, 1) := by decide +kernel
theorem dX10_ahead_70 : decode cX10_ahead 70 = .ok (.invokevirtual 153, 3) := by decide +kernel
theorem dX10_ahead_73 : decode cX10_ahead 73 = .ok (.istore 4, 2) := by decide +kernel
theorem dX10_ahead_75 : decode cX10_ahead 75 = .ok (.iload 4, 2) := by decide +kernel
theorem dX10_ahead_77 : decode cX10_ahead 77 = .ok (.iload_n 3, 1) := by decide +kernel
theorem dX10_ahead_78 : decode cX10_ahead 78 = .ok (.if_icmp .ne 5, 3) := by decide +kernel
theorem dX10_ahead_81 : decode cX10_ahead 81 = .ok (.iconst 1, 1) := by decide +kernel
theorem dX10_ahead_82 : decode cX10_ahead 82 = .ok (.ireturn, 1) := by decide +kernel
theorem dX10_ahead_83 : decode cX10_ahead 83 = .ok (.iload 4, 2) := by decide +kernel
theorem dX10_ahead_85 : decode cX10_ahead 85 = .ok (.ifCond .ne 7, 3) := by decide +kernel
theorem dX10_ahead_88 : decode cX10_ahead 88 = .ok (.iconst 0, 1) := by decide +kernel
theorem dX10_ahead_89 : decode cX10_ahead 89 = .ok (.goto 4, 3) := by decide +kernel
theorem dX10_ahead_92 : decode cX10_ahead 92 = .ok (.iconst 2, 1) := by decide +kernel
theorem dX10_ahead_93 : decode cX10_ahead 93 = .ok (.ireturn, 1) := by decide +kernel
theorem dX10_known_0 : decode cX10_known 0 = .ok (.iload_n 1, 1) := by decide +kernel
theorem dX10_known_1 : decode cX10_known 1 = .ok (.invokestatic 88, 3) := by decide +kernel
theorem dX10_known_4 : decode cX10_known 4 = .ok (.ifCond .ne 5, 3) := by decide +kernel
theorem dX10_known_7 : decode cX10_known 7 = .ok (.iconst (-1), 1) := by decide +kernel
theorem dX10_known_8 : decode cX10_known 8 = .ok (.ireturn, 1) := by decide +kernel
theorem dX10_known_9 : decode cX10_known 9 = .ok (.iload_n 2, 1) := by decide +kernel
theorem dX10_known_10 : decode cX10_known 10 = .ok (.iconst 0, 1) := by decide +kernel
theorem dX10_known_11 : decode cX10_known 11 = .ok (.bipush 63, 2) := by decide +kernel
theorem dX10_known_13 : decode cX10_known 13 = .ok (.invokestatic 70, 3) := by decide +kernel
theorem dX10_known_16 : decode cX10_known 16 = .ok (.ifCond .ne 6, 3) := by decide +kernel
theorem dX10_known_19 : decode cX10_known 19 = .ok (.bipush (-2), 2) := by decide +kernel
theorem dX10_known_21 : decode cX10_known 21 = .ok (.ireturn, 1) := by decide +kernel
theorem dX10_known_22 : decode cX10_known 22 = .ok (.aload_n 0, 1) := by decide +kernel
theorem dX10_known_23 : decode cX10_known 23 = .ok (.getfield 10, 3) := by decide +kernel
theorem dX10_known_26 : decode cX10_known 26 = .ok (.iload_n 1, 1) := by decide +kernel
theorem dX10_known_27 : decode cX10_known 27 = .ok (.iload_n 2, 1) := by decide +kernel
theorem dX10_known_28 : decode cX10_known 28 = .ok (.invokevirtual 200, 3) := by decide +kernel
theorem dX10_known_31 : decode cX10_known 31 = .ok (.ifCond .eq 7, 3) := by decide +kernel
theorem dX10_known_34 : decode cX10_known 34 = .ok (.iconst 1, 1) := by decide +kernel
theorem dX10_known_35 : decode cX10_known 35 = .ok (.goto 4, 3) := by decide +kernel
theorem dX10_known_38 : decode cX10_known 38 = .ok (.iconst 0, 1) := by decide +kernel
theorem dX10_known_39 : decode cX10_known 39 = .ok (.ireturn, 1) := by decide +kernel
theorem dX10_knownOf_0 : decode cX10_knownOf 0 = .ok (.iload_n 1, 1) := by decide +kernel
theorem dX10_knownOf_1 : decode cX10_knownOf 1 = .ok (.invokestatic 96, 3) := by decide +kernel
theorem dX10_knownOf_4 : decode cX10_knownOf 4 = .ok (.ifCond .ne 5, 3) := by decide +kernel
theorem dX10_knownOf_7 : decode cX10_knownOf 7 = .ok (.iconst (-1), 1) := by decide +kernel
theorem dX10_knownOf_8 : decode cX10_knownOf 8 = .ok (.ireturn, 1) := by decide +kernel
theorem dX10_knownOf_9 : decode cX10_knownOf 9 = .ok (.iload_n 2, 1) := by decide +kernel
theorem dX10_knownOf_10 : decode cX10_knownOf 10 = .ok (.iconst 0, 1) := by decide +kernel
theorem dX10_knownOf_11 : decode cX10_knownOf 11 = .ok (.bipush 63, 2) := by decide +kernel
theorem dX10_knownOf_13 : decode cX10_knownOf 13 = .ok (.invokestatic 70, 3) := by decide +kernel
theorem dX10_knownOf_16 : decode cX10_knownOf 16 = .ok (.ifCond .eq 15, 3) := by decide +kernel
theorem dX10_knownOf_19 : decode cX10_knownOf 19 = .ok (.aload_n 0, 1) := by decide +kernel
theorem dX10_knownOf_20 : decode cX10_knownOf 20 = .ok (.getfield 10, 3) := by decide +kernel
theorem dX10_knownOf_23 : decode cX10_knownOf 23 = .ok (.iload_n 1, 1) := by decide +kernel
theorem dX10_knownOf_24 : decode cX10_knownOf 24 = .ok (.iload_n 2, 1) := by decide +kernel
theorem dX10_knownOf_25 : decode cX10_knownOf 25 = .ok (.invokevirtual 204, 3) := by decide +kernel
theorem dX10_knownOf_28 : decode cX10_knownOf 28 = .ok (.goto 5, 3) := by decide +kernel
theorem dX10_knownOf_31 : decode cX10_knownOf 31 = .ok (.bipush (-2), 2) := by decide +kernel
theorem dX10_knownOf_33 : decode cX10_knownOf 33 = .ok (.ireturn, 1) := by decide +kernel
theorem dX10_image_0 : decode cX10_image 0 = .ok (.iload_n 1, 1) := by decide +kernel
theorem dX10_image_1 : decode cX10_image 1 = .ok (.iconst 0, 1) := by decide +kernel
theorem dX10_image_2 : decode cX10_image 2 = .ok (.iconst 1, 1) := by decide +kernel
theorem dX10_image_3 : decode cX10_image 3 = .ok (.invokestatic 70, 3) := by decide +kernel
theorem dX10_image_6 : decode cX10_image 6 = .ok (.ifCond .ne 6, 3) := by decide +kernel
theorem dX10_image_9 : decode cX10_image 9 = .ok (.bipush (-2), 2) := by decide +kernel
theorem dX10_image_11 : decode cX10_image 11 = .ok (.ireturn, 1) := by decide +kernel
theorem dX10_image_12 : decode cX10_image 12 = .ok (.aload_n 0, 1) := by decide +kernel
theorem dX10_image_13 : decode cX10_image 13 = .ok (.iload_n 1, 1) := by decide +kernel
theorem dX10_image_14 : decode cX10_image 14 = .ok (.invokevirtual 207, 3) := by decide +kernel
theorem dX10_image_17 : decode cX10_image 17 = .ok (.aload_n 0, 1) := by decide +kernel
theorem dX10_image_18 : decode cX10_image 18 = .ok (.getfield 10, 3) := by decide +kernel
theorem dX10_image_21 : decode cX10_image 21 = .ok (.invokevirtual 211, 3) := by decide +kernel
theorem dX10_image_24 : decode cX10_image 24 = .ok (.iconst 1, 1) := by decide +kernel
theorem dX10_image_25 : decode cX10_image 25 = .ok (.ireturn, 1) := by decide +kernel
theorem dX10_restore_0 : decode cX10_restore 0 = .ok (.iload_n 1, 1) := by decide +kernel
theorem dX10_restore_1 : decode cX10_restore 1 = .ok (.iconst 0, 1) := by decide +kernel
theorem dX10_restore_2 : decode cX10_restore 2 = .ok (.iconst 1, 1) := by decide +kernel
theorem dX10_restore_3 : decode cX10_restore 3 = .ok (.invokestatic 70, 3) := by decide +kernel
theorem dX10_restore_6 : decode cX10_restore 6 = .ok (.ifCond .ne 6, 3) := by decide +kernel
theorem dX10_restore_9 : decode cX10_restore 9 = .ok (.bipush (-2), 2) := by decide +kernel
theorem dX10_restore_11 : decode cX10_restore 11 = .ok (.ireturn, 1) := by decide +kernel
theorem dX10_restore_12 : decode cX10_restore 12 = .ok (.aload_n 0, 1) := by decide +kernel
theorem dX10_restore_13 : decode cX10_restore 13 = .ok (.iload_n 1, 1) := by decide +kernel
theorem dX10_restore_14 : decode cX10_restore 14 = .ok (.invokevirtual 207, 3) := by decide +kernel
theorem dX10_restore_17 : decode cX10_restore 17 = .ok (.aload_n 0, 1) := by decide +kernel
theorem dX10_restore_18 : decode cX10_restore 18 = .ok (.getfield 10, 3) := by decide +kernel
theorem dX10_restore_21 : decode cX10_restore 21 = .ok (.invokevirtual 214, 3) := by decide +kernel
theorem dX10_restore_24 : decode cX10_restore 24 = .ok (.ifCond .eq 7, 3) := by decide +kernel
theorem dX10_restore_27 : decode cX10_restore 27 = .ok (.iconst 1, 1) := by decide +kernel
theorem dX10_restore_28 : decode cX10_restore 28 = .ok (.goto 5, 3) := by decide +kernel
theorem dX10_restore_31 : decode cX10_restore 31 = .ok (.bipush (-3), 2) := by decide +kernel
theorem dX10_restore_33 : decode cX10_restore 33 = .ok (.ireturn, 1) := by decide +kernel
theorem dX10_told_0 : decode cX10_told 0 = .ok (.iload_n 1, 1) := by decide +kernel
theorem dX10_told_1 : decode cX10_told 1 = .ok (.ifCond .ne 11, 3) := by decide +kernel
theorem dX10_told_4 : decode cX10_told 4 = .ok (.aload_n 0, 1) := by decide +kernel
theorem dX10_told_5 : decode cX10_told 5 = .ok (.getfield 19, 3) := by decide +kernel
theorem dX10_told_8 : decode cX10_told 8 = .ok (.invokevirtual 74, 3) := by decide +kernel
theorem dX10_told_11 : decode cX10_told 11 = .ok (.ireturn, 1) := by decide +kernel
theorem dX10_told_12 : decode cX10_told 12 = .ok (.iload_n 1, 1) := by decide +kernel
theorem dX10_told_13 : decode cX10_told 13 = .ok (.iconst 1, 1) := by decide +kernel
theorem dX10_told_14 : decode cX10_told 14 = .ok (.if_icmp .ne 11, 3) := by decide +kernel
theorem dX10_told_17 : decode cX10_told 17 = .ok (.aload_n 0, 1) := by decide +kernel
theorem dX10_told_18 : decode cX10_told 18 = .ok (.getfield 10, 3) := by decide +kernel
theorem dX10_told_21 : decode cX10_told 21 = .ok (.invokevirtual 218, 3) := by decide +kernel
theorem dX10_told_24 : decode cX10_told 24 = .ok (.ireturn, 1) := by decide +kernel
theorem dX10_told_25 : decode cX10_told 25 = .ok (.iload_n 1, 1) := by decide +kernel
theorem dX10_told_26 : decode cX10_told 26 = .ok (.iconst 2, 1) := by decide +kernel
theorem dX10_told_27 : decode cX10_told 27 = .ok (.if_icmp .ne 15, 3) := by decide +kernel
theorem dX10_told_30 : decode cX10_told 30 = .ok (.aload_n 0, 1) := by decide +kernel
theorem dX10_told_31 : decode cX10_told 31 = .ok (.getfield 10, 3) := by decide +kernel
theorem dX10_told_34 : decode cX10_told 34 = .ok (.getfield 121, 3) := by decide +kernel
theorem dX10_told_37 : decode cX10_told 37 = .ok (.iconst 0, 1) := by decide +kernel
theorem dX10_told_38 : decode cX10_told 38 = .ok (.invokevirtual 221, 3) := by decide +kernel
theorem dX10_told_41 : decode cX10_told 41 = .ok (.ireturn, 1) := by decide +kernel
theorem dX10_told_42 : decode cX10_told 42 = .ok (.iload_n 1, 1) := by decide +kernel
theorem dX10_told_43 : decode cX10_told 43 = .ok (.iconst 3, 1) := by decide +kernel
theorem dX10_told_44 : decode cX10_told 44 = .ok (.if_icmp .ne 15, 3) := by decide +kernel
theorem dX10_told_47 : decode cX10_told 47 = .ok (.aload_n 0, 1) := by decide +kernel
theorem dX10_told_48 : decode cX10_told 48 = .ok (.getfield 10, 3) := by decide +kernel
theorem dX10_told_51 : decode cX10_told 51 = .ok (.getfield 121, 3) := by decide +kernel
theorem dX10_told_54 : decode cX10_told 54 = .ok (.iconst 1, 1) := by decide +kernel
theorem dX10_told_55 : decode cX10_told 55 = .ok (.invokevirtual 221, 3) := by decide +kernel
theorem dX10_told_58 : decode cX10_told 58 = .ok (.ireturn, 1) := by decide +kernel
theorem dX10_told_59 : decode cX10_told 59 = .ok (.iload_n 1, 1) := by decide +kernel
theorem dX10_told_60 : decode cX10_told 60 = .ok (.invokestatic 124, 3) := by decide +kernel
theorem dX10_told_63 : decode cX10_told 63 = .ok (.ifCond .eq 17, 3) := by decide +kernel
theorem dX10_told_66 : decode cX10_told 66 = .ok (.aload_n 0, 1) := by decide +kernel
theorem dX10_told_67 : decode cX10_told 67 = .ok (.getfield 10, 3) := by decide +kernel
theorem dX10_told_70 : decode cX10_told 70 = .ok (.getfield 121, 3) := by decide +kernel
theorem dX10_told_73 : decode cX10_told 73 = .ok (.iload_n 1, 1) := by decide +kernel
theorem dX10_told_74 : decode cX10_told 74 = .ok (.invokevirtual 221, 3) := by decide +kernel
theorem dX10_told_77 : decode cX10_told 77 = .ok (.goto 8, 3) := by decide +kernel
theorem dX10_told_80 : decode cX10_told 80 = .ok (.aload_n 0, 1) := by decide +kernel
theorem dX10_told_81 : decode cX10_told 81 = .ok (.iload_n 1, 1) := by decide +kernel
theorem dX10_told_82 : decode cX10_told 82 = .ok (.invokevirtual 224, 3) := by decide +kernel
theorem dX10_told_85 : decode cX10_told 85 = .ok (.ireturn, 1) := by decide +kernel
theorem dX10_toldOfRows_0 : decode cX10_toldOfRows 0 = .ok (.iload_n 1, 1) := by decide +kernel
theorem dX10_toldOfRows_1 : decode cX10_toldOfRows 1 = .ok (.bipush 20, 2) := by decide +kernel
theorem dX10_toldOfRows_3 : decode cX10_toldOfRows 3 = .ok (.isub, 1) := by decide +kernel
theorem dX10_toldOfRows_4 : decode cX10_toldOfRows 4 = .ok (.invokestatic 115, 3) := by decide +kernel
theorem dX10_toldOfRows_7 : decode cX10_toldOfRows 7 = .ok (.ifCond .eq 18, 3) := by decide +kernel
theorem dX10_toldOfRows_10 : decode cX10_toldOfRows 10 = .ok (.aload_n 0, 1) := by decide +kernel
theorem dX10_toldOfRows_11 : decode cX10_toldOfRows 11 = .ok (.getfield 10, 3) := by decide +kernel
theorem dX10_toldOfRows_14 : decode cX10_toldOfRows 14 = .ok (.getfield 118, 3) := by decide +kernel
theorem dX10_toldOfRows_17 : decode cX10_toldOfRows 17 = .ok (.iload_n 1, 1) := by decide +kernel
theorem dX10_toldOfRows_18 : decode cX10_toldOfRows 18 = .ok (.bipush 20, 2) := by decide +kernel
theorem dX10_toldOfRows_20 : decode cX10_toldOfRows 20 = .ok (.isub, 1) := by decide +kernel
theorem dX10_toldOfRows_21 : decode cX10_toldOfRows 21 = .ok (.invokevirtual 221, 3) := by decide +kernel
theorem dX10_toldOfRows_24 : decode cX10_toldOfRows 24 = .ok (.ireturn, 1) := by decide +kernel
theorem dX10_toldOfRows_25 : decode cX10_toldOfRows 25 = .ok (.iload_n 1, 1) := by decide +kernel
theorem dX10_toldOfRows_26 : decode cX10_toldOfRows 26 = .ok (.bipush 30, 2) := by decide +kernel
theorem dX10_toldOfRows_28 : decode cX10_toldOfRows 28 = .ok (.isub, 1) := by decide +kernel
theorem dX10_toldOfRows_29 : decode cX10_toldOfRows 29 = .ok (.invokestatic 88, 3) := by decide +kernel
theorem dX10_toldOfRows_32 : decode cX10_toldOfRows 32 = .ok (.ifCond .eq 18, 3) := by decide +kernel
theorem dX10_toldOfRows_35 : decode cX10_toldOfRows 35 = .ok (.aload_n 0, 1) := by decide +kernel
theorem dX10_toldOfRows_36 : decode cX10_toldOfRows 36 = .ok (.getfield 10, 3) := by decide +kernel
theorem dX10_toldOfRows_39 : decode cX10_toldOfRows 39 = .ok (.getfield 227, 3) := by decide +kernel
theorem dX10_toldOfRows_42 : decode cX10_toldOfRows 42 = .ok (.iload_n 1, 1) := by decide +kernel
theorem dX10_toldOfRows_43 : decode cX10_toldOfRows 43 = .ok (.bipush 30, 2) := by decide +kernel
theorem dX10_toldOfRows_45 : decode cX10_toldOfRows 45 = .ok (.isub, 1) := by decide +kernel
theorem dX10_toldOfRows_46 : decode cX10_toldOfRows 46 = .ok (.invokevirtual 221, 3) := by decide +kernel
theorem dX10_toldOfRows_49 : decode cX10_toldOfRows 49 = .ok (.ireturn, 1) := by decide +kernel
theorem dX10_toldOfRows_50 : decode cX10_toldOfRows 50 = .ok (.iload_n 1, 1) := by decide +kernel
theorem dX10_toldOfRows_51 : decode cX10_toldOfRows 51 = .ok (.bipush 40, 2) := by decide +kernel
theorem dX10_toldOfRows_53 : decode cX10_toldOfRows 53 = .ok (.isub, 1) := by decide +kernel
theorem dX10_toldOfRows_54 : decode cX10_toldOfRows 54 = .ok (.invokestatic 88, 3) := by decide +kernel
theorem dX10_toldOfRows_57 : decode cX10_toldOfRows 57 = .ok (.ifCond .eq 18, 3) := by decide +kernel
theorem dX10_toldOfRows_60 : decode cX10_toldOfRows 60 = .ok (.aload_n 0, 1) := by decide +kernel
theorem dX10_toldOfRows_61 : decode cX10_toldOfRows 61 = .ok (.getfield 10, 3) := by decide +kernel
theorem dX10_toldOfRows_64 : decode cX10_toldOfRows 64 = .ok (.getfield 112, 3) := by decide +kernel
theorem dX10_toldOfRows_67 : decode cX10_toldOfRows 67 = .ok (.iload_n 1, 1) := by decide +kernel
theorem dX10_toldOfRows_68 : decode cX10_toldOfRows 68 = .ok (.bipush 40, 2) := by decide +kernel
theorem dX10_toldOfRows_70 : decode cX10_toldOfRows 70 = .ok (.isub, 1) := by decide +kernel
theorem dX10_toldOfRows_71 : decode cX10_toldOfRows 71 = .ok (.invokevirtual 221, 3) := by decide +kernel
theorem dX10_toldOfRows_74 : decode cX10_toldOfRows 74 = .ok (.ireturn, 1) := by decide +kernel
theorem dX10_toldOfRows_75 : decode cX10_toldOfRows 75 = .ok (.iload_n 1, 1) := by decide +kernel
theorem dX10_toldOfRows_76 : decode cX10_toldOfRows 76 = .ok (.bipush 50, 2) := by decide +kernel
theorem dX10_toldOfRows_78 : decode cX10_toldOfRows 78 = .ok (.isub, 1) := by decide +kernel
theorem dX10_toldOfRows_79 : decode cX10_toldOfRows 79 = .ok (.invokestatic 96, 3) := by decide +kernel
theorem dX10_toldOfRows_82 : decode cX10_toldOfRows 82 = .ok (.ifCond .eq 18, 3) := by decide +kernel
theorem dX10_toldOfRows_85 : decode cX10_toldOfRows 85 = .ok (.aload_n 0, 1) := by decide +kernel
theorem dX10_toldOfRows_86 : decode cX10_toldOfRows 86 = .ok (.getfield 10, 3) := by decide +kernel
theorem dX10_toldOfRows_89 : decode cX10_toldOfRows 89 = .ok (.getfield 102, 3) := by decide +kernel
theorem dX10_toldOfRows_92 : decode cX10_toldOfRows 92 = .ok (.iload_n 1, 1) := by decide +kernel
theorem dX10_toldOfRows_93 : decode cX10_toldOfRows 93 = .ok (.bipush 50, 2) := by decide +kernel
theorem dX10_toldOfRows_95 : decode cX10_toldOfRows 95 = .ok (.isub, 1) := by decide +kernel
theorem dX10_toldOfRows_96 : decode cX10_toldOfRows 96 = .ok (.invokevirtual 221, 3) := by decide +kernel
theorem dX10_toldOfRows_99 : decode cX10_toldOfRows 99 = .ok (.ireturn, 1) := by decide +kernel
theorem dX10_toldOfRows_100 : decode cX10_toldOfRows 100 = .ok (.iload_n 1, 1) := by decide +kernel
theorem dX10_toldOfRows_101 : decode cX10_toldOfRows 101 = .ok (.bipush 60, 2) := by decide +kernel
theorem dX10_toldOfRows_103 : decode cX10_toldOfRows 103 = .ok (.isub, 1) := by decide +kernel
theorem dX10_toldOfRows_104 : decode cX10_toldOfRows 104 = .ok (.invokestatic 96, 3) := by decide +kernel
theorem dX10_toldOfRows_107 : decode cX10_toldOfRows 107 = .ok (.ifCond .eq 20, 3) := by decide +kernel
theorem dX10_toldOfRows_110 : decode cX10_toldOfRows 110 = .ok (.aload_n 0, 1) := by decide +kernel
theorem dX10_toldOfRows_111 : decode cX10_toldOfRows 111 = .ok (.getfield 10, 3) := by decide +kernel
theorem dX10_toldOfRows_114 : decode cX10_toldOfRows 114 = .ok (.getfield 191, 3) := by decide +kernel
theorem dX10_toldOfRows_117 : decode cX10_toldOfRows 117 = .ok (.iload_n 1, 1) := by decide +kernel
theorem dX10_toldOfRows_118 : decode cX10_toldOfRows 118 = .ok (.bipush 60, 2) := by decide +kernel
theorem dX10_toldOfRows_120 : decode cX10_toldOfRows 120 = .ok (.isub, 1) := by decide +kernel
theorem dX10_toldOfRows_121 : decode cX10_toldOfRows 121 = .ok (.invokevirtual 221, 3) := by decide +kernel
theorem dX10_toldOfRows_124 : decode cX10_toldOfRows 124 = .ok (.goto 5, 3) := by decide +kernel
theorem dX10_toldOfRows_127 : decode cX10_toldOfRows 127 = .ok (.bipush (-2), 2) := by decide +kernel
theorem dX10_toldOfRows_129 : decode cX10_toldOfRows 129 = .ok (.ireturn, 1) := by decide +kernel
theorem dX10_faultAs_0 : decode cX10_faultAs 0 = .ok (.aload_n 0, 1) := by decide +kernel
theorem dX10_faultAs_1 : decode cX10_faultAs 1 = .ok (.getfield 19, 3) := by decide +kernel
theorem dX10_faultAs_4 : decode cX10_faultAs 4 = .ok (.iload_n 1, 1) := by decide +kernel
theorem dX10_faultAs_5 : decode cX10_faultAs 5 = .ok (.aload_n 0, 1) := by decide +kernel
theorem dX10_faultAs_6 : decode cX10_faultAs 6 = .ok (.getfield 10, 3) := by decide +kernel
theorem dX10_faultAs_9 : decode cX10_faultAs 9 = .ok (.invokevirtual 218, 3) := by decide +kernel
theorem dX10_faultAs_12 : decode cX10_faultAs 12 = .ok (.invokevirtual 230, 3) := by decide +kernel
theorem dX10_faultAs_15 : decode cX10_faultAs 15 = .ok (.ireturn, 1) := by decide +kernel
theorem dX10_isThere_0 : decode cX10_isThere 0 = .ok (.iload_n 1, 1) := by decide +kernel
theorem dX10_isThere_1 : decode cX10_isThere 1 = .ok (.invokestatic 96, 3) := by decide +kernel
theorem dX10_isThere_4 : decode cX10_isThere 4 = .ok (.ifCond .eq 21, 3) := by decide +kernel
theorem dX10_isThere_7 : decode cX10_isThere 7 = .ok (.aload_n 0, 1) := by decide +kernel
theorem dX10_isThere_8 : decode cX10_isThere 8 = .ok (.getfield 10, 3) := by decide +kernel
theorem dX10_isThere_11 : decode cX10_isThere 11 = .ok (.invokevirtual 218, 3) := by decide +kernel
theorem dX10_isThere_14 : decode cX10_isThere 14 = .ok (.iload_n 1, 1) := by decide +kernel
theorem dX10_isThere_15 : decode cX10_isThere 15 = .ok (.invokestatic 232, 3) := by decide +kernel
theorem dX10_isThere_18 : decode cX10_isThere 18 = .ok (.ifCond .eq 7, 3) := by decide +kernel
theorem dX10_isThere_21 : decode cX10_isThere 21 = .ok (.iconst 1, 1) := by decide +kernel
theorem dX10_isThere_22 : decode cX10_isThere 22 = .ok (.goto 4, 3) := by decide +kernel
theorem dX10_isThere_25 : decode cX10_isThere 25 = .ok (.iconst 0, 1) := by decide +kernel
theorem dX10_isThere_26 : decode cX10_isThere 26 = .ok (.ireturn, 1) := by decide +kernel
theorem dX10_imageOf_0 : decode cX10_imageOf 0 = .ok (.iload_n 1, 1) := by decide +kernel
theorem dX10_imageOf_1 : decode cX10_imageOf 1 = .ok (.ifCond .ne 10, 3) := by decide +kernel
theorem dX10_imageOf_4 : decode cX10_imageOf 4 = .ok (.aload_n 0, 1) := by decide +kernel
theorem dX10_imageOf_5 : decode cX10_imageOf 5 = .ok (.getfield 26, 3) := by decide +kernel
theorem dX10_imageOf_8 : decode cX10_imageOf 8 = .ok (.goto 7, 3) := by decide +kernel
theorem dX10_imageOf_11 : decode cX10_imageOf 11 = .ok (.aload_n 0, 1) := by decide +kernel
theorem dX10_imageOf_12 : decode cX10_imageOf 12 = .ok (.getfield 30, 3) := by decide +kernel
theorem dX10_imageOf_15 : decode cX10_imageOf 15 = .ok (.areturn, 1) := by decide +kernel
theorem dX10_isWord_0 : decode cX10_isWord 0 = .ok (.iload_n 0, 1) := by decide +kernel
theorem dX10_isWord_1 : decode cX10_isWord 1 = .ok (.iconst 0, 1) := by decide +kernel
theorem dX10_isWord_2 : decode cX10_isWord 2 = .ok (.bipush 9, 2) := by decide +kernel
theorem dX10_isWord_4 : decode cX10_isWord 4 = .ok (.invokestatic 70, 3) := by decide +kernel
theorem dX10_isWord_7 : decode cX10_isWord 7 = .ok (.ireturn, 1) := by decide +kernel
theorem dX10_isSheet_0 : decode cX10_isSheet 0 = .ok (.iload_n 0, 1) := by decide +kernel
theorem dX10_isSheet_1 : decode cX10_isSheet 1 = .ok (.iconst 0, 1) := by decide +kernel
theorem dX10_isSheet_2 : decode cX10_isSheet 2 = .ok (.iconst 5, 1) := by decide +kernel
theorem dX10_isSheet_3 : decode cX10_isSheet 3 = .ok (.invokestatic 70, 3) := by decide +kernel
theorem dX10_isSheet_6 : decode cX10_isSheet 6 = .ok (.ireturn, 1) := by decide +kernel
theorem dX10_isSort_0 : decode cX10_isSort 0 = .ok (.iload_n 0, 1) := by decide +kernel
theorem dX10_isSort_1 : decode cX10_isSort 1 = .ok (.iconst 0, 1) := by decide +kernel
theorem dX10_isSort_2 : decode cX10_isSort 2 = .ok (.iconst 5, 1) := by decide +kernel
theorem dX10_isSort_3 : decode cX10_isSort 3 = .ok (.invokestatic 70, 3) := by decide +kernel
theorem dX10_isSort_6 : decode cX10_isSort 6 = .ok (.ireturn, 1) := by decide +kernel
theorem dX10_isSortOrAll_0 : decode cX10_isSortOrAll 0 = .ok (.iload_n 0, 1) := by decide +kernel
theorem dX10_isSortOrAll_1 : decode cX10_isSortOrAll 1 = .ok (.iconst (-1), 1) := by decide +kernel
theorem dX10_isSortOrAll_2 : decode cX10_isSortOrAll 2 = .ok (.iconst 5, 1) := by decide +kernel
theorem dX10_isSortOrAll_3 : decode cX10_isSortOrAll 3 = .ok (.invokestatic 70, 3) := by decide +kernel
theorem dX10_isSortOrAll_6 : decode cX10_isSortOrAll 6 = .ok (.ireturn, 1) := by decide +kernel
theorem dX10_isRent_0 : decode cX10_isRent 0 = .ok (.iload_n 0, 1) := by decide +kernel
theorem dX10_isRent_1 : decode cX10_isRent 1 = .ok (.bipush 10, 2) := by decide +kernel
theorem dX10_isRent_3 : decode cX10_isRent 3 = .ok (.bipush 15, 2) := by decide +kernel
theorem dX10_isRent_5 : decode cX10_isRent 5 = .ok (.invokestatic 70, 3) := by decide +kernel
theorem dX10_isRent_8 : decode cX10_isRent 8 = .ok (.ireturn, 1) := by decide +kernel
theorem dX10_within_0 : decode cX10_within 0 = .ok (.iload_n 0, 1) := by decide +kernel
theorem dX10_within_1 : decode cX10_within 1 = .ok (.iload_n 1, 1) := by decide +kernel
theorem dX10_within_2 : decode cX10_within 2 = .ok (.if_icmp .lt 12, 3) := by decide +kernel
theorem dX10_within_5 : decode cX10_within 5 = .ok (.iload_n 0, 1) := by decide +kernel
theorem dX10_within_6 : decode cX10_within 6 = .ok (.iload_n 2, 1) := by decide +kernel
theorem dX10_within_7 : decode cX10_within 7 = .ok (.if_icmp .gt 7, 3) := by decide +kernel
theorem dX10_within_10 : decode cX10_within 10 = .ok (.iconst 1, 1) := by decide +kernel
theorem dX10_within_11 : decode cX10_within 11 = .ok (.goto 4, 3) := by decide +kernel
theorem dX10_within_14 : decode cX10_within 14 = .ok (.iconst 0, 1) := by decide +kernel
theorem dX10_within_15 : decode cX10_within 15 = .ok (.ireturn, 1) := by decide +kernel
theorem dX10_has_0 : decode cX10_has 0 = .ok (.iload_n 0, 1) := by decide +kernel
theorem dX10_has_1 : decode cX10_has 1 = .ok (.iload_n 1, 1) := by decide +kernel
theorem dX10_has_2 : decode cX10_has 2 = .ok (.ishr, 1) := by decide +kernel
theorem dX10_has_3 : decode cX10_has 3 = .ok (.iconst 1, 1) := by decide +kernel
theorem dX10_has_4 : decode cX10_has 4 = .ok (.iand, 1) := by decide +kernel
theorem dX10_has_5 : decode cX10_has 5 = .ok (.iconst 1, 1) := by decide +kernel
theorem dX10_has_6 : decode cX10_has 6 = .ok (.if_icmp .ne 7, 3) := by decide +kernel
theorem dX10_has_9 : decode cX10_has 9 = .ok (.iconst 1, 1) := by decide +kernel
theorem dX10_has_10 : decode cX10_has 10 = .ok (.goto 4, 3) := by decide +kernel
theorem dX10_has_13 : decode cX10_has 13 = .ok (.iconst 0, 1) := by decide +kernel
theorem dX10_has_14 : decode cX10_has 14 = .ok (.ireturn, 1) := by decide +kernel
theorem dX11_init_0 : decode cX11_init 0 = .ok (.aload_n 0, 1) := by decide +kernel
theorem dX11_init_1 : decode cX11_init 1 = .ok (.invokespecial 1, 3) := by decide +kernel
theorem dX11_init_4 : decode cX11_init 4 = .ok (.aload_n 0, 1) := by decide +kernel
theorem dX11_init_5 : decode cX11_init 5 = .ok (.bipush 50, 2) := by decide +kernel
theorem dX11_init_7 : decode cX11_init 7 = .ok (.newarray .int, 2) := by decide +kernel
theorem dX11_init_9 : decode cX11_init 9 = .ok (.putfield 7, 3) := by decide +kernel
theorem dX11_init_12 : decode cX11_init 12 = .ok (.aload_n 0, 1) := by decide +kernel
theorem dX11_init_13 : decode cX11_init 13 = .ok (.bipush 10, 2) := by decide +kernel
theorem dX11_init_15 : decode cX11_init 15 = .ok (.newarray .int, 2) := by decide +kernel
theorem dX11_init_17 : decode cX11_init 17 = .ok (.putfield 13, 3) := by decide +kernel
theorem dX11_init_20 : decode cX11_init 20 = .ok (.aload_n 0, 1) := by decide +kernel
theorem dX11_init_21 : decode cX11_init 21 = .ok (.bipush 10, 2) := by decide +kernel
theorem dX11_init_23 : decode cX11_init 23 = .ok (.newarray .int, 2) := by decide +kernel
theorem dX11_init_25 : decode cX11_init 25 = .ok (.putfield 16, 3) := by decide +kernel
theorem dX11_init_28 : decode cX11_init 28 = .ok (.aload_n 0, 1) := by decide +kernel
theorem dX11_init_29 : decode cX11_init 29 = .ok (.bipush 36, 2) := by decide +kernel
theorem dX11_init_31 : decode cX11_init 31 = .ok (.newarray .int, 2) := by decide +kernel
theorem dX11_init_33 : decode cX11_init 33 = .ok (.putfield 19, 3) := by decide +kernel
theorem dX11_init_36 : decode cX11_init 36 = .ok (.aload_n 0, 1) := by decide +kernel
theorem dX11_init_37 : decode cX11_init 37 = .ok (.bipush 6, 2) := by decide +kernel
theorem dX11_init_39 : decode cX11_init 39 = .ok (.newarray .int, 2) := by decide +kernel
theorem dX11_init_41 : decode cX11_init 41 = .ok (.putfield 22, 3) := by decide +kernel
theorem dX11_init_44 : decode cX11_init 44 = .ok (.aload_n 0, 1) := by decide +kernel
theorem dX11_init_45 : decode cX11_init 45 = .ok (.bipush 6, 2) := by decide +kernel
theorem dX11_init_47 : decode cX11_init 47 = .ok (.newarray .int, 2) := by decide +kernel
theorem dX11_init_49 : decode cX11_init 49 = .ok (.putfield 25, 3) := by decide +kernel
theorem dX11_init_52 : decode cX11_init 52 = .ok (.aload_n 0, 1) := by decide +kernel
theorem dX11_init_53 : decode cX11_init 53 = .ok (.bipush 6, 2) := by decide +kernel
theorem dX11_init_55 : decode cX11_init 55 = .ok (.newarray .int, 2) := by decide +kernel
theorem dX11_init_57 : decode cX11_init 57 = .ok (.putfield 28, 3) := by decide +kernel
theorem dX11_init_60 : decode cX11_init 60 = .ok (.aload_n 0, 1) := by decide +kernel
theorem dX11_init_61 : decode cX11_init 61 = .ok (.bipush 6, 2) := by decide +kernel
theorem dX11_init_63 : decode cX11_init 63 = .ok (.newarray .int, 2) := by decide +kernel
theorem dX11_init_65 : decode cX11_init 65 = .ok (.putfield 31, 3) := by decide +kernel
theorem dX11_init_68 : decode cX11_init 68 = .ok (.aload_n 0, 1) := by decide +kernel
theorem dX11_init_69 : decode cX11_init 69 = .ok (.bipush 14, 2) := by decide +kernel
theorem dX11_init_71 : decode cX11_init 71 = .ok (.newarray .int, 2) := by decide +kernel
theorem dX11_init_73 : decode cX11_init 73 = .ok (.putfield 34, 3) := by decide +kernel
theorem dX11_init_76 : decode cX11_init 76 = .ok (.aload_n 0, 1) := by decide +kernel
theorem dX11_init_77 : decode cX11_init 77 = .ok (.bipush 6, 2) := by decide +kernel
theorem dX11_init_79 : decode cX11_init 79 = .ok (.newarray .int, 2) := by decide +kernel
theorem dX11_init_81 : decode cX11_init 81 = .ok (.putfield 37, 3) := by decide +kernel
theorem dX11_init_84 : decode cX11_init 84 = .ok (.aload_n 0, 1) := by decide +kernel
theorem dX11_init_85 : decode cX11_init 85 = .ok (.bipush 6, 2) := by decide +kernel
theorem dX11_init_87 : decode cX11_init 87 = .ok (.newarray .int, 2) := by decide +kernel
theorem dX11_init_89 : decode cX11_init 89 = .ok (.putfield 40, 3) := by decide +kernel
theorem dX11_init_92 : decode cX11_init 92 = .ok (.aload_n 0, 1) := by decide +kernel
theorem dX11_init_93 : decode cX11_init 93 = .ok (.bipush 64, 2) := by decide +kernel
theorem dX11_init_95 : decode cX11_init 95 = .ok (.newarray .int, 2) := by decide +kernel
theorem dX11_init_97 : decode cX11_init 97 = .ok (.putfield 43, 3) := by decide +kernel
theorem dX11_init_100 : decode cX11_init 100 = .ok (.aload_n 0, 1) := by decide +kernel
theorem dX11_init_101 : decode cX11_init 101 = .ok (.bipush 64, 2) := by decide +kernel
theorem dX11_init_103 : decode cX11_init 103 = .ok (.newarray .int, 2) := by decide +kernel
theorem dX11_init_105 : decode cX11_init 105 = .ok (.putfield 46, 3) := by decide +kernel
theorem dX11_init_108 : decode cX11_init 108 = .ok (.aload_n 0, 1) := by decide +kernel
theorem dX11_init_109 : decode cX11_init 109 = .ok (.sipush 4200, 3) := by decide +kernel
theorem dX11_init_112 : decode cX11_init 112 = .ok (.newarray .int, 2) := by decide +kernel
theorem dX11_init_114 : decode cX11_init 114 = .ok (.putfield 49, 3) := by decide +kernel
theorem dX11_init_117 : decode cX11_init 117 = .ok (.aload_n 0, 1) := by decide +kernel
theorem dX11_init_118 : decode cX11_init 118 = .ok (.bipush 7, 2) := by decide +kernel
theorem dX11_init_120 : decode cX11_init 120 = .ok (.newarray .int, 2) := by decide +kernel
theorem dX11_init_122 : decode cX11_init 122 = .ok (.putfield 52, 3) := by decide +kernel
theorem dX11_init_125 : decode cX11_init 125 = .ok (.aload_n 0, 1) := by decide +kernel
theorem dX11_init_126 : decode cX11_init 126 = .ok (.sipush 4200, 3) := by decide +kernel
theorem dX11_init_129 : decode cX11_init 129 = .ok (.newarray .int, 2) := by decide +kernel
theorem dX11_init_131 : decode cX11_init 131 = .ok (.putfield 55, 3) := by decide +kernel
theorem dX11_init_134 : decode cX11_init 134 = .ok (.aload_n 0, 1) := by decide +kernel
theorem dX11_init_135 : decode cX11_init 135 = .ok (.bipush 6, 2) := by decide +kernel
theorem dX11_init_137 : decode cX11_init 137 = .ok (.newarray .int, 2) := by decide +kernel
theorem dX11_init_139 : decode cX11_init 139 = .ok (.putfield 58, 3) := by decide +kernel
theorem dX11_init_142 : decode cX11_init 142 = .ok (.aload_n 0, 1) := by decide +kernel
theorem dX11_init_143 : decode cX11_init 143 = .ok (.bipush 49, 2) := by decide +kernel
theorem dX11_init_145 : decode cX11_init 145 = .ok (.newarray .int, 2) := by decide +kernel
theorem dX11_init_147 : decode cX11_init 147 = .ok (.putfield 61, 3) := by decide +kernel
theorem dX11_init_150 : decode cX11_init 150 = .ok (.aload_n 0, 1) := by decide +kernel
theorem dX11_init_151 : decode cX11_init 151 = .ok (.bipush 6, 2) := by decide +kernel
theorem dX11_init_153 : decode cX11_init 153 = .ok (.newarray .int, 2) := by decide +kernel
theorem dX11_init_155 : decode cX11_init 155 = .ok (.putfield 64, 3) := by decide +kernel
theorem dX11_init_158 : decode cX11_init 158 = .ok (.aload_n 0, 1) := by decide +kernel
theorem dX11_init_159 : decode cX11_init 159 = .ok (.bipush 6, 2) := by decide +kernel
theorem dX11_init_161 : decode cX11_init 161 = .ok (.newarray .int, 2) := by decide +kernel
theorem dX11_init_163 : decode cX11_init 163 = .ok (.putfield 67, 3) := by decide +kernel
theorem dX11_init_166 : decode cX11_init 166 = .ok (.aload_n 0, 1) := by decide +kernel
theorem dX11_init_167 : decode cX11_init 167 = .ok (.sipush 320, 3) := by decide +kernel
theorem dX11_init_170 : decode cX11_init 170 = .ok (.newarray .int, 2) := by decide +kernel
theorem dX11_init_172 : decode cX11_init 172 = .ok (.putfield 70, 3) := by decide +kernel
theorem dX11_init_175 : decode cX11_init 175 = .ok (.aload_n 0, 1) := by decide +kernel
theorem dX11_init_176 : decode cX11_init 176 = .ok (.iconst 2, 1) := by decide +kernel
theorem dX11_init_177 : decode cX11_init 177 = .ok (.newarray .boolean, 2) := by decide +kernel
theorem dX11_init_179 : decode cX11_init 179 = .ok (.putfield 73, 3) := by decide +kernel
theorem dX11_init_182 : decode cX11_init 182 = .ok (.iconst 0, 1) := by decide +kernel
theorem dX11_init_183 : decode cX11_init 183 = .ok (.istore_n 1, 1) := by decide +kernel
theorem dX11_init_184 : decode cX11_init 184 = .ok (.iload_n 1, 1) := by decide +kernel
theorem dX11_init_185 : decode cX11_init 185 = .ok (.bipush 10, 2) := by decide +kernel
theorem dX11_init_187 : decode cX11_init 187 = .ok (.if_icmp .ge 24, 3) := by decide +kernel
theorem dX11_init_190 : decode cX11_init 190 = .ok (.aload_n 0, 1) := by decide +kernel
theorem dX11_init_191 : decode cX11_init 191 = .ok (.getfield 13, 3) := by decide +kernel
theorem dX11_init_194 : decode cX11_init 194 = .ok (.iload_n 1, 1) := by decide +kernel
theorem dX11_init_195 : decode cX11_init 195 = .ok (.iconst 1, 1) := by decide +kernel
theorem dX11_init_196 : decode cX11_init 196 = .ok (.iastore, 1) := by decide +kernel
theorem dX11_init_197 : decode cX11_init 197 = .ok (.aload_n 0, 1) := by decide +kernel
theorem dX11_init_198 : decode cX11_init 198 = .ok (.getfield 16, 3) := by decide +kernel
theorem dX11_init_201 : decode cX11_init 201 = .ok (.iload_n 1, 1) := by decide +kernel
theorem dX11_init_202 : decode cX11_init 202 = .ok (.bipush (-6), 2) := by decide +kernel
theorem dX11_init_204 : decode cX11_init 204 = .ok (.iastore, 1) := by decide +kernel
theorem dX11_init_205 : decode cX11_init 205 = .ok (.iinc 1 1, 3) := by decide +kernel
theorem dX11_init_208 : decode cX11_init 208 = .ok (.goto (-24), 3) := by decide +kernel
theorem dX11_init_211 : decode cX11_init 211 = .ok (.iconst 0, 1) := by decide +kernel
theorem dX11_init_212 : decode cX11_init 212 = .ok (.istore_n 1, 1) := by decide +kernel
theorem dX11_init_213 : decode cX11_init 213 = .ok (.iload_n 1, 1) := by decide +kernel
theorem dX11_init_214 : decode cX11_init 214 = .ok (.bipush 6, 2) := by decide +kernel
theorem dX11_init_216 : decode cX11_init 216 = .ok (.if_icmp .ge 32, 3) := by decide +kernel
theorem dX11_init_219 : decode cX11_init 219 = .ok (.aload_n 0, 1) := by decide +kernel
theorem dX11_init_220 : decode cX11_init 220 = .ok (.getfield 25, 3) := by decide +kernel
theorem dX11_init_223 : decode cX11_init 223 = .ok (.iload_n 1, 1) := by decide +kernel
theorem dX11_init_224 : decode cX11_init 224 = .ok (.bipush 9, 2) := by decide +kernel
theorem dX11_init_226 : decode cX11_init 226 = .ok (.iastore, 1) := by decide +kernel
theorem dX11_init_227 : decode cX11_init 227 = .ok (.aload_n 0, 1) := by decide +kernel
theorem dX11_init_228 : decode cX11_init 228 = .ok (.getfield 28, 3) := by decide +kernel
theorem dX11_init_231 : decode cX11_init 231 = .ok (.iload_n 1, 1) := by decide +kernel
theorem dX11_init_232 : decode cX11_init 232 = .ok (.iconst 2, 1) := by decide +kernel
theorem dX11_init_233 : decode cX11_init 233 = .ok (.iastore, 1) := by decide +kernel
theorem dX11_init_234 : decode cX11_init 234 = .ok (.aload_n 0, 1) := by decide +kernel
theorem dX11_init_235 : decode cX11_init 235 = .ok (.getfield 31, 3) := by decide +kernel
theorem dX11_init_238 : decode cX11_init 238 = .ok (.iload_n 1, 1) := by decide +kernel
theorem dX11_init_239 : decode cX11_init 239 = .ok (.bipush (-6), 2) := by decide +kernel
theorem dX11_init_241 : decode cX11_init 241 = .ok (.iastore, 1) := by decide +kernel
theorem dX11_init_242 : decode cX11_init 242 = .ok (.iinc 1 1, 3) := by decide +kernel
theorem dX11_init_245 : decode cX11_init 245 = .ok (.goto (-32), 3) := by decide +kernel
theorem dX11_init_248 : decode cX11_init 248 = .ok (.aload_n 0, 1) := by decide +kernel
theorem dX11_init_249 : decode cX11_init 249 = .ok (.iconst 5, 1) := by decide +kernel
theorem dX11_init_250 : decode cX11_init 250 = .ok (.putfield 77, 3) := by decide +kernel
theorem dX11_init_253 : decode cX11_init 253 = .ok (.return_, 1) := by decide +kernel
theorem dX11_in_0 : decode cX11_in 0 = .ok (.lload_n 0, 1) := by decide +kernel
theorem dX11_in_1 : decode cX11_in 1 = .ok (.lload_n 2, 1) := by decide +kernel
theorem dX11_in_2 : decode cX11_in 2 = .ok (.lcmp, 1) := by decide +kernel
theorem dX11_in_3 : decode cX11_in 3 = .ok (.ifCond .lt 14, 3) := by decide +kernel
theorem dX11_in_6 : decode cX11_in 6 = .ok (.lload_n 0, 1) := by decide +kernel
theorem dX11_in_7 : decode cX11_in 7 = .ok (.lload 4, 2) := by decide +kernel
theorem dX11_in_9 : decode cX11_in 9 = .ok (.lcmp, 1) := by decide +kernel
theorem dX11_in_10 : decode cX11_in 10 = .ok (.ifCond .gt 7, 3) := by decide +kernel
theorem dX11_in_13 : decode cX11_in 13 = .ok (.iconst 1, 1) := by decide +kernel
theorem dX11_in_14 : decode cX11_in 14 = .ok (.goto 4, 3) := by decide +kernel
theorem dX11_in_17 : decode cX11_in 17 = .ok (.iconst 0, 1) := by decide +kernel
theorem dX11_in_18 : decode cX11_in 18 = .ok (.ireturn, 1) := by decide +kernel
theorem dX11_ones_0 : decode cX11_ones 0 = .ok (.iconst 0, 1) := by decide +kernel
theorem dX11_ones_1 : decode cX11_ones 1 = .ok (.istore_n 1, 1) := by decide +kernel
theorem dX11_ones_2 : decode cX11_ones 2 = .ok (.iload_n 0, 1) := by decide +kernel
theorem dX11_ones_3 : decode cX11_ones 3 = .ok (.istore_n 2, 1) := by decide +kernel
theorem dX11_ones_4 : decode cX11_ones 4 = .ok (.iload_n 2, 1) := by decide +kernel
theorem dX11_ones_5 : decode cX11_ones 5 = .ok (.ifCond .eq 15, 3) := by decide +kernel
theorem dX11_ones_8 : decode cX11_ones 8 = .ok (.iinc 1 1, 3) := by decide +kernel
theorem dX11_ones_11 : decode cX11_ones 11 = .ok (.iload_n 2, 1) := by decide +kernel
theorem dX11_ones_12 : decode cX11_ones 12 = .ok (.iload_n 2, 1) := by decide +kernel
theorem dX11_ones_13 : decode cX11_ones 13 = .ok (.iconst 1, 1) := by decide +kernel
theorem dX11_ones_14 : decode cX11_ones 14 = .ok (.isub, 1) := by decide +kernel
theorem dX11_ones_15 : decode cX11_ones 15 = .ok (.iand, 1) := by decide +kernel
theorem dX11_ones_16 : decode cX11_ones 16 = .ok (.istore_n 2, 1) := by decide +kernel
theorem dX11_ones_17 : decode cX11_ones 17 = .ok (.goto (-13), 3) := by decide +kernel
theorem dX11_ones_20 : decode cX11_ones 20 = .ok (.iload_n 1, 1) := by decide +kernel
theorem dX11_ones_21 : decode cX11_ones 21 = .ok (.ireturn, 1) := by decide +kernel
theorem dX11_isWord_0 : decode cX11_isWord 0 = .ok (.iload_n 0, 1) := by decide +kernel
theorem dX11_isWord_1 : decode cX11_isWord 1 = .ok (.i2l, 1) := by decide +kernel
theorem dX11_isWord_2 : decode cX11_isWord 2 = .ok (.lconst 0, 1) := by decide +kernel
theorem dX11_isWord_3 : decode cX11_isWord 3 = .ok (.ldc2_w 81, 3) := by decide +kernel
theorem dX11_isWord_6 : decode cX11_isWord 6 = .ok (.invokestatic 83, 3) := by decide +kernel
theorem dX11_isWord_9 : decode cX11_isWord 9 = .ok (.ireturn, 1) := by decide +kernel
theorem dX11_isSheet_0 : decode cX11_isSheet 0 = .ok (.iload_n 0, 1) := by decide +kernel
theorem dX11_isSheet_1 : decode cX11_isSheet 1 = .ok (.i2l, 1) := by decide +kernel
theorem dX11_isSheet_2 : decode cX11_isSheet 2 = .ok (.lconst 0, 1) := by decide +kernel
theorem dX11_isSheet_3 : decode cX11_isSheet 3 = .ok (.ldc2_w 87, 3) := by decide +kernel
theorem dX11_isSheet_6 : decode cX11_isSheet 6 = .ok (.invokestatic 83, 3) := by decide +kernel
theorem dX11_isSheet_9 : decode cX11_isSheet 9 = .ok (.ireturn, 1) := by decide +kernel
theorem dX11_isSort_0 : decode cX11_isSort 0 = .ok (.iload_n 0, 1) := by decide +kernel
theorem dX11_isSort_1 : decode cX11_isSort 1 = .ok (.i2l, 1) := by decide +kernel
theorem dX11_isSort_2 : decode cX11_isSort 2 = .ok (.lconst 0, 1) := by decide +kernel
theorem dX11_isSort_3 : decode cX11_isSort 3 = .ok (.ldc2_w 87, 3) := by decide +kernel
theorem dX11_isSort_6 : decode cX11_isSort 6 = .ok (.invokestatic 83, 3) := by decide +kernel
theorem dX11_isSort_9 : decode cX11_isSort 9 = .ok (.ireturn, 1) := by decide +kernel
theorem dX11_there_0 : decode cX11_there 0 = .ok (.iconst 0, 1) := by decide +kernel
theorem dX11_there_1 : decode cX11_there 1 = .ok (.istore_n 1, 1) := by decide +kernel
theorem dX11_there_2 : decode cX11_there 2 = .ok (.iconst 0, 1) := by decide +kernel
theorem dX11_there_3 : decode cX11_there 3 = .ok (.istore_n 2, 1) := by decide +kernel
theorem dX11_there_4 : decode cX11_there 4 = .ok (.iload_n 2, 1) := by decide +kernel
theorem dX11_there_5 : decode cX11_there 5 = .ok (.bipush 6, 2) := by decide +kernel
theorem dX11_there_7 : decode cX11_there 7 = .ok (.if_icmp .ge 28, 3) := by decide +kernel
theorem dX11_there_10 : decode cX11_there 10 = .ok (.iload_n 1, 1) := by decide +kernel
theorem dX11_there_11 : decode cX11_there 11 = .ok (.aload_n 0, 1) := by decide +kernel
theorem dX11_there_12 : decode cX11_there 12 = .ok (.getfield 22, 3) := by decide +kernel
theorem dX11_there_15 : decode cX11_there 15 = .ok (.iload_n 2, 1) := by decide +kernel
theorem dX11_there_16 : decode cX11_there 16 = .ok (.iaload, 1) := by decide +kernel
theorem dX11_there_17 : decode cX11_there 17 = .ok (.ifCond .le 9, 3) := by decide +kernel
theorem dX11_there_20 : decode cX11_there 20 = .ok (.iconst 1, 1) := by decide +kernel
theorem dX11_there_21 : decode cX11_there 21 = .ok (.iload_n 2, 1) := by decide +kernel
theorem dX11_there_22 : decode cX11_there 22 = .ok (.ishl, 1) := by decide +kernel
theorem dX11_there_23 : decode cX11_there 23 = .ok (.goto 4, 3) := by decide +kernel
theorem dX11_there_26 : decode cX11_there 26 = .ok (.iconst 0, 1) := by decide +kernel
theorem dX11_there_27 : decode cX11_there 27 = .ok (.ior, 1) := by decide +kernel
theorem dX11_there_28 : decode cX11_there 28 = .ok (.istore_n 1, 1) := by decide +kernel
theorem dX11_there_29 : decode cX11_there 29 = .ok (.iinc 2 1, 3) := by decide +kernel
theorem dX11_there_32 : decode cX11_there 32 = .ok (.goto (-28), 3) := by decide +kernel
theorem dX11_there_35 : decode cX11_there 35 = .ok (.iload_n 1, 1) := by decide +kernel
theorem dX11_there_36 : decode cX11_there 36 = .ok (.ireturn, 1) := by decide +kernel
theorem dX11_say_0 : decode cX11_say 0 = .ok (.iload_n 1, 1) := by decide +kernel
theorem dX11_say_1 : decode cX11_say 1 = .ok (.i2l, 1) := by decide +kernel
theorem dX11_say_2 : decode cX11_say 2 = .ok (.ldc2_w 89, 3) := by decide +kernel
theorem dX11_say_5 : decode cX11_say 5 = .ok (.ldc2_w 91, 3) := by decide +kernel
theorem dX11_say_8 : decode cX11_say 8 = .ok (.invokestatic 83, 3) := by decide +kernel
theorem dX11_say_11 : decode cX11_say 11 = .ok (.ifCond .ne 6, 3) := by decide +kernel
theorem dX11_say_14 : decode cX11_say 14 = .ok (.bipush (-2), 2) := by decide +kernel
theorem dX11_say_16 : decode cX11_say 16 = .ok (.ireturn, 1) := by decide +kernel
theorem dX11_say_17 : decode cX11_say 17 = .ok (.aload_n 0, 1) := by decide +kernel
theorem dX11_say_18 : decode cX11_say 18 = .ok (.getfield 93, 3) := by decide +kernel
theorem dX11_say_21 : decode cX11_say 21 = .ok (.bipush 14, 2) := by decide +kernel
theorem dX11_say_23 : decode cX11_say 23 = .ok (.if_icmp .ne 6, 3) := by decide +kernel
theorem dX11_say_26 : decode cX11_say 26 = .ok (.bipush (-4), 2) := by decide +kernel
theorem dX11_say_28 : decode cX11_say 28 = .ok (.ireturn, 1) := by decide +kernel
theorem dX11_say_29 : decode cX11_say 29 = .ok (.aload_n 0, 1) := by decide +kernel
theorem dX11_say_30 : decode cX11_say 30 = .ok (.getfield 34, 3) := by decide +kernel
theorem dX11_say_33 : decode cX11_say 33 = .ok (.aload_n 0, 1) := by decide +kernel
theorem dX11_say_34 : decode cX11_say 34 = .ok (.getfield 93, 3) := by decide +kernel
theorem dX11_say_37 : decode cX11_say 37 = .ok (.iload_n 1, 1) := by decide +kernel
theorem dX11_say_38 : decode cX11_say 38 = .ok (.iastore, 1) := by decide +kernel
theorem dX11_say_39 : decode cX11_say 39 = .ok (.aload_n 0, 1) := by decide +kernel
theorem dX11_say_40 : decode cX11_say 40 = .ok (.dup, 1) := by decide +kernel
theorem dX11_say_41 : decode cX11_say 41 = .ok (.getfield 93, 3) := by decide +kernel
theorem dX11_say_44 : decode cX11_say 44 = .ok (.iconst 1, 1) := by decide +kernel
theorem dX11_say_45 : decode cX11_say 45 = .ok (.iadd, 1) := by decide +kernel
theorem dX11_say_46 : decode cX11_say 46 = .ok (.putfield 93, 3) := by decide +kernel
theorem dX11_say_49 : decode cX11_say 49 = .ok (.aload_n 0, 1) := by decide +kernel
theorem dX11_say_50 : decode cX11_say 50 = .ok (.getfield 93, 3) := by decide +kernel
theorem dX11_say_53 : decode cX11_say 53 = .ok (.ireturn, 1) := by decide +kernel
theorem dX11_wipe_0 : decode cX11_wipe 0 = .ok (.aload_n 0, 1) := by decide +kernel
theorem dX11_wipe_1 : decode cX11_wipe 1 = .ok (.getfield 93, 3) := by decide +kernel
theorem dX11_wipe_4 : decode cX11_wipe 4 = .ok (.istore_n 1, 1) := by decide +kernel
theorem dX11_wipe_5 : decode cX11_wipe 5 = .ok (.aload_n 0, 1) := by decide +kernel
theorem dX11_wipe_6 : decode cX11_wipe 6 = .ok (.iconst 0, 1) := by decide +kernel
theorem dX11_wipe_7 : decode cX11_wipe 7 = .ok (.putfield 93, 3) := by decide +kernel
theorem dX11_wipe_10 : decode cX11_wipe 10 = .ok (.iload_n 1, 1) := by decide +kernel
theorem dX11_wipe_11 : decode cX11_wipe 11 = .ok (.ireturn, 1) := by decide +kernel
theorem dX11_faultOfRow_0 : decode cX11_faultOfRow 0 = .ok (.iconst 0, 1) := by decide +kernel
theorem dX11_faultOfRow_1 : decode cX11_faultOfRow 1 = .ok (.istore 4, 2) := by decide +kernel
theorem dX11_faultOfRow_3 : decode cX11_faultOfRow 3 = .ok (.iload 4, 2) := by decide +kernel
theorem dX11_faultOfRow_5 : decode cX11_faultOfRow 5 = .ok (.aload_n 0, 1) := by decide +kernel
theorem dX11_faultOfRow_6 : decode cX11_faultOfRow 6 = .ok (.getfield 93, 3) := by decide +kernel
theorem dX11_faultOfRow_9 : decode cX11_faultOfRow 9 = .ok (.if_icmp .ge 36, 3) := by decide +kernel
theorem dX11_faultOfRow_12 : decode cX11_faultOfRow 12 = .ok (.iload 4, 2) := by decide +kernel
theorem dX11_faultOfRow_14 : decode cX11_faultOfRow 14 = .ok (.iload_n 3, 1) := by decide +kernel
theorem dX11_faultOfRow_15 : decode cX11_faultOfRow 15 = .ok (.if_icmp .eq 21, 3) := by decide +kernel
theorem dX11_faultOfRow_18 : decode cX11_faultOfRow 18 = .ok (.aload_n 0, 1) := by decide +kernel
theorem dX11_faultOfRow_19 : decode cX11_faultOfRow 19 = .ok (.getfield 34, 3) := by decide +kernel
theorem dX11_faultOfRow_22 : decode cX11_faultOfRow 22 = .ok (.iload 4, 2) := by decide +kernel
theorem dX11_faultOfRow_24 : decode cX11_faultOfRow 24 = .ok (.iaload, 1) := by decide +kernel
theorem dX11_faultOfRow_25 : decode cX11_faultOfRow 25 = .ok (.i2l, 1) := by decide +kernel
theorem dX11_faultOfRow_26 : decode cX11_faultOfRow 26 = .ok (.iload_n 1, 1) := by decide +kernel
theorem dX11_faultOfRow_27 : decode cX11_faultOfRow 27 = .ok (.i2l, 1) := by decide +kernel
theorem dX11_faultOfRow_28 : decode cX11_faultOfRow 28 = .ok (.iload_n 2, 1) := by decide +kernel
theorem dX11_faultOfRow_29 : decode cX11_faultOfRow 29 = .ok (.i2l, 1) := by decide +kernel
theorem dX11_faultOfRow_30 : decode cX11_faultOfRow 30 = .ok (.invokestatic 83, 3) := by decide +kernel
theorem dX11_faultOfRow_33 : decode cX11_faultOfRow 33 = .ok (.ifCond .ne 6, 3) := by decide +kernel
theorem dX11_faultOfRow_36 : decode cX11_faultOfRow 36 = .ok (.iload 4, 2) := by decide +kernel
theorem dX11_faultOfRow_38 : decode cX11_faultOfRow 38 = .ok (.ireturn, 1) := by decide +kernel
theorem dX11_faultOfRow_39 : decode cX11_faultOfRow 39 = .ok (.iinc 4 1, 3) := by decide +kernel
theorem dX11_faultOfRow_42 : decode cX11_faultOfRow 42 = .ok (.goto (-39), 3) := by decide +kernel
theorem dX11_faultOfRow_45 : decode cX11_faultOfRow 45 = .ok (.aload_n 0, 1) := by decide +kernel
theorem dX11_faultOfRow_46 : decode cX11_faultOfRow 46 = .ok (.getfield 93, 3) := by decide +kernel
theorem dX11_faultOfRow_49 : decode cX11_faultOfRow 49 = .ok (.ifCond .ne 7, 3) := by decide +kernel
theorem dX11_faultOfRow_52 : decode cX11_faultOfRow 52 = .ok (.iconst 0, 1) := by decide +kernel
theorem dX11_faultOfRow_53 : decode cX11_faultOfRow 53 = .ok (.goto 5, 3) := by decide +kernel
theorem dX11_faultOfRow_56 : decode cX11_faultOfRow 56 = .ok (.bipush (-6), 2) := by decide +kernel
theorem dX11_faultOfRow_58 : decode cX11_faultOfRow 58 = .ok (.ireturn, 1) := by decide +kernel
theorem dX11_faultOfOrders_0 : decode cX11_faultOfOrders 0 = .ok (.aload_n 0, 1) := by decide +kernel
theorem dX11_faultOfOrders_1 : decode cX11_faultOfOrders 1 = .ok (.invokevirtual 96, 3) := by decide +kernel
theorem dX11_faultOfOrders_4 : decode cX11_faultOfOrders 4 = .ok (.istore_n 2, 1) := by decide +kernel
theorem dX11_faultOfOrders_5 : decode cX11_faultOfOrders 5 = .ok (.bipush (-6), 2) := by decide +kernel
theorem dX11_faultOfOrders_7 : decode cX11_faultOfOrders 7 = .ok (.istore_n 3, 1) := by decide +kernel
theorem dX11_faultOfOrders_8 : decode cX11_faultOfOrders 8 = .ok (.iconst 0, 1) := by decide +kernel
theorem dX11_faultOfOrders_9 : decode cX11_faultOfOrders 9 = .ok (.istore 4, 2) := by decide +kernel
theorem dX11_faultOfOrders_11 : decode cX11_faultOfOrders 11 = .ok (.iload 4, 2) := by decide +kernel
theorem dX11_faultOfOrders_13 : decode cX11_faultOfOrders 13 = .ok (.aload_n 0, 1) := by decide +kernel
theorem dX11_faultOfOrders_14 : decode cX11_faultOfOrders 14 = .ok (.getfield 93, 3) := by decide +kernel
theorem dX11_faultOfOrders_17 : decode cX11_faultOfOrders 17 = .ok (.if_icmp .ge 90, 3) := by decide +kernel
theorem dX11_faultOfOrders_20 : decode cX11_faultOfOrders 20 = .ok (.aload_n 0, 1) := by decide +kernel
theorem dX11_faultOfOrders_21 : decode cX11_faultOfOrders 21 = .ok (.getfield 34, 3) := by decide +kernel
theorem dX11_faultOfOrders_24 : decode cX11_faultOfOrders 24 = .ok (.iload 4, 2) := by decide +kernel
theorem dX11_faultOfOrders_26 : decode cX11_faultOfOrders 26 = .ok (.iaload, 1) := by decide +kernel
theorem dX11_faultOfOrders_27 : decode cX11_faultOfOrders 27 = .ok (.istore 5, 2) := by decide +kernel
theorem dX11_faultOfOrders_29 : decode cX11_faultOfOrders 29 = .ok (.iload 5, 2) := by decide +kernel
theorem dX11_faultOfOrders_31 : decode cX11_faultOfOrders 31 = .ok (.bipush 58, 2) := by decide +kernel
theorem dX11_faultOfOrders_33 : decode cX11_faultOfOrders 33 = .ok (.if_icmp .ne 22, 3) := by decide +kernel
theorem dX11_faultOfOrders_36 : decode cX11_faultOfOrders 36 = .ok (.iload_n 1, 1) := by decide +kernel
theorem dX11_faultOfOrders_37 : decode cX11_faultOfOrders 37 = .ok (.ifCond .eq 18, 3) := by decide +kernel
theorem dX11_faultOfOrders_40 : decode cX11_faultOfOrders 40 = .ok (.iload_n 3, 1) := by decide +kernel
theorem dX11_faultOfOrders_41 : decode cX11_faultOfOrders 41 = .ok (.ifCond .ge 14, 3) := by decide +kernel
theorem dX11_faultOfOrders_44 : decode cX11_faultOfOrders 44 = .ok (.iload 4, 2) := by decide +kernel
theorem dX11_faultOfOrders_46 : decode cX11_faultOfOrders 46 = .ok (.ifCond .le 9, 3) := by decide +kernel
theorem dX11_faultOfOrders_49 : decode cX11_faultOfOrders 49 = .ok (.iload 4, 2) := by decide +kernel
theorem dX11_faultOfOrders_51 : decode cX11_faultOfOrders 51 = .ok (.istore_n 3, 1) := by decide +kernel
theorem dX11_faultOfOrders_52 : decode cX11_faultOfOrders 52 = .ok (.goto 49, 3) := by decide +kernel
theorem dX11_faultOfOrders_55 : decode cX11_faultOfOrders 55 = .ok (.iload 5, 2) := by decide +kernel
theorem dX11_faultOfOrders_57 : decode cX11_faultOfOrders 57 = .ok (.i2l, 1) := by decide +kernel
theorem dX11_faultOfOrders_58 : decode cX11_faultOfOrders 58 = .ok (.ldc2_w 100, 3) := by decide +kernel
theorem dX11_faultOfOrders_61 : decode cX11_faultOfOrders 61 = .ok (.ldc2_w 102, 3) := by decide +kernel
theorem dX11_faultOfOrders_64 : decode cX11_faultOfOrders 64 = .ok (.invokestatic 83, 3) := by decide +kernel
theorem dX11_faultOfOrders_67 : decode cX11_faultOfOrders 67 = .ok (.ifCond .eq 31, 3) := by decide +kernel
theorem dX11_faultOfOrders_70 : decode cX11_faultOfOrders 70 = .ok (.iload_n 2, 1) := by decide +kernel
theorem dX11_faultOfOrders_71 : decode cX11_faultOfOrders 71 = .ok (.iload 5, 2) := by decide +kernel
theorem dX11_faultOfOrders_73 : decode cX11_faultOfOrders 73 = .ok (.bipush 48, 2) := by decide +kernel
theorem dX11_faultOfOrders_75 : decode cX11_faultOfOrders 75 = .ok (.isub, 1) := by decide +kernel
theorem dX11_faultOfOrders_76 : decode cX11_faultOfOrders 76 = .ok (.ishr, 1) := by decide +kernel
theorem dX11_faultOfOrders_77 : decode cX11_faultOfOrders 77 = .ok (.iconst 1, 1) := by decide +kernel
theorem dX11_faultOfOrders_78 : decode cX11_faultOfOrders 78 = .ok (.iand, 1) := by decide +kernel
theorem dX11_faultOfOrders_79 : decode cX11_faultOfOrders 79 = .ok (.iconst 1, 1) := by decide +kernel
theorem dX11_faultOfOrders_80 : decode cX11_faultOfOrders 80 = .ok (.if_icmp .ne 18, 3) := by decide +kernel
theorem dX11_faultOfOrders_83 : decode cX11_faultOfOrders 83 = .ok (.iload_n 2, 1) := by decide +kernel
theorem dX11_faultOfOrders_84 : decode cX11_faultOfOrders 84 = .ok (.iconst 1, 1) := by decide +kernel
theorem dX11_faultOfOrders_85 : decode cX11_faultOfOrders 85 = .ok (.iload 5, 2) := by decide +kernel
theorem dX11_faultOfOrders_87 : decode cX11_faultOfOrders 87 = .ok (.bipush 48, 2) := by decide +kernel
theorem dX11_faultOfOrders_89 : decode cX11_faultOfOrders 89 = .ok (.isub, 1) := by decide +kernel
theorem dX11_faultOfOrders_90 : decode cX11_faultOfOrders 90 = .ok (.ishl, 1) := by decide +kernel
theorem dX11_faultOfOrders_91 : decode cX11_faultOfOrders 91 = .ok (.iconst (-1), 1) := by decide +kernel
theorem dX11_faultOfOrders_92 : decode cX11_faultOfOrders 92 = .ok (.ixor, 1) := by decide +kernel
theorem dX11_faultOfOrders_93 : decode cX11_faultOfOrders 93 = .ok (.iand, 1) := by decide +kernel
theorem dX11_faultOfOrders_94 : decode cX11_faultOfOrders 94 = .ok (.istore_n 2, 1) := by decide +kernel
theorem dX11_faultOfOrders_95 : decode cX11_faultOfOrders 95 = .ok (.goto 6, 3) := by decide +kernel
theorem dX11_faultOfOrders_98 : decode cX11_faultOfOrders 98 = .ok (.iload 4, 2) := by decide +kernel
theorem dX11_faultOfOrders_100 : decode cX11_faultOfOrders 100 = .ok (.ireturn, 1) := by decide +kernel
theorem dX11_faultOfOrders_101 : decode cX11_faultOfOrders 101 = .ok (.iinc 4 1, 3) := by decide +kernel
theorem dX11_faultOfOrders_104 : decode cX11_faultOfOrders 104 = .ok (.goto (-93), 3) := by decide +kernel
theorem dX11_faultOfOrders_107 : decode cX11_faultOfOrders 107 = .ok (.iload_n 1, 1) := by decide +kernel
theorem dX11_faultOfOrders_108 : decode cX11_faultOfOrders 108 = .ok (.ifCond .eq 25, 3) := by decide +kernel
theorem dX11_faultOfOrders_111 : decode cX11_faultOfOrders 111 = .ok (.iload_n 3, 1) := by decide +kernel
theorem dX11_faultOfOrders_112 : decode cX11_faultOfOrders 112 = .ok (.ifCond .lt 13, 3) := by decide +kernel
theorem dX11_faultOfOrders_115 : decode cX11_faultOfOrders 115 = .ok (.iload_n 3, 1) := by decide +kernel
theorem dX11_faultOfOrders_116 : decode cX11_faultOfOrders 116 = .ok (.aload_n 0, 1) := by decide +kernel
theorem dX11_faultOfOrders_117 : decode cX11_faultOfOrders 117 = .ok (.getfield 93, 3) := by decide +kernel
theorem dX11_faultOfOrders_120 : decode cX11_faultOfOrders 120 = .ok (.iconst 1, 1) := by decide +kernel
theorem dX11_faultOfOrders_121 : decode cX11_faultOfOrders 121 = .ok (.isub, 1) := by decide +kernel
theorem dX11_faultOfOrders_122 : decode cX11_faultOfOrders 122 = .ok (.if_icmp .ne 7, 3) := by decide +kernel
theorem dX11_faultOfOrders_125 : decode cX11_faultOfOrders 125 = .ok (.iconst 1, 1) := by decide +kernel
theorem dX11_faultOfOrders_126 : decode cX11_faultOfOrders 126 = .ok (.goto 19, 3) := by decide +kernel
theorem dX11_faultOfOrders_129 : decode cX11_faultOfOrders 129 = .ok (.iconst 0, 1) := by decide +kernel
theorem dX11_faultOfOrders_130 : decode cX11_faultOfOrders 130 = .ok (.goto 15, 3) := by decide +kernel
theorem dX11_faultOfOrders_133 : decode cX11_faultOfOrders 133 = .ok (.aload_n 0, 1) := by decide +kernel
theorem dX11_faultOfOrders_134 : decode cX11_faultOfOrders 134 = .ok (.getfield 93, 3) := by decide +kernel
theorem dX11_faultOfOrders_137 : decode cX11_faultOfOrders 137 = .ok (.ifCond .ne 7, 3) := by decide +kernel
theorem dX11_faultOfOrders_140 : decode cX11_faultOfOrders 140 = .ok (.iconst 1, 1) := by decide +kernel
theorem dX11_faultOfOrders_141 : decode cX11_faultOfOrders 141 = .ok (.goto 4, 3) := by decide +kernel
theorem dX11_faultOfOrders_144 : decode cX11_faultOfOrders 144 = .ok (.iconst 0, 1) := by decide +kernel
theorem dX11_faultOfOrders_145 : decode cX11_faultOfOrders 145 = .ok (.istore 4, 2) := by decide +kernel
theorem dX11_faultOfOrders_147 : decode cX11_faultOfOrders 147 = .ok (.iload 4, 2) := by decide +kernel
theorem dX11_faultOfOrders_149 : decode cX11_faultOfOrders 149 = .ok (.ifCond .eq 10, 3) := by decide +kernel
theorem dX11_faultOfOrders_152 : decode cX11_faultOfOrders 152 = .ok (.aload_n 0, 1) := by decide +kernel
theorem dX11_faultOfOrders_153 : decode cX11_faultOfOrders 153 = .ok (.getfield 93, 3) := by decide +kernel
theorem dX11_faultOfOrders_156 : decode cX11_faultOfOrders 156 = .ok (.goto 5, 3) := by decide +kernel
theorem dX11_faultOfOrders_159 : decode cX11_faultOfOrders 159 = .ok (.bipush (-6), 2) := by decide +kernel
theorem dX11_faultOfOrders_161 : decode cX11_faultOfOrders 161 = .ok (.ireturn, 1) := by decide +kernel
theorem dX11_fault_0 : decode cX11_fault 0 = .ok (.iload_n 1, 1) := by decide +kernel
theorem dX11_fault_1 : decode cX11_fault 1 = .ok (.tableswitch 64 0 3 #[31, 41, 52, 58], 31) := by decide +kernel
theorem dX11_fault_32 : decode cX11_fault 32 = .ok (.aload_n 0, 1) := by decide +kernel
theorem dX11_fault_33 : decode cX11_fault 33 = .ok (.bipush 97, 2) := by decide +kernel
theorem dX11_fault_35 : decode cX11_fault 35 = .ok (.bipush 102, 2) := by decide +kernel
theorem dX11_fault_37 : decode cX11_fault 37 = .ok (.iconst 5, 1) := by decide +kernel
theorem dX11_fault_38 : decode cX11_fault 38 = .ok (.invokevirtual 104, 3) := by decide +kernel
theorem dX11_fault_41 : decode cX11_fault 41 = .ok (.ireturn, 1) := by decide +kernel
theorem dX11_fault_42 : decode cX11_fault 42 = .ok (.aload_n 0, 1) := by decide +kernel
theorem dX11_fault_43 : decode cX11_fault 43 = .ok (.bipush 48, 2) := by decide +kernel
theorem dX11_fault_45 : decode cX11_fault 45 = .ok (.bipush 57, 2) := by decide +kernel
theorem dX11_fault_47 : decode cX11_fault 47 = .ok (.bipush 6, 2) := by decide +kernel
theorem dX11_fault_49 : decode cX11_fault 49 = .ok (.invokevirtual 104, 3) := by decide +kernel
theorem dX11_fault_52 : decode cX11_fault 52 = .ok (.ireturn, 1) := by decide +kernel
theorem dX11_fault_53 : decode cX11_fault 53 = .ok (.aload_n 0, 1) := by decide +kernel
theorem dX11_fault_54 : decode cX11_fault 54 = .ok (.iconst 0, 1) := by decide +kernel
theorem dX11_fault_55 : decode cX11_fault 55 = .ok (.invokevirtual 108, 3) := by decide +kernel
theorem dX11_fault_58 : decode cX11_fault 58 = .ok (.ireturn, 1) := by decide +kernel
theorem dX11_fault_59 : decode cX11_fault 59 = .ok (.aload_n 0, 1) := by decide +kernel
theorem dX11_fault_60 : decode cX11_fault 60 = .ok (.iconst 1, 1) := by decide +kernel
theorem dX11_fault_61 : decode cX11_fault 61 = .ok (.invokevirtual 108, 3) := by decide +kernel
theorem dX11_fault_64 : decode cX11_fault 64 = .ok (.ireturn, 1) := by decide +kernel
theorem dX11_fault_65 : decode cX11_fault 65 = .ok (.bipush (-2), 2) := by decide +kernel
theorem dX11_fault_67 : decode cX11_fault 67 = .ok (.ireturn, 1) := by decide +kernel
theorem dX11_word_0 : decode cX11_word 0 = .ok (.iload_n 1, 1) := by decide +kernel
theorem dX11_word_1 : decode cX11_word 1 = .ok (.invokestatic 112, 3) := by decide +kernel
theorem dX11_word_4 : decode cX11_word 4 = .ok (.ifCond .ne 5, 3) := by decide +kernel
theorem dX11_word_7 : decode cX11_word 7 = .ok (.iconst (-1), 1) := by decide +kernel
theorem dX11_word_8 : decode cX11_word 8 = .ok (.ireturn, 1) := by decide +kernel
theorem dX11_word_9 : decode cX11_word 9 = .ok (.aload_n 0, 1) := by decide +kernel
theorem dX11_word_10 : decode cX11_word 10 = .ok (.iconst 0, 1) := by decide +kernel
theorem dX11_word_11 : decode cX11_word 11 = .ok (.invokevirtual 116, 3) := by decide +kernel
theorem dX11_word_14 : decode cX11_word 14 = .ok (.ifCond .lt 6, 3) := by decide +kernel
theorem dX11_word_17 : decode cX11_word 17 = .ok (.bipush (-5), 2) := by decide +kernel
theorem dX11_word_19 : decode cX11_word 19 = .ok (.ireturn, 1) := by decide +kernel
theorem dX11_word_20 : decode cX11_word 20 = .ok (.aload_n 0, 1) := by decide +kernel
theorem dX11_word_21 : decode cX11_word 21 = .ok (.getfield 13, 3) := by decide +kernel
theorem dX11_word_24 : decode cX11_word 24 = .ok (.iload_n 1, 1) := by decide +kernel
theorem dX11_word_25 : decode cX11_word 25 = .ok (.aload_n 0, 1) := by decide +kernel
theorem dX11_word_26 : decode cX11_word 26 = .ok (.getfield 93, 3) := by decide +kernel
theorem dX11_word_29 : decode cX11_word 29 = .ok (.iastore, 1) := by decide +kernel
theorem dX11_word_30 : decode cX11_word 30 = .ok (.iconst 0, 1) := by decide +kernel
theorem dX11_word_31 : decode cX11_word 31 = .ok (.istore_n 2, 1) := by decide +kernel
theorem dX11_word_32 : decode cX11_word 32 = .ok (.iload_n 2, 1) := by decide +kernel
theorem dX11_word_33 : decode cX11_word 33 = .ok (.aload_n 0, 1) := by decide +kernel
theorem dX11_word_34 : decode cX11_word 34 = .ok (.getfield 93, 3) := by decide +kernel
theorem dX11_word_37 : decode cX11_word 37 = .ok (.if_icmp .ge 28, 3) := by decide +kernel
theorem dX11_word_40 : decode cX11_word 40 = .ok (.aload_n 0, 1) := by decide +kernel
theorem dX11_word_41 : decode cX11_word 41 = .ok (.getfield 7, 3) := by decide +kernel
theorem dX11_word_44 : decode cX11_word 44 = .ok (.iconst 5, 1) := by decide +kernel
theorem dX11_word_45 : decode cX11_word 45 = .ok (.iload_n 1, 1) := by decide +kernel
theorem dX11_word_46 : decode cX11_word 46 = .ok (.imul, 1) := by decide +kernel
theorem dX11_word_47 : decode cX11_word 47 = .ok (.iload_n 2, 1) := by decide +kernel
theorem dX11_word_48 : decode cX11_word 48 = .ok (.iadd, 1) := by decide +kernel
theorem dX11_word_49 : decode cX11_word 49 = .ok (.aload_n 0, 1) := by decide +kernel
theorem dX11_word_50 : decode cX11_word 50 = .ok (.getfield 34, 3) := by decide +kernel
theorem dX11_word_53 : decode cX11_word 53 = .ok (.iload_n 2, 1) := by decide +kernel
theorem dX11_word_54 : decode cX11_word 54 = .ok (.iaload, 1) := by decide +kernel
theorem dX11_word_55 : decode cX11_word 55 = .ok (.bipush 97, 2) := by decide +kernel
theorem dX11_word_57 : decode cX11_word 57 = .ok (.isub, 1) := by decide +kernel
theorem dX11_word_58 : decode cX11_word 58 = .ok (.iastore, 1) := by decide +kernel
theorem dX11_word_59 : decode cX11_word 59 = .ok (.iinc 2 1, 3) := by decide +kernel
theorem dX11_word_62 : decode cX11_word 62 = .ok (.goto (-30), 3) := by decide +kernel
theorem dX11_word_65 : decode cX11_word 65 = .ok (.aload_n 0, 1) := by decide +kernel
theorem dX11_word_66 : decode cX11_word 66 = .ok (.iconst 0, 1) := by decide +kernel
theorem dX11_word_67 : decode cX11_word 67 = .ok (.putfield 93, 3) := by decide +kernel
theorem dX11_word_70 : decode cX11_word 70 = .ok (.aload_n 0, 1) := by decide +kernel
theorem dX11_word_71 : decode cX11_word 71 = .ok (.getfield 13, 3) := by decide +kernel
theorem dX11_word_74 : decode cX11_word 74 = .ok (.iload_n 1, 1) := by decide +kernel
theorem dX11_word_75 : decode cX11_word 75 = .ok (.iaload, 1) := by decide +kernel
theorem dX11_word_76 : decode cX11_word 76 = .ok (.ireturn, 1) := by decide +kernel
theorem dX11_sheet_0 : decode cX11_sheet 0 = .ok (.iload_n 1, 1) := by decide +kernel
theorem dX11_sheet_1 : decode cX11_sheet 1 = .ok (.invokestatic 120, 3) := by decide +kernel
theorem dX11_sheet_4 : decode cX11_sheet 4 = .ok (.ifCond .ne 5, 3) := by decide +kernel
theorem dX11_sheet_7 : decode cX11_sheet 7 = .ok (.iconst (-1), 1) := by decide +kernel
theorem dX11_sheet_8 : decode cX11_sheet 8 = .ok (.ireturn, 1) := by decide +kernel
theorem dX11_sheet_9 : decode cX11_sheet 9 = .ok (.aload_n 0, 1) := by decide +kernel
theorem dX11_sheet_10 : decode cX11_sheet 10 = .ok (.iconst 1, 1) := by decide +kernel
theorem dX11_sheet_11 : decode cX11_sheet 11 = .ok (.invokevirtual 116, 3) := by decide +kernel
theorem dX11_sheet_14 : decode cX11_sheet 14 = .ok (.ifCond .lt 6, 3) := by decide +kernel
theorem dX11_sheet_17 : decode cX11_sheet 17 = .ok (.bipush (-5), 2) := by decide +kernel
theorem dX11_sheet_19 : decode cX11_sheet 19 = .ok (.ireturn, 1) := by decide +kernel
theorem dX11_sheet_20 : decode cX11_sheet 20 = .ok (.aload_n 0, 1) := by decide +kernel
theorem dX11_sheet_21 : decode cX11_sheet 21 = .ok (.getfield 22, 3) := by decide +kernel
theorem dX11_sheet_24 : decode cX11_sheet 24 = .ok (.iload_n 1, 1) := by decide +kernel
theorem dX11_sheet_25 : decode cX11_sheet 25 = .ok (.aload_n 0, 1) := by decide +kernel
theorem dX11_sheet_26 : decode cX11_sheet 26 = .ok (.getfield 93, 3) := by decide +kernel
theorem dX11_sheet_29 : decode cX11_sheet 29 = .ok (.iastore, 1) := by decide +kernel
theorem dX11_sheet_30 : decode cX11_sheet 30 = .ok (.iconst 0, 1) := by decide +kernel
theorem dX11_sheet_31 : decode cX11_sheet 31 = .ok (.istore_n 2, 1) := by decide +kernel
theorem dX11_sheet_32 : decode cX11_sheet 32 = .ok (.iload_n 2, 1) := by decide +kernel
theorem dX11_sheet_33 : decode cX11_sheet 33 = .ok (.aload_n 0, 1) := by decide +kernel
theorem dX11_sheet_34 : decode cX11_sheet 34 = .ok (.getfield 93, 3) := by decide +kernel
theorem dX11_sheet_37 : decode cX11_sheet 37 = .ok (.if_icmp .ge 29, 3) := by decide +kernel
theorem dX11_sheet_40 : decode cX11_sheet 40 = .ok (.aload_n 0, 1) := by decide +kernel
theorem dX11_sheet_41 : decode cX11_sheet 41 = .ok (.getfield 19, 3) := by decide +kernel
theorem dX11_sheet_44 : decode cX11_sheet 44 = .ok (.bipush 6, 2) := by decide +kernel
theorem dX11_sheet_46 : decode cX11_sheet 46 = .ok (.iload_n 1, 1) := by decide +kernel
theorem dX11_sheet_47 : decode cX11_sheet 47 = .ok (.imul, 1) := by decide +kernel
theorem dX11_sheet_48 : decode cX11_sheet 48 = .ok (.iload_n 2, 1) := by decide +kernel
theorem dX11_sheet_49 : decode cX11_sheet 49 = .ok (.iadd, 1) := by decide +kernel
theorem dX11_sheet_50 : decode cX11_sheet 50 = .ok (.aload_n 0, 1) := by decide +kernel
theorem dX11_sheet_51 : decode cX11_sheet 51 = .ok (.getfield 34, 3) := by decide +kernel
theorem dX11_sheet_54 : decode cX11_sheet 54 = .ok (.iload_n 2, 1) := by decide +kernel
theorem dX11_sheet_55 : decode cX11_sheet 55 = .ok (.iaload, 1) := by decide +kernel
theorem dX11_sheet_56 : decode cX11_sheet 56 = .ok (.bipush 48, 2) := by decide +kernel
theorem dX11_sheet_58 : decode cX11_sheet 58 = .ok (.isub, 1) := by decide +kernel
theorem dX11_sheet_59 : decode cX11_sheet 59 = .ok (.iastore, 1) := by decide +kernel
theorem dX11_sheet_60 : decode cX11_sheet 60 = .ok (.iinc 2 1, 3) := by decide +kernel
theorem dX11_sheet_63 : decode cX11_sheet 63 = .ok (.goto (-31), 3) := by decide +kernel
theorem dX11_sheet_66 : decode cX11_sheet 66 = .ok (.aload_n 0, 1) := by decide +kernel
theorem dX11_sheet_67 : decode cX11_sheet 67 = .ok (.iconst 0, 1) := by decide +kernel
theorem dX11_sheet_68 : decode cX11_sheet 68 = .ok (.putfield 93, 3) := by decide +kernel
theorem dX11_sheet_71 : decode cX11_sheet 71 = .ok (.aload_n 0, 1) := by decide +kernel
theorem dX11_sheet_72 : decode cX11_sheet 72 = .ok (.getfield 22, 3) := by decide +kernel
theorem dX11_sheet_75 : decode cX11_sheet 75 = .ok (.iload_n 1, 1) := by decide +kernel
theorem dX11_sheet_76 : decode cX11_sheet 76 = .ok (.iaload, 1) := by decide +kernel
theorem dX11_sheet_77 : decode cX11_sheet 77 = .ok (.ireturn, 1) := by decide +kernel
theorem dX11_take_0 : decode cX11_take 0 = .ok (.iload_n 1, 1) := by decide +kernel
theorem dX11_take_1 : decode cX11_take 1 = .ok (.invokestatic 120, 3) := by decide +kernel
theorem dX11_take_4 : decode cX11_take 4 = .ok (.ifCond .ne 5, 3) := by decide +kernel
theorem dX11_take_7 : decode cX11_take 7 = .ok (.iconst (-1), 1) := by decide +kernel
theorem dX11_take_8 : decode cX11_take 8 = .ok (.ireturn, 1) := by decide +kernel
theorem dX11_take_9 : decode cX11_take 9 = .ok (.aload_n 0, 1) := by decide +kernel
theorem dX11_take_10 : decode cX11_take 10 = .ok (.getfield 22, 3) := by decide +kernel
theorem dX11_take_13 : decode cX11_take 13 = .ok (.iload_n 1, 1) := by decide +kernel
theorem dX11_take_14 : decode cX11_take 14 = .ok (.iaload, 1) := by decide +kernel
theorem dX11_take_15 : decode cX11_take 15 = .ok (.istore_n 2, 1) := by decide +kernel
theorem dX11_take_16 : decode cX11_take 16 = .ok (.aload_n 0, 1) := by decide +kernel
theorem dX11_take_17 : decode cX11_take 17 = .ok (.getfield 22, 3) := by decide +kernel
theorem dX11_take_20 : decode cX11_take 20 = .ok (.iload_n 1, 1) := by decide +kernel
theorem dX11_take_21 : decode cX11_take 21 = .ok (.iconst 0, 1) := by decide +kernel
theorem dX11_take_22 : decode cX11_take 22 = .ok (.iastore, 1) := by decide +kernel
theorem dX11_take_23 : decode cX11_take 23 = .ok (.iload_n 2, 1) := by decide +kernel
theorem dX11_take_24 : decode cX11_take 24 = .ok (.ireturn, 1) := by decide +kernel
theorem dX11_stand_0 : decode cX11_stand 0 = .ok (.iload_n 1, 1) := by decide +kernel
theorem dX11_stand_1 : decode cX11_stand 1 = .ok (.invokestatic 112, 3) := by decide +kernel
theorem dX11_stand_4 : decode cX11_stand 4 = .ok (.ifCond .ne 5, 3) := by decide +kernel
theorem dX11_stand_7 : decode cX11_stand 7 = .ok (.iconst (-1), 1) := by decide +kernel
theorem dX11_stand_8 : decode cX11_stand 8 = .ok (.ireturn, 1) := by decide +kernel
theorem dX11_stand_9 : decode cX11_stand 9 = .ok (.iload_n 2, 1) := by decide +kernel
theorem dX11_stand_10 : decode cX11_stand 10 = .ok (.i2l, 1) := by decide +kernel
theorem dX11_stand_11 : decode cX11_stand 11 = .ok (.ldc2_w 123, 3) := by decide +kernel
theorem dX11_stand_14 : decode cX11_stand 14 = .ok (.ldc2_w 81, 3) := by decide +kernel
theorem dX11_stand_17 : decode cX11_stand 17 = .ok (.invokestatic 83, 3) := by decide +kernel
theorem dX11_stand_20 : decode cX11_stand 20 = .ok (.ifCond .eq 8, 3) := by decide +kernel
theorem dX11_stand_23 : decode cX11_stand 23 = .ok (.iload_n 2, 1) := by decide +kernel
theorem dX11_stand_24 : decode cX11_stand 24 = .ok (.iload_n 1, 1) := by decide +kernel
theorem dX11_stand_25 : decode cX11_stand 25 = .ok (.if_icmp .ne 6, 3) := by decide +kernel
theorem dX11_stand_28 : decode cX11_stand 28 = .ok (.bipush (-2), 2) := by decide +kernel
theorem dX11_stand_30 : decode cX11_stand 30 = .ok (.ireturn, 1) := by decide +kernel
theorem dX11_stand_31 : decode cX11_stand 31 = .ok (.aload_n 0, 1) := by decide +kernel
theorem dX11_stand_32 : decode cX11_stand 32 = .ok (.getfield 16, 3) := by decide +kernel
theorem dX11_stand_35 : decode cX11_stand 35 = .ok (.iload_n 1, 1) := by decide +kernel
theorem dX11_stand_36 : decode cX11_stand 36 = .ok (.iaload, 1) := by decide +kernel
theorem dX11_stand_37 : decode cX11_stand 37 = .ok (.istore_n 3, 1) := by decide +kernel
theorem dX11_stand_38 : decode cX11_stand 38 = .ok (.aload_n 0, 1) := by decide +kernel
theorem dX11_stand_39 : decode cX11_stand 39 = .ok (.getfield 16, 3) := by decide +kernel
theorem dX11_stand_42 : decode cX11_stand 42 = .ok (.iload_n 1, 1) := by decide +kernel
theorem dX11_stand_43 : decode cX11_stand 43 = .ok (.iload_n 2, 1) := by decide +kernel
theorem dX11_stand_44 : decode cX11_stand 44 = .ok (.iconst (-1), 1) := by decide +kernel
theorem dX11_stand_45 : decode cX11_stand 45 = .ok (.if_icmp .ne 8, 3) := by decide +kernel
theorem dX11_stand_48 : decode cX11_stand 48 = .ok (.bipush (-6), 2) := by decide +kernel
theorem dX11_stand_50 : decode cX11_stand 50 = .ok (.goto 4, 3) := by decide +kernel
theorem dX11_stand_53 : decode cX11_stand 53 = .ok (.iload_n 2, 1) := by decide +kernel
theorem dX11_stand_54 : decode cX11_stand 54 = .ok (.iastore, 1) := by decide +kernel
theorem dX11_stand_55 : decode cX11_stand 55 = .ok (.iload_n 3, 1) := by decide +kernel
theorem dX11_stand_56 : decode cX11_stand 56 = .ok (.ireturn, 1) := by decide +kernel
theorem dX11_lay_0 : decode cX11_lay 0 = .ok (.iload_n 1, 1) := by decide +kernel
theorem dX11_lay_1 : decode cX11_lay 1 = .ok (.invokestatic 125, 3) := by decide +kernel
theorem dX11_lay_4 : decode cX11_lay 4 = .ok (.ifCond .ne 5, 3) := by decide +kernel
theorem dX11_lay_7 : decode cX11_lay 7 = .ok (.iconst (-1), 1) := by decide +kernel
theorem dX11_lay_8 : decode cX11_lay 8 = .ok (.ireturn, 1) := by decide +kernel
theorem dX11_lay_9 : decode cX11_lay 9 = .ok (.iload_n 2, 1) := by decide +kernel
theorem dX11_lay_10 : decode cX11_lay 10 = .ok (.i2l, 1) := by decide +kernel
theorem dX11_lay_11 : decode cX11_lay 11 = .ok (.lconst 0, 1) := by decide +kernel
theorem dX11_lay_12 : decode cX11_lay 12 = .ok (.ldc2_w 128, 3) := by decide +kernel
theorem dX11_lay_15 : decode cX11_lay 15 = .ok (.invokestatic 83, 3) := by decide +kernel
theorem dX11_lay_18 : decode cX11_lay 18 = .ok (.ifCond .ne 6, 3) := by decide +kernel
theorem dX11_lay_21 : decode cX11_lay 21 = .ok (.bipush (-2), 2) := by decide +kernel
theorem dX11_lay_23 : decode cX11_lay 23 = .ok (.ireturn, 1) := by decide +kernel
theorem dX11_lay_24 : decode cX11_lay 24 = .ok (.aload_n 0, 1) := by decide +kernel
theorem dX11_lay_25 : decode cX11_lay 25 = .ok (.getfield 25, 3) := by decide +kernel
theorem dX11_lay_28 : decode cX11_lay 28 = .ok (.iload_n 1, 1) := by decide +kernel
theorem dX11_lay_29 : decode cX11_lay 29 = .ok (.iaload, 1) := by decide +kernel
theorem dX11_lay_30 : decode cX11_lay 30 = .ok (.istore_n 3, 1) := by decide +kernel
theorem dX11_lay_31 : decode cX11_lay 31 = .ok (.aload_n 0, 1) := by decide +kernel
theorem dX11_lay_32 : decode cX11_lay 32 = .ok (.getfield 25, 3) := by decide +kernel
theorem dX11_lay_35 : decode cX11_lay 35 = .ok (.iload_n 1, 1) := by decide +kernel
theorem dX11_lay_36 : decode cX11_lay 36 = .ok (.iload_n 2, 1) := by decide +kernel
theorem dX11_lay_37 : decode cX11_lay 37 = .ok (.iastore, 1) := by decide +kernel
theorem dX11_lay_38 : decode cX11_lay 38 = .ok (.iload_n 3, 1) := by decide +kernel
theorem dX11_lay_39 : decode cX11_lay 39 = .ok (.ireturn, 1) := by decide +kernel
theorem dX11_set_0 : decode cX11_set 0 = .ok (.iload_n 1, 1) := by decide +kernel
theorem dX11_set_1 : decode cX11_set 1 = .ok (.ifCond .eq 22, 3) := by decide +kernel
theorem dX11_set_4 : decode cX11_set 4 = .ok (.iload_n 1, 1) := by decide +kernel
theorem dX11_set_5 : decode cX11_set 5 = .ok (.iconst 1, 1) := by decide +kernel
theorem dX11_set_6 : decode cX11_set 6 = .ok (.if_icmp .eq 17, 3) := by decide +kernel
theorem dX11_set_9 : decode cX11_set 9 = .ok (.iload_n 1, 1) := by decide +kernel
theorem dX11_set_10 : decode cX11_set 10 = .ok (.i2l, 1) := by decide +kernel
theorem dX11_set_11 : decode cX11_set 11 = .ok (.ldc2_w 130, 3) := by decide +kernel
theorem dX11_set_14 : decode cX11_set 14 = .ok (.ldc2_w 132, 3) := by decide +kernel
theorem dX11_set_17 : decode cX11_set 17 = .ok (.invokestatic 83, 3) := by decide +kernel
theorem dX11_set_20 : decode cX11_set 20 = .ok (.ifCond .eq 7, 3) := by decide +kernel
theorem dX11_set_23 : decode cX11_set 23 = .ok (.iconst 1, 1) := by decide +kernel
theorem dX11_set_24 : decode cX11_set 24 = .ok (.goto 4, 3) := by decide +kernel
theorem dX11_set_27 : decode cX11_set 27 = .ok (.iconst 0, 1) := by decide +kernel
theorem dX11_set_28 : decode cX11_set 28 = .ok (.istore_n 3, 1) := by decide +kernel
theorem dX11_set_29 : decode cX11_set 29 = .ok (.iload_n 3, 1) := by decide +kernel
theorem dX11_set_30 : decode cX11_set 30 = .ok (.ifCond .eq 25, 3) := by decide +kernel
theorem dX11_set_33 : decode cX11_set 33 = .ok (.iload_n 2, 1) := by decide +kernel
theorem dX11_set_34 : decode cX11_set 34 = .ok (.i2l, 1) := by decide +kernel
theorem dX11_set_35 : decode cX11_set 35 = .ok (.lconst 0, 1) := by decide +kernel
theorem dX11_set_36 : decode cX11_set 36 = .ok (.iload_n 1, 1) := by decide +kernel
theorem dX11_set_37 : decode cX11_set 37 = .ok (.ifCond .ne 9, 3) := by decide +kernel
theorem dX11_set_40 : decode cX11_set 40 = .ok (.ldc2_w 134, 3) := by decide +kernel
theorem dX11_set_43 : decode cX11_set 43 = .ok (.goto 6, 3) := by decide +kernel
theorem dX11_set_46 : decode cX11_set 46 = .ok (.ldc2_w 128, 3) := by decide +kernel
theorem dX11_set_49 : decode cX11_set 49 = .ok (.invokestatic 83, 3) := by decide +kernel
theorem dX11_set_52 : decode cX11_set 52 = .ok (.ifCond .ne 6, 3) := by decide +kernel
theorem dX11_set_55 : decode cX11_set 55 = .ok (.bipush (-2), 2) := by decide +kernel
theorem dX11_set_57 : decode cX11_set 57 = .ok (.ireturn, 1) := by decide +kernel
theorem dX11_set_58 : decode cX11_set 58 = .ok (.aload_n 0, 1) := by decide +kernel
theorem dX11_set_59 : decode cX11_set 59 = .ok (.iload_n 1, 1) := by decide +kernel
theorem dX11_set_60 : decode cX11_set 60 = .ok (.iconst 2, 1) := by decide +kernel
theorem dX11_set_61 : decode cX11_set 61 = .ok (.if_icmp .ge 9, 3) := by decide +kernel
theorem dX11_set_64 : decode cX11_set 64 = .ok (.iconst 2, 1) := by decide +kernel
theorem dX11_set_65 : decode cX11_set 65 = .ok (.iload_n 1, 1) := by decide +kernel
theorem dX11_set_66 : decode cX11_set 66 = .ok (.iadd, 1) := by decide +kernel
theorem dX11_set_67 : decode cX11_set 67 = .ok (.goto 4, 3) := by decide +kernel
theorem dX11_set_70 : decode cX11_set 70 = .ok (.iload_n 1, 1) := by decide +kernel
theorem dX11_set_71 : decode cX11_set 71 = .ok (.invokevirtual 136, 3) := by decide +kernel
theorem dX11_set_74 : decode cX11_set 74 = .ok (.istore 4, 2) := by decide +kernel
theorem dX11_set_76 : decode cX11_set 76 = .ok (.iload_n 1, 1) := by decide +kernel
theorem dX11_set_77 : decode cX11_set 77 = .ok (.ifCond .ne 11, 3) := by decide +kernel
theorem dX11_set_80 : decode cX11_set 80 = .ok (.aload_n 0, 1) := by decide +kernel
theorem dX11_set_81 : decode cX11_set 81 = .ok (.iload_n 2, 1) := by decide +kernel
theorem dX11_set_82 : decode cX11_set 82 = .ok (.putfield 139, 3) := by decide +kernel
theorem dX11_set_85 : decode cX11_set 85 = .ok (.goto 26, 3) := by decide +kernel
theorem dX11_set_88 : decode cX11_set 88 = .ok (.iload_n 1, 1) := by decide +kernel
theorem dX11_set_89 : decode cX11_set 89 = .ok (.iconst 1, 1) := by decide +kernel
theorem dX11_set_90 : decode cX11_set 90 = .ok (.if_icmp .ne 11, 3) := by decide +kernel
theorem dX11_set_93 : decode cX11_set 93 = .ok (.aload_n 0, 1) := by decide +kernel
theorem dX11_set_94 : decode cX11_set 94 = .ok (.iload_n 2, 1) := by decide +kernel
theorem dX11_set_95 : decode cX11_set 95 = .ok (.putfield 77, 3) := by decide +kernel
theorem dX11_set_98 : decode cX11_set 98 = .ok (.goto 13, 3) := by decide +kernel
theorem dX11_set_101 : decode cX11_set 101 = .ok (.aload_n 0, 1) := by decide +kernel
theorem dX11_set_102 : decode cX11_set 102 = .ok (.getfield 28, 3) := by decide +kernel
theorem dX11_set_105 : decode cX11_set 105 = .ok (.iload_n 1, 1) := by decide +kernel
theorem dX11_set_106 : decode cX11_set 106 = .ok (.bipush 10, 2) := by decide +kernel
theorem dX11_set_108 : decode cX11_set 108 = .ok (.isub, 1) := by decide +kernel
theorem dX11_set_109 : decode cX11_set 109 = .ok (.iload_n 2, 1) := by decide +kernel
theorem dX11_set_110 : decode cX11_set 110 = .ok (.iastore, 1) := by decide +kernel
theorem dX11_set_111 : decode cX11_set 111 = .ok (.iload 4, 2) := by decide +kernel
theorem dX11_set_113 : decode cX11_set 113 = .ok (.ireturn, 1) := by decide +kernel
theorem dX11_wordIn_0 : decode cX11_wordIn 0 = .ok (.aload_n 0, 1) := by decide +kernel
theorem dX11_wordIn_1 : decode cX11_wordIn 1 = .ok (.getfield 19, 3) := by decide +kernel
theorem dX11_wordIn_4 : decode cX11_wordIn 4 = .ok (.bipush 6, 2) := by decide +kernel
theorem dX11_wordIn_6 : decode cX11_wordIn 6 = .ok (.iload_n 1, 1) := by decide +kernel
theorem dX11_wordIn_7 : decode cX11_wordIn 7 = .ok (.imul, 1) := by decide +kernel
theorem dX11_wordIn_8 : decode cX11_wordIn 8 = .ok (.iload_n 2, 1) := by decide +kernel
theorem dX11_wordIn_9 : decode cX11_wordIn 9 = .ok (.iadd, 1) := by decide +kernel
theorem dX11_wordIn_10 : decode cX11_wordIn 10 = .ok (.iaload, 1) := by decide +kernel
theorem dX11_wordIn_11 : decode cX11_wordIn 11 = .ok (.istore 4, 2) := by decide +kernel
theorem dX11_wordIn_13 : decode cX11_wordIn 13 = .ok (.iload_n 3, 1) := by decide +kernel
theorem dX11_wordIn_14 : decode cX11_wordIn 14 = .ok (.iload_n 2, 1) := by decide +kernel
theorem dX11_wordIn_15 : decode cX11_wordIn 15 = .ok (.ishr, 1) := by decide +kernel
theorem dX11_wordIn_16 : decode cX11_wordIn 16 = .ok (.iconst 1, 1) := by decide +kernel
theorem dX11_wordIn_17 : decode cX11_wordIn 17 = .ok (.iand, 1) := by decide +kernel
theorem dX11_wordIn_18 : decode cX11_wordIn 18 = .ok (.iconst 1, 1) := by decide +kernel
theorem dX11_wordIn_19 : decode cX11_wordIn 19 = .ok (.if_icmp .ne 13, 3) := by decide +kernel
theorem dX11_wordIn_22 : decode cX11_wordIn 22 = .ok (.aload_n 0, 1) := by decide +kernel
theorem dX11_wordIn_23 : decode cX11_wordIn 23 = .ok (.getfield 16, 3) := by decide +kernel
theorem dX11_wordIn_26 : decode cX11_wordIn 26 = .ok (.iload 4, 2) := by decide +kernel
theorem dX11_wordIn_28 : decode cX11_wordIn 28 = .ok (.iaload, 1) := by decide +kernel
theorem dX11_wordIn_29 : decode cX11_wordIn 29 = .ok (.goto 5, 3) := by decide +kernel
theorem dX11_wordIn_32 : decode cX11_wordIn 32 = .ok (.iload 4, 2) := by decide +kernel
theorem dX11_wordIn_34 : decode cX11_wordIn 34 = .ok (.ireturn, 1) := by decide +kernel
theorem dX11_findNeeds_0 : decode cX11_findNeeds 0 = .ok (.iconst 0, 1) := by decide +kernel
theorem dX11_findNeeds_1 : decode cX11_findNeeds 1 = .ok (.istore_n 3, 1) := by decide +kernel
theorem dX11_findNeeds_2 : decode cX11_findNeeds 2 = .ok (.iload_n 3, 1) := by decide +kernel
theorem dX11_findNeeds_3 : decode cX11_findNeeds 3 = .ok (.bipush 6, 2) := by decide +kernel
theorem dX11_findNeeds_5 : decode cX11_findNeeds 5 = .ok (.if_icmp .ge 16, 3) := by decide +kernel
theorem dX11_findNeeds_8 : decode cX11_findNeeds 8 = .ok (.aload_n 0, 1) := by decide +kernel
theorem dX11_findNeeds_9 : decode cX11_findNeeds 9 = .ok (.getfield 37, 3) := by decide +kernel
theorem dX11_findNeeds_12 : decode cX11_findNeeds 12 = .ok (.iload_n 3, 1) := by decide +kernel
theorem dX11_findNeeds_13 : decode cX11_findNeeds 13 = .ok (.iconst 0, 1) := by decide +kernel
theorem dX11_findNeeds_14 : decode cX11_findNeeds 14 = .ok (.iastore, 1) := by decide +kernel
theorem dX11_findNeeds_15 : decode cX11_findNeeds 15 = .ok (.iinc 3 1, 3) := by decide +kernel
theorem dX11_findNeeds_18 : decode cX11_findNeeds 18 = .ok (.goto (-16), 3) := by decide +kernel
theorem dX11_findNeeds_21 : decode cX11_findNeeds 21 = .ok (.aload_n 0, 1) := by decide +kernel
theorem dX11_findNeeds_22 : decode cX11_findNeeds 22 = .ok (.iload_n 1, 1) := by decide +kernel
theorem dX11_findNeeds_23 : decode cX11_findNeeds 23 = .ok (.iload_n 2, 1) := by decide +kernel
theorem dX11_findNeeds_24 : decode cX11_findNeeds 24 = .ok (.invokevirtual 142, 3) := by decide +kernel
theorem dX11_findNeeds_27 : decode cX11_findNeeds 27 = .ok (.return_, 1) := by decide +kernel
theorem dX11_addNeeds_0 : decode cX11_addNeeds 0 = .ok (.iconst 0, 1) := by decide +kernel
theorem dX11_addNeeds_1 : decode cX11_addNeeds 1 = .ok (.istore_n 3, 1) := by decide +kernel
theorem dX11_addNeeds_2 : decode cX11_addNeeds 2 = .ok (.iload_n 3, 1) := by decide +kernel
theorem dX11_addNeeds_3 : decode cX11_addNeeds 3 = .ok (.aload_n 0, 1) := by decide +kernel
theorem dX11_addNeeds_4 : decode cX11_addNeeds 4 = .ok (.getfield 22, 3) := by decide +kernel
theorem dX11_addNeeds_7 : decode cX11_addNeeds 7 = .ok (.iload_n 1, 1) := by decide +kernel
theorem dX11_addNeeds_8 : decode cX11_addNeeds 8 = .ok (.iaload, 1) := by decide +kernel
theorem dX11_addNeeds_9 : decode cX11_addNeeds 9 = .ok (.if_icmp .ge 60, 3) := by decide +kernel
theorem dX11_addNeeds_12 : decode cX11_addNeeds 12 = .ok (.aload_n 0, 1) := by decide +kernel
theorem dX11_addNeeds_13 : decode cX11_addNeeds 13 = .ok (.iload_n 1, 1) := by decide +kernel
theorem dX11_addNeeds_14 : decode cX11_addNeeds 14 = .ok (.iload_n 3, 1) := by decide +kernel
theorem dX11_addNeeds_15 : decode cX11_addNeeds 15 = .ok (.iload_n 2, 1) := by decide +kernel
theorem dX11_addNeeds_16 : decode cX11_addNeeds 16 = .ok (.invokevirtual 146, 3) := by decide +kernel
theorem dX11_addNeeds_19 : decode cX11_addNeeds 19 = .ok (.istore 4, 2) := by decide +kernel
theorem dX11_addNeeds_21 : decode cX11_addNeeds 21 = .ok (.iconst 0, 1) := by decide +kernel
theorem dX11_addNeeds_22 : decode cX11_addNeeds 22 = .ok (.istore 5, 2) := by decide +kernel
theorem dX11_addNeeds_24 : decode cX11_addNeeds 24 = .ok (.iload 5, 2) := by decide +kernel
theorem dX11_addNeeds_26 : decode cX11_addNeeds 26 = .ok (.aload_n 0, 1) := by decide +kernel
theorem dX11_addNeeds_27 : decode cX11_addNeeds 27 = .ok (.getfield 13, 3) := by decide +kernel
theorem dX11_addNeeds_30 : decode cX11_addNeeds 30 = .ok (.iload 4, 2) := by decide +kernel
theorem dX11_addNeeds_32 : decode cX11_addNeeds 32 = .ok (.iaload, 1) := by decide +kernel
theorem dX11_addNeeds_33 : decode cX11_addNeeds 33 = .ok (.if_icmp .ge 30, 3) := by decide +kernel
theorem dX11_addNeeds_36 : decode cX11_addNeeds 36 = .ok (.aload_n 0, 1) := by decide +kernel
theorem dX11_addNeeds_37 : decode cX11_addNeeds 37 = .ok (.getfield 37, 3) := by decide +kernel
theorem dX11_addNeeds_40 : decode cX11_addNeeds 40 = .ok (.aload_n 0, 1) := by decide +kernel
theorem dX11_addNeeds_41 : decode cX11_addNeeds 41 = .ok (.getfield 7, 3) := by decide +kernel
theorem dX11_addNeeds_44 : decode cX11_addNeeds 44 = .ok (.iconst 5, 1) := by decide +kernel
theorem dX11_addNeeds_45 : decode cX11_addNeeds 45 = .ok (.iload 4, 2) := by decide +kernel
theorem dX11_addNeeds_47 : decode cX11_addNeeds 47 = .ok (.imul, 1) := by decide +kernel
theorem dX11_addNeeds_48 : decode cX11_addNeeds 48 = .ok (.iload 5, 2) := by decide +kernel
theorem dX11_addNeeds_50 : decode cX11_addNeeds 50 = .ok (.iadd, 1) := by decide +kernel
theorem dX11_addNeeds_51 : decode cX11_addNeeds 51 = .ok (.iaload, 1) := by decide +kernel
theorem dX11_addNeeds_52 : decode cX11_addNeeds 52 = .ok (.dup2, 1) := by decide +kernel
theorem dX11_addNeeds_53 : decode cX11_addNeeds 53 = .ok (.iaload, 1) := by decide +kernel
theorem dX11_addNeeds_54 : decode cX11_addNeeds 54 = .ok (.iconst 1, 1) := by decide +kernel
theorem dX11_addNeeds_55 : decode cX11_addNeeds 55 = .ok (.iadd, 1) := by decide +kernel
theorem dX11_addNeeds_56 : decode cX11_addNeeds 56 = .ok (.iastore, 1) := by decide +kernel
theorem dX11_addNeeds_57 : decode cX11_addNeeds 57 = .ok (.iinc 5 1, 3) := by decide +kernel
theorem dX11_addNeeds_60 : decode cX11_addNeeds 60 = .ok (.goto (-36), 3) := by decide +kernel
theorem dX11_addNeeds_63 : decode cX11_addNeeds 63 = .ok (.iinc 3 1, 3) := by decide +kernel
theorem dX11_addNeeds_66 : decode cX11_addNeeds 66 = .ok (.goto (-64), 3) := by decide +kernel
theorem dX11_addNeeds_69 : decode cX11_addNeeds 69 = .ok (.return_, 1) := by decide +kernel
theorem dX11_breaksBy_0 : decode cX11_breaksBy 0 = .ok (.aload_n 0, 1) := by decide +kernel
theorem dX11_breaksBy_1 : decode cX11_breaksBy 1 = .ok (.getfield 139, 3) := by decide +kernel
theorem dX11_breaksBy_4 : decode cX11_breaksBy 4 = .ok (.iconst 2, 1) := by decide +kernel
theorem dX11_breaksBy_5 : decode cX11_breaksBy 5 = .ok (.if_icmp .ne 18, 3) := by decide +kernel
theorem dX11_breaksBy_8 : decode cX11_breaksBy 8 = .ok (.aload_n 0, 1) := by decide +kernel
theorem dX11_breaksBy_9 : decode cX11_breaksBy 9 = .ok (.getfield 7, 3) := by decide +kernel
theorem dX11_breaksBy_12 : decode cX11_breaksBy 12 = .ok (.iconst 5, 1) := by decide +kernel
theorem dX11_breaksBy_13 : decode cX11_breaksBy 13 = .ok (.aload_n 0, 1) := by decide +kernel
theorem dX11_breaksBy_14 : decode cX11_breaksBy 14 = .ok (.iload_n 1, 1) := by decide +kernel
theorem dX11_breaksBy_15 : decode cX11_breaksBy 15 = .ok (.iconst 0, 1) := by decide +kernel
theorem dX11_breaksBy_16 : decode cX11_breaksBy 16 = .ok (.iload_n 2, 1) := by decide +kernel
theorem dX11_breaksBy_17 : decode cX11_breaksBy 17 = .ok (.invokevirtual 146, 3) := by decide +kernel
theorem dX11_breaksBy_20 : decode cX11_breaksBy 20 = .ok (.imul, 1) := by decide +kernel
theorem dX11_breaksBy_21 : decode cX11_breaksBy 21 = .ok (.iaload, 1) := by decide +kernel
theorem dX11_breaksBy_22 : decode cX11_breaksBy 22 = .ok (.ireturn, 1) := by decide +kernel
theorem dX11_breaksBy_23 : decode cX11_breaksBy 23 = .ok (.aload_n 0, 1) := by decide +kernel
theorem dX11_breaksBy_24 : decode cX11_breaksBy 24 = .ok (.getfield 139, 3) := by decide +kernel
theorem dX11_breaksBy_27 : decode cX11_breaksBy 27 = .ok (.iconst 3, 1) := by decide +kernel
theorem dX11_breaksBy_28 : decode cX11_breaksBy 28 = .ok (.if_icmp .ne 36, 3) := by decide +kernel
theorem dX11_breaksBy_31 : decode cX11_breaksBy 31 = .ok (.aload_n 0, 1) := by decide +kernel
theorem dX11_breaksBy_32 : decode cX11_breaksBy 32 = .ok (.iload_n 1, 1) := by decide +kernel
theorem dX11_breaksBy_33 : decode cX11_breaksBy 33 = .ok (.aload_n 0, 1) := by decide +kernel
theorem dX11_breaksBy_34 : decode cX11_breaksBy 34 = .ok (.getfield 22, 3) := by decide +kernel
theorem dX11_breaksBy_37 : decode cX11_breaksBy 37 = .ok (.iload_n 1, 1) := by decide +kernel
theorem dX11_breaksBy_38 : decode cX11_breaksBy 38 = .ok (.iaload, 1) := by decide +kernel
theorem dX11_breaksBy_39 : decode cX11_breaksBy 39 = .ok (.iconst 1, 1) := by decide +kernel
theorem dX11_breaksBy_40 : decode cX11_breaksBy 40 = .ok (.isub, 1) := by decide +kernel
theorem dX11_breaksBy_41 : decode cX11_breaksBy 41 = .ok (.iload_n 2, 1) := by decide +kernel
theorem dX11_breaksBy_42 : decode cX11_breaksBy 42 = .ok (.invokevirtual 146, 3) := by decide +kernel
theorem dX11_breaksBy_45 : decode cX11_breaksBy 45 = .ok (.istore_n 3, 1) := by decide +kernel
theorem dX11_breaksBy_46 : decode cX11_breaksBy 46 = .ok (.aload_n 0, 1) := by decide +kernel
theorem dX11_breaksBy_47 : decode cX11_breaksBy 47 = .ok (.getfield 7, 3) := by decide +kernel
theorem dX11_breaksBy_50 : decode cX11_breaksBy 50 = .ok (.iconst 5, 1) := by decide +kernel
theorem dX11_breaksBy_51 : decode cX11_breaksBy 51 = .ok (.iload_n 3, 1) := by decide +kernel
theorem dX11_breaksBy_52 : decode cX11_breaksBy 52 = .ok (.imul, 1) := by decide +kernel
theorem dX11_breaksBy_53 : decode cX11_breaksBy 53 = .ok (.aload_n 0, 1) := by decide +kernel
theorem dX11_breaksBy_54 : decode cX11_breaksBy 54 = .ok (.getfield 13, 3) := by decide +kernel
theorem dX11_breaksBy_57 : decode cX11_breaksBy 57 = .ok (.iload_n 3, 1) := by decide +kernel
theorem dX11_breaksBy_58 : decode cX11_breaksBy 58 = .ok (.iaload, 1) := by decide +kernel
theorem dX11_breaksBy_59 : decode cX11_breaksBy 59 = .ok (.iadd, 1) := by decide +kernel
theorem dX11_breaksBy_60 : decode cX11_breaksBy 60 = .ok (.iconst 1, 1) := by decide +kernel
theorem dX11_breaksBy_61 : decode cX11_breaksBy 61 = .ok (.isub, 1) := by decide +kernel
theorem dX11_breaksBy_62 : decode cX11_breaksBy 62 = .ok (.iaload, 1) := by decide +kernel
theorem dX11_breaksBy_63 : decode cX11_breaksBy 63 = .ok (.ireturn, 1) := by decide +kernel
theorem dX11_breaksBy_64 : decode cX11_breaksBy 64 = .ok (.bipush (-6), 2) := by decide +kernel
theorem dX11_breaksBy_66 : decode cX11_breaksBy 66 = .ok (.istore_n 3, 1) := by decide +kernel
theorem dX11_breaksBy_67 : decode cX11_breaksBy 67 = .ok (.iconst 0, 1) := by decide +kernel
theorem dX11_breaksBy_68 : decode cX11_breaksBy 68 = .ok (.istore 4, 2) := by decide +kernel
theorem dX11_breaksBy_70 : decode cX11_breaksBy 70 = .ok (.iload 4, 2) := by decide +kernel
theorem dX11_breaksBy_72 : decode cX11_breaksBy 72 = .ok (.bipush 6, 2) := by decide +kernel
theorem dX11_breaksBy_74 : decode cX11_breaksBy 74 = .ok (.if_icmp .ge 84, 3) := by decide +kernel
theorem dX11_breaksBy_77 : decode cX11_breaksBy 77 = .ok (.iload_n 3, 1) := by decide +kernel
theorem dX11_breaksBy_78 : decode cX11_breaksBy 78 = .ok (.ifCond .lt 45, 3) := by decide +kernel
theorem dX11_breaksBy_81 : decode cX11_breaksBy 81 = .ok (.aload_n 0, 1) := by decide +kernel
theorem dX11_breaksBy_82 : decode cX11_breaksBy 82 = .ok (.getfield 139, 3) := by decide +kernel
theorem dX11_breaksBy_85 : decode cX11_breaksBy 85 = .ok (.ifCond .ne 22, 3) := by decide +kernel
theorem dX11_breaksBy_88 : decode cX11_breaksBy 88 = .ok (.aload_n 0, 1) := by decide +kernel
theorem dX11_breaksBy_89 : decode cX11_breaksBy 89 = .ok (.getfield 37, 3) := by decide +kernel
theorem dX11_breaksBy_92 : decode cX11_breaksBy 92 = .ok (.iload 4, 2) := by decide +kernel
theorem dX11_breaksBy_94 : decode cX11_breaksBy 94 = .ok (.iaload, 1) := by decide +kernel
theorem dX11_breaksBy_95 : decode cX11_breaksBy 95 = .ok (.aload_n 0, 1) := by decide +kernel
theorem dX11_breaksBy_96 : decode cX11_breaksBy 96 = .ok (.getfield 37, 3) := by decide +kernel
theorem dX11_breaksBy_99 : decode cX11_breaksBy 99 = .ok (.iload_n 3, 1) := by decide +kernel
theorem dX11_breaksBy_100 : decode cX11_breaksBy 100 = .ok (.iaload, 1) := by decide +kernel
theorem dX11_breaksBy_101 : decode cX11_breaksBy 101 = .ok (.if_icmp .le 26, 3) := by decide +kernel
theorem dX11_breaksBy_104 : decode cX11_breaksBy 104 = .ok (.goto 19, 3) := by decide +kernel
theorem dX11_breaksBy_107 : decode cX11_breaksBy 107 = .ok (.aload_n 0, 1) := by decide +kernel
theorem dX11_breaksBy_108 : decode cX11_breaksBy 108 = .ok (.getfield 37, 3) := by decide +kernel
theorem dX11_breaksBy_111 : decode cX11_breaksBy 111 = .ok (.iload 4, 2) := by decide +kernel
theorem dX11_breaksBy_113 : decode cX11_breaksBy 113 = .ok (.iaload, 1) := by decide +kernel
theorem dX11_breaksBy_114 : decode cX11_breaksBy 114 = .ok (.aload_n 0, 1) := by decide +kernel
theorem dX11_breaksBy_115 : decode cX11_breaksBy 115 = .ok (.getfield 37, 3) := by decide +kernel
theorem dX11_breaksBy_118 : decode cX11_breaksBy 118 = .ok (.iload_n 3, 1) := by decide +kernel
theorem dX11_breaksBy_119 : decode cX11_breaksBy 119 = .ok (.iaload, 1) := by decide +kernel
theorem dX11_breaksBy_120 : decode cX11_breaksBy 120 = .ok (.if_icmp .ge 7, 3) := by decide +kernel
theorem dX11_breaksBy_123 : decode cX11_breaksBy 123 = .ok (.iconst 1, 1) := by decide +kernel
theorem dX11_breaksBy_124 : decode cX11_breaksBy 124 = .ok (.goto 4, 3) := by decide +kernel
theorem dX11_breaksBy_127 : decode cX11_breaksBy 127 = .ok (.iconst 0, 1) := by decide +kernel
theorem dX11_breaksBy_128 : decode cX11_breaksBy 128 = .ok (.istore 5, 2) := by decide +kernel
theorem dX11_breaksBy_130 : decode cX11_breaksBy 130 = .ok (.aload_n 0, 1) := by decide +kernel
theorem dX11_breaksBy_131 : decode cX11_breaksBy 131 = .ok (.getfield 37, 3) := by decide +kernel
theorem dX11_breaksBy_134 : decode cX11_breaksBy 134 = .ok (.iload 4, 2) := by decide +kernel
theorem dX11_breaksBy_136 : decode cX11_breaksBy 136 = .ok (.iaload, 1) := by decide +kernel
theorem dX11_breaksBy_137 : decode cX11_breaksBy 137 = .ok (.ifCond .le 13, 3) := by decide +kernel
theorem dX11_breaksBy_140 : decode cX11_breaksBy 140 = .ok (.iload 5, 2) := by decide +kernel
theorem dX11_breaksBy_142 : decode cX11_breaksBy 142 = .ok (.ifCond .eq 8, 3) := by decide +kernel
theorem dX11_breaksBy_145 : decode cX11_breaksBy 145 = .ok (.iload 4, 2) := by decide +kernel
theorem dX11_breaksBy_147 : decode cX11_breaksBy 147 = .ok (.goto 4, 3) := by decide +kernel
theorem dX11_breaksBy_150 : decode cX11_breaksBy 150 = .ok (.iload_n 3, 1) := by decide +kernel
theorem dX11_breaksBy_151 : decode cX11_breaksBy 151 = .ok (.istore_n 3, 1) := by decide +kernel
theorem dX11_breaksBy_152 : decode cX11_breaksBy 152 = .ok (.iinc 4 1, 3) := by decide +kernel
theorem dX11_breaksBy_155 : decode cX11_breaksBy 155 = .ok (.goto (-85), 3) := by decide +kernel
theorem dX11_breaksBy_158 : decode cX11_breaksBy 158 = .ok (.iload_n 3, 1) := by decide +kernel
theorem dX11_breaksBy_159 : decode cX11_breaksBy 159 = .ok (.ireturn, 1) := by decide +kernel
theorem dX11_breaksOf_0 : decode cX11_breaksOf 0 = .ok (.aload_n 0, 1) := by decide +kernel
theorem dX11_breaksOf_1 : decode cX11_breaksOf 1 = .ok (.iload_n 1, 1) := by decide +kernel
theorem dX11_breaksOf_2 : decode cX11_breaksOf 2 = .ok (.iconst 0, 1) := by decide +kernel
theorem dX11_breaksOf_3 : decode cX11_breaksOf 3 = .ok (.invokevirtual 149, 3) := by decide +kernel
theorem dX11_breaksOf_6 : decode cX11_breaksOf 6 = .ok (.aload_n 0, 1) := by decide +kernel
theorem dX11_breaksOf_7 : decode cX11_breaksOf 7 = .ok (.iload_n 1, 1) := by decide +kernel
theorem dX11_breaksOf_8 : decode cX11_breaksOf 8 = .ok (.iconst 0, 1) := by decide +kernel
theorem dX11_breaksOf_9 : decode cX11_breaksOf 9 = .ok (.invokevirtual 152, 3) := by decide +kernel
theorem dX11_breaksOf_12 : decode cX11_breaksOf 12 = .ok (.ireturn, 1) := by decide +kernel
theorem dX11_needs_0 : decode cX11_needs 0 = .ok (.iload_n 1, 1) := by decide +kernel
theorem dX11_needs_1 : decode cX11_needs 1 = .ok (.invokestatic 120, 3) := by decide +kernel
theorem dX11_needs_4 : decode cX11_needs 4 = .ok (.ifCond .eq 15, 3) := by decide +kernel
theorem dX11_needs_7 : decode cX11_needs 7 = .ok (.iload_n 2, 1) := by decide +kernel
theorem dX11_needs_8 : decode cX11_needs 8 = .ok (.iconst (-1), 1) := by decide +kernel
theorem dX11_needs_9 : decode cX11_needs 9 = .ok (.if_icmp .eq 12, 3) := by decide +kernel
theorem dX11_needs_12 : decode cX11_needs 12 = .ok (.iload_n 2, 1) := by decide +kernel
theorem dX11_needs_13 : decode cX11_needs 13 = .ok (.invokestatic 125, 3) := by decide +kernel
theorem dX11_needs_16 : decode cX11_needs 16 = .ok (.ifCond .ne 5, 3) := by decide +kernel
theorem dX11_needs_19 : decode cX11_needs 19 = .ok (.iconst (-1), 1) := by decide +kernel
theorem dX11_needs_20 : decode cX11_needs 20 = .ok (.ireturn, 1) := by decide +kernel
theorem dX11_needs_21 : decode cX11_needs 21 = .ok (.iload_n 2, 1) := by decide +kernel
theorem dX11_needs_22 : decode cX11_needs 22 = .ok (.iconst (-1), 1) := by decide +kernel
theorem dX11_needs_23 : decode cX11_needs 23 = .ok (.if_icmp .ne 23, 3) := by decide +kernel
theorem dX11_needs_26 : decode cX11_needs 26 = .ok (.aload_n 0, 1) := by decide +kernel
theorem dX11_needs_27 : decode cX11_needs 27 = .ok (.getfield 22, 3) := by decide +kernel
theorem dX11_needs_30 : decode cX11_needs 30 = .ok (.iload_n 1, 1) := by decide +kernel
theorem dX11_needs_31 : decode cX11_needs 31 = .ok (.iaload, 1) := by decide +kernel
theorem dX11_needs_32 : decode cX11_needs 32 = .ok (.ifCond .ne 8, 3) := by decide +kernel
theorem dX11_needs_35 : decode cX11_needs 35 = .ok (.bipush (-6), 2) := by decide +kernel
theorem dX11_needs_37 : decode cX11_needs 37 = .ok (.goto 8, 3) := by decide +kernel
theorem dX11_needs_40 : decode cX11_needs 40 = .ok (.aload_n 0, 1) := by decide +kernel
theorem dX11_needs_41 : decode cX11_needs 41 = .ok (.iload_n 1, 1) := by decide +kernel
theorem dX11_needs_42 : decode cX11_needs 42 = .ok (.invokevirtual 156, 3) := by decide +kernel
theorem dX11_needs_45 : decode cX11_needs 45 = .ok (.ireturn, 1) := by decide +kernel
theorem dX11_needs_46 : decode cX11_needs 46 = .ok (.aload_n 0, 1) := by decide +kernel
theorem dX11_needs_47 : decode cX11_needs 47 = .ok (.iload_n 1, 1) := by decide +kernel
theorem dX11_needs_48 : decode cX11_needs 48 = .ok (.iconst 0, 1) := by decide +kernel
theorem dX11_needs_49 : decode cX11_needs 49 = .ok (.invokevirtual 149, 3) := by decide +kernel
theorem dX11_needs_52 : decode cX11_needs 52 = .ok (.aload_n 0, 1) := by decide +kernel
theorem dX11_needs_53 : decode cX11_needs 53 = .ok (.getfield 37, 3) := by decide +kernel
theorem dX11_needs_56 : decode cX11_needs 56 = .ok (.iload_n 2, 1) := by decide +kernel
theorem dX11_needs_57 : decode cX11_needs 57 = .ok (.iaload, 1) := by decide +kernel
theorem dX11_needs_58 : decode cX11_needs 58 = .ok (.ireturn, 1) := by decide +kernel
theorem dX11_openCase_0 : decode cX11_openCase 0 = .ok (.iconst 0, 1) := by decide +kernel
theorem dX11_openCase_1 : decode cX11_openCase 1 = .ok (.istore_n 1, 1) := by decide +kernel
theorem dX11_openCase_2 : decode cX11_openCase 2 = .ok (.iload_n 1, 1) := by decide +kernel
theorem dX11_openCase_3 : decode cX11_openCase 3 = .ok (.bipush 6, 2) := by decide +kernel
theorem dX11_openCase_5 : decode cX11_openCase 5 = .ok (.if_icmp .ge 21, 3) := by decide +kernel
theorem dX11_openCase_8 : decode cX11_openCase 8 = .ok (.aload_n 0, 1) := by decide +kernel
theorem dX11_openCase_9 : decode cX11_openCase 9 = .ok (.getfield 40, 3) := by decide +kernel
theorem dX11_openCase_12 : decode cX11_openCase 12 = .ok (.iload_n 1, 1) := by decide +kernel
theorem dX11_openCase_13 : decode cX11_openCase 13 = .ok (.aload_n 0, 1) := by decide +kernel
theorem dX11_openCase_14 : decode cX11_openCase 14 = .ok (.getfield 25, 3) := by decide +kernel
theorem dX11_openCase_17 : decode cX11_openCase 17 = .ok (.iload_n 1, 1) := by decide +kernel
theorem dX11_openCase_18 : decode cX11_openCase 18 = .ok (.iaload, 1) := by decide +kernel
theorem dX11_openCase_19 : decode cX11_openCase 19 = .ok (.iastore, 1) := by decide +kernel
theorem dX11_openCase_20 : decode cX11_openCase 20 = .ok (.iinc 1 1, 3) := by decide +kernel
theorem dX11_openCase_23 : decode cX11_openCase 23 = .ok (.goto (-21), 3) := by decide +kernel
theorem dX11_openCase_26 : decode cX11_openCase 26 = .ok (.return_, 1) := by decide +kernel
theorem dX11_lose_0 : decode cX11_lose 0 = .ok (.aload_n 0, 1) := by decide +kernel
theorem dX11_lose_1 : decode cX11_lose 1 = .ok (.getfield 40, 3) := by decide +kernel
theorem dX11_lose_4 : decode cX11_lose 4 = .ok (.iload_n 1, 1) := by decide +kernel
theorem dX11_lose_5 : decode cX11_lose 5 = .ok (.aload_n 0, 1) := by decide +kernel
theorem dX11_lose_6 : decode cX11_lose 6 = .ok (.getfield 40, 3) := by decide +kernel
theorem dX11_lose_9 : decode cX11_lose 9 = .ok (.iload_n 1, 1) := by decide +kernel
theorem dX11_lose_10 : decode cX11_lose 10 = .ok (.iaload, 1) := by decide +kernel
theorem dX11_lose_11 : decode cX11_lose 11 = .ok (.ifCond .le 14, 3) := by decide +kernel
theorem dX11_lose_14 : decode cX11_lose 14 = .ok (.aload_n 0, 1) := by decide +kernel
theorem dX11_lose_15 : decode cX11_lose 15 = .ok (.getfield 40, 3) := by decide +kernel
theorem dX11_lose_18 : decode cX11_lose 18 = .ok (.iload_n 1, 1) := by decide +kernel
theorem dX11_lose_19 : decode cX11_lose 19 = .ok (.iaload, 1) := by decide +kernel
theorem dX11_lose_20 : decode cX11_lose 20 = .ok (.iconst 1, 1) := by decide +kernel
theorem dX11_lose_21 : decode cX11_lose 21 = .ok (.isub, 1) := by decide +kernel
theorem dX11_lose_22 : decode cX11_lose 22 = .ok (.goto 4, 3) := by decide +kernel
theorem dX11_lose_25 : decode cX11_lose 25 = .ok (.iconst 0, 1) := by decide +kernel
theorem dX11_lose_26 : decode cX11_lose 26 = .ok (.iastore, 1) := by decide +kernel
theorem dX11_lose_27 : decode cX11_lose 27 = .ok (.return_, 1) := by decide +kernel
theorem dX11_lacking_0 : decode cX11_lacking 0 = .ok (.iconst 0, 1) := by decide +kernel
theorem dX11_lacking_1 : decode cX11_lacking 1 = .ok (.istore_n 1, 1) := by decide +kernel
theorem dX11_lacking_2 : decode cX11_lacking 2 = .ok (.iload_n 1, 1) := by decide +kernel
theorem dX11_lacking_3 : decode cX11_lacking 3 = .ok (.bipush 6, 2) := by decide +kernel
theorem dX11_lacking_5 : decode cX11_lacking 5 = .ok (.if_icmp .ge 26, 3) := by decide +kernel
theorem dX11_lacking_8 : decode cX11_lacking 8 = .ok (.aload_n 0, 1) := by decide +kernel
theorem dX11_lacking_9 : decode cX11_lacking 9 = .ok (.getfield 37, 3) := by decide +kernel
theorem dX11_lacking_12 : decode cX11_lacking 12 = .ok (.iload_n 1, 1) := by decide +kernel
theorem dX11_lacking_13 : decode cX11_lacking 13 = .ok (.iaload, 1) := by decide +kernel
theorem dX11_lacking_14 : decode cX11_lacking 14 = .ok (.aload_n 0, 1) := by decide +kernel
theorem dX11_lacking_15 : decode cX11_lacking 15 = .ok (.getfield 40, 3) := by decide +kernel
theorem dX11_lacking_18 : decode cX11_lacking 18 = .ok (.iload_n 1, 1) := by decide +kernel
theorem dX11_lacking_19 : decode cX11_lacking 19 = .ok (.iaload, 1) := by decide +kernel
theorem dX11_lacking_20 : decode cX11_lacking 20 = .ok (.if_icmp .le 5, 3) := by decide +kernel
theorem dX11_lacking_23 : decode cX11_lacking 23 = .ok (.iload_n 1, 1) := by decide +kernel
theorem dX11_lacking_24 : decode cX11_lacking 24 = .ok (.ireturn, 1) := by decide +kernel
theorem dX11_lacking_25 : decode cX11_lacking 25 = .ok (.iinc 1 1, 3) := by decide +kernel
theorem dX11_lacking_28 : decode cX11_lacking 28 = .ok (.goto (-26), 3) := by decide +kernel
theorem dX11_lacking_31 : decode cX11_lacking 31 = .ok (.bipush (-6), 2) := by decide +kernel
theorem dX11_lacking_33 : decode cX11_lacking 33 = .ok (.ireturn, 1) := by decide +kernel
theorem dX11_sheetAt_0 : decode cX11_sheetAt 0 = .ok (.aload_n 0, 1) := by decide +kernel
theorem dX11_sheetAt_1 : decode cX11_sheetAt 1 = .ok (.getfield 34, 3) := by decide +kernel
theorem dX11_sheetAt_4 : decode cX11_sheetAt 4 = .ok (.iload_n 1, 1) := by decide +kernel
theorem dX11_sheetAt_5 : decode cX11_sheetAt 5 = .ok (.iaload, 1) := by decide +kernel
theorem dX11_sheetAt_6 : decode cX11_sheetAt 6 = .ok (.bipush 48, 2) := by decide +kernel
theorem dX11_sheetAt_8 : decode cX11_sheetAt 8 = .ok (.isub, 1) := by decide +kernel
theorem dX11_sheetAt_9 : decode cX11_sheetAt 9 = .ok (.ireturn, 1) := by decide +kernel
theorem dX11_judgeAll_0 : decode cX11_judgeAll 0 = .ok (.aload_n 0, 1) := by decide +kernel
theorem dX11_judgeAll_1 : decode cX11_judgeAll 1 = .ok (.bipush (-6), 2) := by decide +kernel
theorem dX11_judgeAll_3 : decode cX11_judgeAll 3 = .ok (.putfield 159, 3) := by decide +kernel
theorem dX11_judgeAll_6 : decode cX11_judgeAll 6 = .ok (.aload_n 0, 1) := by decide +kernel
theorem dX11_judgeAll_7 : decode cX11_judgeAll 7 = .ok (.bipush (-6), 2) := by decide +kernel
theorem dX11_judgeAll_9 : decode cX11_judgeAll 9 = .ok (.putfield 162, 3) := by decide +kernel
theorem dX11_judgeAll_12 : decode cX11_judgeAll 12 = .ok (.aload_n 0, 1) := by decide +kernel
theorem dX11_judgeAll_13 : decode cX11_judgeAll 13 = .ok (.bipush (-6), 2) := by decide +kernel
theorem dX11_judgeAll_15 : decode cX11_judgeAll 15 = .ok (.putfield 165, 3) := by decide +kernel
theorem dX11_judgeAll_18 : decode cX11_judgeAll 18 = .ok (.aload_n 0, 1) := by decide +kernel
theorem dX11_judgeAll_19 : decode cX11_judgeAll 19 = .ok (.invokevirtual 168, 3) := by decide +kernel
theorem dX11_judgeAll_22 : decode cX11_judgeAll 22 = .ok (.iconst 0, 1) := by decide +kernel
theorem dX11_judgeAll_23 : decode cX11_judgeAll 23 = .ok (.istore_n 2, 1) := by decide +kernel
theorem dX11_judgeAll_24 : decode cX11_judgeAll 24 = .ok (.iload_n 2, 1) := by decide +kernel
theorem dX11_judgeAll_25 : decode cX11_judgeAll 25 = .ok (.iload_n 1, 1) := by decide +kernel
theorem dX11_judgeAll_26 : decode cX11_judgeAll 26 = .ok (.if_icmp .ge 82, 3) := by decide +kernel
theorem dX11_judgeAll_29 : decode cX11_judgeAll 29 = .ok (.aload_n 0, 1) := by decide +kernel
theorem dX11_judgeAll_30 : decode cX11_judgeAll 30 = .ok (.getfield 159, 3) := by decide +kernel
theorem dX11_judgeAll_33 : decode cX11_judgeAll 33 = .ok (.ifCond .ge 75, 3) := by decide +kernel
theorem dX11_judgeAll_36 : decode cX11_judgeAll 36 = .ok (.aload_n 0, 1) := by decide +kernel
theorem dX11_judgeAll_37 : decode cX11_judgeAll 37 = .ok (.iload_n 2, 1) := by decide +kernel
theorem dX11_judgeAll_38 : decode cX11_judgeAll 38 = .ok (.invokevirtual 171, 3) := by decide +kernel
theorem dX11_judgeAll_41 : decode cX11_judgeAll 41 = .ok (.istore_n 3, 1) := by decide +kernel
theorem dX11_judgeAll_42 : decode cX11_judgeAll 42 = .ok (.aload_n 0, 1) := by decide +kernel
theorem dX11_judgeAll_43 : decode cX11_judgeAll 43 = .ok (.iload_n 3, 1) := by decide +kernel
theorem dX11_judgeAll_44 : decode cX11_judgeAll 44 = .ok (.iconst 0, 1) := by decide +kernel
theorem dX11_judgeAll_45 : decode cX11_judgeAll 45 = .ok (.invokevirtual 149, 3) := by decide +kernel
theorem dX11_judgeAll_48 : decode cX11_judgeAll 48 = .ok (.aload_n 0, 1) := by decide +kernel
theorem dX11_judgeAll_49 : decode cX11_judgeAll 49 = .ok (.invokevirtual 174, 3) := by decide +kernel
theorem dX11_judgeAll_52 : decode cX11_judgeAll 52 = .ok (.istore 4, 2) := by decide +kernel
theorem dX11_judgeAll_54 : decode cX11_judgeAll 54 = .ok (.iload 4, 2) := by decide +kernel
theorem dX11_judgeAll_56 : decode cX11_judgeAll 56 = .ok (.ifCond .lt 36, 3) := by decide +kernel
theorem dX11_judgeAll_59 : decode cX11_judgeAll 59 = .ok (.aload_n 0, 1) := by decide +kernel
theorem dX11_judgeAll_60 : decode cX11_judgeAll 60 = .ok (.iload_n 2, 1) := by decide +kernel
theorem dX11_judgeAll_61 : decode cX11_judgeAll 61 = .ok (.putfield 159, 3) := by decide +kernel
theorem dX11_judgeAll_64 : decode cX11_judgeAll 64 = .ok (.aload_n 0, 1) := by decide +kernel
theorem dX11_judgeAll_65 : decode cX11_judgeAll 65 = .ok (.iload 4, 2) := by decide +kernel
theorem dX11_judgeAll_67 : decode cX11_judgeAll 67 = .ok (.putfield 162, 3) := by decide +kernel
theorem dX11_judgeAll_70 : decode cX11_judgeAll 70 = .ok (.aload_n 0, 1) := by decide +kernel
theorem dX11_judgeAll_71 : decode cX11_judgeAll 71 = .ok (.aload_n 0, 1) := by decide +kernel
theorem dX11_judgeAll_72 : decode cX11_judgeAll 72 = .ok (.getfield 37, 3) := by decide +kernel
theorem dX11_judgeAll_75 : decode cX11_judgeAll 75 = .ok (.iload 4, 2) := by decide +kernel
theorem dX11_judgeAll_77 : decode cX11_judgeAll 77 = .ok (.iaload, 1) := by decide +kernel
theorem dX11_judgeAll_78 : decode cX11_judgeAll 78 = .ok (.aload_n 0, 1) := by decide +kernel
theorem dX11_judgeAll_79 : decode cX11_judgeAll 79 = .ok (.getfield 40, 3) := by decide +kernel
theorem dX11_judgeAll_82 : decode cX11_judgeAll 82 = .ok (.iload 4, 2) := by decide +kernel
theorem dX11_judgeAll_84 : decode cX11_judgeAll 84 = .ok (.iaload, 1) := by decide +kernel
theorem dX11_judgeAll_85 : decode cX11_judgeAll 85 = .ok (.isub, 1) := by decide +kernel
theorem dX11_judgeAll_86 : decode cX11_judgeAll 86 = .ok (.putfield 165, 3) := by decide +kernel
theorem dX11_judgeAll_89 : decode cX11_judgeAll 89 = .ok (.goto 13, 3) := by decide +kernel
theorem dX11_judgeAll_92 : decode cX11_judgeAll 92 = .ok (.aload_n 0, 1) := by decide +kernel
theorem dX11_judgeAll_93 : decode cX11_judgeAll 93 = .ok (.aload_n 0, 1) := by decide +kernel
theorem dX11_judgeAll_94 : decode cX11_judgeAll 94 = .ok (.iload_n 3, 1) := by decide +kernel
theorem dX11_judgeAll_95 : decode cX11_judgeAll 95 = .ok (.iconst 0, 1) := by decide +kernel
theorem dX11_judgeAll_96 : decode cX11_judgeAll 96 = .ok (.invokevirtual 152, 3) := by decide +kernel
theorem dX11_judgeAll_99 : decode cX11_judgeAll 99 = .ok (.invokevirtual 177, 3) := by decide +kernel
theorem dX11_judgeAll_102 : decode cX11_judgeAll 102 = .ok (.iinc 2 1, 3) := by decide +kernel
theorem dX11_judgeAll_105 : decode cX11_judgeAll 105 = .ok (.goto (-81), 3) := by decide +kernel
theorem dX11_judgeAll_108 : decode cX11_judgeAll 108 = .ok (.return_, 1) := by decide +kernel
theorem dX11_judge_0 : decode cX11_judge 0 = .ok (.iload_n 1, 1) := by decide +kernel
theorem dX11_judge_1 : decode cX11_judge 1 = .ok (.i2l, 1) := by decide +kernel
theorem dX11_judge_2 : decode cX11_judge 2 = .ok (.lconst 0, 1) := by decide +kernel
theorem dX11_judge_3 : decode cX11_judge 3 = .ok (.ldc2_w 181, 3) := by decide +kernel
theorem dX11_judge_6 : decode cX11_judge 6 = .ok (.invokestatic 83, 3) := by decide +kernel
theorem dX11_judge_9 : decode cX11_judge 9 = .ok (.ifCond .ne 6, 3) := by decide +kernel
theorem dX11_judge_12 : decode cX11_judge 12 = .ok (.bipush (-2), 2) := by decide +kernel
theorem dX11_judge_14 : decode cX11_judge 14 = .ok (.ireturn, 1) := by decide +kernel
theorem dX11_judge_15 : decode cX11_judge 15 = .ok (.aload_n 0, 1) := by decide +kernel
theorem dX11_judge_16 : decode cX11_judge 16 = .ok (.iconst 2, 1) := by decide +kernel
theorem dX11_judge_17 : decode cX11_judge 17 = .ok (.invokevirtual 116, 3) := by decide +kernel
theorem dX11_judge_20 : decode cX11_judge 20 = .ok (.ifCond .lt 6, 3) := by decide +kernel
theorem dX11_judge_23 : decode cX11_judge 23 = .ok (.bipush (-5), 2) := by decide +kernel
theorem dX11_judge_25 : decode cX11_judge 25 = .ok (.ireturn, 1) := by decide +kernel
theorem dX11_judge_26 : decode cX11_judge 26 = .ok (.aload_n 0, 1) := by decide +kernel
theorem dX11_judge_27 : decode cX11_judge 27 = .ok (.aload_n 0, 1) := by decide +kernel
theorem dX11_judge_28 : decode cX11_judge 28 = .ok (.getfield 93, 3) := by decide +kernel
theorem dX11_judge_31 : decode cX11_judge 31 = .ok (.invokevirtual 183, 3) := by decide +kernel
theorem dX11_judge_34 : decode cX11_judge 34 = .ok (.iload_n 1, 1) := by decide +kernel
theorem dX11_judge_35 : decode cX11_judge 35 = .ok (.ifCond .ne 10, 3) := by decide +kernel
theorem dX11_judge_38 : decode cX11_judge 38 = .ok (.aload_n 0, 1) := by decide +kernel
theorem dX11_judge_39 : decode cX11_judge 39 = .ok (.getfield 159, 3) := by decide +kernel
theorem dX11_judge_42 : decode cX11_judge 42 = .ok (.goto 19, 3) := by decide +kernel
theorem dX11_judge_45 : decode cX11_judge 45 = .ok (.iload_n 1, 1) := by decide +kernel
theorem dX11_judge_46 : decode cX11_judge 46 = .ok (.iconst 1, 1) := by decide +kernel
theorem dX11_judge_47 : decode cX11_judge 47 = .ok (.if_icmp .ne 10, 3) := by decide +kernel
theorem dX11_judge_50 : decode cX11_judge 50 = .ok (.aload_n 0, 1) := by decide +kernel
theorem dX11_judge_51 : decode cX11_judge 51 = .ok (.getfield 162, 3) := by decide +kernel
theorem dX11_judge_54 : decode cX11_judge 54 = .ok (.goto 7, 3) := by decide +kernel
theorem dX11_judge_57 : decode cX11_judge 57 = .ok (.aload_n 0, 1) := by decide +kernel
theorem dX11_judge_58 : decode cX11_judge 58 = .ok (.getfield 165, 3) := by decide +kernel
theorem dX11_judge_61 : decode cX11_judge 61 = .ok (.ireturn, 1) := by decide +kernel
theorem dX11_openBehind_0 : decode cX11_openBehind 0 = .ok (.aload_n 0, 1) := by decide +kernel
theorem dX11_openBehind_1 : decode cX11_openBehind 1 = .ok (.invokevirtual 168, 3) := by decide +kernel
theorem dX11_openBehind_4 : decode cX11_openBehind 4 = .ok (.iconst 0, 1) := by decide +kernel
theorem dX11_openBehind_5 : decode cX11_openBehind 5 = .ok (.istore_n 2, 1) := by decide +kernel
theorem dX11_openBehind_6 : decode cX11_openBehind 6 = .ok (.iload_n 2, 1) := by decide +kernel
theorem dX11_openBehind_7 : decode cX11_openBehind 7 = .ok (.bipush 6, 2) := by decide +kernel
theorem dX11_openBehind_9 : decode cX11_openBehind 9 = .ok (.if_icmp .ge 27, 3) := by decide +kernel
theorem dX11_openBehind_12 : decode cX11_openBehind 12 = .ok (.iload_n 1, 1) := by decide +kernel
theorem dX11_openBehind_13 : decode cX11_openBehind 13 = .ok (.iload_n 2, 1) := by decide +kernel
theorem dX11_openBehind_14 : decode cX11_openBehind 14 = .ok (.ishr, 1) := by decide +kernel
theorem dX11_openBehind_15 : decode cX11_openBehind 15 = .ok (.iconst 1, 1) := by decide +kernel
theorem dX11_openBehind_16 : decode cX11_openBehind 16 = .ok (.iand, 1) := by decide +kernel
theorem dX11_openBehind_17 : decode cX11_openBehind 17 = .ok (.iconst 1, 1) := by decide +kernel
theorem dX11_openBehind_18 : decode cX11_openBehind 18 = .ok (.if_icmp .ne 12, 3) := by decide +kernel
theorem dX11_openBehind_21 : decode cX11_openBehind 21 = .ok (.aload_n 0, 1) := by decide +kernel
theorem dX11_openBehind_22 : decode cX11_openBehind 22 = .ok (.aload_n 0, 1) := by decide +kernel
theorem dX11_openBehind_23 : decode cX11_openBehind 23 = .ok (.iload_n 2, 1) := by decide +kernel
theorem dX11_openBehind_24 : decode cX11_openBehind 24 = .ok (.invokevirtual 156, 3) := by decide +kernel
theorem dX11_openBehind_27 : decode cX11_openBehind 27 = .ok (.invokevirtual 177, 3) := by decide +kernel
theorem dX11_openBehind_30 : decode cX11_openBehind 30 = .ok (.iinc 2 1, 3) := by decide +kernel
theorem dX11_openBehind_33 : decode cX11_openBehind 33 = .ok (.goto (-27), 3) := by decide +kernel
theorem dX11_openBehind_36 : decode cX11_openBehind 36 = .ok (.return_, 1) := by decide +kernel
theorem dX11_canBehind_0 : decode cX11_canBehind 0 = .ok (.aload_n 0, 1) := by decide +kernel
theorem dX11_canBehind_1 : decode cX11_canBehind 1 = .ok (.iload_n 1, 1) := by decide +kernel
theorem dX11_canBehind_2 : decode cX11_canBehind 2 = .ok (.invokevirtual 186, 3) := by decide +kernel
theorem dX11_canBehind_5 : decode cX11_canBehind 5 = .ok (.aload_n 0, 1) := by decide +kernel
theorem dX11_canBehind_6 : decode cX11_canBehind 6 = .ok (.iload_n 2, 1) := by decide +kernel
theorem dX11_canBehind_7 : decode cX11_canBehind 7 = .ok (.iconst 0, 1) := by decide +kernel
theorem dX11_canBehind_8 : decode cX11_canBehind 8 = .ok (.invokevirtual 149, 3) := by decide +kernel
theorem dX11_canBehind_11 : decode cX11_canBehind 11 = .ok (.aload_n 0, 1) := by decide +kernel
theorem dX11_canBehind_12 : decode cX11_canBehind 12 = .ok (.invokevirtual 174, 3) := by decide +kernel
theorem dX11_canBehind_15 : decode cX11_canBehind 15 = .ok (.ifCond .ge 7, 3) := by decide +kernel
theorem dX11_canBehind_18 : decode cX11_canBehind 18 = .ok (.iconst 1, 1) := by decide +kernel
theorem dX11_canBehind_19 : decode cX11_canBehind 19 = .ok (.goto 4, 3) := by decide +kernel
theorem dX11_canBehind_22 : decode cX11_canBehind 22 = .ok (.iconst 0, 1) := by decide +kernel
theorem dX11_canBehind_23 : decode cX11_canBehind 23 = .ok (.ireturn, 1) := by decide +kernel
theorem dX11_findOrders_0 : decode cX11_findOrders 0 = .ok (.aload_n 0, 1) := by decide +kernel
theorem dX11_findOrders_1 : decode cX11_findOrders 1 = .ok (.invokevirtual 96, 3) := by decide +kernel
theorem dX11_findOrders_4 : decode cX11_findOrders 4 = .ok (.istore_n 1, 1) := by decide +kernel
theorem dX11_findOrders_5 : decode cX11_findOrders 5 = .ok (.bipush 63, 2) := by decide +kernel
theorem dX11_findOrders_7 : decode cX11_findOrders 7 = .ok (.istore_n 2, 1) := by decide +kernel
theorem dX11_findOrders_8 : decode cX11_findOrders 8 = .ok (.iload_n 2, 1) := by decide +kernel
theorem dX11_findOrders_9 : decode cX11_findOrders 9 = .ok (.ifCond .lt 108, 3) := by decide +kernel
theorem dX11_findOrders_12 : decode cX11_findOrders 12 = .ok (.aload_n 0, 1) := by decide +kernel
theorem dX11_findOrders_13 : decode cX11_findOrders 13 = .ok (.getfield 46, 3) := by decide +kernel
theorem dX11_findOrders_16 : decode cX11_findOrders 16 = .ok (.iload_n 2, 1) := by decide +kernel
theorem dX11_findOrders_17 : decode cX11_findOrders 17 = .ok (.iload_n 2, 1) := by decide +kernel
theorem dX11_findOrders_18 : decode cX11_findOrders 18 = .ok (.iload_n 1, 1) := by decide +kernel
theorem dX11_findOrders_19 : decode cX11_findOrders 19 = .ok (.if_icmp .ne 7, 3) := by decide +kernel
theorem dX11_findOrders_22 : decode cX11_findOrders 22 = .ok (.iconst 1, 1) := by decide +kernel
theorem dX11_findOrders_23 : decode cX11_findOrders 23 = .ok (.goto 4, 3) := by decide +kernel
theorem dX11_findOrders_26 : decode cX11_findOrders 26 = .ok (.iconst 0, 1) := by decide +kernel
theorem dX11_findOrders_27 : decode cX11_findOrders 27 = .ok (.iastore, 1) := by decide +kernel
theorem dX11_findOrders_28 : decode cX11_findOrders 28 = .ok (.iload_n 2, 1) := by decide +kernel
theorem dX11_findOrders_29 : decode cX11_findOrders 29 = .ok (.iload_n 1, 1) := by decide +kernel
theorem dX11_findOrders_30 : decode cX11_findOrders 30 = .ok (.iconst (-1), 1) := by decide +kernel
theorem dX11_findOrders_31 : decode cX11_findOrders 31 = .ok (.ixor, 1) := by decide +kernel
theorem dX11_findOrders_32 : decode cX11_findOrders 32 = .ok (.iand, 1) := by decide +kernel
theorem dX11_findOrders_33 : decode cX11_findOrders 33 = .ok (.ifCond .ne 78, 3) := by decide +kernel
theorem dX11_findOrders_36 : decode cX11_findOrders 36 = .ok (.iconst 0, 1) := by decide +kernel
theorem dX11_findOrders_37 : decode cX11_findOrders 37 = .ok (.istore_n 3, 1) := by decide +kernel
theorem dX11_findOrders_38 : decode cX11_findOrders 38 = .ok (.iload_n 3, 1) := by decide +kernel
theorem dX11_findOrders_39 : decode cX11_findOrders 39 = .ok (.bipush 6, 2) := by decide +kernel
theorem dX11_findOrders_41 : decode cX11_findOrders 41 = .ok (.if_icmp .ge 70, 3) := by decide +kernel
theorem dX11_findOrders_44 : decode cX11_findOrders 44 = .ok (.iload_n 1, 1) := by decide +kernel
theorem dX11_findOrders_45 : decode cX11_findOrders 45 = .ok (.iload_n 3, 1) := by decide +kernel
theorem dX11_findOrders_46 : decode cX11_findOrders 46 = .ok (.ishr, 1) := by decide +kernel
theorem dX11_findOrders_47 : decode cX11_findOrders 47 = .ok (.iconst 1, 1) := by decide +kernel
theorem dX11_findOrders_48 : decode cX11_findOrders 48 = .ok (.iand, 1) := by decide +kernel
theorem dX11_findOrders_49 : decode cX11_findOrders 49 = .ok (.iconst 1, 1) := by decide +kernel
theorem dX11_findOrders_50 : decode cX11_findOrders 50 = .ok (.if_icmp .ne 24, 3) := by decide +kernel
theorem dX11_findOrders_53 : decode cX11_findOrders 53 = .ok (.iload_n 2, 1) := by decide +kernel
theorem dX11_findOrders_54 : decode cX11_findOrders 54 = .ok (.iload_n 3, 1) := by decide +kernel
theorem dX11_findOrders_55 : decode cX11_findOrders 55 = .ok (.ishr, 1) := by decide +kernel
theorem dX11_findOrders_56 : decode cX11_findOrders 56 = .ok (.iconst 1, 1) := by decide +kernel
theorem dX11_findOrders_57 : decode cX11_findOrders 57 = .ok (.iand, 1) := by decide +kernel
theorem dX11_findOrders_58 : decode cX11_findOrders 58 = .ok (.ifCond .ne 16, 3) := by decide +kernel
theorem dX11_findOrders_61 : decode cX11_findOrders 61 = .ok (.aload_n 0, 1) := by decide +kernel
theorem dX11_findOrders_62 : decode cX11_findOrders 62 = .ok (.iload_n 2, 1) := by decide +kernel
theorem dX11_findOrders_63 : decode cX11_findOrders 63 = .ok (.iload_n 3, 1) := by decide +kernel
theorem dX11_findOrders_64 : decode cX11_findOrders 64 = .ok (.invokevirtual 189, 3) := by decide +kernel
theorem dX11_findOrders_67 : decode cX11_findOrders 67 = .ok (.ifCond .eq 7, 3) := by decide +kernel
theorem dX11_findOrders_70 : decode cX11_findOrders 70 = .ok (.iconst 1, 1) := by decide +kernel
theorem dX11_findOrders_71 : decode cX11_findOrders 71 = .ok (.goto 4, 3) := by decide +kernel
theorem dX11_findOrders_74 : decode cX11_findOrders 74 = .ok (.iconst 0, 1) := by decide +kernel
theorem dX11_findOrders_75 : decode cX11_findOrders 75 = .ok (.istore 4, 2) := by decide +kernel
theorem dX11_findOrders_77 : decode cX11_findOrders 77 = .ok (.aload_n 0, 1) := by decide +kernel
theorem dX11_findOrders_78 : decode cX11_findOrders 78 = .ok (.getfield 46, 3) := by decide +kernel
theorem dX11_findOrders_81 : decode cX11_findOrders 81 = .ok (.iload_n 2, 1) := by decide +kernel
theorem dX11_findOrders_82 : decode cX11_findOrders 82 = .ok (.dup2, 1) := by decide +kernel
theorem dX11_findOrders_83 : decode cX11_findOrders 83 = .ok (.iaload, 1) := by decide +kernel
theorem dX11_findOrders_84 : decode cX11_findOrders 84 = .ok (.iload 4, 2) := by decide +kernel
theorem dX11_findOrders_86 : decode cX11_findOrders 86 = .ok (.ifCond .eq 16, 3) := by decide +kernel
theorem dX11_findOrders_89 : decode cX11_findOrders 89 = .ok (.aload_n 0, 1) := by decide +kernel
theorem dX11_findOrders_90 : decode cX11_findOrders 90 = .ok (.getfield 46, 3) := by decide +kernel
theorem dX11_findOrders_93 : decode cX11_findOrders 93 = .ok (.iload_n 2, 1) := by decide +kernel
theorem dX11_findOrders_94 : decode cX11_findOrders 94 = .ok (.iconst 1, 1) := by decide +kernel
theorem dX11_findOrders_95 : decode cX11_findOrders 95 = .ok (.iload_n 3, 1) := by decide +kernel
theorem dX11_findOrders_96 : decode cX11_findOrders 96 = .ok (.ishl, 1) := by decide +kernel
theorem dX11_findOrders_97 : decode cX11_findOrders 97 = .ok (.ior, 1) := by decide +kernel
theorem dX11_findOrders_98 : decode cX11_findOrders 98 = .ok (.iaload, 1) := by decide +kernel
theorem dX11_findOrders_99 : decode cX11_findOrders 99 = .ok (.goto 4, 3) := by decide +kernel
theorem dX11_findOrders_102 : decode cX11_findOrders 102 = .ok (.iconst 0, 1) := by decide +kernel
theorem dX11_findOrders_103 : decode cX11_findOrders 103 = .ok (.iadd, 1) := by decide +kernel
theorem dX11_findOrders_104 : decode cX11_findOrders 104 = .ok (.iastore, 1) := by decide +kernel
theorem dX11_findOrders_105 : decode cX11_findOrders 105 = .ok (.iinc 3 1, 3) := by decide +kernel
theorem dX11_findOrders_108 : decode cX11_findOrders 108 = .ok (.goto (-70), 3) := by decide +kernel
theorem dX11_findOrders_111 : decode cX11_findOrders 111 = .ok (.iinc 2 (-1), 3) := by decide +kernel
theorem dX11_findOrders_114 : decode cX11_findOrders 114 = .ok (.goto (-106), 3) := by decide +kernel
theorem dX11_findOrders_117 : decode cX11_findOrders 117 = .ok (.return_, 1) := by decide +kernel
theorem dX11_orders_0 : decode cX11_orders 0 = .ok (.aload_n 0, 1) := by decide +kernel
theorem dX11_orders_1 : decode cX11_orders 1 = .ok (.invokevirtual 193, 3) := by decide +kernel
theorem dX11_orders_4 : decode cX11_orders 4 = .ok (.aload_n 0, 1) := by decide +kernel
theorem dX11_orders_5 : decode cX11_orders 5 = .ok (.getfield 46, 3) := by decide +kernel
theorem dX11_orders_8 : decode cX11_orders 8 = .ok (.iconst 0, 1) := by decide +kernel
theorem dX11_orders_9 : decode cX11_orders 9 = .ok (.iaload, 1) := by decide +kernel
theorem dX11_orders_10 : decode cX11_orders 10 = .ok (.ireturn, 1) := by decide +kernel
theorem dX11_first_0 : decode cX11_first 0 = .ok (.aload_n 0, 1) := by decide +kernel
theorem dX11_first_1 : decode cX11_first 1 = .ok (.invokevirtual 96, 3) := by decide +kernel
theorem dX11_first_4 : decode cX11_first 4 = .ok (.istore_n 2, 1) := by decide +kernel
theorem dX11_first_5 : decode cX11_first 5 = .ok (.aload_n 0, 1) := by decide +kernel
theorem dX11_first_6 : decode cX11_first 6 = .ok (.invokevirtual 193, 3) := by decide +kernel
theorem dX11_first_9 : decode cX11_first 9 = .ok (.aload_n 0, 1) := by decide +kernel
theorem dX11_first_10 : decode cX11_first 10 = .ok (.getfield 46, 3) := by decide +kernel
theorem dX11_first_13 : decode cX11_first 13 = .ok (.iconst 0, 1) := by decide +kernel
theorem dX11_first_14 : decode cX11_first 14 = .ok (.iaload, 1) := by decide +kernel
theorem dX11_first_15 : decode cX11_first 15 = .ok (.ifCond .eq 19, 3) := by decide +kernel
theorem dX11_first_18 : decode cX11_first 18 = .ok (.iload_n 1, 1) := by decide +kernel
theorem dX11_first_19 : decode cX11_first 19 = .ok (.i2l, 1) := by decide +kernel
theorem dX11_first_20 : decode cX11_first 20 = .ok (.lconst 0, 1) := by decide +kernel
theorem dX11_first_21 : decode cX11_first 21 = .ok (.iload_n 2, 1) := by decide +kernel
theorem dX11_first_22 : decode cX11_first 22 = .ok (.invokestatic 196, 3) := by decide +kernel
theorem dX11_first_25 : decode cX11_first 25 = .ok (.iconst 1, 1) := by decide +kernel
theorem dX11_first_26 : decode cX11_first 26 = .ok (.isub, 1) := by decide +kernel
theorem dX11_first_27 : decode cX11_first 27 = .ok (.i2l, 1) := by decide +kernel
theorem dX11_first_28 : decode cX11_first 28 = .ok (.invokestatic 83, 3) := by decide +kernel
theorem dX11_first_31 : decode cX11_first 31 = .ok (.ifCond .ne 6, 3) := by decide +kernel
theorem dX11_first_34 : decode cX11_first 34 = .ok (.bipush (-6), 2) := by decide +kernel
theorem dX11_first_36 : decode cX11_first 36 = .ok (.ireturn, 1) := by decide +kernel
theorem dX11_first_37 : decode cX11_first 37 = .ok (.iconst 0, 1) := by decide +kernel
theorem dX11_first_38 : decode cX11_first 38 = .ok (.istore_n 3, 1) := by decide +kernel
theorem dX11_first_39 : decode cX11_first 39 = .ok (.iconst 0, 1) := by decide +kernel
theorem dX11_first_40 : decode cX11_first 40 = .ok (.istore 4, 2) := by decide +kernel
theorem dX11_first_42 : decode cX11_first 42 = .ok (.iconst 0, 1) := by decide +kernel
theorem dX11_first_43 : decode cX11_first 43 = .ok (.istore 5, 2) := by decide +kernel
theorem dX11_first_45 : decode cX11_first 45 = .ok (.iload 5, 2) := by decide +kernel
theorem dX11_first_47 : decode cX11_first 47 = .ok (.iload_n 1, 1) := by decide +kernel
theorem dX11_first_48 : decode cX11_first 48 = .ok (.if_icmp .gt 68, 3) := by decide +kernel
theorem dX11_first_51 : decode cX11_first 51 = .ok (.iconst 0, 1) := by decide +kernel
theorem dX11_first_52 : decode cX11_first 52 = .ok (.istore 4, 2) := by decide +kernel
theorem dX11_first_54 : decode cX11_first 54 = .ok (.iload_n 2, 1) := by decide +kernel
theorem dX11_first_55 : decode cX11_first 55 = .ok (.iload 4, 2) := by decide +kernel
theorem dX11_first_57 : decode cX11_first 57 = .ok (.ishr, 1) := by decide +kernel
theorem dX11_first_58 : decode cX11_first 58 = .ok (.iconst 1, 1) := by decide +kernel
theorem dX11_first_59 : decode cX11_first 59 = .ok (.iand, 1) := by decide +kernel
theorem dX11_first_60 : decode cX11_first 60 = .ok (.ifCond .eq 37, 3) := by decide +kernel
theorem dX11_first_63 : decode cX11_first 63 = .ok (.iload_n 3, 1) := by decide +kernel
theorem dX11_first_64 : decode cX11_first 64 = .ok (.iload 4, 2) := by decide +kernel
theorem dX11_first_66 : decode cX11_first 66 = .ok (.ishr, 1) := by decide +kernel
theorem dX11_first_67 : decode cX11_first 67 = .ok (.iconst 1, 1) := by decide +kernel
theorem dX11_first_68 : decode cX11_first 68 = .ok (.iand, 1) := by decide +kernel
theorem dX11_first_69 : decode cX11_first 69 = .ok (.iconst 1, 1) := by decide +kernel
theorem dX11_first_70 : decode cX11_first 70 = .ok (.if_icmp .eq 27, 3) := by decide +kernel
theorem dX11_first_73 : decode cX11_first 73 = .ok (.aload_n 0, 1) := by decide +kernel
theorem dX11_first_74 : decode cX11_first 74 = .ok (.getfield 46, 3) := by decide +kernel
theorem dX11_first_77 : decode cX11_first 77 = .ok (.iload_n 3, 1) := by decide +kernel
theorem dX11_first_78 : decode cX11_first 78 = .ok (.iconst 1, 1) := by decide +kernel
theorem dX11_first_79 : decode cX11_first 79 = .ok (.iload 4, 2) := by decide +kernel
theorem dX11_first_81 : decode cX11_first 81 = .ok (.ishl, 1) := by decide +kernel
theorem dX11_first_82 : decode cX11_first 82 = .ok (.ior, 1) := by decide +kernel
theorem dX11_first_83 : decode cX11_first 83 = .ok (.iaload, 1) := by decide +kernel
theorem dX11_first_84 : decode cX11_first 84 = .ok (.ifCond .eq 13, 3) := by decide +kernel
theorem dX11_first_87 : decode cX11_first 87 = .ok (.aload_n 0, 1) := by decide +kernel
theorem dX11_first_88 : decode cX11_first 88 = .ok (.iload_n 3, 1) := by decide +kernel
theorem dX11_first_89 : decode cX11_first 89 = .ok (.iload 4, 2) := by decide +kernel
theorem dX11_first_91 : decode cX11_first 91 = .ok (.invokevirtual 189, 3) := by decide +kernel
theorem dX11_first_94 : decode cX11_first 94 = .ok (.ifCond .ne 9, 3) := by decide +kernel
theorem dX11_first_97 : decode cX11_first 97 = .ok (.iinc 4 1, 3) := by decide +kernel
theorem dX11_first_100 : decode cX11_first 100 = .ok (.goto (-46), 3) := by decide +kernel
theorem dX11_first_103 : decode cX11_first 103 = .ok (.iload_n 3, 1) := by decide +kernel
theorem dX11_first_104 : decode cX11_first 104 = .ok (.iconst 1, 1) := by decide +kernel
theorem dX11_first_105 : decode cX11_first 105 = .ok (.iload 4, 2) := by decide +kernel
theorem dX11_first_107 : decode cX11_first 107 = .ok (.ishl, 1) := by decide +kernel
theorem dX11_first_108 : decode cX11_first 108 = .ok (.ior, 1) := by decide +kernel
theorem dX11_first_109 : decode cX11_first 109 = .ok (.istore_n 3, 1) := by decide +kernel
theorem dX11_first_110 : decode cX11_first 110 = .ok (.iinc 5 1, 3) := by decide +kernel
theorem dX11_first_113 : decode cX11_first 113 = .ok (.goto (-68), 3) := by decide +kernel
theorem dX11_first_116 : decode cX11_first 116 = .ok (.iload 4, 2) := by decide +kernel
theorem dX11_first_118 : decode cX11_first 118 = .ok (.ireturn, 1) := by decide +kernel
theorem dX11_most_0 : decode cX11_most 0 = .ok (.iload_n 1, 1) := by decide +kernel
theorem dX11_most_1 : decode cX11_most 1 = .ok (.i2l, 1) := by decide +kernel
theorem dX11_most_2 : decode cX11_most 2 = .ok (.lconst 0, 1) := by decide +kernel
theorem dX11_most_3 : decode cX11_most 3 = .ok (.lconst 1, 1) := by decide +kernel
theorem dX11_most_4 : decode cX11_most 4 = .ok (.invokestatic 83, 3) := by decide +kernel
theorem dX11_most_7 : decode cX11_most 7 = .ok (.ifCond .ne 6, 3) := by decide +kernel
theorem dX11_most_10 : decode cX11_most 10 = .ok (.bipush (-2), 2) := by decide +kernel
theorem dX11_most_12 : decode cX11_most 12 = .ok (.ireturn, 1) := by decide +kernel
theorem dX11_most_13 : decode cX11_most 13 = .ok (.aload_n 0, 1) := by decide +kernel
theorem dX11_most_14 : decode cX11_most 14 = .ok (.invokevirtual 96, 3) := by decide +kernel
theorem dX11_most_17 : decode cX11_most 17 = .ok (.istore_n 2, 1) := by decide +kernel
theorem dX11_most_18 : decode cX11_most 18 = .ok (.iconst 0, 1) := by decide +kernel
theorem dX11_most_19 : decode cX11_most 19 = .ok (.istore_n 3, 1) := by decide +kernel
theorem dX11_most_20 : decode cX11_most 20 = .ok (.aload_n 0, 1) := by decide +kernel
theorem dX11_most_21 : decode cX11_most 21 = .ok (.getfield 43, 3) := by decide +kernel
theorem dX11_most_24 : decode cX11_most 24 = .ok (.iconst 0, 1) := by decide +kernel
theorem dX11_most_25 : decode cX11_most 25 = .ok (.iconst 1, 1) := by decide +kernel
theorem dX11_most_26 : decode cX11_most 26 = .ok (.iastore, 1) := by decide +kernel
theorem dX11_most_27 : decode cX11_most 27 = .ok (.iconst 1, 1) := by decide +kernel
theorem dX11_most_28 : decode cX11_most 28 = .ok (.istore 4, 2) := by decide +kernel
theorem dX11_most_30 : decode cX11_most 30 = .ok (.iload 4, 2) := by decide +kernel
theorem dX11_most_32 : decode cX11_most 32 = .ok (.bipush 64, 2) := by decide +kernel
theorem dX11_most_34 : decode cX11_most 34 = .ok (.if_icmp .ge 140, 3) := by decide +kernel
theorem dX11_most_37 : decode cX11_most 37 = .ok (.aload_n 0, 1) := by decide +kernel
theorem dX11_most_38 : decode cX11_most 38 = .ok (.getfield 43, 3) := by decide +kernel
theorem dX11_most_41 : decode cX11_most 41 = .ok (.iload 4, 2) := by decide +kernel
theorem dX11_most_43 : decode cX11_most 43 = .ok (.iconst 0, 1) := by decide +kernel
theorem dX11_most_44 : decode cX11_most 44 = .ok (.iastore, 1) := by decide +kernel
theorem dX11_most_45 : decode cX11_most 45 = .ok (.iconst 0, 1) := by decide +kernel
theorem dX11_most_46 : decode cX11_most 46 = .ok (.istore 5, 2) := by decide +kernel
theorem dX11_most_48 : decode cX11_most 48 = .ok (.iload 5, 2) := by decide +kernel
theorem dX11_most_50 : decode cX11_most 50 = .ok (.bipush 6, 2) := by decide +kernel
theorem dX11_most_52 : decode cX11_most 52 = .ok (.if_icmp .ge 87, 3) := by decide +kernel
theorem dX11_most_55 : decode cX11_most 55 = .ok (.iload 4, 2) := by decide +kernel
theorem dX11_most_57 : decode cX11_most 57 = .ok (.iconst 1, 1) := by decide +kernel
theorem dX11_most_58 : decode cX11_most 58 = .ok (.iload 5, 2) := by decide +kernel
theorem dX11_most_60 : decode cX11_most 60 = .ok (.ishl, 1) := by decide +kernel
theorem dX11_most_61 : decode cX11_most 61 = .ok (.iconst (-1), 1) := by decide +kernel
theorem dX11_most_62 : decode cX11_most 62 = .ok (.ixor, 1) := by decide +kernel
theorem dX11_most_63 : decode cX11_most 63 = .ok (.iand, 1) := by decide +kernel
theorem dX11_most_64 : decode cX11_most 64 = .ok (.istore 6, 2) := by decide +kernel
theorem dX11_most_66 : decode cX11_most 66 = .ok (.iload 4, 2) := by decide +kernel
theorem dX11_most_68 : decode cX11_most 68 = .ok (.iload_n 2, 1) := by decide +kernel
theorem dX11_most_69 : decode cX11_most 69 = .ok (.iconst (-1), 1) := by decide +kernel
theorem dX11_most_70 : decode cX11_most 70 = .ok (.ixor, 1) := by decide +kernel
theorem dX11_most_71 : decode cX11_most 71 = .ok (.iand, 1) := by decide +kernel
theorem dX11_most_72 : decode cX11_most 72 = .ok (.ifCond .ne 35, 3) := by decide +kernel
theorem dX11_most_75 : decode cX11_most 75 = .ok (.iload 6, 2) := by decide +kernel
theorem dX11_most_77 : decode cX11_most 77 = .ok (.iload 4, 2) := by decide +kernel
theorem dX11_most_79 : decode cX11_most 79 = .ok (.if_icmp .eq 28, 3) := by decide +kernel
theorem dX11_most_82 : decode cX11_most 82 = .ok (.aload_n 0, 1) := by decide +kernel
theorem dX11_most_83 : decode cX11_most 83 = .ok (.getfield 43, 3) := by decide +kernel
theorem dX11_most_86 : decode cX11_most 86 = .ok (.iload 6, 2) := by decide +kernel
theorem dX11_most_88 : decode cX11_most 88 = .ok (.iaload, 1) := by decide +kernel
theorem dX11_most_89 : decode cX11_most 89 = .ok (.ifCond .le 18, 3) := by decide +kernel
theorem dX11_most_92 : decode cX11_most 92 = .ok (.aload_n 0, 1) := by decide +kernel
theorem dX11_most_93 : decode cX11_most 93 = .ok (.iload 6, 2) := by decide +kernel
theorem dX11_most_95 : decode cX11_most 95 = .ok (.iload 5, 2) := by decide +kernel
theorem dX11_most_97 : decode cX11_most 97 = .ok (.invokevirtual 189, 3) := by decide +kernel
theorem dX11_most_100 : decode cX11_most 100 = .ok (.ifCond .eq 7, 3) := by decide +kernel
theorem dX11_most_103 : decode cX11_most 103 = .ok (.iconst 1, 1) := by decide +kernel
theorem dX11_most_104 : decode cX11_most 104 = .ok (.goto 4, 3) := by decide +kernel
theorem dX11_most_107 : decode cX11_most 107 = .ok (.iconst 0, 1) := by decide +kernel
theorem dX11_most_108 : decode cX11_most 108 = .ok (.istore 7, 2) := by decide +kernel
theorem dX11_most_110 : decode cX11_most 110 = .ok (.aload_n 0, 1) := by decide +kernel
theorem dX11_most_111 : decode cX11_most 111 = .ok (.getfield 43, 3) := by decide +kernel
theorem dX11_most_114 : decode cX11_most 114 = .ok (.iload 4, 2) := by decide +kernel
theorem dX11_most_116 : decode cX11_most 116 = .ok (.iload 7, 2) := by decide +kernel
theorem dX11_most_118 : decode cX11_most 118 = .ok (.ifCond .eq 7, 3) := by decide +kernel
theorem dX11_most_121 : decode cX11_most 121 = .ok (.iconst 1, 1) := by decide +kernel
theorem dX11_most_122 : decode cX11_most 122 = .ok (.goto 10, 3) := by decide +kernel
theorem dX11_most_125 : decode cX11_most 125 = .ok (.aload_n 0, 1) := by decide +kernel
theorem dX11_most_126 : decode cX11_most 126 = .ok (.getfield 43, 3) := by decide +kernel
theorem dX11_most_129 : decode cX11_most 129 = .ok (.iload 4, 2) := by decide +kernel
theorem dX11_most_131 : decode cX11_most 131 = .ok (.iaload, 1) := by decide +kernel
theorem dX11_most_132 : decode cX11_most 132 = .ok (.iastore, 1) := by decide +kernel
theorem dX11_most_133 : decode cX11_most 133 = .ok (.iinc 5 1, 3) := by decide +kernel
theorem dX11_most_136 : decode cX11_most 136 = .ok (.goto (-88), 3) := by decide +kernel
theorem dX11_most_139 : decode cX11_most 139 = .ok (.aload_n 0, 1) := by decide +kernel
theorem dX11_most_140 : decode cX11_most 140 = .ok (.getfield 43, 3) := by decide +kernel
theorem dX11_most_143 : decode cX11_most 143 = .ok (.iload 4, 2) := by decide +kernel
theorem dX11_most_145 : decode cX11_most 145 = .ok (.iaload, 1) := by decide +kernel
theorem dX11_most_146 : decode cX11_most 146 = .ok (.ifCond .le 20, 3) := by decide +kernel
theorem dX11_most_149 : decode cX11_most 149 = .ok (.iload 4, 2) := by decide +kernel
theorem dX11_most_151 : decode cX11_most 151 = .ok (.invokestatic 196, 3) := by decide +kernel
theorem dX11_most_154 : decode cX11_most 154 = .ok (.iload_n 3, 1) := by decide +kernel
theorem dX11_most_155 : decode cX11_most 155 = .ok (.invokestatic 196, 3) := by decide +kernel
theorem dX11_most_158 : decode cX11_most 158 = .ok (.if_icmp .le 8, 3) := by decide +kernel
theorem dX11_most_161 : decode cX11_most 161 = .ok (.iload 4, 2) := by decide +kernel
theorem dX11_most_163 : decode cX11_most 163 = .ok (.goto 4, 3) := by decide +kernel
theorem dX11_most_166 : decode cX11_most 166 = .ok (.iload_n 3, 1) := by decide +kernel
theorem dX11_most_167 : decode cX11_most 167 = .ok (.istore_n 3, 1) := by decide +kernel
theorem dX11_most_168 : decode cX11_most 168 = .ok (.iinc 4 1, 3) := by decide +kernel
theorem dX11_most_171 : decode cX11_most 171 = .ok (.goto (-141), 3) := by decide +kernel
theorem dX11_most_174 : decode cX11_most 174 = .ok (.iload_n 1, 1) := by decide +kernel
theorem dX11_most_175 : decode cX11_most 175 = .ok (.ifCond .ne 10, 3) := by decide +kernel
theorem dX11_most_178 : decode cX11_most 178 = .ok (.iload_n 3, 1) := by decide +kernel
theorem dX11_most_179 : decode cX11_most 179 = .ok (.invokestatic 196, 3) := by decide +kernel
theorem dX11_most_182 : decode cX11_most 182 = .ok (.goto 4, 3) := by decide +kernel
theorem dX11_most_185 : decode cX11_most 185 = .ok (.iload_n 3, 1) := by decide +kernel
theorem dX11_most_186 : decode cX11_most 186 = .ok (.ireturn, 1) := by decide +kernel
theorem dX11_numberOf_0 : decode cX11_numberOf 0 = .ok (.iconst 0, 1) := by decide +kernel
theorem dX11_numberOf_1 : decode cX11_numberOf 1 = .ok (.istore_n 3, 1) := by decide +kernel
theorem dX11_numberOf_2 : decode cX11_numberOf 2 = .ok (.iload_n 3, 1) := by decide +kernel
theorem dX11_numberOf_3 : decode cX11_numberOf 3 = .ok (.aload_n 0, 1) := by decide +kernel
theorem dX11_numberOf_4 : decode cX11_numberOf 4 = .ok (.getfield 52, 3) := by decide +kernel
theorem dX11_numberOf_7 : decode cX11_numberOf 7 = .ok (.iload_n 1, 1) := by decide +kernel
theorem dX11_numberOf_8 : decode cX11_numberOf 8 = .ok (.iaload, 1) := by decide +kernel
theorem dX11_numberOf_9 : decode cX11_numberOf 9 = .ok (.if_icmp .ge 27, 3) := by decide +kernel
theorem dX11_numberOf_12 : decode cX11_numberOf 12 = .ok (.aload_n 0, 1) := by decide +kernel
theorem dX11_numberOf_13 : decode cX11_numberOf 13 = .ok (.getfield 49, 3) := by decide +kernel
theorem dX11_numberOf_16 : decode cX11_numberOf 16 = .ok (.sipush 600, 3) := by decide +kernel
theorem dX11_numberOf_19 : decode cX11_numberOf 19 = .ok (.iload_n 1, 1) := by decide +kernel
theorem dX11_numberOf_20 : decode cX11_numberOf 20 = .ok (.imul, 1) := by decide +kernel
theorem dX11_numberOf_21 : decode cX11_numberOf 21 = .ok (.iload_n 3, 1) := by decide +kernel
theorem dX11_numberOf_22 : decode cX11_numberOf 22 = .ok (.iadd, 1) := by decide +kernel
theorem dX11_numberOf_23 : decode cX11_numberOf 23 = .ok (.iaload, 1) := by decide +kernel
theorem dX11_numberOf_24 : decode cX11_numberOf 24 = .ok (.iload_n 2, 1) := by decide +kernel
theorem dX11_numberOf_25 : decode cX11_numberOf 25 = .ok (.if_icmp .ne 5, 3) := by decide +kernel
theorem dX11_numberOf_28 : decode cX11_numberOf 28 = .ok (.iload_n 3, 1) := by decide +kernel
theorem dX11_numberOf_29 : decode cX11_numberOf 29 = .ok (.ireturn, 1) := by decide +kernel
theorem dX11_numberOf_30 : decode cX11_numberOf 30 = .ok (.iinc 3 1, 3) := by decide +kernel
theorem dX11_numberOf_33 : decode cX11_numberOf 33 = .ok (.goto (-31), 3) := by decide +kernel
theorem dX11_numberOf_36 : decode cX11_numberOf 36 = .ok (.bipush (-6), 2) := by decide +kernel
theorem dX11_numberOf_38 : decode cX11_numberOf 38 = .ok (.ireturn, 1) := by decide +kernel
theorem dX11_openBroken_0 : decode cX11_openBroken 0 = .ok (.aload_n 0, 1) := by decide +kernel
theorem dX11_openBroken_1 : decode cX11_openBroken 1 = .ok (.invokevirtual 168, 3) := by decide +kernel
theorem dX11_openBroken_4 : decode cX11_openBroken 4 = .ok (.iload_n 1, 1) := by decide +kernel
theorem dX11_openBroken_5 : decode cX11_openBroken 5 = .ok (.istore_n 2, 1) := by decide +kernel
theorem dX11_openBroken_6 : decode cX11_openBroken 6 = .ok (.iconst 0, 1) := by decide +kernel
theorem dX11_openBroken_7 : decode cX11_openBroken 7 = .ok (.istore_n 3, 1) := by decide +kernel
theorem dX11_openBroken_8 : decode cX11_openBroken 8 = .ok (.iload_n 3, 1) := by decide +kernel
theorem dX11_openBroken_9 : decode cX11_openBroken 9 = .ok (.bipush 6, 2) := by decide +kernel
theorem dX11_openBroken_11 : decode cX11_openBroken 11 = .ok (.if_icmp .ge 48, 3) := by decide +kernel
theorem dX11_openBroken_14 : decode cX11_openBroken 14 = .ok (.aload_n 0, 1) := by decide +kernel
theorem dX11_openBroken_15 : decode cX11_openBroken 15 = .ok (.getfield 40, 3) := by decide +kernel
theorem dX11_openBroken_18 : decode cX11_openBroken 18 = .ok (.iload_n 3, 1) := by decide +kernel
theorem dX11_openBroken_19 : decode cX11_openBroken 19 = .ok (.aload_n 0, 1) := by decide +kernel
theorem dX11_openBroken_20 : decode cX11_openBroken 20 = .ok (.getfield 40, 3) := by decide +kernel
theorem dX11_openBroken_23 : decode cX11_openBroken 23 = .ok (.iload_n 3, 1) := by decide +kernel
theorem dX11_openBroken_24 : decode cX11_openBroken 24 = .ok (.iaload, 1) := by decide +kernel
theorem dX11_openBroken_25 : decode cX11_openBroken 25 = .ok (.iload_n 2, 1) := by decide +kernel
theorem dX11_openBroken_26 : decode cX11_openBroken 26 = .ok (.bipush 7, 2) := by decide +kernel
theorem dX11_openBroken_28 : decode cX11_openBroken 28 = .ok (.irem, 1) := by decide +kernel
theorem dX11_openBroken_29 : decode cX11_openBroken 29 = .ok (.if_icmp .le 17, 3) := by decide +kernel
theorem dX11_openBroken_32 : decode cX11_openBroken 32 = .ok (.aload_n 0, 1) := by decide +kernel
theorem dX11_openBroken_33 : decode cX11_openBroken 33 = .ok (.getfield 40, 3) := by decide +kernel
theorem dX11_openBroken_36 : decode cX11_openBroken 36 = .ok (.iload_n 3, 1) := by decide +kernel
theorem dX11_openBroken_37 : decode cX11_openBroken 37 = .ok (.iaload, 1) := by decide +kernel
theorem dX11_openBroken_38 : decode cX11_openBroken 38 = .ok (.iload_n 2, 1) := by decide +kernel
theorem dX11_openBroken_39 : decode cX11_openBroken 39 = .ok (.bipush 7, 2) := by decide +kernel
theorem dX11_openBroken_41 : decode cX11_openBroken 41 = .ok (.irem, 1) := by decide +kernel
theorem dX11_openBroken_42 : decode cX11_openBroken 42 = .ok (.isub, 1) := by decide +kernel
theorem dX11_openBroken_43 : decode cX11_openBroken 43 = .ok (.goto 4, 3) := by decide +kernel
theorem dX11_openBroken_46 : decode cX11_openBroken 46 = .ok (.iconst 0, 1) := by decide +kernel
theorem dX11_openBroken_47 : decode cX11_openBroken 47 = .ok (.iastore, 1) := by decide +kernel
theorem dX11_openBroken_48 : decode cX11_openBroken 48 = .ok (.iload_n 2, 1) := by decide +kernel
theorem dX11_openBroken_49 : decode cX11_openBroken 49 = .ok (.bipush 7, 2) := by decide +kernel
theorem dX11_openBroken_51 : decode cX11_openBroken 51 = .ok (.idiv, 1) := by decide +kernel
theorem dX11_openBroken_52 : decode cX11_openBroken 52 = .ok (.istore_n 2, 1) := by decide +kernel
theorem dX11_openBroken_53 : decode cX11_openBroken 53 = .ok (.iinc 3 1, 3) := by decide +kernel
theorem dX11_openBroken_56 : decode cX11_openBroken 56 = .ok (.goto (-48), 3) := by decide +kernel
theorem dX11_openBroken_59 : decode cX11_openBroken 59 = .ok (.return_, 1) := by decide +kernel
theorem dX11_powerOf_0 : decode cX11_powerOf 0 = .ok (.iconst 1, 1) := by decide +kernel
theorem dX11_powerOf_1 : decode cX11_powerOf 1 = .ok (.istore_n 1, 1) := by decide +kernel
theorem dX11_powerOf_2 : decode cX11_powerOf 2 = .ok (.iconst 0, 1) := by decide +kernel
theorem dX11_powerOf_3 : decode cX11_powerOf 3 = .ok (.istore_n 2, 1) := by decide +kernel
theorem dX11_powerOf_4 : decode cX11_powerOf 4 = .ok (.iload_n 2, 1) := by decide +kernel
theorem dX11_powerOf_5 : decode cX11_powerOf 5 = .ok (.iload_n 0, 1) := by decide +kernel
theorem dX11_powerOf_6 : decode cX11_powerOf 6 = .ok (.if_icmp .ge 14, 3) := by decide +kernel
theorem dX11_powerOf_9 : decode cX11_powerOf 9 = .ok (.iload_n 1, 1) := by decide +kernel
theorem dX11_powerOf_10 : decode cX11_powerOf 10 = .ok (.bipush 7, 2) := by decide +kernel
theorem dX11_powerOf_12 : decode cX11_powerOf 12 = .ok (.imul, 1) := by decide +kernel
theorem dX11_powerOf_13 : decode cX11_powerOf 13 = .ok (.istore_n 1, 1) := by decide +kernel
theorem dX11_powerOf_14 : decode cX11_powerOf 14 = .ok (.iinc 2 1, 3) := by decide +kernel
theorem dX11_powerOf_17 : decode cX11_powerOf 17 = .ok (.goto (-13), 3) := by decide +kernel
theorem dX11_powerOf_20 : decode cX11_powerOf 20 = .ok (.iload_n 1, 1) := by decide +kernel
theorem dX11_powerOf_21 : decode cX11_powerOf 21 = .ok (.ireturn, 1) := by decide +kernel
theorem dX11_mayChange_0 : decode cX11_mayChange 0 = .ok (.iconst 0, 1) := by decide +kernel
theorem dX11_mayChange_1 : decode cX11_mayChange 1 = .ok (.istore_n 2, 1) := by decide +kernel
theorem dX11_mayChange_2 : decode cX11_mayChange 2 = .ok (.iconst 0, 1) := by decide +kernel
theorem dX11_mayChange_3 : decode cX11_mayChange 3 = .ok (.istore_n 3, 1) := by decide +kernel
theorem dX11_mayChange_4 : decode cX11_mayChange 4 = .ok (.iload_n 3, 1) := by decide +kernel
theorem dX11_mayChange_5 : decode cX11_mayChange 5 = .ok (.aload_n 0, 1) := by decide +kernel
theorem dX11_mayChange_6 : decode cX11_mayChange 6 = .ok (.getfield 22, 3) := by decide +kernel
theorem dX11_mayChange_9 : decode cX11_mayChange 9 = .ok (.iload_n 1, 1) := by decide +kernel
theorem dX11_mayChange_10 : decode cX11_mayChange 10 = .ok (.iaload, 1) := by decide +kernel
theorem dX11_mayChange_11 : decode cX11_mayChange 11 = .ok (.if_icmp .ge 38, 3) := by decide +kernel
theorem dX11_mayChange_14 : decode cX11_mayChange 14 = .ok (.iload_n 2, 1) := by decide +kernel
theorem dX11_mayChange_15 : decode cX11_mayChange 15 = .ok (.aload_n 0, 1) := by decide +kernel
theorem dX11_mayChange_16 : decode cX11_mayChange 16 = .ok (.getfield 16, 3) := by decide +kernel
theorem dX11_mayChange_19 : decode cX11_mayChange 19 = .ok (.aload_n 0, 1) := by decide +kernel
theorem dX11_mayChange_20 : decode cX11_mayChange 20 = .ok (.getfield 19, 3) := by decide +kernel
theorem dX11_mayChange_23 : decode cX11_mayChange 23 = .ok (.bipush 6, 2) := by decide +kernel
theorem dX11_mayChange_25 : decode cX11_mayChange 25 = .ok (.iload_n 1, 1) := by decide +kernel
theorem dX11_mayChange_26 : decode cX11_mayChange 26 = .ok (.imul, 1) := by decide +kernel
theorem dX11_mayChange_27 : decode cX11_mayChange 27 = .ok (.iload_n 3, 1) := by decide +kernel
theorem dX11_mayChange_28 : decode cX11_mayChange 28 = .ok (.iadd, 1) := by decide +kernel
theorem dX11_mayChange_29 : decode cX11_mayChange 29 = .ok (.iaload, 1) := by decide +kernel
theorem dX11_mayChange_30 : decode cX11_mayChange 30 = .ok (.iaload, 1) := by decide +kernel
theorem dX11_mayChange_31 : decode cX11_mayChange 31 = .ok (.ifCond .lt 9, 3) := by decide +kernel
theorem dX11_mayChange_34 : decode cX11_mayChange 34 = .ok (.iconst 1, 1) := by decide +kernel
theorem dX11_mayChange_35 : decode cX11_mayChange 35 = .ok (.iload_n 3, 1) := by decide +kernel
theorem dX11_mayChange_36 : decode cX11_mayChange 36 = .ok (.ishl, 1) := by decide +kernel
theorem dX11_mayChange_37 : decode cX11_mayChange 37 = .ok (.goto 4, 3) := by decide +kernel
theorem dX11_mayChange_40 : decode cX11_mayChange 40 = .ok (.iconst 0, 1) := by decide +kernel
theorem dX11_mayChange_41 : decode cX11_mayChange 41 = .ok (.ior, 1) := by decide +kernel
theorem dX11_mayChange_42 : decode cX11_mayChange 42 = .ok (.istore_n 2, 1) := by decide +kernel
theorem dX11_mayChange_43 : decode cX11_mayChange 43 = .ok (.iinc 3 1, 3) := by decide +kernel
theorem dX11_mayChange_46 : decode cX11_mayChange 46 = .ok (.goto (-42), 3) := by decide +kernel
theorem dX11_mayChange_49 : decode cX11_mayChange 49 = .ok (.iload_n 2, 1) := by decide +kernel
theorem dX11_mayChange_50 : decode cX11_mayChange 50 = .ok (.ireturn, 1) := by decide +kernel
theorem dX11_brokenBehind_0 : decode cX11_brokenBehind 0 = .ok (.aload_n 0, 1) := by decide +kernel
theorem dX11_brokenBehind_1 : decode cX11_brokenBehind 1 = .ok (.iload_n 1, 1) := by decide +kernel
theorem dX11_brokenBehind_2 : decode cX11_brokenBehind 2 = .ok (.invokevirtual 171, 3) := by decide +kernel
theorem dX11_brokenBehind_5 : decode cX11_brokenBehind 5 = .ok (.istore 4, 2) := by decide +kernel
theorem dX11_brokenBehind_7 : decode cX11_brokenBehind 7 = .ok (.iload_n 3, 1) := by decide +kernel
theorem dX11_brokenBehind_8 : decode cX11_brokenBehind 8 = .ok (.aload_n 0, 1) := by decide +kernel
theorem dX11_brokenBehind_9 : decode cX11_brokenBehind 9 = .ok (.iload 4, 2) := by decide +kernel
theorem dX11_brokenBehind_11 : decode cX11_brokenBehind 11 = .ok (.invokevirtual 199, 3) := by decide +kernel
theorem dX11_brokenBehind_14 : decode cX11_brokenBehind 14 = .ok (.iconst (-1), 1) := by decide +kernel
theorem dX11_brokenBehind_15 : decode cX11_brokenBehind 15 = .ok (.ixor, 1) := by decide +kernel
theorem dX11_brokenBehind_16 : decode cX11_brokenBehind 16 = .ok (.iand, 1) := by decide +kernel
theorem dX11_brokenBehind_17 : decode cX11_brokenBehind 17 = .ok (.ifCond .eq 6, 3) := by decide +kernel
theorem dX11_brokenBehind_20 : decode cX11_brokenBehind 20 = .ok (.bipush (-6), 2) := by decide +kernel
theorem dX11_brokenBehind_22 : decode cX11_brokenBehind 22 = .ok (.ireturn, 1) := by decide +kernel
theorem dX11_brokenBehind_23 : decode cX11_brokenBehind 23 = .ok (.aload_n 0, 1) := by decide +kernel
theorem dX11_brokenBehind_24 : decode cX11_brokenBehind 24 = .ok (.iload_n 2, 1) := by decide +kernel
theorem dX11_brokenBehind_25 : decode cX11_brokenBehind 25 = .ok (.invokevirtual 202, 3) := by decide +kernel
theorem dX11_brokenBehind_28 : decode cX11_brokenBehind 28 = .ok (.aload_n 0, 1) := by decide +kernel
theorem dX11_brokenBehind_29 : decode cX11_brokenBehind 29 = .ok (.iload 4, 2) := by decide +kernel
theorem dX11_brokenBehind_31 : decode cX11_brokenBehind 31 = .ok (.iload_n 3, 1) := by decide +kernel
theorem dX11_brokenBehind_32 : decode cX11_brokenBehind 32 = .ok (.invokevirtual 149, 3) := by decide +kernel
theorem dX11_brokenBehind_35 : decode cX11_brokenBehind 35 = .ok (.aload_n 0, 1) := by decide +kernel
theorem dX11_brokenBehind_36 : decode cX11_brokenBehind 36 = .ok (.invokevirtual 174, 3) := by decide +kernel
theorem dX11_brokenBehind_39 : decode cX11_brokenBehind 39 = .ok (.ifCond .lt 8, 3) := by decide +kernel
theorem dX11_brokenBehind_42 : decode cX11_brokenBehind 42 = .ok (.bipush (-6), 2) := by decide +kernel
theorem dX11_brokenBehind_44 : decode cX11_brokenBehind 44 = .ok (.goto 15, 3) := by decide +kernel
theorem dX11_brokenBehind_47 : decode cX11_brokenBehind 47 = .ok (.iload_n 2, 1) := by decide +kernel
theorem dX11_brokenBehind_48 : decode cX11_brokenBehind 48 = .ok (.aload_n 0, 1) := by decide +kernel
theorem dX11_brokenBehind_49 : decode cX11_brokenBehind 49 = .ok (.iload 4, 2) := by decide +kernel
theorem dX11_brokenBehind_51 : decode cX11_brokenBehind 51 = .ok (.iload_n 3, 1) := by decide +kernel
theorem dX11_brokenBehind_52 : decode cX11_brokenBehind 52 = .ok (.invokevirtual 152, 3) := by decide +kernel
theorem dX11_brokenBehind_55 : decode cX11_brokenBehind 55 = .ok (.invokestatic 205, 3) := by decide +kernel
theorem dX11_brokenBehind_58 : decode cX11_brokenBehind 58 = .ok (.iadd, 1) := by decide +kernel
theorem dX11_brokenBehind_59 : decode cX11_brokenBehind 59 = .ok (.ireturn, 1) := by decide +kernel
theorem dX11_findBroken_0 : decode cX11_findBroken 0 = .ok (.aload_n 0, 1) := by decide +kernel
theorem dX11_findBroken_1 : decode cX11_findBroken 1 = .ok (.getfield 52, 3) := by decide +kernel
theorem dX11_findBroken_4 : decode cX11_findBroken 4 = .ok (.iconst 0, 1) := by decide +kernel
theorem dX11_findBroken_5 : decode cX11_findBroken 5 = .ok (.iconst 1, 1) := by decide +kernel
theorem dX11_findBroken_6 : decode cX11_findBroken 6 = .ok (.iastore, 1) := by decide +kernel
theorem dX11_findBroken_7 : decode cX11_findBroken 7 = .ok (.aload_n 0, 1) := by decide +kernel
theorem dX11_findBroken_8 : decode cX11_findBroken 8 = .ok (.getfield 49, 3) := by decide +kernel
theorem dX11_findBroken_11 : decode cX11_findBroken 11 = .ok (.iconst 0, 1) := by decide +kernel
theorem dX11_findBroken_12 : decode cX11_findBroken 12 = .ok (.iconst 0, 1) := by decide +kernel
theorem dX11_findBroken_13 : decode cX11_findBroken 13 = .ok (.iastore, 1) := by decide +kernel
theorem dX11_findBroken_14 : decode cX11_findBroken 14 = .ok (.iconst 0, 1) := by decide +kernel
theorem dX11_findBroken_15 : decode cX11_findBroken 15 = .ok (.istore_n 1, 1) := by decide +kernel
theorem dX11_findBroken_16 : decode cX11_findBroken 16 = .ok (.iload_n 1, 1) := by decide +kernel
theorem dX11_findBroken_17 : decode cX11_findBroken 17 = .ok (.aload_n 0, 1) := by decide +kernel
theorem dX11_findBroken_18 : decode cX11_findBroken 18 = .ok (.getfield 93, 3) := by decide +kernel
theorem dX11_findBroken_21 : decode cX11_findBroken 21 = .ok (.if_icmp .ge 122, 3) := by decide +kernel
theorem dX11_findBroken_24 : decode cX11_findBroken 24 = .ok (.aload_n 0, 1) := by decide +kernel
theorem dX11_findBroken_25 : decode cX11_findBroken 25 = .ok (.getfield 52, 3) := by decide +kernel
theorem dX11_findBroken_28 : decode cX11_findBroken 28 = .ok (.iload_n 1, 1) := by decide +kernel
theorem dX11_findBroken_29 : decode cX11_findBroken 29 = .ok (.iconst 1, 1) := by decide +kernel
theorem dX11_findBroken_30 : decode cX11_findBroken 30 = .ok (.iadd, 1) := by decide +kernel
theorem dX11_findBroken_31 : decode cX11_findBroken 31 = .ok (.iconst 0, 1) := by decide +kernel
theorem dX11_findBroken_32 : decode cX11_findBroken 32 = .ok (.iastore, 1) := by decide +kernel
theorem dX11_findBroken_33 : decode cX11_findBroken 33 = .ok (.iconst 0, 1) := by decide +kernel
theorem dX11_findBroken_34 : decode cX11_findBroken 34 = .ok (.istore_n 2, 1) := by decide +kernel
theorem dX11_findBroken_35 : decode cX11_findBroken 35 = .ok (.iload_n 2, 1) := by decide +kernel
theorem dX11_findBroken_36 : decode cX11_findBroken 36 = .ok (.aload_n 0, 1) := by decide +kernel
theorem dX11_findBroken_37 : decode cX11_findBroken 37 = .ok (.getfield 52, 3) := by decide +kernel
theorem dX11_findBroken_40 : decode cX11_findBroken 40 = .ok (.iload_n 1, 1) := by decide +kernel
theorem dX11_findBroken_41 : decode cX11_findBroken 41 = .ok (.iaload, 1) := by decide +kernel
theorem dX11_findBroken_42 : decode cX11_findBroken 42 = .ok (.if_icmp .ge 95, 3) := by decide +kernel
theorem dX11_findBroken_45 : decode cX11_findBroken 45 = .ok (.iconst 0, 1) := by decide +kernel
theorem dX11_findBroken_46 : decode cX11_findBroken 46 = .ok (.istore_n 3, 1) := by decide +kernel
theorem dX11_findBroken_47 : decode cX11_findBroken 47 = .ok (.iload_n 3, 1) := by decide +kernel
theorem dX11_findBroken_48 : decode cX11_findBroken 48 = .ok (.bipush 64, 2) := by decide +kernel
theorem dX11_findBroken_50 : decode cX11_findBroken 50 = .ok (.if_icmp .ge 81, 3) := by decide +kernel
theorem dX11_findBroken_53 : decode cX11_findBroken 53 = .ok (.aload_n 0, 1) := by decide +kernel
theorem dX11_findBroken_54 : decode cX11_findBroken 54 = .ok (.iload_n 1, 1) := by decide +kernel
theorem dX11_findBroken_55 : decode cX11_findBroken 55 = .ok (.aload_n 0, 1) := by decide +kernel
theorem dX11_findBroken_56 : decode cX11_findBroken 56 = .ok (.getfield 49, 3) := by decide +kernel
theorem dX11_findBroken_59 : decode cX11_findBroken 59 = .ok (.sipush 600, 3) := by decide +kernel
theorem dX11_findBroken_62 : decode cX11_findBroken 62 = .ok (.iload_n 1, 1) := by decide +kernel
theorem dX11_findBroken_63 : decode cX11_findBroken 63 = .ok (.imul, 1) := by decide +kernel
theorem dX11_findBroken_64 : decode cX11_findBroken 64 = .ok (.iload_n 2, 1) := by decide +kernel
theorem dX11_findBroken_65 : decode cX11_findBroken 65 = .ok (.iadd, 1) := by decide +kernel
theorem dX11_findBroken_66 : decode cX11_findBroken 66 = .ok (.iaload, 1) := by decide +kernel
theorem dX11_findBroken_67 : decode cX11_findBroken 67 = .ok (.iload_n 3, 1) := by decide +kernel
theorem dX11_findBroken_68 : decode cX11_findBroken 68 = .ok (.invokevirtual 208, 3) := by decide +kernel
theorem dX11_findBroken_71 : decode cX11_findBroken 71 = .ok (.istore 4, 2) := by decide +kernel
theorem dX11_findBroken_73 : decode cX11_findBroken 73 = .ok (.iload 4, 2) := by decide +kernel
theorem dX11_findBroken_75 : decode cX11_findBroken 75 = .ok (.ifCond .lt 50, 3) := by decide +kernel
theorem dX11_findBroken_78 : decode cX11_findBroken 78 = .ok (.aload_n 0, 1) := by decide +kernel
theorem dX11_findBroken_79 : decode cX11_findBroken 79 = .ok (.iload_n 1, 1) := by decide +kernel
theorem dX11_findBroken_80 : decode cX11_findBroken 80 = .ok (.iconst 1, 1) := by decide +kernel
theorem dX11_findBroken_81 : decode cX11_findBroken 81 = .ok (.iadd, 1) := by decide +kernel
theorem dX11_findBroken_82 : decode cX11_findBroken 82 = .ok (.iload 4, 2) := by decide +kernel
theorem dX11_findBroken_84 : decode cX11_findBroken 84 = .ok (.invokevirtual 211, 3) := by decide +kernel
theorem dX11_findBroken_87 : decode cX11_findBroken 87 = .ok (.ifCond .ge 38, 3) := by decide +kernel
theorem dX11_findBroken_90 : decode cX11_findBroken 90 = .ok (.aload_n 0, 1) := by decide +kernel
theorem dX11_findBroken_91 : decode cX11_findBroken 91 = .ok (.getfield 49, 3) := by decide +kernel
theorem dX11_findBroken_94 : decode cX11_findBroken 94 = .ok (.sipush 600, 3) := by decide +kernel
theorem dX11_findBroken_97 : decode cX11_findBroken 97 = .ok (.iload_n 1, 1) := by decide +kernel
theorem dX11_findBroken_98 : decode cX11_findBroken 98 = .ok (.iconst 1, 1) := by decide +kernel
theorem dX11_findBroken_99 : decode cX11_findBroken 99 = .ok (.iadd, 1) := by decide +kernel
theorem dX11_findBroken_100 : decode cX11_findBroken 100 = .ok (.imul, 1) := by decide +kernel
theorem dX11_findBroken_101 : decode cX11_findBroken 101 = .ok (.aload_n 0, 1) := by decide +kernel
theorem dX11_findBroken_102 : decode cX11_findBroken 102 = .ok (.getfield 52, 3) := by decide +kernel
theorem dX11_findBroken_105 : decode cX11_findBroken 105 = .ok (.iload_n 1, 1) := by decide +kernel
theorem dX11_findBroken_106 : decode cX11_findBroken 106 = .ok (.iconst 1, 1) := by decide +kernel
theorem dX11_findBroken_107 : decode cX11_findBroken 107 = .ok (.iadd, 1) := by decide +kernel
theorem dX11_findBroken_108 : decode cX11_findBroken 108 = .ok (.iaload, 1) := by decide +kernel
theorem dX11_findBroken_109 : decode cX11_findBroken 109 = .ok (.iadd, 1) := by decide +kernel
theorem dX11_findBroken_110 : decode cX11_findBroken 110 = .ok (.iload 4, 2) := by decide +kernel
theorem dX11_findBroken_112 : decode cX11_findBroken 112 = .ok (.iastore, 1) := by decide +kernel
theorem dX11_findBroken_113 : decode cX11_findBroken 113 = .ok (.aload_n 0, 1) := by decide +kernel
theorem dX11_findBroken_114 : decode cX11_findBroken 114 = .ok (.getfield 52, 3) := by decide +kernel
theorem dX11_findBroken_117 : decode cX11_findBroken 117 = .ok (.iload_n 1, 1) := by decide +kernel
theorem dX11_findBroken_118 : decode cX11_findBroken 118 = .ok (.iconst 1, 1) := by decide +kernel
theorem dX11_findBroken_119 : decode cX11_findBroken 119 = .ok (.iadd, 1) := by decide +kernel
theorem dX11_findBroken_120 : decode cX11_findBroken 120 = .ok (.dup2, 1) := by decide +kernel
theorem dX11_findBroken_121 : decode cX11_findBroken 121 = .ok (.iaload, 1) := by decide +kernel
theorem dX11_findBroken_122 : decode cX11_findBroken 122 = .ok (.iconst 1, 1) := by decide +kernel
theorem dX11_findBroken_123 : decode cX11_findBroken 123 = .ok (.iadd, 1) := by decide +kernel
theorem dX11_findBroken_124 : decode cX11_findBroken 124 = .ok (.iastore, 1) := by decide +kernel
theorem dX11_findBroken_125 : decode cX11_findBroken 125 = .ok (.iinc 3 1, 3) := by decide +kernel
theorem dX11_findBroken_128 : decode cX11_findBroken 128 = .ok (.goto (-81), 3) := by decide +kernel
theorem dX11_findBroken_131 : decode cX11_findBroken 131 = .ok (.iinc 2 1, 3) := by decide +kernel
theorem dX11_findBroken_134 : decode cX11_findBroken 134 = .ok (.goto (-99), 3) := by decide +kernel
theorem dX11_findBroken_137 : decode cX11_findBroken 137 = .ok (.iinc 1 1, 3) := by decide +kernel
theorem dX11_findBroken_140 : decode cX11_findBroken 140 = .ok (.goto (-124), 3) := by decide +kernel
theorem dX11_findBroken_143 : decode cX11_findBroken 143 = .ok (.return_, 1) := by decide +kernel
theorem dX11_fewestBy_0 : decode cX11_fewestBy 0 = .ok (.aload_n 0, 1) := by decide +kernel
theorem dX11_fewestBy_1 : decode cX11_fewestBy 1 = .ok (.iload_n 1, 1) := by decide +kernel
theorem dX11_fewestBy_2 : decode cX11_fewestBy 2 = .ok (.iload_n 2, 1) := by decide +kernel
theorem dX11_fewestBy_3 : decode cX11_fewestBy 3 = .ok (.iload_n 3, 1) := by decide +kernel
theorem dX11_fewestBy_4 : decode cX11_fewestBy 4 = .ok (.invokevirtual 208, 3) := by decide +kernel
theorem dX11_fewestBy_7 : decode cX11_fewestBy 7 = .ok (.istore 4, 2) := by decide +kernel
theorem dX11_fewestBy_9 : decode cX11_fewestBy 9 = .ok (.iload 4, 2) := by decide +kernel
theorem dX11_fewestBy_11 : decode cX11_fewestBy 11 = .ok (.ifCond .ge 6, 3) := by decide +kernel
theorem dX11_fewestBy_14 : decode cX11_fewestBy 14 = .ok (.bipush (-6), 2) := by decide +kernel
theorem dX11_fewestBy_16 : decode cX11_fewestBy 16 = .ok (.ireturn, 1) := by decide +kernel
theorem dX11_fewestBy_17 : decode cX11_fewestBy 17 = .ok (.aload_n 0, 1) := by decide +kernel
theorem dX11_fewestBy_18 : decode cX11_fewestBy 18 = .ok (.getfield 55, 3) := by decide +kernel
theorem dX11_fewestBy_21 : decode cX11_fewestBy 21 = .ok (.sipush 600, 3) := by decide +kernel
theorem dX11_fewestBy_24 : decode cX11_fewestBy 24 = .ok (.iload_n 1, 1) := by decide +kernel
theorem dX11_fewestBy_25 : decode cX11_fewestBy 25 = .ok (.iconst 1, 1) := by decide +kernel
theorem dX11_fewestBy_26 : decode cX11_fewestBy 26 = .ok (.iadd, 1) := by decide +kernel
theorem dX11_fewestBy_27 : decode cX11_fewestBy 27 = .ok (.imul, 1) := by decide +kernel
theorem dX11_fewestBy_28 : decode cX11_fewestBy 28 = .ok (.aload_n 0, 1) := by decide +kernel
theorem dX11_fewestBy_29 : decode cX11_fewestBy 29 = .ok (.iload_n 1, 1) := by decide +kernel
theorem dX11_fewestBy_30 : decode cX11_fewestBy 30 = .ok (.iconst 1, 1) := by decide +kernel
theorem dX11_fewestBy_31 : decode cX11_fewestBy 31 = .ok (.iadd, 1) := by decide +kernel
theorem dX11_fewestBy_32 : decode cX11_fewestBy 32 = .ok (.iload 4, 2) := by decide +kernel
theorem dX11_fewestBy_34 : decode cX11_fewestBy 34 = .ok (.invokevirtual 211, 3) := by decide +kernel
theorem dX11_fewestBy_37 : decode cX11_fewestBy 37 = .ok (.iadd, 1) := by decide +kernel
theorem dX11_fewestBy_38 : decode cX11_fewestBy 38 = .ok (.iaload, 1) := by decide +kernel
theorem dX11_fewestBy_39 : decode cX11_fewestBy 39 = .ok (.istore 5, 2) := by decide +kernel
theorem dX11_fewestBy_41 : decode cX11_fewestBy 41 = .ok (.iload 5, 2) := by decide +kernel
theorem dX11_fewestBy_43 : decode cX11_fewestBy 43 = .ok (.ifCond .ge 8, 3) := by decide +kernel
theorem dX11_fewestBy_46 : decode cX11_fewestBy 46 = .ok (.bipush (-6), 2) := by decide +kernel
theorem dX11_fewestBy_48 : decode cX11_fewestBy 48 = .ok (.goto 10, 3) := by decide +kernel
theorem dX11_fewestBy_51 : decode cX11_fewestBy 51 = .ok (.iload 5, 2) := by decide +kernel
theorem dX11_fewestBy_53 : decode cX11_fewestBy 53 = .ok (.iload_n 3, 1) := by decide +kernel
theorem dX11_fewestBy_54 : decode cX11_fewestBy 54 = .ok (.invokestatic 196, 3) := by decide +kernel
theorem dX11_fewestBy_57 : decode cX11_fewestBy 57 = .ok (.iadd, 1) := by decide +kernel
theorem dX11_fewestBy_58 : decode cX11_fewestBy 58 = .ok (.ireturn, 1) := by decide +kernel
theorem dX11_findFewest_0 : decode cX11_findFewest 0 = .ok (.aload_n 0, 1) := by decide +kernel
theorem dX11_findFewest_1 : decode cX11_findFewest 1 = .ok (.invokevirtual 214, 3) := by decide +kernel
theorem dX11_findFewest_4 : decode cX11_findFewest 4 = .ok (.iconst 0, 1) := by decide +kernel
theorem dX11_findFewest_5 : decode cX11_findFewest 5 = .ok (.istore_n 1, 1) := by decide +kernel
theorem dX11_findFewest_6 : decode cX11_findFewest 6 = .ok (.iload_n 1, 1) := by decide +kernel
theorem dX11_findFewest_7 : decode cX11_findFewest 7 = .ok (.aload_n 0, 1) := by decide +kernel
theorem dX11_findFewest_8 : decode cX11_findFewest 8 = .ok (.getfield 52, 3) := by decide +kernel
theorem dX11_findFewest_11 : decode cX11_findFewest 11 = .ok (.aload_n 0, 1) := by decide +kernel
theorem dX11_findFewest_12 : decode cX11_findFewest 12 = .ok (.getfield 93, 3) := by decide +kernel
theorem dX11_findFewest_15 : decode cX11_findFewest 15 = .ok (.iaload, 1) := by decide +kernel
theorem dX11_findFewest_16 : decode cX11_findFewest 16 = .ok (.if_icmp .ge 25, 3) := by decide +kernel
theorem dX11_findFewest_19 : decode cX11_findFewest 19 = .ok (.aload_n 0, 1) := by decide +kernel
theorem dX11_findFewest_20 : decode cX11_findFewest 20 = .ok (.getfield 55, 3) := by decide +kernel
theorem dX11_findFewest_23 : decode cX11_findFewest 23 = .ok (.sipush 600, 3) := by decide +kernel
theorem dX11_findFewest_26 : decode cX11_findFewest 26 = .ok (.aload_n 0, 1) := by decide +kernel
theorem dX11_findFewest_27 : decode cX11_findFewest 27 = .ok (.getfield 93, 3) := by decide +kernel
theorem dX11_findFewest_30 : decode cX11_findFewest 30 = .ok (.imul, 1) := by decide +kernel
theorem dX11_findFewest_31 : decode cX11_findFewest 31 = .ok (.iload_n 1, 1) := by decide +kernel
theorem dX11_findFewest_32 : decode cX11_findFewest 32 = .ok (.iadd, 1) := by decide +kernel
theorem dX11_findFewest_33 : decode cX11_findFewest 33 = .ok (.iconst 0, 1) := by decide +kernel
theorem dX11_findFewest_34 : decode cX11_findFewest 34 = .ok (.iastore, 1) := by decide +kernel
theorem dX11_findFewest_35 : decode cX11_findFewest 35 = .ok (.iinc 1 1, 3) := by decide +kernel
theorem dX11_findFewest_38 : decode cX11_findFewest 38 = .ok (.goto (-32), 3) := by decide +kernel
theorem dX11_findFewest_41 : decode cX11_findFewest 41 = .ok (.aload_n 0, 1) := by decide +kernel
theorem dX11_findFewest_42 : decode cX11_findFewest 42 = .ok (.getfield 93, 3) := by decide +kernel
theorem dX11_findFewest_45 : decode cX11_findFewest 45 = .ok (.iconst 1, 1) := by decide +kernel
theorem dX11_findFewest_46 : decode cX11_findFewest 46 = .ok (.isub, 1) := by decide +kernel
theorem dX11_findFewest_47 : decode cX11_findFewest 47 = .ok (.istore_n 1, 1) := by decide +kernel
theorem dX11_findFewest_48 : decode cX11_findFewest 48 = .ok (.iload_n 1, 1) := by decide +kernel
theorem dX11_findFewest_49 : decode cX11_findFewest 49 = .ok (.ifCond .lt 102, 3) := by decide +kernel
theorem dX11_findFewest_52 : decode cX11_findFewest 52 = .ok (.iconst 0, 1) := by decide +kernel
theorem dX11_findFewest_53 : decode cX11_findFewest 53 = .ok (.istore_n 2, 1) := by decide +kernel
theorem dX11_findFewest_54 : decode cX11_findFewest 54 = .ok (.iload_n 2, 1) := by decide +kernel
theorem dX11_findFewest_55 : decode cX11_findFewest 55 = .ok (.aload_n 0, 1) := by decide +kernel
theorem dX11_findFewest_56 : decode cX11_findFewest 56 = .ok (.getfield 52, 3) := by decide +kernel
theorem dX11_findFewest_59 : decode cX11_findFewest 59 = .ok (.iload_n 1, 1) := by decide +kernel
theorem dX11_findFewest_60 : decode cX11_findFewest 60 = .ok (.iaload, 1) := by decide +kernel
theorem dX11_findFewest_61 : decode cX11_findFewest 61 = .ok (.if_icmp .ge 84, 3) := by decide +kernel
theorem dX11_findFewest_64 : decode cX11_findFewest 64 = .ok (.bipush (-6), 2) := by decide +kernel
theorem dX11_findFewest_66 : decode cX11_findFewest 66 = .ok (.istore_n 3, 1) := by decide +kernel
theorem dX11_findFewest_67 : decode cX11_findFewest 67 = .ok (.iconst 0, 1) := by decide +kernel
theorem dX11_findFewest_68 : decode cX11_findFewest 68 = .ok (.istore 4, 2) := by decide +kernel
theorem dX11_findFewest_70 : decode cX11_findFewest 70 = .ok (.iload 4, 2) := by decide +kernel
theorem dX11_findFewest_72 : decode cX11_findFewest 72 = .ok (.bipush 64, 2) := by decide +kernel
theorem dX11_findFewest_74 : decode cX11_findFewest 74 = .ok (.if_icmp .ge 52, 3) := by decide +kernel
theorem dX11_findFewest_77 : decode cX11_findFewest 77 = .ok (.aload_n 0, 1) := by decide +kernel
theorem dX11_findFewest_78 : decode cX11_findFewest 78 = .ok (.iload_n 1, 1) := by decide +kernel
theorem dX11_findFewest_79 : decode cX11_findFewest 79 = .ok (.aload_n 0, 1) := by decide +kernel
theorem dX11_findFewest_80 : decode cX11_findFewest 80 = .ok (.getfield 49, 3) := by decide +kernel
theorem dX11_findFewest_83 : decode cX11_findFewest 83 = .ok (.sipush 600, 3) := by decide +kernel
theorem dX11_findFewest_86 : decode cX11_findFewest 86 = .ok (.iload_n 1, 1) := by decide +kernel
theorem dX11_findFewest_87 : decode cX11_findFewest 87 = .ok (.imul, 1) := by decide +kernel
theorem dX11_findFewest_88 : decode cX11_findFewest 88 = .ok (.iload_n 2, 1) := by decide +kernel
theorem dX11_findFewest_89 : decode cX11_findFewest 89 = .ok (.iadd, 1) := by decide +kernel
theorem dX11_findFewest_90 : decode cX11_findFewest 90 = .ok (.iaload, 1) := by decide +kernel
theorem dX11_findFewest_91 : decode cX11_findFewest 91 = .ok (.iload 4, 2) := by decide +kernel
theorem dX11_findFewest_93 : decode cX11_findFewest 93 = .ok (.invokevirtual 217, 3) := by decide +kernel
theorem dX11_findFewest_96 : decode cX11_findFewest 96 = .ok (.istore 5, 2) := by decide +kernel
theorem dX11_findFewest_98 : decode cX11_findFewest 98 = .ok (.iload 5, 2) := by decide +kernel
theorem dX11_findFewest_100 : decode cX11_findFewest 100 = .ok (.ifCond .lt 18, 3) := by decide +kernel
theorem dX11_findFewest_103 : decode cX11_findFewest 103 = .ok (.iload_n 3, 1) := by decide +kernel
theorem dX11_findFewest_104 : decode cX11_findFewest 104 = .ok (.ifCond .lt 9, 3) := by decide +kernel
theorem dX11_findFewest_107 : decode cX11_findFewest 107 = .ok (.iload 5, 2) := by decide +kernel
theorem dX11_findFewest_109 : decode cX11_findFewest 109 = .ok (.iload_n 3, 1) := by decide +kernel
theorem dX11_findFewest_110 : decode cX11_findFewest 110 = .ok (.if_icmp .ge 8, 3) := by decide +kernel
theorem dX11_findFewest_113 : decode cX11_findFewest 113 = .ok (.iload 5, 2) := by decide +kernel
theorem dX11_findFewest_115 : decode cX11_findFewest 115 = .ok (.goto 4, 3) := by decide +kernel
theorem dX11_findFewest_118 : decode cX11_findFewest 118 = .ok (.iload_n 3, 1) := by decide +kernel
theorem dX11_findFewest_119 : decode cX11_findFewest 119 = .ok (.istore_n 3, 1) := by decide +kernel
theorem dX11_findFewest_120 : decode cX11_findFewest 120 = .ok (.iinc 4 1, 3) := by decide +kernel
theorem dX11_findFewest_123 : decode cX11_findFewest 123 = .ok (.goto (-53), 3) := by decide +kernel
theorem dX11_findFewest_126 : decode cX11_findFewest 126 = .ok (.aload_n 0, 1) := by decide +kernel
theorem dX11_findFewest_127 : decode cX11_findFewest 127 = .ok (.getfield 55, 3) := by decide +kernel
theorem dX11_findFewest_130 : decode cX11_findFewest 130 = .ok (.sipush 600, 3) := by decide +kernel
theorem dX11_findFewest_133 : decode cX11_findFewest 133 = .ok (.iload_n 1, 1) := by decide +kernel
theorem dX11_findFewest_134 : decode cX11_findFewest 134 = .ok (.imul, 1) := by decide +kernel
theorem dX11_findFewest_135 : decode cX11_findFewest 135 = .ok (.iload_n 2, 1) := by decide +kernel
theorem dX11_findFewest_136 : decode cX11_findFewest 136 = .ok (.iadd, 1) := by decide +kernel
theorem dX11_findFewest_137 : decode cX11_findFewest 137 = .ok (.iload_n 3, 1) := by decide +kernel
theorem dX11_findFewest_138 : decode cX11_findFewest 138 = .ok (.iastore, 1) := by decide +kernel
theorem dX11_findFewest_139 : decode cX11_findFewest 139 = .ok (.iinc 2 1, 3) := by decide +kernel
theorem dX11_findFewest_142 : decode cX11_findFewest 142 = .ok (.goto (-88), 3) := by decide +kernel
theorem dX11_findFewest_145 : decode cX11_findFewest 145 = .ok (.iinc 1 (-1), 3) := by decide +kernel
theorem dX11_findFewest_148 : decode cX11_findFewest 148 = .ok (.goto (-100), 3) := by decide +kernel
theorem dX11_findFewest_151 : decode cX11_findFewest 151 = .ok (.return_, 1) := by decide +kernel
theorem dX11_changes_0 : decode cX11_changes 0 = .ok (.aload_n 0, 1) := by decide +kernel
theorem dX11_changes_1 : decode cX11_changes 1 = .ok (.iconst 2, 1) := by decide +kernel
theorem dX11_changes_2 : decode cX11_changes 2 = .ok (.invokevirtual 116, 3) := by decide +kernel
theorem dX11_changes_5 : decode cX11_changes 5 = .ok (.ifCond .lt 6, 3) := by decide +kernel
theorem dX11_changes_8 : decode cX11_changes 8 = .ok (.bipush (-5), 2) := by decide +kernel
theorem dX11_changes_10 : decode cX11_changes 10 = .ok (.ireturn, 1) := by decide +kernel
theorem dX11_changes_11 : decode cX11_changes 11 = .ok (.aload_n 0, 1) := by decide +kernel
theorem dX11_changes_12 : decode cX11_changes 12 = .ok (.invokevirtual 220, 3) := by decide +kernel
theorem dX11_changes_15 : decode cX11_changes 15 = .ok (.aload_n 0, 1) := by decide +kernel
theorem dX11_changes_16 : decode cX11_changes 16 = .ok (.getfield 55, 3) := by decide +kernel
theorem dX11_changes_19 : decode cX11_changes 19 = .ok (.iconst 0, 1) := by decide +kernel
theorem dX11_changes_20 : decode cX11_changes 20 = .ok (.iaload, 1) := by decide +kernel
theorem dX11_changes_21 : decode cX11_changes 21 = .ok (.ifCond .ge 6, 3) := by decide +kernel
theorem dX11_changes_24 : decode cX11_changes 24 = .ok (.bipush (-6), 2) := by decide +kernel
theorem dX11_changes_26 : decode cX11_changes 26 = .ok (.ireturn, 1) := by decide +kernel
theorem dX11_changes_27 : decode cX11_changes 27 = .ok (.iload_n 1, 1) := by decide +kernel
theorem dX11_changes_28 : decode cX11_changes 28 = .ok (.iconst (-1), 1) := by decide +kernel
theorem dX11_changes_29 : decode cX11_changes 29 = .ok (.if_icmp .ne 10, 3) := by decide +kernel
theorem dX11_changes_32 : decode cX11_changes 32 = .ok (.aload_n 0, 1) := by decide +kernel
theorem dX11_changes_33 : decode cX11_changes 33 = .ok (.getfield 55, 3) := by decide +kernel
theorem dX11_changes_36 : decode cX11_changes 36 = .ok (.iconst 0, 1) := by decide +kernel
theorem dX11_changes_37 : decode cX11_changes 37 = .ok (.iaload, 1) := by decide +kernel
theorem dX11_changes_38 : decode cX11_changes 38 = .ok (.ireturn, 1) := by decide +kernel
theorem dX11_changes_39 : decode cX11_changes 39 = .ok (.iload_n 1, 1) := by decide +kernel
theorem dX11_changes_40 : decode cX11_changes 40 = .ok (.i2l, 1) := by decide +kernel
theorem dX11_changes_41 : decode cX11_changes 41 = .ok (.lconst 0, 1) := by decide +kernel
theorem dX11_changes_42 : decode cX11_changes 42 = .ok (.aload_n 0, 1) := by decide +kernel
theorem dX11_changes_43 : decode cX11_changes 43 = .ok (.getfield 93, 3) := by decide +kernel
theorem dX11_changes_46 : decode cX11_changes 46 = .ok (.iconst 1, 1) := by decide +kernel
theorem dX11_changes_47 : decode cX11_changes 47 = .ok (.isub, 1) := by decide +kernel
theorem dX11_changes_48 : decode cX11_changes 48 = .ok (.i2l, 1) := by decide +kernel
theorem dX11_changes_49 : decode cX11_changes 49 = .ok (.invokestatic 83, 3) := by decide +kernel
theorem dX11_changes_52 : decode cX11_changes 52 = .ok (.ifCond .ne 6, 3) := by decide +kernel
theorem dX11_changes_55 : decode cX11_changes 55 = .ok (.bipush (-6), 2) := by decide +kernel
theorem dX11_changes_57 : decode cX11_changes 57 = .ok (.ireturn, 1) := by decide +kernel
theorem dX11_changes_58 : decode cX11_changes 58 = .ok (.iconst 0, 1) := by decide +kernel
theorem dX11_changes_59 : decode cX11_changes 59 = .ok (.istore_n 2, 1) := by decide +kernel
theorem dX11_changes_60 : decode cX11_changes 60 = .ok (.iconst 0, 1) := by decide +kernel
theorem dX11_changes_61 : decode cX11_changes 61 = .ok (.istore_n 3, 1) := by decide +kernel
theorem dX11_changes_62 : decode cX11_changes 62 = .ok (.iconst 0, 1) := by decide +kernel
theorem dX11_changes_63 : decode cX11_changes 63 = .ok (.istore 4, 2) := by decide +kernel
theorem dX11_changes_65 : decode cX11_changes 65 = .ok (.iload 4, 2) := by decide +kernel
theorem dX11_changes_67 : decode cX11_changes 67 = .ok (.iload_n 1, 1) := by decide +kernel
theorem dX11_changes_68 : decode cX11_changes 68 = .ok (.if_icmp .gt 60, 3) := by decide +kernel
theorem dX11_changes_71 : decode cX11_changes 71 = .ok (.aload_n 0, 1) := by decide +kernel
theorem dX11_changes_72 : decode cX11_changes 72 = .ok (.getfield 55, 3) := by decide +kernel
theorem dX11_changes_75 : decode cX11_changes 75 = .ok (.sipush 600, 3) := by decide +kernel
theorem dX11_changes_78 : decode cX11_changes 78 = .ok (.iload 4, 2) := by decide +kernel
theorem dX11_changes_80 : decode cX11_changes 80 = .ok (.imul, 1) := by decide +kernel
theorem dX11_changes_81 : decode cX11_changes 81 = .ok (.aload_n 0, 1) := by decide +kernel
theorem dX11_changes_82 : decode cX11_changes 82 = .ok (.iload 4, 2) := by decide +kernel
theorem dX11_changes_84 : decode cX11_changes 84 = .ok (.iload_n 2, 1) := by decide +kernel
theorem dX11_changes_85 : decode cX11_changes 85 = .ok (.invokevirtual 211, 3) := by decide +kernel
theorem dX11_changes_88 : decode cX11_changes 88 = .ok (.iadd, 1) := by decide +kernel
theorem dX11_changes_89 : decode cX11_changes 89 = .ok (.iaload, 1) := by decide +kernel
theorem dX11_changes_90 : decode cX11_changes 90 = .ok (.istore 5, 2) := by decide +kernel
theorem dX11_changes_92 : decode cX11_changes 92 = .ok (.iconst 0, 1) := by decide +kernel
theorem dX11_changes_93 : decode cX11_changes 93 = .ok (.istore_n 3, 1) := by decide +kernel
theorem dX11_changes_94 : decode cX11_changes 94 = .ok (.aload_n 0, 1) := by decide +kernel
theorem dX11_changes_95 : decode cX11_changes 95 = .ok (.iload 4, 2) := by decide +kernel
theorem dX11_changes_97 : decode cX11_changes 97 = .ok (.iload_n 2, 1) := by decide +kernel
theorem dX11_changes_98 : decode cX11_changes 98 = .ok (.iload_n 3, 1) := by decide +kernel
theorem dX11_changes_99 : decode cX11_changes 99 = .ok (.invokevirtual 217, 3) := by decide +kernel
theorem dX11_changes_102 : decode cX11_changes 102 = .ok (.iload 5, 2) := by decide +kernel
theorem dX11_changes_104 : decode cX11_changes 104 = .ok (.if_icmp .eq 9, 3) := by decide +kernel
theorem dX11_changes_107 : decode cX11_changes 107 = .ok (.iinc 3 1, 3) := by decide +kernel
theorem dX11_changes_110 : decode cX11_changes 110 = .ok (.goto (-16), 3) := by decide +kernel
theorem dX11_changes_113 : decode cX11_changes 113 = .ok (.aload_n 0, 1) := by decide +kernel
theorem dX11_changes_114 : decode cX11_changes 114 = .ok (.iload 4, 2) := by decide +kernel
theorem dX11_changes_116 : decode cX11_changes 116 = .ok (.iload_n 2, 1) := by decide +kernel
theorem dX11_changes_117 : decode cX11_changes 117 = .ok (.iload_n 3, 1) := by decide +kernel
theorem dX11_changes_118 : decode cX11_changes 118 = .ok (.invokevirtual 208, 3) := by decide +kernel
theorem dX11_changes_121 : decode cX11_changes 121 = .ok (.istore_n 2, 1) := by decide +kernel
theorem dX11_changes_122 : decode cX11_changes 122 = .ok (.iinc 4 1, 3) := by decide +kernel
theorem dX11_changes_125 : decode cX11_changes 125 = .ok (.goto (-60), 3) := by decide +kernel
theorem dX11_changes_128 : decode cX11_changes 128 = .ok (.iload_n 3, 1) := by decide +kernel
theorem dX11_changes_129 : decode cX11_changes 129 = .ok (.ireturn, 1) := by decide +kernel
theorem dX11_findShort_0 : decode cX11_findShort 0 = .ok (.aload_n 0, 1) := by decide +kernel
theorem dX11_findShort_1 : decode cX11_findShort 1 = .ok (.invokevirtual 168, 3) := by decide +kernel
theorem dX11_findShort_4 : decode cX11_findShort 4 = .ok (.iconst 0, 1) := by decide +kernel
theorem dX11_findShort_5 : decode cX11_findShort 5 = .ok (.istore_n 2, 1) := by decide +kernel
theorem dX11_findShort_6 : decode cX11_findShort 6 = .ok (.iload_n 2, 1) := by decide +kernel
theorem dX11_findShort_7 : decode cX11_findShort 7 = .ok (.aload_n 0, 1) := by decide +kernel
theorem dX11_findShort_8 : decode cX11_findShort 8 = .ok (.getfield 93, 3) := by decide +kernel
theorem dX11_findShort_11 : decode cX11_findShort 11 = .ok (.if_icmp .ge 71, 3) := by decide +kernel
theorem dX11_findShort_14 : decode cX11_findShort 14 = .ok (.aload_n 0, 1) := by decide +kernel
theorem dX11_findShort_15 : decode cX11_findShort 15 = .ok (.aload_n 0, 1) := by decide +kernel
theorem dX11_findShort_16 : decode cX11_findShort 16 = .ok (.iload_n 2, 1) := by decide +kernel
theorem dX11_findShort_17 : decode cX11_findShort 17 = .ok (.invokevirtual 171, 3) := by decide +kernel
theorem dX11_findShort_20 : decode cX11_findShort 20 = .ok (.iconst 0, 1) := by decide +kernel
theorem dX11_findShort_21 : decode cX11_findShort 21 = .ok (.invokevirtual 149, 3) := by decide +kernel
theorem dX11_findShort_24 : decode cX11_findShort 24 = .ok (.aload_n 0, 1) := by decide +kernel
theorem dX11_findShort_25 : decode cX11_findShort 25 = .ok (.getfield 58, 3) := by decide +kernel
theorem dX11_findShort_28 : decode cX11_findShort 28 = .ok (.iload_n 2, 1) := by decide +kernel
theorem dX11_findShort_29 : decode cX11_findShort 29 = .ok (.aload_n 0, 1) := by decide +kernel
theorem dX11_findShort_30 : decode cX11_findShort 30 = .ok (.getfield 37, 3) := by decide +kernel
theorem dX11_findShort_33 : decode cX11_findShort 33 = .ok (.iload_n 1, 1) := by decide +kernel
theorem dX11_findShort_34 : decode cX11_findShort 34 = .ok (.iaload, 1) := by decide +kernel
theorem dX11_findShort_35 : decode cX11_findShort 35 = .ok (.aload_n 0, 1) := by decide +kernel
theorem dX11_findShort_36 : decode cX11_findShort 36 = .ok (.getfield 40, 3) := by decide +kernel
theorem dX11_findShort_39 : decode cX11_findShort 39 = .ok (.iload_n 1, 1) := by decide +kernel
theorem dX11_findShort_40 : decode cX11_findShort 40 = .ok (.iaload, 1) := by decide +kernel
theorem dX11_findShort_41 : decode cX11_findShort 41 = .ok (.if_icmp .le 19, 3) := by decide +kernel
theorem dX11_findShort_44 : decode cX11_findShort 44 = .ok (.aload_n 0, 1) := by decide +kernel
theorem dX11_findShort_45 : decode cX11_findShort 45 = .ok (.getfield 37, 3) := by decide +kernel
theorem dX11_findShort_48 : decode cX11_findShort 48 = .ok (.iload_n 1, 1) := by decide +kernel
theorem dX11_findShort_49 : decode cX11_findShort 49 = .ok (.iaload, 1) := by decide +kernel
theorem dX11_findShort_50 : decode cX11_findShort 50 = .ok (.aload_n 0, 1) := by decide +kernel
theorem dX11_findShort_51 : decode cX11_findShort 51 = .ok (.getfield 40, 3) := by decide +kernel
theorem dX11_findShort_54 : decode cX11_findShort 54 = .ok (.iload_n 1, 1) := by decide +kernel
theorem dX11_findShort_55 : decode cX11_findShort 55 = .ok (.iaload, 1) := by decide +kernel
theorem dX11_findShort_56 : decode cX11_findShort 56 = .ok (.isub, 1) := by decide +kernel
theorem dX11_findShort_57 : decode cX11_findShort 57 = .ok (.goto 4, 3) := by decide +kernel
theorem dX11_findShort_60 : decode cX11_findShort 60 = .ok (.iconst 0, 1) := by decide +kernel
theorem dX11_findShort_61 : decode cX11_findShort 61 = .ok (.iastore, 1) := by decide +kernel
theorem dX11_findShort_62 : decode cX11_findShort 62 = .ok (.aload_n 0, 1) := by decide +kernel
theorem dX11_findShort_63 : decode cX11_findShort 63 = .ok (.aload_n 0, 1) := by decide +kernel
theorem dX11_findShort_64 : decode cX11_findShort 64 = .ok (.aload_n 0, 1) := by decide +kernel
theorem dX11_findShort_65 : decode cX11_findShort 65 = .ok (.iload_n 2, 1) := by decide +kernel
theorem dX11_findShort_66 : decode cX11_findShort 66 = .ok (.invokevirtual 171, 3) := by decide +kernel
theorem dX11_findShort_69 : decode cX11_findShort 69 = .ok (.iconst 0, 1) := by decide +kernel
theorem dX11_findShort_70 : decode cX11_findShort 70 = .ok (.invokevirtual 152, 3) := by decide +kernel
theorem dX11_findShort_73 : decode cX11_findShort 73 = .ok (.invokevirtual 177, 3) := by decide +kernel
theorem dX11_findShort_76 : decode cX11_findShort 76 = .ok (.iinc 2 1, 3) := by decide +kernel
theorem dX11_findShort_79 : decode cX11_findShort 79 = .ok (.goto (-73), 3) := by decide +kernel
theorem dX11_findShort_82 : decode cX11_findShort 82 = .ok (.return_, 1) := by decide +kernel
theorem dX11_loanOf_0 : decode cX11_loanOf 0 = .ok (.iconst 0, 1) := by decide +kernel
theorem dX11_loanOf_1 : decode cX11_loanOf 1 = .ok (.istore_n 3, 1) := by decide +kernel
theorem dX11_loanOf_2 : decode cX11_loanOf 2 = .ok (.bipush (-6), 2) := by decide +kernel
theorem dX11_loanOf_4 : decode cX11_loanOf 4 = .ok (.istore 4, 2) := by decide +kernel
theorem dX11_loanOf_6 : decode cX11_loanOf 6 = .ok (.iconst 0, 1) := by decide +kernel
theorem dX11_loanOf_7 : decode cX11_loanOf 7 = .ok (.istore 5, 2) := by decide +kernel
theorem dX11_loanOf_9 : decode cX11_loanOf 9 = .ok (.iload 5, 2) := by decide +kernel
theorem dX11_loanOf_11 : decode cX11_loanOf 11 = .ok (.aload_n 0, 1) := by decide +kernel
theorem dX11_loanOf_12 : decode cX11_loanOf 12 = .ok (.getfield 93, 3) := by decide +kernel
theorem dX11_loanOf_15 : decode cX11_loanOf 15 = .ok (.if_icmp .ge 73, 3) := by decide +kernel
theorem dX11_loanOf_18 : decode cX11_loanOf 18 = .ok (.aload_n 0, 1) := by decide +kernel
theorem dX11_loanOf_19 : decode cX11_loanOf 19 = .ok (.getfield 58, 3) := by decide +kernel
theorem dX11_loanOf_22 : decode cX11_loanOf 22 = .ok (.iload 5, 2) := by decide +kernel
theorem dX11_loanOf_24 : decode cX11_loanOf 24 = .ok (.iaload, 1) := by decide +kernel
theorem dX11_loanOf_25 : decode cX11_loanOf 25 = .ok (.iload_n 2, 1) := by decide +kernel
theorem dX11_loanOf_26 : decode cX11_loanOf 26 = .ok (.if_icmp .lt 56, 3) := by decide +kernel
theorem dX11_loanOf_29 : decode cX11_loanOf 29 = .ok (.aload_n 0, 1) := by decide +kernel
theorem dX11_loanOf_30 : decode cX11_loanOf 30 = .ok (.getfield 28, 3) := by decide +kernel
theorem dX11_loanOf_33 : decode cX11_loanOf 33 = .ok (.iload_n 1, 1) := by decide +kernel
theorem dX11_loanOf_34 : decode cX11_loanOf 34 = .ok (.iaload, 1) := by decide +kernel
theorem dX11_loanOf_35 : decode cX11_loanOf 35 = .ok (.iload 5, 2) := by decide +kernel
theorem dX11_loanOf_37 : decode cX11_loanOf 37 = .ok (.iload 4, 2) := by decide +kernel
theorem dX11_loanOf_39 : decode cX11_loanOf 39 = .ok (.isub, 1) := by decide +kernel
theorem dX11_loanOf_40 : decode cX11_loanOf 40 = .ok (.iconst 1, 1) := by decide +kernel
theorem dX11_loanOf_41 : decode cX11_loanOf 41 = .ok (.isub, 1) := by decide +kernel
theorem dX11_loanOf_42 : decode cX11_loanOf 42 = .ok (.imul, 1) := by decide +kernel
theorem dX11_loanOf_43 : decode cX11_loanOf 43 = .ok (.istore 6, 2) := by decide +kernel
theorem dX11_loanOf_45 : decode cX11_loanOf 45 = .ok (.iload_n 3, 1) := by decide +kernel
theorem dX11_loanOf_46 : decode cX11_loanOf 46 = .ok (.aload_n 0, 1) := by decide +kernel
theorem dX11_loanOf_47 : decode cX11_loanOf 47 = .ok (.getfield 28, 3) := by decide +kernel
theorem dX11_loanOf_50 : decode cX11_loanOf 50 = .ok (.iload_n 1, 1) := by decide +kernel
theorem dX11_loanOf_51 : decode cX11_loanOf 51 = .ok (.iaload, 1) := by decide +kernel
theorem dX11_loanOf_52 : decode cX11_loanOf 52 = .ok (.iload 4, 2) := by decide +kernel
theorem dX11_loanOf_54 : decode cX11_loanOf 54 = .ok (.ifCond .lt 12, 3) := by decide +kernel
theorem dX11_loanOf_57 : decode cX11_loanOf 57 = .ok (.iload 6, 2) := by decide +kernel
theorem dX11_loanOf_59 : decode cX11_loanOf 59 = .ok (.aload_n 0, 1) := by decide +kernel
theorem dX11_loanOf_60 : decode cX11_loanOf 60 = .ok (.getfield 77, 3) := by decide +kernel
theorem dX11_loanOf_63 : decode cX11_loanOf 63 = .ok (.if_icmp .le 10, 3) := by decide +kernel
theorem dX11_loanOf_66 : decode cX11_loanOf 66 = .ok (.aload_n 0, 1) := by decide +kernel
theorem dX11_loanOf_67 : decode cX11_loanOf 67 = .ok (.getfield 77, 3) := by decide +kernel
theorem dX11_loanOf_70 : decode cX11_loanOf 70 = .ok (.goto 5, 3) := by decide +kernel
theorem dX11_loanOf_73 : decode cX11_loanOf 73 = .ok (.iload 6, 2) := by decide +kernel
theorem dX11_loanOf_75 : decode cX11_loanOf 75 = .ok (.iadd, 1) := by decide +kernel
theorem dX11_loanOf_76 : decode cX11_loanOf 76 = .ok (.iadd, 1) := by decide +kernel
theorem dX11_loanOf_77 : decode cX11_loanOf 77 = .ok (.istore_n 3, 1) := by decide +kernel
theorem dX11_loanOf_78 : decode cX11_loanOf 78 = .ok (.iload 5, 2) := by decide +kernel
theorem dX11_loanOf_80 : decode cX11_loanOf 80 = .ok (.istore 4, 2) := by decide +kernel
theorem dX11_loanOf_82 : decode cX11_loanOf 82 = .ok (.iinc 5 1, 3) := by decide +kernel
theorem dX11_loanOf_85 : decode cX11_loanOf 85 = .ok (.goto (-76), 3) := by decide +kernel
theorem dX11_loanOf_88 : decode cX11_loanOf 88 = .ok (.iload_n 3, 1) := by decide +kernel
theorem dX11_loanOf_89 : decode cX11_loanOf 89 = .ok (.ireturn, 1) := by decide +kernel
theorem dX11_loansOf_0 : decode cX11_loansOf 0 = .ok (.aload_n 0, 1) := by decide +kernel
theorem dX11_loansOf_1 : decode cX11_loansOf 1 = .ok (.iload_n 1, 1) := by decide +kernel
theorem dX11_loansOf_2 : decode cX11_loansOf 2 = .ok (.invokevirtual 223, 3) := by decide +kernel
theorem dX11_loansOf_5 : decode cX11_loansOf 5 = .ok (.iconst 0, 1) := by decide +kernel
theorem dX11_loansOf_6 : decode cX11_loansOf 6 = .ok (.istore_n 2, 1) := by decide +kernel
theorem dX11_loansOf_7 : decode cX11_loansOf 7 = .ok (.iconst 0, 1) := by decide +kernel
theorem dX11_loansOf_8 : decode cX11_loansOf 8 = .ok (.istore_n 3, 1) := by decide +kernel
theorem dX11_loansOf_9 : decode cX11_loansOf 9 = .ok (.iload_n 3, 1) := by decide +kernel
theorem dX11_loansOf_10 : decode cX11_loansOf 10 = .ok (.aload_n 0, 1) := by decide +kernel
theorem dX11_loansOf_11 : decode cX11_loansOf 11 = .ok (.getfield 93, 3) := by decide +kernel
theorem dX11_loansOf_14 : decode cX11_loansOf 14 = .ok (.if_icmp .ge 30, 3) := by decide +kernel
theorem dX11_loansOf_17 : decode cX11_loansOf 17 = .ok (.aload_n 0, 1) := by decide +kernel
theorem dX11_loansOf_18 : decode cX11_loansOf 18 = .ok (.getfield 58, 3) := by decide +kernel
theorem dX11_loansOf_21 : decode cX11_loansOf 21 = .ok (.iload_n 3, 1) := by decide +kernel
theorem dX11_loansOf_22 : decode cX11_loansOf 22 = .ok (.iaload, 1) := by decide +kernel
theorem dX11_loansOf_23 : decode cX11_loansOf 23 = .ok (.iload_n 2, 1) := by decide +kernel
theorem dX11_loansOf_24 : decode cX11_loansOf 24 = .ok (.if_icmp .le 12, 3) := by decide +kernel
theorem dX11_loansOf_27 : decode cX11_loansOf 27 = .ok (.aload_n 0, 1) := by decide +kernel
theorem dX11_loansOf_28 : decode cX11_loansOf 28 = .ok (.getfield 58, 3) := by decide +kernel
theorem dX11_loansOf_31 : decode cX11_loansOf 31 = .ok (.iload_n 3, 1) := by decide +kernel
theorem dX11_loansOf_32 : decode cX11_loansOf 32 = .ok (.iaload, 1) := by decide +kernel
theorem dX11_loansOf_33 : decode cX11_loansOf 33 = .ok (.goto 4, 3) := by decide +kernel
theorem dX11_loansOf_36 : decode cX11_loansOf 36 = .ok (.iload_n 2, 1) := by decide +kernel
theorem dX11_loansOf_37 : decode cX11_loansOf 37 = .ok (.istore_n 2, 1) := by decide +kernel
theorem dX11_loansOf_38 : decode cX11_loansOf 38 = .ok (.iinc 3 1, 3) := by decide +kernel
theorem dX11_loansOf_41 : decode cX11_loansOf 41 = .ok (.goto (-32), 3) := by decide +kernel
theorem dX11_loansOf_44 : decode cX11_loansOf 44 = .ok (.iconst 0, 1) := by decide +kernel
theorem dX11_loansOf_45 : decode cX11_loansOf 45 = .ok (.istore_n 3, 1) := by decide +kernel
theorem dX11_loansOf_46 : decode cX11_loansOf 46 = .ok (.iconst 1, 1) := by decide +kernel
theorem dX11_loansOf_47 : decode cX11_loansOf 47 = .ok (.istore 4, 2) := by decide +kernel
theorem dX11_loansOf_49 : decode cX11_loansOf 49 = .ok (.iload 4, 2) := by decide +kernel
theorem dX11_loansOf_51 : decode cX11_loansOf 51 = .ok (.iload_n 2, 1) := by decide +kernel
theorem dX11_loansOf_52 : decode cX11_loansOf 52 = .ok (.if_icmp .gt 19, 3) := by decide +kernel
theorem dX11_loansOf_55 : decode cX11_loansOf 55 = .ok (.iload_n 3, 1) := by decide +kernel
theorem dX11_loansOf_56 : decode cX11_loansOf 56 = .ok (.aload_n 0, 1) := by decide +kernel
theorem dX11_loansOf_57 : decode cX11_loansOf 57 = .ok (.iload_n 1, 1) := by decide +kernel
theorem dX11_loansOf_58 : decode cX11_loansOf 58 = .ok (.iload 4, 2) := by decide +kernel
theorem dX11_loansOf_60 : decode cX11_loansOf 60 = .ok (.invokevirtual 226, 3) := by decide +kernel
theorem dX11_loansOf_63 : decode cX11_loansOf 63 = .ok (.iadd, 1) := by decide +kernel
theorem dX11_loansOf_64 : decode cX11_loansOf 64 = .ok (.istore_n 3, 1) := by decide +kernel
theorem dX11_loansOf_65 : decode cX11_loansOf 65 = .ok (.iinc 4 1, 3) := by decide +kernel
theorem dX11_loansOf_68 : decode cX11_loansOf 68 = .ok (.goto (-19), 3) := by decide +kernel
theorem dX11_loansOf_71 : decode cX11_loansOf 71 = .ok (.iload_n 3, 1) := by decide +kernel
theorem dX11_loansOf_72 : decode cX11_loansOf 72 = .ok (.ireturn, 1) := by decide +kernel
theorem dX11_loans_0 : decode cX11_loans 0 = .ok (.iload_n 1, 1) := by decide +kernel
theorem dX11_loans_1 : decode cX11_loans 1 = .ok (.iconst (-1), 1) := by decide +kernel
theorem dX11_loans_2 : decode cX11_loans 2 = .ok (.if_icmp .eq 12, 3) := by decide +kernel
theorem dX11_loans_5 : decode cX11_loans 5 = .ok (.iload_n 1, 1) := by decide +kernel
theorem dX11_loans_6 : decode cX11_loans 6 = .ok (.invokestatic 125, 3) := by decide +kernel
theorem dX11_loans_9 : decode cX11_loans 9 = .ok (.ifCond .ne 5, 3) := by decide +kernel
theorem dX11_loans_12 : decode cX11_loans 12 = .ok (.iconst (-1), 1) := by decide +kernel
theorem dX11_loans_13 : decode cX11_loans 13 = .ok (.ireturn, 1) := by decide +kernel
theorem dX11_loans_14 : decode cX11_loans 14 = .ok (.aload_n 0, 1) := by decide +kernel
theorem dX11_loans_15 : decode cX11_loans 15 = .ok (.iconst 2, 1) := by decide +kernel
theorem dX11_loans_16 : decode cX11_loans 16 = .ok (.invokevirtual 116, 3) := by decide +kernel
theorem dX11_loans_19 : decode cX11_loans 19 = .ok (.ifCond .lt 6, 3) := by decide +kernel
theorem dX11_loans_22 : decode cX11_loans 22 = .ok (.bipush (-5), 2) := by decide +kernel
theorem dX11_loans_24 : decode cX11_loans 24 = .ok (.ireturn, 1) := by decide +kernel
theorem dX11_loans_25 : decode cX11_loans 25 = .ok (.iconst 0, 1) := by decide +kernel
theorem dX11_loans_26 : decode cX11_loans 26 = .ok (.istore_n 2, 1) := by decide +kernel
theorem dX11_loans_27 : decode cX11_loans 27 = .ok (.iconst 0, 1) := by decide +kernel
theorem dX11_loans_28 : decode cX11_loans 28 = .ok (.istore_n 3, 1) := by decide +kernel
theorem dX11_loans_29 : decode cX11_loans 29 = .ok (.iload_n 3, 1) := by decide +kernel
theorem dX11_loans_30 : decode cX11_loans 30 = .ok (.bipush 6, 2) := by decide +kernel
theorem dX11_loans_32 : decode cX11_loans 32 = .ok (.if_icmp .ge 31, 3) := by decide +kernel
theorem dX11_loans_35 : decode cX11_loans 35 = .ok (.iload_n 2, 1) := by decide +kernel
theorem dX11_loans_36 : decode cX11_loans 36 = .ok (.iload_n 1, 1) := by decide +kernel
theorem dX11_loans_37 : decode cX11_loans 37 = .ok (.iconst (-1), 1) := by decide +kernel
theorem dX11_loans_38 : decode cX11_loans 38 = .ok (.if_icmp .eq 8, 3) := by decide +kernel
theorem dX11_loans_41 : decode cX11_loans 41 = .ok (.iload_n 1, 1) := by decide +kernel
theorem dX11_loans_42 : decode cX11_loans 42 = .ok (.iload_n 3, 1) := by decide +kernel
theorem dX11_loans_43 : decode cX11_loans 43 = .ok (.if_icmp .ne 11, 3) := by decide +kernel
theorem dX11_loans_46 : decode cX11_loans 46 = .ok (.aload_n 0, 1) := by decide +kernel
theorem dX11_loans_47 : decode cX11_loans 47 = .ok (.iload_n 3, 1) := by decide +kernel
theorem dX11_loans_48 : decode cX11_loans 48 = .ok (.invokevirtual 229, 3) := by decide +kernel
theorem dX11_loans_51 : decode cX11_loans 51 = .ok (.goto 4, 3) := by decide +kernel
theorem dX11_loans_54 : decode cX11_loans 54 = .ok (.iconst 0, 1) := by decide +kernel
theorem dX11_loans_55 : decode cX11_loans 55 = .ok (.iadd, 1) := by decide +kernel
theorem dX11_loans_56 : decode cX11_loans 56 = .ok (.istore_n 2, 1) := by decide +kernel
theorem dX11_loans_57 : decode cX11_loans 57 = .ok (.iinc 3 1, 3) := by decide +kernel
theorem dX11_loans_60 : decode cX11_loans 60 = .ok (.goto (-31), 3) := by decide +kernel
theorem dX11_loans_63 : decode cX11_loans 63 = .ok (.iload_n 2, 1) := by decide +kernel
theorem dX11_loans_64 : decode cX11_loans 64 = .ok (.ireturn, 1) := by decide +kernel
theorem dX11_openRows_0 : decode cX11_openRows 0 = .ok (.aload_n 0, 1) := by decide +kernel
theorem dX11_openRows_1 : decode cX11_openRows 1 = .ok (.invokevirtual 168, 3) := by decide +kernel
theorem dX11_openRows_4 : decode cX11_openRows 4 = .ok (.iconst 0, 1) := by decide +kernel
theorem dX11_openRows_5 : decode cX11_openRows 5 = .ok (.istore 4, 2) := by decide +kernel
theorem dX11_openRows_7 : decode cX11_openRows 7 = .ok (.iload 4, 2) := by decide +kernel
theorem dX11_openRows_9 : decode cX11_openRows 9 = .ok (.iload_n 1, 1) := by decide +kernel
theorem dX11_openRows_10 : decode cX11_openRows 10 = .ok (.if_icmp .ge 23, 3) := by decide +kernel
theorem dX11_openRows_13 : decode cX11_openRows 13 = .ok (.aload_n 0, 1) := by decide +kernel
theorem dX11_openRows_14 : decode cX11_openRows 14 = .ok (.aload_n 0, 1) := by decide +kernel
theorem dX11_openRows_15 : decode cX11_openRows 15 = .ok (.aload_n 0, 1) := by decide +kernel
theorem dX11_openRows_16 : decode cX11_openRows 16 = .ok (.iload 4, 2) := by decide +kernel
theorem dX11_openRows_18 : decode cX11_openRows 18 = .ok (.invokevirtual 171, 3) := by decide +kernel
theorem dX11_openRows_21 : decode cX11_openRows 21 = .ok (.invokevirtual 156, 3) := by decide +kernel
theorem dX11_openRows_24 : decode cX11_openRows 24 = .ok (.invokevirtual 177, 3) := by decide +kernel
theorem dX11_openRows_27 : decode cX11_openRows 27 = .ok (.iinc 4 1, 3) := by decide +kernel
theorem dX11_openRows_30 : decode cX11_openRows 30 = .ok (.goto (-23), 3) := by decide +kernel
theorem dX11_openRows_33 : decode cX11_openRows 33 = .ok (.iconst 0, 1) := by decide +kernel
theorem dX11_openRows_34 : decode cX11_openRows 34 = .ok (.istore 4, 2) := by decide +kernel
theorem dX11_openRows_36 : decode cX11_openRows 36 = .ok (.iload 4, 2) := by decide +kernel
theorem dX11_openRows_38 : decode cX11_openRows 38 = .ok (.iload_n 2, 1) := by decide +kernel
theorem dX11_openRows_39 : decode cX11_openRows 39 = .ok (.if_icmp .ge 27, 3) := by decide +kernel
theorem dX11_openRows_42 : decode cX11_openRows 42 = .ok (.aload_n 0, 1) := by decide +kernel
theorem dX11_openRows_43 : decode cX11_openRows 43 = .ok (.aload_n 0, 1) := by decide +kernel
theorem dX11_openRows_44 : decode cX11_openRows 44 = .ok (.aload_n 0, 1) := by decide +kernel
theorem dX11_openRows_45 : decode cX11_openRows 45 = .ok (.iload_n 3, 1) := by decide +kernel
theorem dX11_openRows_46 : decode cX11_openRows 46 = .ok (.iconst 1, 1) := by decide +kernel
theorem dX11_openRows_47 : decode cX11_openRows 47 = .ok (.iadd, 1) := by decide +kernel
theorem dX11_openRows_48 : decode cX11_openRows 48 = .ok (.iload 4, 2) := by decide +kernel
theorem dX11_openRows_50 : decode cX11_openRows 50 = .ok (.iadd, 1) := by decide +kernel
theorem dX11_openRows_51 : decode cX11_openRows 51 = .ok (.invokevirtual 171, 3) := by decide +kernel
theorem dX11_openRows_54 : decode cX11_openRows 54 = .ok (.invokevirtual 156, 3) := by decide +kernel
theorem dX11_openRows_57 : decode cX11_openRows 57 = .ok (.invokevirtual 177, 3) := by decide +kernel
theorem dX11_openRows_60 : decode cX11_openRows 60 = .ok (.iinc 4 1, 3) := by decide +kernel
theorem dX11_openRows_63 : decode cX11_openRows 63 = .ok (.goto (-27), 3) := by decide +kernel
theorem dX11_openRows_66 : decode cX11_openRows 66 = .ok (.return_, 1) := by decide +kernel
theorem dX11_canPrint_0 : decode cX11_canPrint 0 = .ok (.aload_n 0, 1) := by decide +kernel
theorem dX11_canPrint_1 : decode cX11_canPrint 1 = .ok (.iload_n 1, 1) := by decide +kernel
theorem dX11_canPrint_2 : decode cX11_canPrint 2 = .ok (.iload_n 2, 1) := by decide +kernel
theorem dX11_canPrint_3 : decode cX11_canPrint 3 = .ok (.iload_n 3, 1) := by decide +kernel
theorem dX11_canPrint_4 : decode cX11_canPrint 4 = .ok (.invokevirtual 232, 3) := by decide +kernel
theorem dX11_canPrint_7 : decode cX11_canPrint 7 = .ok (.iconst 0, 1) := by decide +kernel
theorem dX11_canPrint_8 : decode cX11_canPrint 8 = .ok (.istore 6, 2) := by decide +kernel
theorem dX11_canPrint_10 : decode cX11_canPrint 10 = .ok (.iload 6, 2) := by decide +kernel
theorem dX11_canPrint_12 : decode cX11_canPrint 12 = .ok (.bipush 6, 2) := by decide +kernel
theorem dX11_canPrint_14 : decode cX11_canPrint 14 = .ok (.if_icmp .ge 17, 3) := by decide +kernel
theorem dX11_canPrint_17 : decode cX11_canPrint 17 = .ok (.aload_n 0, 1) := by decide +kernel
theorem dX11_canPrint_18 : decode cX11_canPrint 18 = .ok (.getfield 37, 3) := by decide +kernel
theorem dX11_canPrint_21 : decode cX11_canPrint 21 = .ok (.iload 6, 2) := by decide +kernel
theorem dX11_canPrint_23 : decode cX11_canPrint 23 = .ok (.iconst 0, 1) := by decide +kernel
theorem dX11_canPrint_24 : decode cX11_canPrint 24 = .ok (.iastore, 1) := by decide +kernel
theorem dX11_canPrint_25 : decode cX11_canPrint 25 = .ok (.iinc 6 1, 3) := by decide +kernel
theorem dX11_canPrint_28 : decode cX11_canPrint 28 = .ok (.goto (-18), 3) := by decide +kernel
theorem dX11_canPrint_31 : decode cX11_canPrint 31 = .ok (.iload 4, 2) := by decide +kernel
theorem dX11_canPrint_33 : decode cX11_canPrint 33 = .ok (.ifCond .eq 13, 3) := by decide +kernel
theorem dX11_canPrint_36 : decode cX11_canPrint 36 = .ok (.aload_n 0, 1) := by decide +kernel
theorem dX11_canPrint_37 : decode cX11_canPrint 37 = .ok (.aload_n 0, 1) := by decide +kernel
theorem dX11_canPrint_38 : decode cX11_canPrint 38 = .ok (.iload_n 1, 1) := by decide +kernel
theorem dX11_canPrint_39 : decode cX11_canPrint 39 = .ok (.invokevirtual 171, 3) := by decide +kernel
theorem dX11_canPrint_42 : decode cX11_canPrint 42 = .ok (.iconst 0, 1) := by decide +kernel
theorem dX11_canPrint_43 : decode cX11_canPrint 43 = .ok (.invokevirtual 142, 3) := by decide +kernel
theorem dX11_canPrint_46 : decode cX11_canPrint 46 = .ok (.iload 5, 2) := by decide +kernel
theorem dX11_canPrint_48 : decode cX11_canPrint 48 = .ok (.ifCond .eq 17, 3) := by decide +kernel
theorem dX11_canPrint_51 : decode cX11_canPrint 51 = .ok (.aload_n 0, 1) := by decide +kernel
theorem dX11_canPrint_52 : decode cX11_canPrint 52 = .ok (.aload_n 0, 1) := by decide +kernel
theorem dX11_canPrint_53 : decode cX11_canPrint 53 = .ok (.iload_n 3, 1) := by decide +kernel
theorem dX11_canPrint_54 : decode cX11_canPrint 54 = .ok (.iconst 1, 1) := by decide +kernel
theorem dX11_canPrint_55 : decode cX11_canPrint 55 = .ok (.iadd, 1) := by decide +kernel
theorem dX11_canPrint_56 : decode cX11_canPrint 56 = .ok (.iload_n 2, 1) := by decide +kernel
theorem dX11_canPrint_57 : decode cX11_canPrint 57 = .ok (.iadd, 1) := by decide +kernel
theorem dX11_canPrint_58 : decode cX11_canPrint 58 = .ok (.invokevirtual 171, 3) := by decide +kernel
theorem dX11_canPrint_61 : decode cX11_canPrint 61 = .ok (.iconst 0, 1) := by decide +kernel
theorem dX11_canPrint_62 : decode cX11_canPrint 62 = .ok (.invokevirtual 142, 3) := by decide +kernel
theorem dX11_canPrint_65 : decode cX11_canPrint 65 = .ok (.aload_n 0, 1) := by decide +kernel
theorem dX11_canPrint_66 : decode cX11_canPrint 66 = .ok (.invokevirtual 174, 3) := by decide +kernel
theorem dX11_canPrint_69 : decode cX11_canPrint 69 = .ok (.ifCond .ge 7, 3) := by decide +kernel
theorem dX11_canPrint_72 : decode cX11_canPrint 72 = .ok (.iconst 1, 1) := by decide +kernel
theorem dX11_canPrint_73 : decode cX11_canPrint 73 = .ok (.goto 4, 3) := by decide +kernel
theorem dX11_canPrint_76 : decode cX11_canPrint 76 = .ok (.iconst 0, 1) := by decide +kernel
theorem dX11_canPrint_77 : decode cX11_canPrint 77 = .ok (.ireturn, 1) := by decide +kernel
theorem dX11_reach_0 : decode cX11_reach 0 = .ok (.aload_n 0, 1) := by decide +kernel
theorem dX11_reach_1 : decode cX11_reach 1 = .ok (.getfield 61, 3) := by decide +kernel
theorem dX11_reach_4 : decode cX11_reach 4 = .ok (.bipush 7, 2) := by decide +kernel
theorem dX11_reach_6 : decode cX11_reach 6 = .ok (.iload_n 1, 1) := by decide +kernel
theorem dX11_reach_7 : decode cX11_reach 7 = .ok (.imul, 1) := by decide +kernel
theorem dX11_reach_8 : decode cX11_reach 8 = .ok (.iload_n 2, 1) := by decide +kernel
theorem dX11_reach_9 : decode cX11_reach 9 = .ok (.iadd, 1) := by decide +kernel
theorem dX11_reach_10 : decode cX11_reach 10 = .ok (.iaload, 1) := by decide +kernel
theorem dX11_reach_11 : decode cX11_reach 11 = .ok (.istore 4, 2) := by decide +kernel
theorem dX11_reach_13 : decode cX11_reach 13 = .ok (.aload_n 0, 1) := by decide +kernel
theorem dX11_reach_14 : decode cX11_reach 14 = .ok (.getfield 61, 3) := by decide +kernel
theorem dX11_reach_17 : decode cX11_reach 17 = .ok (.bipush 7, 2) := by decide +kernel
theorem dX11_reach_19 : decode cX11_reach 19 = .ok (.iload_n 1, 1) := by decide +kernel
theorem dX11_reach_20 : decode cX11_reach 20 = .ok (.imul, 1) := by decide +kernel
theorem dX11_reach_21 : decode cX11_reach 21 = .ok (.iload_n 2, 1) := by decide +kernel
theorem dX11_reach_22 : decode cX11_reach 22 = .ok (.iadd, 1) := by decide +kernel
theorem dX11_reach_23 : decode cX11_reach 23 = .ok (.iload 4, 2) := by decide +kernel
theorem dX11_reach_25 : decode cX11_reach 25 = .ok (.ifCond .lt 9, 3) := by decide +kernel
theorem dX11_reach_28 : decode cX11_reach 28 = .ok (.iload_n 3, 1) := by decide +kernel
theorem dX11_reach_29 : decode cX11_reach 29 = .ok (.iload 4, 2) := by decide +kernel
theorem dX11_reach_31 : decode cX11_reach 31 = .ok (.if_icmp .ge 7, 3) := by decide +kernel
theorem dX11_reach_34 : decode cX11_reach 34 = .ok (.iload_n 3, 1) := by decide +kernel
theorem dX11_reach_35 : decode cX11_reach 35 = .ok (.goto 5, 3) := by decide +kernel
theorem dX11_reach_38 : decode cX11_reach 38 = .ok (.iload 4, 2) := by decide +kernel
theorem dX11_reach_40 : decode cX11_reach 40 = .ok (.iastore, 1) := by decide +kernel
theorem dX11_reach_41 : decode cX11_reach 41 = .ok (.return_, 1) := by decide +kernel
theorem dX11_presses_0 : decode cX11_presses 0 = .ok (.aload_n 0, 1) := by decide +kernel
theorem dX11_presses_1 : decode cX11_presses 1 = .ok (.iconst 3, 1) := by decide +kernel
theorem dX11_presses_2 : decode cX11_presses 2 = .ok (.invokevirtual 116, 3) := by decide +kernel
theorem dX11_presses_5 : decode cX11_presses 5 = .ok (.ifCond .lt 6, 3) := by decide +kernel
theorem dX11_presses_8 : decode cX11_presses 8 = .ok (.bipush (-5), 2) := by decide +kernel
theorem dX11_presses_10 : decode cX11_presses 10 = .ok (.ireturn, 1) := by decide +kernel
theorem dX11_presses_11 : decode cX11_presses 11 = .ok (.iconst 0, 1) := by decide +kernel
theorem dX11_presses_12 : decode cX11_presses 12 = .ok (.istore_n 1, 1) := by decide +kernel
theorem dX11_presses_13 : decode cX11_presses 13 = .ok (.aload_n 0, 1) := by decide +kernel
theorem dX11_presses_14 : decode cX11_presses 14 = .ok (.getfield 34, 3) := by decide +kernel
theorem dX11_presses_17 : decode cX11_presses 17 = .ok (.iload_n 1, 1) := by decide +kernel
theorem dX11_presses_18 : decode cX11_presses 18 = .ok (.iaload, 1) := by decide +kernel
theorem dX11_presses_19 : decode cX11_presses 19 = .ok (.bipush 58, 2) := by decide +kernel
theorem dX11_presses_21 : decode cX11_presses 21 = .ok (.if_icmp .eq 9, 3) := by decide +kernel
theorem dX11_presses_24 : decode cX11_presses 24 = .ok (.iinc 1 1, 3) := by decide +kernel
theorem dX11_presses_27 : decode cX11_presses 27 = .ok (.goto (-14), 3) := by decide +kernel
theorem dX11_presses_30 : decode cX11_presses 30 = .ok (.aload_n 0, 1) := by decide +kernel
theorem dX11_presses_31 : decode cX11_presses 31 = .ok (.getfield 93, 3) := by decide +kernel
theorem dX11_presses_34 : decode cX11_presses 34 = .ok (.iload_n 1, 1) := by decide +kernel
theorem dX11_presses_35 : decode cX11_presses 35 = .ok (.isub, 1) := by decide +kernel
theorem dX11_presses_36 : decode cX11_presses 36 = .ok (.iconst 1, 1) := by decide +kernel
theorem dX11_presses_37 : decode cX11_presses 37 = .ok (.isub, 1) := by decide +kernel
theorem dX11_presses_38 : decode cX11_presses 38 = .ok (.istore_n 2, 1) := by decide +kernel
theorem dX11_presses_39 : decode cX11_presses 39 = .ok (.iconst 0, 1) := by decide +kernel
theorem dX11_presses_40 : decode cX11_presses 40 = .ok (.istore_n 3, 1) := by decide +kernel
theorem dX11_presses_41 : decode cX11_presses 41 = .ok (.iload_n 3, 1) := by decide +kernel
theorem dX11_presses_42 : decode cX11_presses 42 = .ok (.bipush 49, 2) := by decide +kernel
theorem dX11_presses_44 : decode cX11_presses 44 = .ok (.if_icmp .ge 17, 3) := by decide +kernel
theorem dX11_presses_47 : decode cX11_presses 47 = .ok (.aload_n 0, 1) := by decide +kernel
theorem dX11_presses_48 : decode cX11_presses 48 = .ok (.getfield 61, 3) := by decide +kernel
theorem dX11_presses_51 : decode cX11_presses 51 = .ok (.iload_n 3, 1) := by decide +kernel
theorem dX11_presses_52 : decode cX11_presses 52 = .ok (.bipush (-6), 2) := by decide +kernel
theorem dX11_presses_54 : decode cX11_presses 54 = .ok (.iastore, 1) := by decide +kernel
theorem dX11_presses_55 : decode cX11_presses 55 = .ok (.iinc 3 1, 3) := by decide +kernel
theorem dX11_presses_58 : decode cX11_presses 58 = .ok (.goto (-17), 3) := by decide +kernel
theorem dX11_presses_61 : decode cX11_presses 61 = .ok (.aload_n 0, 1) := by decide +kernel
theorem dX11_presses_62 : decode cX11_presses 62 = .ok (.getfield 61, 3) := by decide +kernel
theorem dX11_presses_65 : decode cX11_presses 65 = .ok (.iconst 0, 1) := by decide +kernel
theorem dX11_presses_66 : decode cX11_presses 66 = .ok (.iconst 0, 1) := by decide +kernel
theorem dX11_presses_67 : decode cX11_presses 67 = .ok (.iastore, 1) := by decide +kernel
theorem dX11_presses_68 : decode cX11_presses 68 = .ok (.iconst 0, 1) := by decide +kernel
theorem dX11_presses_69 : decode cX11_presses 69 = .ok (.istore_n 3, 1) := by decide +kernel
theorem dX11_presses_70 : decode cX11_presses 70 = .ok (.iload_n 3, 1) := by decide +kernel
theorem dX11_presses_71 : decode cX11_presses 71 = .ok (.iload_n 1, 1) := by decide +kernel
theorem dX11_presses_72 : decode cX11_presses 72 = .ok (.if_icmp .gt 145, 3) := by decide +kernel
theorem dX11_presses_75 : decode cX11_presses 75 = .ok (.iconst 0, 1) := by decide +kernel
theorem dX11_presses_76 : decode cX11_presses 76 = .ok (.istore 4, 2) := by decide +kernel
theorem dX11_presses_78 : decode cX11_presses 78 = .ok (.iload 4, 2) := by decide +kernel
theorem dX11_presses_80 : decode cX11_presses 80 = .ok (.iload_n 2, 1) := by decide +kernel
theorem dX11_presses_81 : decode cX11_presses 81 = .ok (.if_icmp .gt 130, 3) := by decide +kernel
theorem dX11_presses_84 : decode cX11_presses 84 = .ok (.aload_n 0, 1) := by decide +kernel
theorem dX11_presses_85 : decode cX11_presses 85 = .ok (.getfield 61, 3) := by decide +kernel
theorem dX11_presses_88 : decode cX11_presses 88 = .ok (.bipush 7, 2) := by decide +kernel
theorem dX11_presses_90 : decode cX11_presses 90 = .ok (.iload_n 3, 1) := by decide +kernel
theorem dX11_presses_91 : decode cX11_presses 91 = .ok (.imul, 1) := by decide +kernel
theorem dX11_presses_92 : decode cX11_presses 92 = .ok (.iload 4, 2) := by decide +kernel
theorem dX11_presses_94 : decode cX11_presses 94 = .ok (.iadd, 1) := by decide +kernel
theorem dX11_presses_95 : decode cX11_presses 95 = .ok (.iaload, 1) := by decide +kernel
theorem dX11_presses_96 : decode cX11_presses 96 = .ok (.istore 5, 2) := by decide +kernel
theorem dX11_presses_98 : decode cX11_presses 98 = .ok (.iload 5, 2) := by decide +kernel
theorem dX11_presses_100 : decode cX11_presses 100 = .ok (.ifCond .lt 105, 3) := by decide +kernel
theorem dX11_presses_103 : decode cX11_presses 103 = .ok (.iload_n 3, 1) := by decide +kernel
theorem dX11_presses_104 : decode cX11_presses 104 = .ok (.iload_n 1, 1) := by decide +kernel
theorem dX11_presses_105 : decode cX11_presses 105 = .ok (.if_icmp .ge 29, 3) := by decide +kernel
theorem dX11_presses_108 : decode cX11_presses 108 = .ok (.aload_n 0, 1) := by decide +kernel
theorem dX11_presses_109 : decode cX11_presses 109 = .ok (.iload_n 3, 1) := by decide +kernel
theorem dX11_presses_110 : decode cX11_presses 110 = .ok (.iload 4, 2) := by decide +kernel
theorem dX11_presses_112 : decode cX11_presses 112 = .ok (.iload_n 1, 1) := by decide +kernel
theorem dX11_presses_113 : decode cX11_presses 113 = .ok (.iconst 1, 1) := by decide +kernel
theorem dX11_presses_114 : decode cX11_presses 114 = .ok (.iconst 0, 1) := by decide +kernel
theorem dX11_presses_115 : decode cX11_presses 115 = .ok (.invokevirtual 236, 3) := by decide +kernel
theorem dX11_presses_118 : decode cX11_presses 118 = .ok (.ifCond .eq 16, 3) := by decide +kernel
theorem dX11_presses_121 : decode cX11_presses 121 = .ok (.aload_n 0, 1) := by decide +kernel
theorem dX11_presses_122 : decode cX11_presses 122 = .ok (.iload_n 3, 1) := by decide +kernel
theorem dX11_presses_123 : decode cX11_presses 123 = .ok (.iconst 1, 1) := by decide +kernel
theorem dX11_presses_124 : decode cX11_presses 124 = .ok (.iadd, 1) := by decide +kernel
theorem dX11_presses_125 : decode cX11_presses 125 = .ok (.iload 4, 2) := by decide +kernel
theorem dX11_presses_127 : decode cX11_presses 127 = .ok (.iload 5, 2) := by decide +kernel
theorem dX11_presses_129 : decode cX11_presses 129 = .ok (.iconst 1, 1) := by decide +kernel
theorem dX11_presses_130 : decode cX11_presses 130 = .ok (.iadd, 1) := by decide +kernel
theorem dX11_presses_131 : decode cX11_presses 131 = .ok (.invokevirtual 240, 3) := by decide +kernel
theorem dX11_presses_134 : decode cX11_presses 134 = .ok (.iload 4, 2) := by decide +kernel
theorem dX11_presses_136 : decode cX11_presses 136 = .ok (.iload_n 2, 1) := by decide +kernel
theorem dX11_presses_137 : decode cX11_presses 137 = .ok (.if_icmp .ge 29, 3) := by decide +kernel
theorem dX11_presses_140 : decode cX11_presses 140 = .ok (.aload_n 0, 1) := by decide +kernel
theorem dX11_presses_141 : decode cX11_presses 141 = .ok (.iload_n 3, 1) := by decide +kernel
theorem dX11_presses_142 : decode cX11_presses 142 = .ok (.iload 4, 2) := by decide +kernel
theorem dX11_presses_144 : decode cX11_presses 144 = .ok (.iload_n 1, 1) := by decide +kernel
theorem dX11_presses_145 : decode cX11_presses 145 = .ok (.iconst 0, 1) := by decide +kernel
theorem dX11_presses_146 : decode cX11_presses 146 = .ok (.iconst 1, 1) := by decide +kernel
theorem dX11_presses_147 : decode cX11_presses 147 = .ok (.invokevirtual 236, 3) := by decide +kernel
theorem dX11_presses_150 : decode cX11_presses 150 = .ok (.ifCond .eq 16, 3) := by decide +kernel
theorem dX11_presses_153 : decode cX11_presses 153 = .ok (.aload_n 0, 1) := by decide +kernel
theorem dX11_presses_154 : decode cX11_presses 154 = .ok (.iload_n 3, 1) := by decide +kernel
theorem dX11_presses_155 : decode cX11_presses 155 = .ok (.iload 4, 2) := by decide +kernel
theorem dX11_presses_157 : decode cX11_presses 157 = .ok (.iconst 1, 1) := by decide +kernel
theorem dX11_presses_158 : decode cX11_presses 158 = .ok (.iadd, 1) := by decide +kernel
theorem dX11_presses_159 : decode cX11_presses 159 = .ok (.iload 5, 2) := by decide +kernel
theorem dX11_presses_161 : decode cX11_presses 161 = .ok (.iconst 1, 1) := by decide +kernel
theorem dX11_presses_162 : decode cX11_presses 162 = .ok (.iadd, 1) := by decide +kernel
theorem dX11_presses_163 : decode cX11_presses 163 = .ok (.invokevirtual 240, 3) := by decide +kernel
theorem dX11_presses_166 : decode cX11_presses 166 = .ok (.iload_n 3, 1) := by decide +kernel
theorem dX11_presses_167 : decode cX11_presses 167 = .ok (.iload_n 1, 1) := by decide +kernel
theorem dX11_presses_168 : decode cX11_presses 168 = .ok (.if_icmp .ge 37, 3) := by decide +kernel
theorem dX11_presses_171 : decode cX11_presses 171 = .ok (.iload 4, 2) := by decide +kernel
theorem dX11_presses_173 : decode cX11_presses 173 = .ok (.iload_n 2, 1) := by decide +kernel
theorem dX11_presses_174 : decode cX11_presses 174 = .ok (.if_icmp .ge 31, 3) := by decide +kernel
theorem dX11_presses_177 : decode cX11_presses 177 = .ok (.aload_n 0, 1) := by decide +kernel
theorem dX11_presses_178 : decode cX11_presses 178 = .ok (.iload_n 3, 1) := by decide +kernel
theorem dX11_presses_179 : decode cX11_presses 179 = .ok (.iload 4, 2) := by decide +kernel
theorem dX11_presses_181 : decode cX11_presses 181 = .ok (.iload_n 1, 1) := by decide +kernel
theorem dX11_presses_182 : decode cX11_presses 182 = .ok (.iconst 1, 1) := by decide +kernel
theorem dX11_presses_183 : decode cX11_presses 183 = .ok (.iconst 1, 1) := by decide +kernel
theorem dX11_presses_184 : decode cX11_presses 184 = .ok (.invokevirtual 236, 3) := by decide +kernel
theorem dX11_presses_187 : decode cX11_presses 187 = .ok (.ifCond .eq 18, 3) := by decide +kernel
theorem dX11_presses_190 : decode cX11_presses 190 = .ok (.aload_n 0, 1) := by decide +kernel
theorem dX11_presses_191 : decode cX11_presses 191 = .ok (.iload_n 3, 1) := by decide +kernel
theorem dX11_presses_192 : decode cX11_presses 192 = .ok (.iconst 1, 1) := by decide +kernel
theorem dX11_presses_193 : decode cX11_presses 193 = .ok (.iadd, 1) := by decide +kernel
theorem dX11_presses_194 : decode cX11_presses 194 = .ok (.iload 4, 2) := by decide +kernel
theorem dX11_presses_196 : decode cX11_presses 196 = .ok (.iconst 1, 1) := by decide +kernel
theorem dX11_presses_197 : decode cX11_presses 197 = .ok (.iadd, 1) := by decide +kernel
theorem dX11_presses_198 : decode cX11_presses 198 = .ok (.iload 5, 2) := by decide +kernel
theorem dX11_presses_200 : decode cX11_presses 200 = .ok (.iconst 1, 1) := by decide +kernel
theorem dX11_presses_201 : decode cX11_presses 201 = .ok (.iadd, 1) := by decide +kernel
theorem dX11_presses_202 : decode cX11_presses 202 = .ok (.invokevirtual 240, 3) := by decide +kernel
theorem dX11_presses_205 : decode cX11_presses 205 = .ok (.iinc 4 1, 3) := by decide +kernel
theorem dX11_presses_208 : decode cX11_presses 208 = .ok (.goto (-130), 3) := by decide +kernel
theorem dX11_presses_211 : decode cX11_presses 211 = .ok (.iinc 3 1, 3) := by decide +kernel
theorem dX11_presses_214 : decode cX11_presses 214 = .ok (.goto (-144), 3) := by decide +kernel
theorem dX11_presses_217 : decode cX11_presses 217 = .ok (.aload_n 0, 1) := by decide +kernel
theorem dX11_presses_218 : decode cX11_presses 218 = .ok (.getfield 61, 3) := by decide +kernel
theorem dX11_presses_221 : decode cX11_presses 221 = .ok (.bipush 7, 2) := by decide +kernel
theorem dX11_presses_223 : decode cX11_presses 223 = .ok (.iload_n 1, 1) := by decide +kernel
theorem dX11_presses_224 : decode cX11_presses 224 = .ok (.imul, 1) := by decide +kernel
theorem dX11_presses_225 : decode cX11_presses 225 = .ok (.iload_n 2, 1) := by decide +kernel
theorem dX11_presses_226 : decode cX11_presses 226 = .ok (.iadd, 1) := by decide +kernel
theorem dX11_presses_227 : decode cX11_presses 227 = .ok (.iaload, 1) := by decide +kernel
theorem dX11_presses_228 : decode cX11_presses 228 = .ok (.ireturn, 1) := by decide +kernel
theorem dX11_findWanted_0 : decode cX11_findWanted 0 = .ok (.iconst 0, 1) := by decide +kernel
theorem dX11_findWanted_1 : decode cX11_findWanted 1 = .ok (.istore_n 2, 1) := by decide +kernel
theorem dX11_findWanted_2 : decode cX11_findWanted 2 = .ok (.iload_n 2, 1) := by decide +kernel
theorem dX11_findWanted_3 : decode cX11_findWanted 3 = .ok (.bipush 6, 2) := by decide +kernel
theorem dX11_findWanted_5 : decode cX11_findWanted 5 = .ok (.if_icmp .ge 23, 3) := by decide +kernel
theorem dX11_findWanted_8 : decode cX11_findWanted 8 = .ok (.aload_n 0, 1) := by decide +kernel
theorem dX11_findWanted_9 : decode cX11_findWanted 9 = .ok (.getfield 64, 3) := by decide +kernel
theorem dX11_findWanted_12 : decode cX11_findWanted 12 = .ok (.iload_n 2, 1) := by decide +kernel
theorem dX11_findWanted_13 : decode cX11_findWanted 13 = .ok (.iconst 0, 1) := by decide +kernel
theorem dX11_findWanted_14 : decode cX11_findWanted 14 = .ok (.iastore, 1) := by decide +kernel
theorem dX11_findWanted_15 : decode cX11_findWanted 15 = .ok (.aload_n 0, 1) := by decide +kernel
theorem dX11_findWanted_16 : decode cX11_findWanted 16 = .ok (.getfield 67, 3) := by decide +kernel
theorem dX11_findWanted_19 : decode cX11_findWanted 19 = .ok (.iload_n 2, 1) := by decide +kernel
theorem dX11_findWanted_20 : decode cX11_findWanted 20 = .ok (.iconst 0, 1) := by decide +kernel
theorem dX11_findWanted_21 : decode cX11_findWanted 21 = .ok (.iastore, 1) := by decide +kernel
theorem dX11_findWanted_22 : decode cX11_findWanted 22 = .ok (.iinc 2 1, 3) := by decide +kernel
theorem dX11_findWanted_25 : decode cX11_findWanted 25 = .ok (.goto (-23), 3) := by decide +kernel
theorem dX11_findWanted_28 : decode cX11_findWanted 28 = .ok (.iload_n 1, 1) := by decide +kernel
theorem dX11_findWanted_29 : decode cX11_findWanted 29 = .ok (.istore_n 2, 1) := by decide +kernel
theorem dX11_findWanted_30 : decode cX11_findWanted 30 = .ok (.iload_n 2, 1) := by decide +kernel
theorem dX11_findWanted_31 : decode cX11_findWanted 31 = .ok (.aload_n 0, 1) := by decide +kernel
theorem dX11_findWanted_32 : decode cX11_findWanted 32 = .ok (.getfield 93, 3) := by decide +kernel
theorem dX11_findWanted_35 : decode cX11_findWanted 35 = .ok (.if_icmp .ge 108, 3) := by decide +kernel
theorem dX11_findWanted_38 : decode cX11_findWanted 38 = .ok (.aload_n 0, 1) := by decide +kernel
theorem dX11_findWanted_39 : decode cX11_findWanted 39 = .ok (.aload_n 0, 1) := by decide +kernel
theorem dX11_findWanted_40 : decode cX11_findWanted 40 = .ok (.iload_n 2, 1) := by decide +kernel
theorem dX11_findWanted_41 : decode cX11_findWanted 41 = .ok (.invokevirtual 171, 3) := by decide +kernel
theorem dX11_findWanted_44 : decode cX11_findWanted 44 = .ok (.iconst 0, 1) := by decide +kernel
theorem dX11_findWanted_45 : decode cX11_findWanted 45 = .ok (.invokevirtual 149, 3) := by decide +kernel
theorem dX11_findWanted_48 : decode cX11_findWanted 48 = .ok (.iconst 0, 1) := by decide +kernel
theorem dX11_findWanted_49 : decode cX11_findWanted 49 = .ok (.istore_n 3, 1) := by decide +kernel
theorem dX11_findWanted_50 : decode cX11_findWanted 50 = .ok (.iload_n 3, 1) := by decide +kernel
theorem dX11_findWanted_51 : decode cX11_findWanted 51 = .ok (.bipush 6, 2) := by decide +kernel
theorem dX11_findWanted_53 : decode cX11_findWanted 53 = .ok (.if_icmp .ge 65, 3) := by decide +kernel
theorem dX11_findWanted_56 : decode cX11_findWanted 56 = .ok (.aload_n 0, 1) := by decide +kernel
theorem dX11_findWanted_57 : decode cX11_findWanted 57 = .ok (.getfield 37, 3) := by decide +kernel
theorem dX11_findWanted_60 : decode cX11_findWanted 60 = .ok (.iload_n 3, 1) := by decide +kernel
theorem dX11_findWanted_61 : decode cX11_findWanted 61 = .ok (.iaload, 1) := by decide +kernel
theorem dX11_findWanted_62 : decode cX11_findWanted 62 = .ok (.ifCond .le 19, 3) := by decide +kernel
theorem dX11_findWanted_65 : decode cX11_findWanted 65 = .ok (.aload_n 0, 1) := by decide +kernel
theorem dX11_findWanted_66 : decode cX11_findWanted 66 = .ok (.getfield 37, 3) := by decide +kernel
theorem dX11_findWanted_69 : decode cX11_findWanted 69 = .ok (.iload_n 3, 1) := by decide +kernel
theorem dX11_findWanted_70 : decode cX11_findWanted 70 = .ok (.iaload, 1) := by decide +kernel
theorem dX11_findWanted_71 : decode cX11_findWanted 71 = .ok (.aload_n 0, 1) := by decide +kernel
theorem dX11_findWanted_72 : decode cX11_findWanted 72 = .ok (.getfield 67, 3) := by decide +kernel
theorem dX11_findWanted_75 : decode cX11_findWanted 75 = .ok (.iload_n 3, 1) := by decide +kernel
theorem dX11_findWanted_76 : decode cX11_findWanted 76 = .ok (.iaload, 1) := by decide +kernel
theorem dX11_findWanted_77 : decode cX11_findWanted 77 = .ok (.iadd, 1) := by decide +kernel
theorem dX11_findWanted_78 : decode cX11_findWanted 78 = .ok (.goto 4, 3) := by decide +kernel
theorem dX11_findWanted_81 : decode cX11_findWanted 81 = .ok (.iconst 0, 1) := by decide +kernel
theorem dX11_findWanted_82 : decode cX11_findWanted 82 = .ok (.istore 4, 2) := by decide +kernel
theorem dX11_findWanted_84 : decode cX11_findWanted 84 = .ok (.aload_n 0, 1) := by decide +kernel
theorem dX11_findWanted_85 : decode cX11_findWanted 85 = .ok (.getfield 64, 3) := by decide +kernel
theorem dX11_findWanted_88 : decode cX11_findWanted 88 = .ok (.iload_n 3, 1) := by decide +kernel
theorem dX11_findWanted_89 : decode cX11_findWanted 89 = .ok (.iload 4, 2) := by decide +kernel
theorem dX11_findWanted_91 : decode cX11_findWanted 91 = .ok (.aload_n 0, 1) := by decide +kernel
theorem dX11_findWanted_92 : decode cX11_findWanted 92 = .ok (.getfield 64, 3) := by decide +kernel
theorem dX11_findWanted_95 : decode cX11_findWanted 95 = .ok (.iload_n 3, 1) := by decide +kernel
theorem dX11_findWanted_96 : decode cX11_findWanted 96 = .ok (.iaload, 1) := by decide +kernel
theorem dX11_findWanted_97 : decode cX11_findWanted 97 = .ok (.if_icmp .le 8, 3) := by decide +kernel
theorem dX11_findWanted_100 : decode cX11_findWanted 100 = .ok (.iload 4, 2) := by decide +kernel
theorem dX11_findWanted_102 : decode cX11_findWanted 102 = .ok (.goto 9, 3) := by decide +kernel
theorem dX11_findWanted_105 : decode cX11_findWanted 105 = .ok (.aload_n 0, 1) := by decide +kernel
theorem dX11_findWanted_106 : decode cX11_findWanted 106 = .ok (.getfield 64, 3) := by decide +kernel
theorem dX11_findWanted_109 : decode cX11_findWanted 109 = .ok (.iload_n 3, 1) := by decide +kernel
theorem dX11_findWanted_110 : decode cX11_findWanted 110 = .ok (.iaload, 1) := by decide +kernel
theorem dX11_findWanted_111 : decode cX11_findWanted 111 = .ok (.iastore, 1) := by decide +kernel
theorem dX11_findWanted_112 : decode cX11_findWanted 112 = .ok (.iinc 3 1, 3) := by decide +kernel
theorem dX11_findWanted_115 : decode cX11_findWanted 115 = .ok (.goto (-65), 3) := by decide +kernel
theorem dX11_findWanted_118 : decode cX11_findWanted 118 = .ok (.aload_n 0, 1) := by decide +kernel
theorem dX11_findWanted_119 : decode cX11_findWanted 119 = .ok (.getfield 67, 3) := by decide +kernel
theorem dX11_findWanted_122 : decode cX11_findWanted 122 = .ok (.aload_n 0, 1) := by decide +kernel
theorem dX11_findWanted_123 : decode cX11_findWanted 123 = .ok (.aload_n 0, 1) := by decide +kernel
theorem dX11_findWanted_124 : decode cX11_findWanted 124 = .ok (.iload_n 2, 1) := by decide +kernel
theorem dX11_findWanted_125 : decode cX11_findWanted 125 = .ok (.invokevirtual 171, 3) := by decide +kernel
theorem dX11_findWanted_128 : decode cX11_findWanted 128 = .ok (.iconst 0, 1) := by decide +kernel
theorem dX11_findWanted_129 : decode cX11_findWanted 129 = .ok (.invokevirtual 152, 3) := by decide +kernel
theorem dX11_findWanted_132 : decode cX11_findWanted 132 = .ok (.dup2, 1) := by decide +kernel
theorem dX11_findWanted_133 : decode cX11_findWanted 133 = .ok (.iaload, 1) := by decide +kernel
theorem dX11_findWanted_134 : decode cX11_findWanted 134 = .ok (.iconst 1, 1) := by decide +kernel
theorem dX11_findWanted_135 : decode cX11_findWanted 135 = .ok (.iadd, 1) := by decide +kernel
theorem dX11_findWanted_136 : decode cX11_findWanted 136 = .ok (.iastore, 1) := by decide +kernel
theorem dX11_findWanted_137 : decode cX11_findWanted 137 = .ok (.iinc 2 1, 3) := by decide +kernel
theorem dX11_findWanted_140 : decode cX11_findWanted 140 = .ok (.goto (-110), 3) := by decide +kernel
theorem dX11_findWanted_143 : decode cX11_findWanted 143 = .ok (.return_, 1) := by decide +kernel
theorem dX11_melt_0 : decode cX11_melt 0 = .ok (.iload_n 1, 1) := by decide +kernel
theorem dX11_melt_1 : decode cX11_melt 1 = .ok (.iconst (-1), 1) := by decide +kernel
theorem dX11_melt_2 : decode cX11_melt 2 = .ok (.if_icmp .eq 12, 3) := by decide +kernel
theorem dX11_melt_5 : decode cX11_melt 5 = .ok (.iload_n 1, 1) := by decide +kernel
theorem dX11_melt_6 : decode cX11_melt 6 = .ok (.invokestatic 125, 3) := by decide +kernel
theorem dX11_melt_9 : decode cX11_melt 9 = .ok (.ifCond .ne 5, 3) := by decide +kernel
theorem dX11_melt_12 : decode cX11_melt 12 = .ok (.iconst (-1), 1) := by decide +kernel
theorem dX11_melt_13 : decode cX11_melt 13 = .ok (.ireturn, 1) := by decide +kernel
theorem dX11_melt_14 : decode cX11_melt 14 = .ok (.aload_n 0, 1) := by decide +kernel
theorem dX11_melt_15 : decode cX11_melt 15 = .ok (.iconst 2, 1) := by decide +kernel
theorem dX11_melt_16 : decode cX11_melt 16 = .ok (.invokevirtual 116, 3) := by decide +kernel
theorem dX11_melt_19 : decode cX11_melt 19 = .ok (.ifCond .lt 6, 3) := by decide +kernel
theorem dX11_melt_22 : decode cX11_melt 22 = .ok (.bipush (-5), 2) := by decide +kernel
theorem dX11_melt_24 : decode cX11_melt 24 = .ok (.ireturn, 1) := by decide +kernel
theorem dX11_melt_25 : decode cX11_melt 25 = .ok (.iconst 0, 1) := by decide +kernel
theorem dX11_melt_26 : decode cX11_melt 26 = .ok (.istore_n 2, 1) := by decide +kernel
theorem dX11_melt_27 : decode cX11_melt 27 = .ok (.iconst 0, 1) := by decide +kernel
theorem dX11_melt_28 : decode cX11_melt 28 = .ok (.istore_n 3, 1) := by decide +kernel
theorem dX11_melt_29 : decode cX11_melt 29 = .ok (.iload_n 3, 1) := by decide +kernel
theorem dX11_melt_30 : decode cX11_melt 30 = .ok (.bipush 6, 2) := by decide +kernel
theorem dX11_melt_32 : decode cX11_melt 32 = .ok (.if_icmp .ge 18, 3) := by decide +kernel
theorem dX11_melt_35 : decode cX11_melt 35 = .ok (.iload_n 2, 1) := by decide +kernel
theorem dX11_melt_36 : decode cX11_melt 36 = .ok (.aload_n 0, 1) := by decide +kernel
theorem dX11_melt_37 : decode cX11_melt 37 = .ok (.getfield 25, 3) := by decide +kernel
theorem dX11_melt_40 : decode cX11_melt 40 = .ok (.iload_n 3, 1) := by decide +kernel
theorem dX11_melt_41 : decode cX11_melt 41 = .ok (.iaload, 1) := by decide +kernel
theorem dX11_melt_42 : decode cX11_melt 42 = .ok (.iadd, 1) := by decide +kernel
theorem dX11_melt_43 : decode cX11_melt 43 = .ok (.istore_n 2, 1) := by decide +kernel
theorem dX11_melt_44 : decode cX11_melt 44 = .ok (.iinc 3 1, 3) := by decide +kernel
theorem dX11_melt_47 : decode cX11_melt 47 = .ok (.goto (-18), 3) := by decide +kernel
theorem dX11_melt_50 : decode cX11_melt 50 = .ok (.iconst 0, 1) := by decide +kernel
theorem dX11_melt_51 : decode cX11_melt 51 = .ok (.istore_n 3, 1) := by decide +kernel
theorem dX11_melt_52 : decode cX11_melt 52 = .ok (.iload_n 3, 1) := by decide +kernel
theorem dX11_melt_53 : decode cX11_melt 53 = .ok (.aload_n 0, 1) := by decide +kernel
theorem dX11_melt_54 : decode cX11_melt 54 = .ok (.getfield 93, 3) := by decide +kernel
theorem dX11_melt_57 : decode cX11_melt 57 = .ok (.if_icmp .gt 100, 3) := by decide +kernel
theorem dX11_melt_60 : decode cX11_melt 60 = .ok (.aload_n 0, 1) := by decide +kernel
theorem dX11_melt_61 : decode cX11_melt 61 = .ok (.iload_n 3, 1) := by decide +kernel
theorem dX11_melt_62 : decode cX11_melt 62 = .ok (.invokevirtual 183, 3) := by decide +kernel
theorem dX11_melt_65 : decode cX11_melt 65 = .ok (.aload_n 0, 1) := by decide +kernel
theorem dX11_melt_66 : decode cX11_melt 66 = .ok (.getfield 159, 3) := by decide +kernel
theorem dX11_melt_69 : decode cX11_melt 69 = .ok (.ifCond .lt 6, 3) := by decide +kernel
theorem dX11_melt_72 : decode cX11_melt 72 = .ok (.bipush (-6), 2) := by decide +kernel
theorem dX11_melt_74 : decode cX11_melt 74 = .ok (.ireturn, 1) := by decide +kernel
theorem dX11_melt_75 : decode cX11_melt 75 = .ok (.aload_n 0, 1) := by decide +kernel
theorem dX11_melt_76 : decode cX11_melt 76 = .ok (.iload_n 3, 1) := by decide +kernel
theorem dX11_melt_77 : decode cX11_melt 77 = .ok (.invokevirtual 243, 3) := by decide +kernel
theorem dX11_melt_80 : decode cX11_melt 80 = .ok (.iconst 0, 1) := by decide +kernel
theorem dX11_melt_81 : decode cX11_melt 81 = .ok (.istore 4, 2) := by decide +kernel
theorem dX11_melt_83 : decode cX11_melt 83 = .ok (.iconst 1, 1) := by decide +kernel
theorem dX11_melt_84 : decode cX11_melt 84 = .ok (.istore 5, 2) := by decide +kernel
theorem dX11_melt_86 : decode cX11_melt 86 = .ok (.iload 5, 2) := by decide +kernel
theorem dX11_melt_88 : decode cX11_melt 88 = .ok (.bipush 6, 2) := by decide +kernel
theorem dX11_melt_90 : decode cX11_melt 90 = .ok (.if_icmp .ge 21, 3) := by decide +kernel
theorem dX11_melt_93 : decode cX11_melt 93 = .ok (.iload 4, 2) := by decide +kernel
theorem dX11_melt_95 : decode cX11_melt 95 = .ok (.aload_n 0, 1) := by decide +kernel
theorem dX11_melt_96 : decode cX11_melt 96 = .ok (.getfield 64, 3) := by decide +kernel
theorem dX11_melt_99 : decode cX11_melt 99 = .ok (.iload 5, 2) := by decide +kernel
theorem dX11_melt_101 : decode cX11_melt 101 = .ok (.iaload, 1) := by decide +kernel
theorem dX11_melt_102 : decode cX11_melt 102 = .ok (.iadd, 1) := by decide +kernel
theorem dX11_melt_103 : decode cX11_melt 103 = .ok (.istore 4, 2) := by decide +kernel
theorem dX11_melt_105 : decode cX11_melt 105 = .ok (.iinc 5 1, 3) := by decide +kernel
theorem dX11_melt_108 : decode cX11_melt 108 = .ok (.goto (-22), 3) := by decide +kernel
theorem dX11_melt_111 : decode cX11_melt 111 = .ok (.iload 4, 2) := by decide +kernel
theorem dX11_melt_113 : decode cX11_melt 113 = .ok (.aload_n 0, 1) := by decide +kernel
theorem dX11_melt_114 : decode cX11_melt 114 = .ok (.getfield 64, 3) := by decide +kernel
theorem dX11_melt_117 : decode cX11_melt 117 = .ok (.iconst 0, 1) := by decide +kernel
theorem dX11_melt_118 : decode cX11_melt 118 = .ok (.iaload, 1) := by decide +kernel
theorem dX11_melt_119 : decode cX11_melt 119 = .ok (.iadd, 1) := by decide +kernel
theorem dX11_melt_120 : decode cX11_melt 120 = .ok (.iload_n 2, 1) := by decide +kernel
theorem dX11_melt_121 : decode cX11_melt 121 = .ok (.if_icmp .gt 30, 3) := by decide +kernel
theorem dX11_melt_124 : decode cX11_melt 124 = .ok (.iload_n 1, 1) := by decide +kernel
theorem dX11_melt_125 : decode cX11_melt 125 = .ok (.iconst (-1), 1) := by decide +kernel
theorem dX11_melt_126 : decode cX11_melt 126 = .ok (.if_icmp .ne 7, 3) := by decide +kernel
theorem dX11_melt_129 : decode cX11_melt 129 = .ok (.iload_n 3, 1) := by decide +kernel
theorem dX11_melt_130 : decode cX11_melt 130 = .ok (.goto 20, 3) := by decide +kernel
theorem dX11_melt_133 : decode cX11_melt 133 = .ok (.iload_n 1, 1) := by decide +kernel
theorem dX11_melt_134 : decode cX11_melt 134 = .ok (.ifCond .ne 10, 3) := by decide +kernel
theorem dX11_melt_137 : decode cX11_melt 137 = .ok (.iload_n 2, 1) := by decide +kernel
theorem dX11_melt_138 : decode cX11_melt 138 = .ok (.iload 4, 2) := by decide +kernel
theorem dX11_melt_140 : decode cX11_melt 140 = .ok (.isub, 1) := by decide +kernel
theorem dX11_melt_141 : decode cX11_melt 141 = .ok (.goto 9, 3) := by decide +kernel
theorem dX11_melt_144 : decode cX11_melt 144 = .ok (.aload_n 0, 1) := by decide +kernel
theorem dX11_melt_145 : decode cX11_melt 145 = .ok (.getfield 64, 3) := by decide +kernel
theorem dX11_melt_148 : decode cX11_melt 148 = .ok (.iload_n 1, 1) := by decide +kernel
theorem dX11_melt_149 : decode cX11_melt 149 = .ok (.iaload, 1) := by decide +kernel
theorem dX11_melt_150 : decode cX11_melt 150 = .ok (.ireturn, 1) := by decide +kernel
theorem dX11_melt_151 : decode cX11_melt 151 = .ok (.iinc 3 1, 3) := by decide +kernel
theorem dX11_melt_154 : decode cX11_melt 154 = .ok (.goto (-102), 3) := by decide +kernel
theorem dX11_melt_157 : decode cX11_melt 157 = .ok (.bipush (-6), 2) := by decide +kernel
theorem dX11_melt_159 : decode cX11_melt 159 = .ok (.ireturn, 1) := by decide +kernel
theorem dX11_seen_0 : decode cX11_seen 0 = .ok (.iload_n 1, 1) := by decide +kernel
theorem dX11_seen_1 : decode cX11_seen 1 = .ok (.invokestatic 120, 3) := by decide +kernel
theorem dX11_seen_4 : decode cX11_seen 4 = .ok (.ifCond .ne 5, 3) := by decide +kernel
theorem dX11_seen_7 : decode cX11_seen 7 = .ok (.iconst (-1), 1) := by decide +kernel
theorem dX11_seen_8 : decode cX11_seen 8 = .ok (.ireturn, 1) := by decide +kernel
theorem dX11_seen_9 : decode cX11_seen 9 = .ok (.iload_n 2, 1) := by decide +kernel
theorem dX11_seen_10 : decode cX11_seen 10 = .ok (.i2l, 1) := by decide +kernel
theorem dX11_seen_11 : decode cX11_seen 11 = .ok (.ldc2_w 123, 3) := by decide +kernel
theorem dX11_seen_14 : decode cX11_seen 14 = .ok (.ldc2_w 246, 3) := by decide +kernel
theorem dX11_seen_17 : decode cX11_seen 17 = .ok (.invokestatic 83, 3) := by decide +kernel
theorem dX11_seen_20 : decode cX11_seen 20 = .ok (.ifCond .ne 6, 3) := by decide +kernel
theorem dX11_seen_23 : decode cX11_seen 23 = .ok (.bipush (-2), 2) := by decide +kernel
theorem dX11_seen_25 : decode cX11_seen 25 = .ok (.ireturn, 1) := by decide +kernel
theorem dX11_seen_26 : decode cX11_seen 26 = .ok (.aload_n 0, 1) := by decide +kernel
theorem dX11_seen_27 : decode cX11_seen 27 = .ok (.getfield 31, 3) := by decide +kernel
theorem dX11_seen_30 : decode cX11_seen 30 = .ok (.iload_n 1, 1) := by decide +kernel
theorem dX11_seen_31 : decode cX11_seen 31 = .ok (.iaload, 1) := by decide +kernel
theorem dX11_seen_32 : decode cX11_seen 32 = .ok (.istore_n 3, 1) := by decide +kernel
theorem dX11_seen_33 : decode cX11_seen 33 = .ok (.aload_n 0, 1) := by decide +kernel
theorem dX11_seen_34 : decode cX11_seen 34 = .ok (.getfield 31, 3) := by decide +kernel
theorem dX11_seen_37 : decode cX11_seen 37 = .ok (.iload_n 1, 1) := by decide +kernel
theorem dX11_seen_38 : decode cX11_seen 38 = .ok (.iload_n 2, 1) := by decide +kernel
theorem dX11_seen_39 : decode cX11_seen 39 = .ok (.iconst (-1), 1) := by decide +kernel
theorem dX11_seen_40 : decode cX11_seen 40 = .ok (.if_icmp .ne 8, 3) := by decide +kernel
theorem dX11_seen_43 : decode cX11_seen 43 = .ok (.bipush (-6), 2) := by decide +kernel
theorem dX11_seen_45 : decode cX11_seen 45 = .ok (.goto 4, 3) := by decide +kernel
theorem dX11_seen_48 : decode cX11_seen 48 = .ok (.iload_n 2, 1) := by decide +kernel
theorem dX11_seen_49 : decode cX11_seen 49 = .ok (.iastore, 1) := by decide +kernel
theorem dX11_seen_50 : decode cX11_seen 50 = .ok (.iload_n 3, 1) := by decide +kernel
theorem dX11_seen_51 : decode cX11_seen 51 = .ok (.ireturn, 1) := by decide +kernel
theorem dX11_isSeen_0 : decode cX11_isSeen 0 = .ok (.aload_n 0, 1) := by decide +kernel
theorem dX11_isSeen_1 : decode cX11_isSeen 1 = .ok (.getfield 31, 3) := by decide +kernel
theorem dX11_isSeen_4 : decode cX11_isSeen 4 = .ok (.iload_n 2, 1) := by decide +kernel
theorem dX11_isSeen_5 : decode cX11_isSeen 5 = .ok (.iaload, 1) := by decide +kernel
theorem dX11_isSeen_6 : decode cX11_isSeen 6 = .ok (.ifCond .ge 5, 3) := by decide +kernel
theorem dX11_isSeen_9 : decode cX11_isSeen 9 = .ok (.iconst 1, 1) := by decide +kernel
theorem dX11_isSeen_10 : decode cX11_isSeen 10 = .ok (.ireturn, 1) := by decide +kernel
theorem dX11_isSeen_11 : decode cX11_isSeen 11 = .ok (.aload_n 0, 1) := by decide +kernel
theorem dX11_isSeen_12 : decode cX11_isSeen 12 = .ok (.iload_n 1, 1) := by decide +kernel
theorem dX11_isSeen_13 : decode cX11_isSeen 13 = .ok (.invokevirtual 186, 3) := by decide +kernel
theorem dX11_isSeen_16 : decode cX11_isSeen 16 = .ok (.aload_n 0, 1) := by decide +kernel
theorem dX11_isSeen_17 : decode cX11_isSeen 17 = .ok (.iload_n 2, 1) := by decide +kernel
theorem dX11_isSeen_18 : decode cX11_isSeen 18 = .ok (.iconst 0, 1) := by decide +kernel
theorem dX11_isSeen_19 : decode cX11_isSeen 19 = .ok (.invokevirtual 149, 3) := by decide +kernel
theorem dX11_isSeen_22 : decode cX11_isSeen 22 = .ok (.iconst 0, 1) := by decide +kernel
theorem dX11_isSeen_23 : decode cX11_isSeen 23 = .ok (.istore_n 3, 1) := by decide +kernel
theorem dX11_isSeen_24 : decode cX11_isSeen 24 = .ok (.iconst 0, 1) := by decide +kernel
theorem dX11_isSeen_25 : decode cX11_isSeen 25 = .ok (.istore 4, 2) := by decide +kernel
theorem dX11_isSeen_27 : decode cX11_isSeen 27 = .ok (.iload 4, 2) := by decide +kernel
theorem dX11_isSeen_29 : decode cX11_isSeen 29 = .ok (.bipush 6, 2) := by decide +kernel
theorem dX11_isSeen_31 : decode cX11_isSeen 31 = .ok (.if_icmp .ge 48, 3) := by decide +kernel
theorem dX11_isSeen_34 : decode cX11_isSeen 34 = .ok (.iload_n 3, 1) := by decide +kernel
theorem dX11_isSeen_35 : decode cX11_isSeen 35 = .ok (.aload_n 0, 1) := by decide +kernel
theorem dX11_isSeen_36 : decode cX11_isSeen 36 = .ok (.getfield 37, 3) := by decide +kernel
theorem dX11_isSeen_39 : decode cX11_isSeen 39 = .ok (.iload 4, 2) := by decide +kernel
theorem dX11_isSeen_41 : decode cX11_isSeen 41 = .ok (.iaload, 1) := by decide +kernel
theorem dX11_isSeen_42 : decode cX11_isSeen 42 = .ok (.aload_n 0, 1) := by decide +kernel
theorem dX11_isSeen_43 : decode cX11_isSeen 43 = .ok (.getfield 40, 3) := by decide +kernel
theorem dX11_isSeen_46 : decode cX11_isSeen 46 = .ok (.iload 4, 2) := by decide +kernel
theorem dX11_isSeen_48 : decode cX11_isSeen 48 = .ok (.iaload, 1) := by decide +kernel
theorem dX11_isSeen_49 : decode cX11_isSeen 49 = .ok (.if_icmp .le 21, 3) := by decide +kernel
theorem dX11_isSeen_52 : decode cX11_isSeen 52 = .ok (.aload_n 0, 1) := by decide +kernel
theorem dX11_isSeen_53 : decode cX11_isSeen 53 = .ok (.getfield 37, 3) := by decide +kernel
theorem dX11_isSeen_56 : decode cX11_isSeen 56 = .ok (.iload 4, 2) := by decide +kernel
theorem dX11_isSeen_58 : decode cX11_isSeen 58 = .ok (.iaload, 1) := by decide +kernel
theorem dX11_isSeen_59 : decode cX11_isSeen 59 = .ok (.aload_n 0, 1) := by decide +kernel
theorem dX11_isSeen_60 : decode cX11_isSeen 60 = .ok (.getfield 40, 3) := by decide +kernel
theorem dX11_isSeen_63 : decode cX11_isSeen 63 = .ok (.iload 4, 2) := by decide +kernel
theorem dX11_isSeen_65 : decode cX11_isSeen 65 = .ok (.iaload, 1) := by decide +kernel
theorem dX11_isSeen_66 : decode cX11_isSeen 66 = .ok (.isub, 1) := by decide +kernel
theorem dX11_isSeen_67 : decode cX11_isSeen 67 = .ok (.goto 4, 3) := by decide +kernel
theorem dX11_isSeen_70 : decode cX11_isSeen 70 = .ok (.iconst 0, 1) := by decide +kernel
theorem dX11_isSeen_71 : decode cX11_isSeen 71 = .ok (.iadd, 1) := by decide +kernel
theorem dX11_isSeen_72 : decode cX11_isSeen 72 = .ok (.istore_n 3, 1) := by decide +kernel
theorem dX11_isSeen_73 : decode cX11_isSeen 73 = .ok (.iinc 4 1, 3) := by decide +kernel
theorem dX11_isSeen_76 : decode cX11_isSeen 76 = .ok (.goto (-49), 3) := by decide +kernel
theorem dX11_isSeen_79 : decode cX11_isSeen 79 = .ok (.iload_n 3, 1) := by decide +kernel
theorem dX11_isSeen_80 : decode cX11_isSeen 80 = .ok (.aload_n 0, 1) := by decide +kernel
theorem dX11_isSeen_81 : decode cX11_isSeen 81 = .ok (.getfield 31, 3) := by decide +kernel
theorem dX11_isSeen_84 : decode cX11_isSeen 84 = .ok (.iload_n 2, 1) := by decide +kernel
theorem dX11_isSeen_85 : decode cX11_isSeen 85 = .ok (.iaload, 1) := by decide +kernel
theorem dX11_isSeen_86 : decode cX11_isSeen 86 = .ok (.if_icmp .ne 7, 3) := by decide +kernel
theorem dX11_isSeen_89 : decode cX11_isSeen 89 = .ok (.iconst 1, 1) := by decide +kernel
theorem dX11_isSeen_90 : decode cX11_isSeen 90 = .ok (.goto 4, 3) := by decide +kernel
theorem dX11_isSeen_93 : decode cX11_isSeen 93 = .ok (.iconst 0, 1) := by decide +kernel
theorem dX11_isSeen_94 : decode cX11_isSeen 94 = .ok (.ireturn, 1) := by decide +kernel
theorem dX11_fitsWith_0 : decode cX11_fitsWith 0 = .ok (.aload_n 0, 1) := by decide +kernel
theorem dX11_fitsWith_1 : decode cX11_fitsWith 1 = .ok (.invokevirtual 96, 3) := by decide +kernel
theorem dX11_fitsWith_4 : decode cX11_fitsWith 4 = .ok (.istore_n 3, 1) := by decide +kernel
theorem dX11_fitsWith_5 : decode cX11_fitsWith 5 = .ok (.bipush 63, 2) := by decide +kernel
theorem dX11_fitsWith_7 : decode cX11_fitsWith 7 = .ok (.istore 4, 2) := by decide +kernel
theorem dX11_fitsWith_9 : decode cX11_fitsWith 9 = .ok (.iload 4, 2) := by decide +kernel
theorem dX11_fitsWith_11 : decode cX11_fitsWith 11 = .ok (.ifCond .lt 152, 3) := by decide +kernel
theorem dX11_fitsWith_14 : decode cX11_fitsWith 14 = .ok (.aload_n 0, 1) := by decide +kernel
theorem dX11_fitsWith_15 : decode cX11_fitsWith 15 = .ok (.getfield 46, 3) := by decide +kernel
theorem dX11_fitsWith_18 : decode cX11_fitsWith 18 = .ok (.iload 4, 2) := by decide +kernel
theorem dX11_fitsWith_20 : decode cX11_fitsWith 20 = .ok (.iload 4, 2) := by decide +kernel
theorem dX11_fitsWith_22 : decode cX11_fitsWith 22 = .ok (.iload_n 3, 1) := by decide +kernel
theorem dX11_fitsWith_23 : decode cX11_fitsWith 23 = .ok (.if_icmp .ne 7, 3) := by decide +kernel
theorem dX11_fitsWith_26 : decode cX11_fitsWith 26 = .ok (.iconst 1, 1) := by decide +kernel
theorem dX11_fitsWith_27 : decode cX11_fitsWith 27 = .ok (.goto 4, 3) := by decide +kernel
theorem dX11_fitsWith_30 : decode cX11_fitsWith 30 = .ok (.iconst 0, 1) := by decide +kernel
theorem dX11_fitsWith_31 : decode cX11_fitsWith 31 = .ok (.iastore, 1) := by decide +kernel
theorem dX11_fitsWith_32 : decode cX11_fitsWith 32 = .ok (.iload 4, 2) := by decide +kernel
theorem dX11_fitsWith_34 : decode cX11_fitsWith 34 = .ok (.iload_n 3, 1) := by decide +kernel
theorem dX11_fitsWith_35 : decode cX11_fitsWith 35 = .ok (.iconst (-1), 1) := by decide +kernel
theorem dX11_fitsWith_36 : decode cX11_fitsWith 36 = .ok (.ixor, 1) := by decide +kernel
theorem dX11_fitsWith_37 : decode cX11_fitsWith 37 = .ok (.iand, 1) := by decide +kernel
theorem dX11_fitsWith_38 : decode cX11_fitsWith 38 = .ok (.ifCond .ne 119, 3) := by decide +kernel
theorem dX11_fitsWith_41 : decode cX11_fitsWith 41 = .ok (.iconst 0, 1) := by decide +kernel
theorem dX11_fitsWith_42 : decode cX11_fitsWith 42 = .ok (.istore 5, 2) := by decide +kernel
theorem dX11_fitsWith_44 : decode cX11_fitsWith 44 = .ok (.iload 5, 2) := by decide +kernel
theorem dX11_fitsWith_46 : decode cX11_fitsWith 46 = .ok (.bipush 6, 2) := by decide +kernel
theorem dX11_fitsWith_48 : decode cX11_fitsWith 48 = .ok (.if_icmp .ge 109, 3) := by decide +kernel
theorem dX11_fitsWith_51 : decode cX11_fitsWith 51 = .ok (.iload_n 3, 1) := by decide +kernel
theorem dX11_fitsWith_52 : decode cX11_fitsWith 52 = .ok (.iload 5, 2) := by decide +kernel
theorem dX11_fitsWith_54 : decode cX11_fitsWith 54 = .ok (.ishr, 1) := by decide +kernel
theorem dX11_fitsWith_55 : decode cX11_fitsWith 55 = .ok (.iconst 1, 1) := by decide +kernel
theorem dX11_fitsWith_56 : decode cX11_fitsWith 56 = .ok (.iand, 1) := by decide +kernel
theorem dX11_fitsWith_57 : decode cX11_fitsWith 57 = .ok (.iconst 1, 1) := by decide +kernel
theorem dX11_fitsWith_58 : decode cX11_fitsWith 58 = .ok (.if_icmp .ne 28, 3) := by decide +kernel
theorem dX11_fitsWith_61 : decode cX11_fitsWith 61 = .ok (.iload 4, 2) := by decide +kernel
theorem dX11_fitsWith_63 : decode cX11_fitsWith 63 = .ok (.iload 5, 2) := by decide +kernel
theorem dX11_fitsWith_65 : decode cX11_fitsWith 65 = .ok (.ishr, 1) := by decide +kernel
theorem dX11_fitsWith_66 : decode cX11_fitsWith 66 = .ok (.iconst 1, 1) := by decide +kernel
theorem dX11_fitsWith_67 : decode cX11_fitsWith 67 = .ok (.iand, 1) := by decide +kernel
theorem dX11_fitsWith_68 : decode cX11_fitsWith 68 = .ok (.ifCond .ne 18, 3) := by decide +kernel
theorem dX11_fitsWith_71 : decode cX11_fitsWith 71 = .ok (.aload_n 0, 1) := by decide +kernel
theorem dX11_fitsWith_72 : decode cX11_fitsWith 72 = .ok (.iload 4, 2) := by decide +kernel
theorem dX11_fitsWith_74 : decode cX11_fitsWith 74 = .ok (.iload 5, 2) := by decide +kernel
theorem dX11_fitsWith_76 : decode cX11_fitsWith 76 = .ok (.invokevirtual 248, 3) := by decide +kernel
theorem dX11_fitsWith_79 : decode cX11_fitsWith 79 = .ok (.ifCond .eq 7, 3) := by decide +kernel
theorem dX11_fitsWith_82 : decode cX11_fitsWith 82 = .ok (.iconst 1, 1) := by decide +kernel
theorem dX11_fitsWith_83 : decode cX11_fitsWith 83 = .ok (.goto 4, 3) := by decide +kernel
theorem dX11_fitsWith_86 : decode cX11_fitsWith 86 = .ok (.iconst 0, 1) := by decide +kernel
theorem dX11_fitsWith_87 : decode cX11_fitsWith 87 = .ok (.istore 6, 2) := by decide +kernel
theorem dX11_fitsWith_89 : decode cX11_fitsWith 89 = .ok (.iload 5, 2) := by decide +kernel
theorem dX11_fitsWith_91 : decode cX11_fitsWith 91 = .ok (.iload_n 2, 1) := by decide +kernel
theorem dX11_fitsWith_92 : decode cX11_fitsWith 92 = .ok (.if_icmp .ne 20, 3) := by decide +kernel
theorem dX11_fitsWith_95 : decode cX11_fitsWith 95 = .ok (.iload_n 1, 1) := by decide +kernel
theorem dX11_fitsWith_96 : decode cX11_fitsWith 96 = .ok (.ifCond .lt 16, 3) := by decide +kernel
theorem dX11_fitsWith_99 : decode cX11_fitsWith 99 = .ok (.iload 4, 2) := by decide +kernel
theorem dX11_fitsWith_101 : decode cX11_fitsWith 101 = .ok (.iload_n 1, 1) := by decide +kernel
theorem dX11_fitsWith_102 : decode cX11_fitsWith 102 = .ok (.ishr, 1) := by decide +kernel
theorem dX11_fitsWith_103 : decode cX11_fitsWith 103 = .ok (.iconst 1, 1) := by decide +kernel
theorem dX11_fitsWith_104 : decode cX11_fitsWith 104 = .ok (.iand, 1) := by decide +kernel
theorem dX11_fitsWith_105 : decode cX11_fitsWith 105 = .ok (.ifCond .ne 7, 3) := by decide +kernel
theorem dX11_fitsWith_108 : decode cX11_fitsWith 108 = .ok (.iconst 1, 1) := by decide +kernel
theorem dX11_fitsWith_109 : decode cX11_fitsWith 109 = .ok (.goto 4, 3) := by decide +kernel
theorem dX11_fitsWith_112 : decode cX11_fitsWith 112 = .ok (.iconst 0, 1) := by decide +kernel
theorem dX11_fitsWith_113 : decode cX11_fitsWith 113 = .ok (.istore 7, 2) := by decide +kernel
theorem dX11_fitsWith_115 : decode cX11_fitsWith 115 = .ok (.aload_n 0, 1) := by decide +kernel
theorem dX11_fitsWith_116 : decode cX11_fitsWith 116 = .ok (.getfield 46, 3) := by decide +kernel
theorem dX11_fitsWith_119 : decode cX11_fitsWith 119 = .ok (.iload 4, 2) := by decide +kernel
theorem dX11_fitsWith_121 : decode cX11_fitsWith 121 = .ok (.dup2, 1) := by decide +kernel
theorem dX11_fitsWith_122 : decode cX11_fitsWith 122 = .ok (.iaload, 1) := by decide +kernel
theorem dX11_fitsWith_123 : decode cX11_fitsWith 123 = .ok (.iload 6, 2) := by decide +kernel
theorem dX11_fitsWith_125 : decode cX11_fitsWith 125 = .ok (.ifCond .eq 23, 3) := by decide +kernel
theorem dX11_fitsWith_128 : decode cX11_fitsWith 128 = .ok (.iload 7, 2) := by decide +kernel
theorem dX11_fitsWith_130 : decode cX11_fitsWith 130 = .ok (.ifCond .ne 18, 3) := by decide +kernel
theorem dX11_fitsWith_133 : decode cX11_fitsWith 133 = .ok (.aload_n 0, 1) := by decide +kernel
theorem dX11_fitsWith_134 : decode cX11_fitsWith 134 = .ok (.getfield 46, 3) := by decide +kernel
theorem dX11_fitsWith_137 : decode cX11_fitsWith 137 = .ok (.iload 4, 2) := by decide +kernel
theorem dX11_fitsWith_139 : decode cX11_fitsWith 139 = .ok (.iconst 1, 1) := by decide +kernel
theorem dX11_fitsWith_140 : decode cX11_fitsWith 140 = .ok (.iload 5, 2) := by decide +kernel
theorem dX11_fitsWith_142 : decode cX11_fitsWith 142 = .ok (.ishl, 1) := by decide +kernel
theorem dX11_fitsWith_143 : decode cX11_fitsWith 143 = .ok (.ior, 1) := by decide +kernel
theorem dX11_fitsWith_144 : decode cX11_fitsWith 144 = .ok (.iaload, 1) := by decide +kernel
theorem dX11_fitsWith_145 : decode cX11_fitsWith 145 = .ok (.goto 4, 3) := by decide +kernel
theorem dX11_fitsWith_148 : decode cX11_fitsWith 148 = .ok (.iconst 0, 1) := by decide +kernel
theorem dX11_fitsWith_149 : decode cX11_fitsWith 149 = .ok (.iadd, 1) := by decide +kernel
theorem dX11_fitsWith_150 : decode cX11_fitsWith 150 = .ok (.iastore, 1) := by decide +kernel
theorem dX11_fitsWith_151 : decode cX11_fitsWith 151 = .ok (.iinc 5 1, 3) := by decide +kernel
theorem dX11_fitsWith_154 : decode cX11_fitsWith 154 = .ok (.goto (-110), 3) := by decide +kernel
theorem dX11_fitsWith_157 : decode cX11_fitsWith 157 = .ok (.iinc 4 (-1), 3) := by decide +kernel
theorem dX11_fitsWith_160 : decode cX11_fitsWith 160 = .ok (.goto (-151), 3) := by decide +kernel
theorem dX11_fitsWith_163 : decode cX11_fitsWith 163 = .ok (.aload_n 0, 1) := by decide +kernel
theorem dX11_fitsWith_164 : decode cX11_fitsWith 164 = .ok (.getfield 46, 3) := by decide +kernel
theorem dX11_fitsWith_167 : decode cX11_fitsWith 167 = .ok (.iconst 0, 1) := by decide +kernel
theorem dX11_fitsWith_168 : decode cX11_fitsWith 168 = .ok (.iaload, 1) := by decide +kernel
theorem dX11_fitsWith_169 : decode cX11_fitsWith 169 = .ok (.ireturn, 1) := by decide +kernel
theorem dX11_fits_0 : decode cX11_fits 0 = .ok (.aload_n 0, 1) := by decide +kernel
theorem dX11_fits_1 : decode cX11_fits 1 = .ok (.bipush (-6), 2) := by decide +kernel
theorem dX11_fits_3 : decode cX11_fits 3 = .ok (.bipush (-6), 2) := by decide +kernel
theorem dX11_fits_5 : decode cX11_fits 5 = .ok (.invokevirtual 251, 3) := by decide +kernel
theorem dX11_fits_8 : decode cX11_fits 8 = .ok (.ireturn, 1) := by decide +kernel
theorem dX11_isThere_0 : decode cX11_isThere 0 = .ok (.iload_n 1, 1) := by decide +kernel
theorem dX11_isThere_1 : decode cX11_isThere 1 = .ok (.invokestatic 120, 3) := by decide +kernel
theorem dX11_isThere_4 : decode cX11_isThere 4 = .ok (.ifCond .eq 16, 3) := by decide +kernel
theorem dX11_isThere_7 : decode cX11_isThere 7 = .ok (.aload_n 0, 1) := by decide +kernel
theorem dX11_isThere_8 : decode cX11_isThere 8 = .ok (.getfield 22, 3) := by decide +kernel
theorem dX11_isThere_11 : decode cX11_isThere 11 = .ok (.iload_n 1, 1) := by decide +kernel
theorem dX11_isThere_12 : decode cX11_isThere 12 = .ok (.iaload, 1) := by decide +kernel
theorem dX11_isThere_13 : decode cX11_isThere 13 = .ok (.ifCond .le 7, 3) := by decide +kernel
theorem dX11_isThere_16 : decode cX11_isThere 16 = .ok (.iconst 1, 1) := by decide +kernel
theorem dX11_isThere_17 : decode cX11_isThere 17 = .ok (.goto 4, 3) := by decide +kernel
theorem dX11_isThere_20 : decode cX11_isThere 20 = .ok (.iconst 0, 1) := by decide +kernel
theorem dX11_isThere_21 : decode cX11_isThere 21 = .ok (.ireturn, 1) := by decide +kernel
theorem dX11_ahead_0 : decode cX11_ahead 0 = .ok (.aload_n 0, 1) := by decide +kernel
theorem dX11_ahead_1 : decode cX11_ahead 1 = .ok (.iload_n 1, 1) := by decide +kernel
theorem dX11_ahead_2 : decode cX11_ahead 2 = .ok (.invokevirtual 254, 3) := by decide +kernel
theorem dX11_ahead_5 : decode cX11_ahead 5 = .ok (.ifCond .eq 16, 3) := by decide +kernel
theorem dX11_ahead_8 : decode cX11_ahead 8 = .ok (.aload_n 0, 1) := by decide +kernel
theorem dX11_ahead_9 : decode cX11_ahead 9 = .ok (.iload_n 2, 1) := by decide +kernel
theorem dX11_ahead_10 : decode cX11_ahead 10 = .ok (.invokevirtual 254, 3) := by decide +kernel
theorem dX11_ahead_13 : decode cX11_ahead 13 = .ok (.ifCond .eq 8, 3) := by decide +kernel
theorem dX11_ahead_16 : decode cX11_ahead 16 = .ok (.iload_n 1, 1) := by decide +kernel
theorem dX11_ahead_17 : decode cX11_ahead 17 = .ok (.iload_n 2, 1) := by decide +kernel
theorem dX11_ahead_18 : decode cX11_ahead 18 = .ok (.if_icmp .ne 5, 3) := by decide +kernel
theorem dX11_ahead_21 : decode cX11_ahead 21 = .ok (.iconst (-1), 1) := by decide +kernel
theorem dX11_ahead_22 : decode cX11_ahead 22 = .ok (.ireturn, 1) := by decide +kernel
theorem dX11_ahead_23 : decode cX11_ahead 23 = .ok (.aload_n 0, 1) := by decide +kernel
theorem dX11_ahead_24 : decode cX11_ahead 24 = .ok (.invokevirtual 257, 3) := by decide +kernel
theorem dX11_ahead_27 : decode cX11_ahead 27 = .ok (.istore_n 3, 1) := by decide +kernel
theorem dX11_ahead_28 : decode cX11_ahead 28 = .ok (.iload_n 3, 1) := by decide +kernel
theorem dX11_ahead_29 : decode cX11_ahead 29 = .ok (.ifCond .ne 6, 3) := by decide +kernel
theorem dX11_ahead_32 : decode cX11_ahead 32 = .ok (.bipush (-5), 2) := by decide +kernel
theorem dX11_ahead_34 : decode cX11_ahead 34 = .ok (.ireturn, 1) := by decide +kernel
theorem dX11_ahead_35 : decode cX11_ahead 35 = .ok (.aload_n 0, 1) := by decide +kernel
theorem dX11_ahead_36 : decode cX11_ahead 36 = .ok (.iload_n 1, 1) := by decide +kernel
theorem dX11_ahead_37 : decode cX11_ahead 37 = .ok (.iload_n 2, 1) := by decide +kernel
theorem dX11_ahead_38 : decode cX11_ahead 38 = .ok (.invokevirtual 251, 3) := by decide +kernel
theorem dX11_ahead_41 : decode cX11_ahead 41 = .ok (.istore 4, 2) := by decide +kernel
theorem dX11_ahead_43 : decode cX11_ahead 43 = .ok (.iload 4, 2) := by decide +kernel
theorem dX11_ahead_45 : decode cX11_ahead 45 = .ok (.iload_n 3, 1) := by decide +kernel
theorem dX11_ahead_46 : decode cX11_ahead 46 = .ok (.if_icmp .ne 7, 3) := by decide +kernel
theorem dX11_ahead_49 : decode cX11_ahead 49 = .ok (.iconst 1, 1) := by decide +kernel
theorem dX11_ahead_50 : decode cX11_ahead 50 = .ok (.goto 13, 3) := by decide +kernel
theorem dX11_ahead_53 : decode cX11_ahead 53 = .ok (.iload 4, 2) := by decide +kernel
theorem dX11_ahead_55 : decode cX11_ahead 55 = .ok (.ifCond .ne 7, 3) := by decide +kernel
theorem dX11_ahead_58 : decode cX11_ahead 58 = .ok (.iconst 0, 1) := by decide +kernel
theorem dX11_ahead_59 : decode cX11_ahead 59 = .ok (.goto 4, 3) := by decide +kernel
theorem dX11_ahead_62 : decode cX11_ahead 62 = .ok (.iconst 2, 1) := by decide +kernel
theorem dX11_ahead_63 : decode cX11_ahead 63 = .ok (.ireturn, 1) := by decide +kernel
theorem dX11_couldBe_0 : decode cX11_couldBe 0 = .ok (.iconst 1, 1) := by decide +kernel
theorem dX11_couldBe_1 : decode cX11_couldBe 1 = .ok (.istore 4, 2) := by decide +kernel
theorem dX11_couldBe_3 : decode cX11_couldBe 3 = .ok (.aload_n 0, 1) := by decide +kernel
theorem dX11_couldBe_4 : decode cX11_couldBe 4 = .ok (.getfield 13, 3) := by decide +kernel
theorem dX11_couldBe_7 : decode cX11_couldBe 7 = .ok (.iload_n 1, 1) := by decide +kernel
theorem dX11_couldBe_8 : decode cX11_couldBe 8 = .ok (.iaload, 1) := by decide +kernel
theorem dX11_couldBe_9 : decode cX11_couldBe 9 = .ok (.aload_n 0, 1) := by decide +kernel
theorem dX11_couldBe_10 : decode cX11_couldBe 10 = .ok (.getfield 13, 3) := by decide +kernel
theorem dX11_couldBe_13 : decode cX11_couldBe 13 = .ok (.iload_n 2, 1) := by decide +kernel
theorem dX11_couldBe_14 : decode cX11_couldBe 14 = .ok (.iaload, 1) := by decide +kernel
theorem dX11_couldBe_15 : decode cX11_couldBe 15 = .ok (.if_icmp .ne 7, 3) := by decide +kernel
theorem dX11_couldBe_18 : decode cX11_couldBe 18 = .ok (.iconst 1, 1) := by decide +kernel
theorem dX11_couldBe_19 : decode cX11_couldBe 19 = .ok (.goto 4, 3) := by decide +kernel
theorem dX11_couldBe_22 : decode cX11_couldBe 22 = .ok (.iconst 0, 1) := by decide +kernel
theorem dX11_couldBe_23 : decode cX11_couldBe 23 = .ok (.istore 5, 2) := by decide +kernel
theorem dX11_couldBe_25 : decode cX11_couldBe 25 = .ok (.iconst 0, 1) := by decide +kernel
theorem dX11_couldBe_26 : decode cX11_couldBe 26 = .ok (.istore 6, 2) := by decide +kernel
theorem dX11_couldBe_28 : decode cX11_couldBe 28 = .ok (.iload 6, 2) := by decide +kernel
theorem dX11_couldBe_30 : decode cX11_couldBe 30 = .ok (.aload_n 0, 1) := by decide +kernel
theorem dX11_couldBe_31 : decode cX11_couldBe 31 = .ok (.getfield 13, 3) := by decide +kernel
theorem dX11_couldBe_34 : decode cX11_couldBe 34 = .ok (.iload_n 1, 1) := by decide +kernel
theorem dX11_couldBe_35 : decode cX11_couldBe 35 = .ok (.iaload, 1) := by decide +kernel
theorem dX11_couldBe_36 : decode cX11_couldBe 36 = .ok (.if_icmp .ge 101, 3) := by decide +kernel
theorem dX11_couldBe_39 : decode cX11_couldBe 39 = .ok (.iload 5, 2) := by decide +kernel
theorem dX11_couldBe_41 : decode cX11_couldBe 41 = .ok (.ifCond .eq 96, 3) := by decide +kernel
theorem dX11_couldBe_44 : decode cX11_couldBe 44 = .ok (.aload_n 0, 1) := by decide +kernel
theorem dX11_couldBe_45 : decode cX11_couldBe 45 = .ok (.getfield 7, 3) := by decide +kernel
theorem dX11_couldBe_48 : decode cX11_couldBe 48 = .ok (.iconst 5, 1) := by decide +kernel
theorem dX11_couldBe_49 : decode cX11_couldBe 49 = .ok (.iload_n 1, 1) := by decide +kernel
theorem dX11_couldBe_50 : decode cX11_couldBe 50 = .ok (.imul, 1) := by decide +kernel
theorem dX11_couldBe_51 : decode cX11_couldBe 51 = .ok (.iload 6, 2) := by decide +kernel
theorem dX11_couldBe_53 : decode cX11_couldBe 53 = .ok (.iadd, 1) := by decide +kernel
theorem dX11_couldBe_54 : decode cX11_couldBe 54 = .ok (.iaload, 1) := by decide +kernel
theorem dX11_couldBe_55 : decode cX11_couldBe 55 = .ok (.istore 7, 2) := by decide +kernel
theorem dX11_couldBe_57 : decode cX11_couldBe 57 = .ok (.aload_n 0, 1) := by decide +kernel
theorem dX11_couldBe_58 : decode cX11_couldBe 58 = .ok (.getfield 7, 3) := by decide +kernel
theorem dX11_couldBe_61 : decode cX11_couldBe 61 = .ok (.iconst 5, 1) := by decide +kernel
theorem dX11_couldBe_62 : decode cX11_couldBe 62 = .ok (.iload_n 2, 1) := by decide +kernel
theorem dX11_couldBe_63 : decode cX11_couldBe 63 = .ok (.imul, 1) := by decide +kernel
theorem dX11_couldBe_64 : decode cX11_couldBe 64 = .ok (.iload 6, 2) := by decide +kernel
theorem dX11_couldBe_66 : decode cX11_couldBe 66 = .ok (.iadd, 1) := by decide +kernel
theorem dX11_couldBe_67 : decode cX11_couldBe 67 = .ok (.iaload, 1) := by decide +kernel
theorem dX11_couldBe_68 : decode cX11_couldBe 68 = .ok (.istore 8, 2) := by decide +kernel
theorem dX11_couldBe_70 : decode cX11_couldBe 70 = .ok (.iload 4, 2) := by decide +kernel
theorem dX11_couldBe_72 : decode cX11_couldBe 72 = .ok (.ifCond .eq 14, 3) := by decide +kernel
theorem dX11_couldBe_75 : decode cX11_couldBe 75 = .ok (.iload 7, 2) := by decide +kernel
theorem dX11_couldBe_77 : decode cX11_couldBe 77 = .ok (.iload 8, 2) := by decide +kernel
theorem dX11_couldBe_79 : decode cX11_couldBe 79 = .ok (.if_icmp .ne 7, 3) := by decide +kernel
theorem dX11_couldBe_82 : decode cX11_couldBe 82 = .ok (.iconst 1, 1) := by decide +kernel
theorem dX11_couldBe_83 : decode cX11_couldBe 83 = .ok (.goto 4, 3) := by decide +kernel
theorem dX11_couldBe_86 : decode cX11_couldBe 86 = .ok (.iconst 0, 1) := by decide +kernel
theorem dX11_couldBe_87 : decode cX11_couldBe 87 = .ok (.istore 4, 2) := by decide +kernel
theorem dX11_couldBe_89 : decode cX11_couldBe 89 = .ok (.iload_n 3, 1) := by decide +kernel
theorem dX11_couldBe_90 : decode cX11_couldBe 90 = .ok (.iload 7, 2) := by decide +kernel
theorem dX11_couldBe_92 : decode cX11_couldBe 92 = .ok (.ishr, 1) := by decide +kernel
theorem dX11_couldBe_93 : decode cX11_couldBe 93 = .ok (.iconst 1, 1) := by decide +kernel
theorem dX11_couldBe_94 : decode cX11_couldBe 94 = .ok (.iand, 1) := by decide +kernel
theorem dX11_couldBe_95 : decode cX11_couldBe 95 = .ok (.iconst 1, 1) := by decide +kernel
theorem dX11_couldBe_96 : decode cX11_couldBe 96 = .ok (.if_icmp .ne 21, 3) := by decide +kernel
theorem dX11_couldBe_99 : decode cX11_couldBe 99 = .ok (.iload_n 3, 1) := by decide +kernel
theorem dX11_couldBe_100 : decode cX11_couldBe 100 = .ok (.iload 8, 2) := by decide +kernel
theorem dX11_couldBe_102 : decode cX11_couldBe 102 = .ok (.ishr, 1) := by decide +kernel
theorem dX11_couldBe_103 : decode cX11_couldBe 103 = .ok (.iconst 1, 1) := by decide +kernel
theorem dX11_couldBe_104 : decode cX11_couldBe 104 = .ok (.iand, 1) := by decide +kernel
theorem dX11_couldBe_105 : decode cX11_couldBe 105 = .ok (.iconst 1, 1) := by decide +kernel
theorem dX11_couldBe_106 : decode cX11_couldBe 106 = .ok (.if_icmp .ne 7, 3) := by decide +kernel
theorem dX11_couldBe_109 : decode cX11_couldBe 109 = .ok (.iconst 1, 1) := by decide +kernel
theorem dX11_couldBe_110 : decode cX11_couldBe 110 = .ok (.goto 19, 3) := by decide +kernel
theorem dX11_couldBe_113 : decode cX11_couldBe 113 = .ok (.iconst 0, 1) := by decide +kernel
theorem dX11_couldBe_114 : decode cX11_couldBe 114 = .ok (.goto 15, 3) := by decide +kernel
theorem dX11_couldBe_117 : decode cX11_couldBe 117 = .ok (.iload 7, 2) := by decide +kernel
theorem dX11_couldBe_119 : decode cX11_couldBe 119 = .ok (.iload 8, 2) := by decide +kernel
theorem dX11_couldBe_121 : decode cX11_couldBe 121 = .ok (.if_icmp .ne 7, 3) := by decide +kernel
theorem dX11_couldBe_124 : decode cX11_couldBe 124 = .ok (.iconst 1, 1) := by decide +kernel
theorem dX11_couldBe_125 : decode cX11_couldBe 125 = .ok (.goto 4, 3) := by decide +kernel
theorem dX11_couldBe_128 : decode cX11_couldBe 128 = .ok (.iconst 0, 1) := by decide +kernel
theorem dX11_couldBe_129 : decode cX11_couldBe 129 = .ok (.istore 5, 2) := by decide +kernel
theorem dX11_couldBe_131 : decode cX11_couldBe 131 = .ok (.iinc 6 1, 3) := by decide +kernel
theorem dX11_couldBe_134 : decode cX11_couldBe 134 = .ok (.goto (-106), 3) := by decide +kernel
theorem dX11_couldBe_137 : decode cX11_couldBe 137 = .ok (.iload 5, 2) := by decide +kernel
theorem dX11_couldBe_139 : decode cX11_couldBe 139 = .ok (.ifCond .eq 12, 3) := by decide +kernel
theorem dX11_couldBe_142 : decode cX11_couldBe 142 = .ok (.iload 4, 2) := by decide +kernel
theorem dX11_couldBe_144 : decode cX11_couldBe 144 = .ok (.ifCond .ne 7, 3) := by decide +kernel
theorem dX11_couldBe_147 : decode cX11_couldBe 147 = .ok (.iconst 1, 1) := by decide +kernel
theorem dX11_couldBe_148 : decode cX11_couldBe 148 = .ok (.goto 4, 3) := by decide +kernel
theorem dX11_couldBe_151 : decode cX11_couldBe 151 = .ok (.iconst 0, 1) := by decide +kernel
theorem dX11_couldBe_152 : decode cX11_couldBe 152 = .ok (.ireturn, 1) := by decide +kernel
theorem dX11_isKnown_0 : decode cX11_isKnown 0 = .ok (.iconst 1, 1) := by decide +kernel
theorem dX11_isKnown_1 : decode cX11_isKnown 1 = .ok (.istore_n 3, 1) := by decide +kernel
theorem dX11_isKnown_2 : decode cX11_isKnown 2 = .ok (.iconst 0, 1) := by decide +kernel
theorem dX11_isKnown_3 : decode cX11_isKnown 3 = .ok (.istore 4, 2) := by decide +kernel
theorem dX11_isKnown_5 : decode cX11_isKnown 5 = .ok (.iload 4, 2) := by decide +kernel
theorem dX11_isKnown_7 : decode cX11_isKnown 7 = .ok (.bipush 10, 2) := by decide +kernel
theorem dX11_isKnown_9 : decode cX11_isKnown 9 = .ok (.if_icmp .ge 30, 3) := by decide +kernel
theorem dX11_isKnown_12 : decode cX11_isKnown 12 = .ok (.iload_n 3, 1) := by decide +kernel
theorem dX11_isKnown_13 : decode cX11_isKnown 13 = .ok (.ifCond .eq 18, 3) := by decide +kernel
theorem dX11_isKnown_16 : decode cX11_isKnown 16 = .ok (.aload_n 0, 1) := by decide +kernel
theorem dX11_isKnown_17 : decode cX11_isKnown 17 = .ok (.iload_n 1, 1) := by decide +kernel
theorem dX11_isKnown_18 : decode cX11_isKnown 18 = .ok (.iload 4, 2) := by decide +kernel
theorem dX11_isKnown_20 : decode cX11_isKnown 20 = .ok (.iload_n 2, 1) := by decide +kernel
theorem dX11_isKnown_21 : decode cX11_isKnown 21 = .ok (.invokevirtual 260, 3) := by decide +kernel
theorem dX11_isKnown_24 : decode cX11_isKnown 24 = .ok (.ifCond .ne 7, 3) := by decide +kernel
theorem dX11_isKnown_27 : decode cX11_isKnown 27 = .ok (.iconst 1, 1) := by decide +kernel
theorem dX11_isKnown_28 : decode cX11_isKnown 28 = .ok (.goto 4, 3) := by decide +kernel
theorem dX11_isKnown_31 : decode cX11_isKnown 31 = .ok (.iconst 0, 1) := by decide +kernel
theorem dX11_isKnown_32 : decode cX11_isKnown 32 = .ok (.istore_n 3, 1) := by decide +kernel
theorem dX11_isKnown_33 : decode cX11_isKnown 33 = .ok (.iinc 4 1, 3) := by decide +kernel
theorem dX11_isKnown_36 : decode cX11_isKnown 36 = .ok (.goto (-31), 3) := by decide +kernel
theorem dX11_isKnown_39 : decode cX11_isKnown 39 = .ok (.iload_n 3, 1) := by decide +kernel
theorem dX11_isKnown_40 : decode cX11_isKnown 40 = .ok (.ireturn, 1) := by decide +kernel
theorem dX11_known_0 : decode cX11_known 0 = .ok (.iload_n 1, 1) := by decide +kernel
theorem dX11_known_1 : decode cX11_known 1 = .ok (.invokestatic 112, 3) := by decide +kernel
theorem dX11_known_4 : decode cX11_known 4 = .ok (.ifCond .ne 5, 3) := by decide +kernel
theorem dX11_known_7 : decode cX11_known 7 = .ok (.iconst (-1), 1) := by decide +kernel
theorem dX11_known_8 : decode cX11_known 8 = .ok (.ireturn, 1) := by decide +kernel
theorem dX11_known_9 : decode cX11_known 9 = .ok (.iload_n 2, 1) := by decide +kernel
theorem dX11_known_10 : decode cX11_known 10 = .ok (.i2l, 1) := by decide +kernel
theorem dX11_known_11 : decode cX11_known 11 = .ok (.lconst 0, 1) := by decide +kernel
theorem dX11_known_12 : decode cX11_known 12 = .ok (.ldc2_w 264, 3) := by decide +kernel
theorem dX11_known_15 : decode cX11_known 15 = .ok (.invokestatic 83, 3) := by decide +kernel
theorem dX11_known_18 : decode cX11_known 18 = .ok (.ifCond .ne 6, 3) := by decide +kernel
theorem dX11_known_21 : decode cX11_known 21 = .ok (.bipush (-2), 2) := by decide +kernel
theorem dX11_known_23 : decode cX11_known 23 = .ok (.ireturn, 1) := by decide +kernel
theorem dX11_known_24 : decode cX11_known 24 = .ok (.aload_n 0, 1) := by decide +kernel
theorem dX11_known_25 : decode cX11_known 25 = .ok (.iload_n 1, 1) := by decide +kernel
theorem dX11_known_26 : decode cX11_known 26 = .ok (.iload_n 2, 1) := by decide +kernel
theorem dX11_known_27 : decode cX11_known 27 = .ok (.invokevirtual 266, 3) := by decide +kernel
theorem dX11_known_30 : decode cX11_known 30 = .ok (.ifCond .eq 7, 3) := by decide +kernel
theorem dX11_known_33 : decode cX11_known 33 = .ok (.iconst 1, 1) := by decide +kernel
theorem dX11_known_34 : decode cX11_known 34 = .ok (.goto 4, 3) := by decide +kernel
theorem dX11_known_37 : decode cX11_known 37 = .ok (.iconst 0, 1) := by decide +kernel
theorem dX11_known_38 : decode cX11_known 38 = .ok (.ireturn, 1) := by decide +kernel
theorem dX11_knownOf_0 : decode cX11_knownOf 0 = .ok (.iload_n 1, 1) := by decide +kernel
theorem dX11_knownOf_1 : decode cX11_knownOf 1 = .ok (.invokestatic 120, 3) := by decide +kernel
theorem dX11_knownOf_4 : decode cX11_knownOf 4 = .ok (.ifCond .ne 5, 3) := by decide +kernel
theorem dX11_knownOf_7 : decode cX11_knownOf 7 = .ok (.iconst (-1), 1) := by decide +kernel
theorem dX11_knownOf_8 : decode cX11_knownOf 8 = .ok (.ireturn, 1) := by decide +kernel
theorem dX11_knownOf_9 : decode cX11_knownOf 9 = .ok (.iload_n 2, 1) := by decide +kernel
theorem dX11_knownOf_10 : decode cX11_knownOf 10 = .ok (.i2l, 1) := by decide +kernel
theorem dX11_knownOf_11 : decode cX11_knownOf 11 = .ok (.lconst 0, 1) := by decide +kernel
theorem dX11_knownOf_12 : decode cX11_knownOf 12 = .ok (.ldc2_w 264, 3) := by decide +kernel
theorem dX11_knownOf_15 : decode cX11_knownOf 15 = .ok (.invokestatic 83, 3) := by decide +kernel
theorem dX11_knownOf_18 : decode cX11_knownOf 18 = .ok (.ifCond .ne 6, 3) := by decide +kernel
theorem dX11_knownOf_21 : decode cX11_knownOf 21 = .ok (.bipush (-2), 2) := by decide +kernel
theorem dX11_knownOf_23 : decode cX11_knownOf 23 = .ok (.ireturn, 1) := by decide +kernel
theorem dX11_knownOf_24 : decode cX11_knownOf 24 = .ok (.iconst 0, 1) := by decide +kernel
theorem dX11_knownOf_25 : decode cX11_knownOf 25 = .ok (.istore_n 3, 1) := by decide +kernel
theorem dX11_knownOf_26 : decode cX11_knownOf 26 = .ok (.iconst 0, 1) := by decide +kernel
theorem dX11_knownOf_27 : decode cX11_knownOf 27 = .ok (.istore 4, 2) := by decide +kernel
theorem dX11_knownOf_29 : decode cX11_knownOf 29 = .ok (.iload 4, 2) := by decide +kernel
theorem dX11_knownOf_31 : decode cX11_knownOf 31 = .ok (.aload_n 0, 1) := by decide +kernel
theorem dX11_knownOf_32 : decode cX11_knownOf 32 = .ok (.getfield 22, 3) := by decide +kernel
theorem dX11_knownOf_35 : decode cX11_knownOf 35 = .ok (.iload_n 1, 1) := by decide +kernel
theorem dX11_knownOf_36 : decode cX11_knownOf 36 = .ok (.iaload, 1) := by decide +kernel
theorem dX11_knownOf_37 : decode cX11_knownOf 37 = .ok (.if_icmp .ge 37, 3) := by decide +kernel
theorem dX11_knownOf_40 : decode cX11_knownOf 40 = .ok (.iload_n 3, 1) := by decide +kernel
theorem dX11_knownOf_41 : decode cX11_knownOf 41 = .ok (.aload_n 0, 1) := by decide +kernel
theorem dX11_knownOf_42 : decode cX11_knownOf 42 = .ok (.aload_n 0, 1) := by decide +kernel
theorem dX11_knownOf_43 : decode cX11_knownOf 43 = .ok (.getfield 19, 3) := by decide +kernel
theorem dX11_knownOf_46 : decode cX11_knownOf 46 = .ok (.bipush 6, 2) := by decide +kernel
theorem dX11_knownOf_48 : decode cX11_knownOf 48 = .ok (.iload_n 1, 1) := by decide +kernel
theorem dX11_knownOf_49 : decode cX11_knownOf 49 = .ok (.imul, 1) := by decide +kernel
theorem dX11_knownOf_50 : decode cX11_knownOf 50 = .ok (.iload 4, 2) := by decide +kernel
theorem dX11_knownOf_52 : decode cX11_knownOf 52 = .ok (.iadd, 1) := by decide +kernel
theorem dX11_knownOf_53 : decode cX11_knownOf 53 = .ok (.iaload, 1) := by decide +kernel
theorem dX11_knownOf_54 : decode cX11_knownOf 54 = .ok (.iload_n 2, 1) := by decide +kernel
theorem dX11_knownOf_55 : decode cX11_knownOf 55 = .ok (.invokevirtual 266, 3) := by decide +kernel
theorem dX11_knownOf_58 : decode cX11_knownOf 58 = .ok (.ifCond .eq 7, 3) := by decide +kernel
theorem dX11_knownOf_61 : decode cX11_knownOf 61 = .ok (.iconst 1, 1) := by decide +kernel
theorem dX11_knownOf_62 : decode cX11_knownOf 62 = .ok (.goto 4, 3) := by decide +kernel
theorem dX11_knownOf_65 : decode cX11_knownOf 65 = .ok (.iconst 0, 1) := by decide +kernel
theorem dX11_knownOf_66 : decode cX11_knownOf 66 = .ok (.iadd, 1) := by decide +kernel
theorem dX11_knownOf_67 : decode cX11_knownOf 67 = .ok (.istore_n 3, 1) := by decide +kernel
theorem dX11_knownOf_68 : decode cX11_knownOf 68 = .ok (.iinc 4 1, 3) := by decide +kernel
theorem dX11_knownOf_71 : decode cX11_knownOf 71 = .ok (.goto (-42), 3) := by decide +kernel
theorem dX11_knownOf_74 : decode cX11_knownOf 74 = .ok (.iload_n 3, 1) := by decide +kernel
theorem dX11_knownOf_75 : decode cX11_knownOf 75 = .ok (.ireturn, 1) := by decide +kernel
theorem dX11_pass_0 : decode cX11_pass 0 = .ok (.aload_n 0, 1) := by decide +kernel
theorem dX11_pass_1 : decode cX11_pass 1 = .ok (.getfield 269, 3) := by decide +kernel
theorem dX11_pass_4 : decode cX11_pass 4 = .ok (.ifCond .eq 7, 3) := by decide +kernel
theorem dX11_pass_7 : decode cX11_pass 7 = .ok (.iload_n 1, 1) := by decide +kernel
theorem dX11_pass_8 : decode cX11_pass 8 = .ok (.goto 12, 3) := by decide +kernel
theorem dX11_pass_11 : decode cX11_pass 11 = .ok (.aload_n 0, 1) := by decide +kernel
theorem dX11_pass_12 : decode cX11_pass 12 = .ok (.getfield 70, 3) := by decide +kernel
theorem dX11_pass_15 : decode cX11_pass 15 = .ok (.aload_n 0, 1) := by decide +kernel
theorem dX11_pass_16 : decode cX11_pass 16 = .ok (.getfield 273, 3) := by decide +kernel
theorem dX11_pass_19 : decode cX11_pass 19 = .ok (.iaload, 1) := by decide +kernel
theorem dX11_pass_20 : decode cX11_pass 20 = .ok (.istore_n 2, 1) := by decide +kernel
theorem dX11_pass_21 : decode cX11_pass 21 = .ok (.aload_n 0, 1) := by decide +kernel
theorem dX11_pass_22 : decode cX11_pass 22 = .ok (.getfield 70, 3) := by decide +kernel
theorem dX11_pass_25 : decode cX11_pass 25 = .ok (.aload_n 0, 1) := by decide +kernel
theorem dX11_pass_26 : decode cX11_pass 26 = .ok (.getfield 273, 3) := by decide +kernel
theorem dX11_pass_29 : decode cX11_pass 29 = .ok (.iload_n 2, 1) := by decide +kernel
theorem dX11_pass_30 : decode cX11_pass 30 = .ok (.iastore, 1) := by decide +kernel
theorem dX11_pass_31 : decode cX11_pass 31 = .ok (.aload_n 0, 1) := by decide +kernel
theorem dX11_pass_32 : decode cX11_pass 32 = .ok (.dup, 1) := by decide +kernel
theorem dX11_pass_33 : decode cX11_pass 33 = .ok (.getfield 273, 3) := by decide +kernel
theorem dX11_pass_36 : decode cX11_pass 36 = .ok (.iconst 1, 1) := by decide +kernel
theorem dX11_pass_37 : decode cX11_pass 37 = .ok (.iadd, 1) := by decide +kernel
theorem dX11_pass_38 : decode cX11_pass 38 = .ok (.putfield 273, 3) := by decide +kernel
theorem dX11_pass_41 : decode cX11_pass 41 = .ok (.iload_n 2, 1) := by decide +kernel
theorem dX11_pass_42 : decode cX11_pass 42 = .ok (.ireturn, 1) := by decide +kernel
theorem dX11_passAll_0 : decode cX11_passAll 0 = .ok (.aload_n 0, 1) := by decide +kernel
theorem dX11_passAll_1 : decode cX11_passAll 1 = .ok (.aload_n 0, 1) := by decide +kernel
theorem dX11_passAll_2 : decode cX11_passAll 2 = .ok (.aload_n 0, 1) := by decide +kernel
theorem dX11_passAll_3 : decode cX11_passAll 3 = .ok (.getfield 77, 3) := by decide +kernel
theorem dX11_passAll_6 : decode cX11_passAll 6 = .ok (.invokevirtual 276, 3) := by decide +kernel
theorem dX11_passAll_9 : decode cX11_passAll 9 = .ok (.putfield 77, 3) := by decide +kernel
theorem dX11_passAll_12 : decode cX11_passAll 12 = .ok (.aload_n 0, 1) := by decide +kernel
theorem dX11_passAll_13 : decode cX11_passAll 13 = .ok (.aload_n 0, 1) := by decide +kernel
theorem dX11_passAll_14 : decode cX11_passAll 14 = .ok (.aload_n 0, 1) := by decide +kernel
theorem dX11_passAll_15 : decode cX11_passAll 15 = .ok (.getfield 139, 3) := by decide +kernel
theorem dX11_passAll_18 : decode cX11_passAll 18 = .ok (.invokevirtual 276, 3) := by decide +kernel
theorem dX11_passAll_21 : decode cX11_passAll 21 = .ok (.putfield 139, 3) := by decide +kernel
theorem dX11_passAll_24 : decode cX11_passAll 24 = .ok (.iconst 0, 1) := by decide +kernel
theorem dX11_passAll_25 : decode cX11_passAll 25 = .ok (.istore_n 1, 1) := by decide +kernel
theorem dX11_passAll_26 : decode cX11_passAll 26 = .ok (.iload_n 1, 1) := by decide +kernel
theorem dX11_passAll_27 : decode cX11_passAll 27 = .ok (.bipush 50, 2) := by decide +kernel
theorem dX11_passAll_29 : decode cX11_passAll 29 = .ok (.if_icmp .ge 25, 3) := by decide +kernel
theorem dX11_passAll_32 : decode cX11_passAll 32 = .ok (.aload_n 0, 1) := by decide +kernel
theorem dX11_passAll_33 : decode cX11_passAll 33 = .ok (.getfield 7, 3) := by decide +kernel
theorem dX11_passAll_36 : decode cX11_passAll 36 = .ok (.iload_n 1, 1) := by decide +kernel
theorem dX11_passAll_37 : decode cX11_passAll 37 = .ok (.aload_n 0, 1) := by decide +kernel
theorem dX11_passAll_38 : decode cX11_passAll 38 = .ok (.aload_n 0, 1) := by decide +kernel
theorem dX11_passAll_39 : decode cX11_passAll 39 = .ok (.getfield 7, 3) := by decide +kernel
theorem dX11_passAll_42 : decode cX11_passAll 42 = .ok (.iload_n 1, 1) := by decide +kernel
theorem dX11_passAll_43 : decode cX11_passAll 43 = .ok (.iaload, 1) := by decide +kernel
theorem dX11_passAll_44 : decode cX11_passAll 44 = .ok (.invokevirtual 276, 3) := by decide +kernel
theorem dX11_passAll_47 : decode cX11_passAll 47 = .ok (.iastore, 1) := by decide +kernel
theorem dX11_passAll_48 : decode cX11_passAll 48 = .ok (.iinc 1 1, 3) := by decide +kernel
theorem dX11_passAll_51 : decode cX11_passAll 51 = .ok (.goto (-25), 3) := by decide +kernel
theorem dX11_passAll_54 : decode cX11_passAll 54 = .ok (.iconst 0, 1) := by decide +kernel
theorem dX11_passAll_55 : decode cX11_passAll 55 = .ok (.istore_n 1, 1) := by decide +kernel
theorem dX11_passAll_56 : decode cX11_passAll 56 = .ok (.iload_n 1, 1) := by decide +kernel
theorem dX11_passAll_57 : decode cX11_passAll 57 = .ok (.bipush 10, 2) := by decide +kernel
theorem dX11_passAll_59 : decode cX11_passAll 59 = .ok (.if_icmp .ge 41, 3) := by decide +kernel
theorem dX11_passAll_62 : decode cX11_passAll 62 = .ok (.aload_n 0, 1) := by decide +kernel
theorem dX11_passAll_63 : decode cX11_passAll 63 = .ok (.getfield 13, 3) := by decide +kernel
theorem dX11_passAll_66 : decode cX11_passAll 66 = .ok (.iload_n 1, 1) := by decide +kernel
theorem dX11_passAll_67 : decode cX11_passAll 67 = .ok (.aload_n 0, 1) := by decide +kernel
theorem dX11_passAll_68 : decode cX11_passAll 68 = .ok (.aload_n 0, 1) := by decide +kernel
theorem dX11_passAll_69 : decode cX11_passAll 69 = .ok (.getfield 13, 3) := by decide +kernel
theorem dX11_passAll_72 : decode cX11_passAll 72 = .ok (.iload_n 1, 1) := by decide +kernel
theorem dX11_passAll_73 : decode cX11_passAll 73 = .ok (.iaload, 1) := by decide +kernel
theorem dX11_passAll_74 : decode cX11_passAll 74 = .ok (.invokevirtual 276, 3) := by decide +kernel
theorem dX11_passAll_77 : decode cX11_passAll 77 = .ok (.iastore, 1) := by decide +kernel
theorem dX11_passAll_78 : decode cX11_passAll 78 = .ok (.aload_n 0, 1) := by decide +kernel
theorem dX11_passAll_79 : decode cX11_passAll 79 = .ok (.getfield 16, 3) := by decide +kernel
theorem dX11_passAll_82 : decode cX11_passAll 82 = .ok (.iload_n 1, 1) := by decide +kernel
theorem dX11_passAll_83 : decode cX11_passAll 83 = .ok (.aload_n 0, 1) := by decide +kernel
theorem dX11_passAll_84 : decode cX11_passAll 84 = .ok (.aload_n 0, 1) := by decide +kernel
theorem dX11_passAll_85 : decode cX11_passAll 85 = .ok (.getfield 16, 3) := by decide +kernel
theorem dX11_passAll_88 : decode cX11_passAll 88 = .ok (.iload_n 1, 1) := by decide +kernel
theorem dX11_passAll_89 : decode cX11_passAll 89 = .ok (.iaload, 1) := by decide +kernel
theorem dX11_passAll_90 : decode cX11_passAll 90 = .ok (.invokevirtual 276, 3) := by decide +kernel
theorem dX11_passAll_93 : decode cX11_passAll 93 = .ok (.iastore, 1) := by decide +kernel
theorem dX11_passAll_94 : decode cX11_passAll 94 = .ok (.iinc 1 1, 3) := by decide +kernel
theorem dX11_passAll_97 : decode cX11_passAll 97 = .ok (.goto (-41), 3) := by decide +kernel
theorem dX11_passAll_100 : decode cX11_passAll 100 = .ok (.iconst 0, 1) := by decide +kernel
theorem dX11_passAll_101 : decode cX11_passAll 101 = .ok (.istore_n 1, 1) := by decide +kernel
theorem dX11_passAll_102 : decode cX11_passAll 102 = .ok (.iload_n 1, 1) := by decide +kernel
theorem dX11_passAll_103 : decode cX11_passAll 103 = .ok (.bipush 36, 2) := by decide +kernel
theorem dX11_passAll_105 : decode cX11_passAll 105 = .ok (.if_icmp .ge 25, 3) := by decide +kernel
theorem dX11_passAll_108 : decode cX11_passAll 108 = .ok (.aload_n 0, 1) := by decide +kernel
theorem dX11_passAll_109 : decode cX11_passAll 109 = .ok (.getfield 19, 3) := by decide +kernel
theorem dX11_passAll_112 : decode cX11_passAll 112 = .ok (.iload_n 1, 1) := by decide +kernel
theorem dX11_passAll_113 : decode cX11_passAll 113 = .ok (.aload_n 0, 1) := by decide +kernel
theorem dX11_passAll_114 : decode cX11_passAll 114 = .ok (.aload_n 0, 1) := by decide +kernel
theorem dX11_passAll_115 : decode cX11_passAll 115 = .ok (.getfield 19, 3) := by decide +kernel
theorem dX11_passAll_118 : decode cX11_passAll 118 = .ok (.iload_n 1, 1) := by decide +kernel
theorem dX11_passAll_119 : decode cX11_passAll 119 = .ok (.iaload, 1) := by decide +kernel
theorem dX11_passAll_120 : decode cX11_passAll 120 = .ok (.invokevirtual 276, 3) := by decide +kernel
theorem dX11_passAll_123 : decode cX11_passAll 123 = .ok (.iastore, 1) := by decide +kernel
theorem dX11_passAll_124 : decode cX11_passAll 124 = .ok (.iinc 1 1, 3) := by decide +kernel
theorem dX11_passAll_127 : decode cX11_passAll 127 = .ok (.goto (-25), 3) := by decide +kernel
theorem dX11_passAll_130 : decode cX11_passAll 130 = .ok (.iconst 0, 1) := by decide +kernel
theorem dX11_passAll_131 : decode cX11_passAll 131 = .ok (.istore_n 1, 1) := by decide +kernel
theorem dX11_passAll_132 : decode cX11_passAll 132 = .ok (.iload_n 1, 1) := by decide +kernel
theorem dX11_passAll_133 : decode cX11_passAll 133 = .ok (.bipush 6, 2) := by decide +kernel
theorem dX11_passAll_135 : decode cX11_passAll 135 = .ok (.if_icmp .ge 73, 3) := by decide +kernel
theorem dX11_passAll_138 : decode cX11_passAll 138 = .ok (.aload_n 0, 1) := by decide +kernel
theorem dX11_passAll_139 : decode cX11_passAll 139 = .ok (.getfield 22, 3) := by decide +kernel
theorem dX11_passAll_142 : decode cX11_passAll 142 = .ok (.iload_n 1, 1) := by decide +kernel
theorem dX11_passAll_143 : decode cX11_passAll 143 = .ok (.aload_n 0, 1) := by decide +kernel
theorem dX11_passAll_144 : decode cX11_passAll 144 = .ok (.aload_n 0, 1) := by decide +kernel
theorem dX11_passAll_145 : decode cX11_passAll 145 = .ok (.getfield 22, 3) := by decide +kernel
theorem dX11_passAll_148 : decode cX11_passAll 148 = .ok (.iload_n 1, 1) := by decide +kernel
theorem dX11_passAll_149 : decode cX11_passAll 149 = .ok (.iaload, 1) := by decide +kernel
theorem dX11_passAll_150 : decode cX11_passAll 150 = .ok (.invokevirtual 276, 3) := by decide +kernel
theorem dX11_passAll_153 : decode cX11_passAll 153 = .ok (.iastore, 1) := by decide +kernel
theorem dX11_passAll_154 : decode cX11_passAll 154 = .ok (.aload_n 0, 1) := by decide +kernel
theorem dX11_passAll_155 : decode cX11_passAll 155 = .ok (.getfield 25, 3) := by decide +kernel
theorem dX11_passAll_158 : decode cX11_passAll 158 = .ok (.iload_n 1, 1) := by decide +kernel
theorem dX11_passAll_159 : decode cX11_passAll 159 = .ok (.aload_n 0, 1) := by decide +kernel
theorem dX11_passAll_160 : decode cX11_passAll 160 = .ok (.aload_n 0, 1) := by decide +kernel
theorem dX11_passAll_161 : decode cX11_passAll 161 = .ok (.getfield 25, 3) := by decide +kernel
theorem dX11_passAll_164 : decode cX11_passAll 164 = .ok (.iload_n 1, 1) := by decide +kernel
theorem dX11_passAll_165 : decode cX11_passAll 165 = .ok (.iaload, 1) := by decide +kernel
theorem dX11_passAll_166 : decode cX11_passAll 166 = .ok (.invokevirtual 276, 3) := by decide +kernel
theorem dX11_passAll_169 : decode cX11_passAll 169 = .ok (.iastore, 1) := by decide +kernel
theorem dX11_passAll_170 : decode cX11_passAll 170 = .ok (.aload_n 0, 1) := by decide +kernel
theorem dX11_passAll_171 : decode cX11_passAll 171 = .ok (.getfield 28, 3) := by decide +kernel
theorem dX11_passAll_174 : decode cX11_passAll 174 = .ok (.iload_n 1, 1) := by decide +kernel
theorem dX11_passAll_175 : decode cX11_passAll 175 = .ok (.aload_n 0, 1) := by decide +kernel
theorem dX11_passAll_176 : decode cX11_passAll 176 = .ok (.aload_n 0, 1) := by decide +kernel
theorem dX11_passAll_177 : decode cX11_passAll 177 = .ok (.getfield 28, 3) := by decide +kernel
theorem dX11_passAll_180 : decode cX11_passAll 180 = .ok (.iload_n 1, 1) := by decide +kernel
theorem dX11_passAll_181 : decode cX11_passAll 181 = .ok (.iaload, 1) := by decide +kernel
theorem dX11_passAll_182 : decode cX11_passAll 182 = .ok (.invokevirtual 276, 3) := by decide +kernel
theorem dX11_passAll_185 : decode cX11_passAll 185 = .ok (.iastore, 1) := by decide +kernel
theorem dX11_passAll_186 : decode cX11_passAll 186 = .ok (.aload_n 0, 1) := by decide +kernel
theorem dX11_passAll_187 : decode cX11_passAll 187 = .ok (.getfield 31, 3) := by decide +kernel
theorem dX11_passAll_190 : decode cX11_passAll 190 = .ok (.iload_n 1, 1) := by decide +kernel
theorem dX11_passAll_191 : decode cX11_passAll 191 = .ok (.aload_n 0, 1) := by decide +kernel
theorem dX11_passAll_192 : decode cX11_passAll 192 = .ok (.aload_n 0, 1) := by decide +kernel
theorem dX11_passAll_193 : decode cX11_passAll 193 = .ok (.getfield 31, 3) := by decide +kernel
theorem dX11_passAll_196 : decode cX11_passAll 196 = .ok (.iload_n 1, 1) := by decide +kernel
theorem dX11_passAll_197 : decode cX11_passAll 197 = .ok (.iaload, 1) := by decide +kernel
theorem dX11_passAll_198 : decode cX11_passAll 198 = .ok (.invokevirtual 276, 3) := by decide +kernel
theorem dX11_passAll_201 : decode cX11_passAll 201 = .ok (.iastore, 1) := by decide +kernel
theorem dX11_passAll_202 : decode cX11_passAll 202 = .ok (.iinc 1 1, 3) := by decide +kernel
theorem dX11_passAll_205 : decode cX11_passAll 205 = .ok (.goto (-73), 3) := by decide +kernel
theorem dX11_passAll_208 : decode cX11_passAll 208 = .ok (.return_, 1) := by decide +kernel
theorem dX11_image_0 : decode cX11_image 0 = .ok (.iload_n 1, 1) := by decide +kernel
theorem dX11_image_1 : decode cX11_image 1 = .ok (.i2l, 1) := by decide +kernel
theorem dX11_image_2 : decode cX11_image 2 = .ok (.lconst 0, 1) := by decide +kernel
theorem dX11_image_3 : decode cX11_image 3 = .ok (.lconst 1, 1) := by decide +kernel
theorem dX11_image_4 : decode cX11_image 4 = .ok (.invokestatic 83, 3) := by decide +kernel
theorem dX11_image_7 : decode cX11_image 7 = .ok (.ifCond .ne 6, 3) := by decide +kernel
theorem dX11_image_10 : decode cX11_image 10 = .ok (.bipush (-2), 2) := by decide +kernel
theorem dX11_image_12 : decode cX11_image 12 = .ok (.ireturn, 1) := by decide +kernel
theorem dX11_image_13 : decode cX11_image 13 = .ok (.aload_n 0, 1) := by decide +kernel
theorem dX11_image_14 : decode cX11_image 14 = .ok (.sipush 160, 3) := by decide +kernel
theorem dX11_image_17 : decode cX11_image 17 = .ok (.iload_n 1, 1) := by decide +kernel
theorem dX11_image_18 : decode cX11_image 18 = .ok (.imul, 1) := by decide +kernel
theorem dX11_image_19 : decode cX11_image 19 = .ok (.putfield 273, 3) := by decide +kernel
theorem dX11_image_22 : decode cX11_image 22 = .ok (.aload_n 0, 1) := by decide +kernel
theorem dX11_image_23 : decode cX11_image 23 = .ok (.iconst 1, 1) := by decide +kernel
theorem dX11_image_24 : decode cX11_image 24 = .ok (.putfield 269, 3) := by decide +kernel
theorem dX11_image_27 : decode cX11_image 27 = .ok (.aload_n 0, 1) := by decide +kernel
theorem dX11_image_28 : decode cX11_image 28 = .ok (.invokevirtual 279, 3) := by decide +kernel
theorem dX11_image_31 : decode cX11_image 31 = .ok (.aload_n 0, 1) := by decide +kernel
theorem dX11_image_32 : decode cX11_image 32 = .ok (.getfield 73, 3) := by decide +kernel
theorem dX11_image_35 : decode cX11_image 35 = .ok (.iload_n 1, 1) := by decide +kernel
theorem dX11_image_36 : decode cX11_image 36 = .ok (.iconst 1, 1) := by decide +kernel
theorem dX11_image_37 : decode cX11_image 37 = .ok (.bastore, 1) := by decide +kernel
theorem dX11_image_38 : decode cX11_image 38 = .ok (.iconst 1, 1) := by decide +kernel
theorem dX11_image_39 : decode cX11_image 39 = .ok (.ireturn, 1) := by decide +kernel
theorem dX11_restore_0 : decode cX11_restore 0 = .ok (.iload_n 1, 1) := by decide +kernel
theorem dX11_restore_1 : decode cX11_restore 1 = .ok (.i2l, 1) := by decide +kernel
theorem dX11_restore_2 : decode cX11_restore 2 = .ok (.lconst 0, 1) := by decide +kernel
theorem dX11_restore_3 : decode cX11_restore 3 = .ok (.lconst 1, 1) := by decide +kernel
theorem dX11_restore_4 : decode cX11_restore 4 = .ok (.invokestatic 83, 3) := by decide +kernel
theorem dX11_restore_7 : decode cX11_restore 7 = .ok (.ifCond .ne 6, 3) := by decide +kernel
theorem dX11_restore_10 : decode cX11_restore 10 = .ok (.bipush (-2), 2) := by decide +kernel
theorem dX11_restore_12 : decode cX11_restore 12 = .ok (.ireturn, 1) := by decide +kernel
theorem dX11_restore_13 : decode cX11_restore 13 = .ok (.aload_n 0, 1) := by decide +kernel
theorem dX11_restore_14 : decode cX11_restore 14 = .ok (.getfield 73, 3) := by decide +kernel
theorem dX11_restore_17 : decode cX11_restore 17 = .ok (.iload_n 1, 1) := by decide +kernel
theorem dX11_restore_18 : decode cX11_restore 18 = .ok (.baload, 1) := by decide +kernel
theorem dX11_restore_19 : decode cX11_restore 19 = .ok (.ifCond .ne 6, 3) := by decide +kernel
theorem dX11_restore_22 : decode cX11_restore 22 = .ok (.bipush (-3), 2) := by decide +kernel
theorem dX11_restore_24 : decode cX11_restore 24 = .ok (.ireturn, 1) := by decide +kernel
theorem dX11_restore_25 : decode cX11_restore 25 = .ok (.aload_n 0, 1) := by decide +kernel
theorem dX11_restore_26 : decode cX11_restore 26 = .ok (.sipush 160, 3) := by decide +kernel
theorem dX11_restore_29 : decode cX11_restore 29 = .ok (.iload_n 1, 1) := by decide +kernel
theorem dX11_restore_30 : decode cX11_restore 30 = .ok (.imul, 1) := by decide +kernel
theorem dX11_restore_31 : decode cX11_restore 31 = .ok (.putfield 273, 3) := by decide +kernel
theorem dX11_restore_34 : decode cX11_restore 34 = .ok (.aload_n 0, 1) := by decide +kernel
theorem dX11_restore_35 : decode cX11_restore 35 = .ok (.iconst 0, 1) := by decide +kernel
theorem dX11_restore_36 : decode cX11_restore 36 = .ok (.putfield 269, 3) := by decide +kernel
theorem dX11_restore_39 : decode cX11_restore 39 = .ok (.aload_n 0, 1) := by decide +kernel
theorem dX11_restore_40 : decode cX11_restore 40 = .ok (.invokevirtual 279, 3) := by decide +kernel
theorem dX11_restore_43 : decode cX11_restore 43 = .ok (.iconst 1, 1) := by decide +kernel
theorem dX11_restore_44 : decode cX11_restore 44 = .ok (.ireturn, 1) := by decide +kernel
theorem dX11_told_0 : decode cX11_told 0 = .ok (.iload_n 1, 1) := by decide +kernel
theorem dX11_told_1 : decode cX11_told 1 = .ok (.bipush 10, 2) := by decide +kernel
theorem dX11_told_3 : decode cX11_told 3 = .ok (.irem, 1) := by decide +kernel
theorem dX11_told_4 : decode cX11_told 4 = .ok (.istore_n 2, 1) := by decide +kernel
theorem dX11_told_5 : decode cX11_told 5 = .ok (.iload_n 1, 1) := by decide +kernel
theorem dX11_told_6 : decode cX11_told 6 = .ok (.i2l, 1) := by decide +kernel
theorem dX11_told_7 : decode cX11_told 7 = .ok (.ldc2_w 246, 3) := by decide +kernel
theorem dX11_told_10 : decode cX11_told 10 = .ok (.ldc2_w 282, 3) := by decide +kernel
theorem dX11_told_13 : decode cX11_told 13 = .ok (.invokestatic 83, 3) := by decide +kernel
theorem dX11_told_16 : decode cX11_told 16 = .ok (.ifCond .eq 25, 3) := by decide +kernel
theorem dX11_told_19 : decode cX11_told 19 = .ok (.iload_n 1, 1) := by decide +kernel
theorem dX11_told_20 : decode cX11_told 20 = .ok (.bipush 40, 2) := by decide +kernel
theorem dX11_told_22 : decode cX11_told 22 = .ok (.if_icmp .ge 12, 3) := by decide +kernel
theorem dX11_told_25 : decode cX11_told 25 = .ok (.aload_n 0, 1) := by decide +kernel
theorem dX11_told_26 : decode cX11_told 26 = .ok (.getfield 13, 3) := by decide +kernel
theorem dX11_told_29 : decode cX11_told 29 = .ok (.iload_n 2, 1) := by decide +kernel
theorem dX11_told_30 : decode cX11_told 30 = .ok (.iaload, 1) := by decide +kernel
theorem dX11_told_31 : decode cX11_told 31 = .ok (.goto 9, 3) := by decide +kernel
theorem dX11_told_34 : decode cX11_told 34 = .ok (.aload_n 0, 1) := by decide +kernel
theorem dX11_told_35 : decode cX11_told 35 = .ok (.getfield 16, 3) := by decide +kernel
theorem dX11_told_38 : decode cX11_told 38 = .ok (.iload_n 2, 1) := by decide +kernel
theorem dX11_told_39 : decode cX11_told 39 = .ok (.iaload, 1) := by decide +kernel
theorem dX11_told_40 : decode cX11_told 40 = .ok (.ireturn, 1) := by decide +kernel
theorem dX11_told_41 : decode cX11_told 41 = .ok (.iload_n 1, 1) := by decide +kernel
theorem dX11_told_42 : decode cX11_told 42 = .ok (.i2l, 1) := by decide +kernel
theorem dX11_told_43 : decode cX11_told 43 = .ok (.ldc2_w 130, 3) := by decide +kernel
theorem dX11_told_46 : decode cX11_told 46 = .ok (.ldc2_w 284, 3) := by decide +kernel
theorem dX11_told_49 : decode cX11_told 49 = .ok (.invokestatic 83, 3) := by decide +kernel
theorem dX11_told_52 : decode cX11_told 52 = .ok (.ifCond .ne 17, 3) := by decide +kernel
theorem dX11_told_55 : decode cX11_told 55 = .ok (.iload_n 1, 1) := by decide +kernel
theorem dX11_told_56 : decode cX11_told 56 = .ok (.i2l, 1) := by decide +kernel
theorem dX11_told_57 : decode cX11_told 57 = .ok (.ldc2_w 286, 3) := by decide +kernel
theorem dX11_told_60 : decode cX11_told 60 = .ok (.ldc2_w 288, 3) := by decide +kernel
theorem dX11_told_63 : decode cX11_told 63 = .ok (.invokestatic 83, 3) := by decide +kernel
theorem dX11_told_66 : decode cX11_told 66 = .ok (.ifCond .eq 7, 3) := by decide +kernel
theorem dX11_told_69 : decode cX11_told 69 = .ok (.iconst 1, 1) := by decide +kernel
theorem dX11_told_70 : decode cX11_told 70 = .ok (.goto 4, 3) := by decide +kernel
theorem dX11_told_73 : decode cX11_told 73 = .ok (.iconst 0, 1) := by decide +kernel
theorem dX11_told_74 : decode cX11_told 74 = .ok (.istore_n 3, 1) := by decide +kernel
theorem dX11_told_75 : decode cX11_told 75 = .ok (.iload_n 3, 1) := by decide +kernel
theorem dX11_told_76 : decode cX11_told 76 = .ok (.ifCond .eq 65, 3) := by decide +kernel
theorem dX11_told_79 : decode cX11_told 79 = .ok (.iload_n 2, 1) := by decide +kernel
theorem dX11_told_80 : decode cX11_told 80 = .ok (.iconst 5, 1) := by decide +kernel
theorem dX11_told_81 : decode cX11_told 81 = .ok (.if_icmp .le 8, 3) := by decide +kernel
theorem dX11_told_84 : decode cX11_told 84 = .ok (.bipush (-2), 2) := by decide +kernel
theorem dX11_told_86 : decode cX11_told 86 = .ok (.goto 54, 3) := by decide +kernel
theorem dX11_told_89 : decode cX11_told 89 = .ok (.iload_n 1, 1) := by decide +kernel
theorem dX11_told_90 : decode cX11_told 90 = .ok (.bipush 20, 2) := by decide +kernel
theorem dX11_told_92 : decode cX11_told 92 = .ok (.if_icmp .ge 12, 3) := by decide +kernel
theorem dX11_told_95 : decode cX11_told 95 = .ok (.aload_n 0, 1) := by decide +kernel
theorem dX11_told_96 : decode cX11_told 96 = .ok (.getfield 28, 3) := by decide +kernel
theorem dX11_told_99 : decode cX11_told 99 = .ok (.iload_n 2, 1) := by decide +kernel
theorem dX11_told_100 : decode cX11_told 100 = .ok (.iaload, 1) := by decide +kernel
theorem dX11_told_101 : decode cX11_told 101 = .ok (.goto 39, 3) := by decide +kernel
theorem dX11_told_104 : decode cX11_told 104 = .ok (.iload_n 1, 1) := by decide +kernel
theorem dX11_told_105 : decode cX11_told 105 = .ok (.bipush 30, 2) := by decide +kernel
theorem dX11_told_107 : decode cX11_told 107 = .ok (.if_icmp .ge 12, 3) := by decide +kernel
theorem dX11_told_110 : decode cX11_told 110 = .ok (.aload_n 0, 1) := by decide +kernel
theorem dX11_told_111 : decode cX11_told 111 = .ok (.getfield 25, 3) := by decide +kernel
theorem dX11_told_114 : decode cX11_told 114 = .ok (.iload_n 2, 1) := by decide +kernel
theorem dX11_told_115 : decode cX11_told 115 = .ok (.iaload, 1) := by decide +kernel
theorem dX11_told_116 : decode cX11_told 116 = .ok (.goto 24, 3) := by decide +kernel
theorem dX11_told_119 : decode cX11_told 119 = .ok (.iload_n 1, 1) := by decide +kernel
theorem dX11_told_120 : decode cX11_told 120 = .ok (.bipush 60, 2) := by decide +kernel
theorem dX11_told_122 : decode cX11_told 122 = .ok (.if_icmp .ge 12, 3) := by decide +kernel
theorem dX11_told_125 : decode cX11_told 125 = .ok (.aload_n 0, 1) := by decide +kernel
theorem dX11_told_126 : decode cX11_told 126 = .ok (.getfield 22, 3) := by decide +kernel
theorem dX11_told_129 : decode cX11_told 129 = .ok (.iload_n 2, 1) := by decide +kernel
theorem dX11_told_130 : decode cX11_told 130 = .ok (.iaload, 1) := by decide +kernel
theorem dX11_told_131 : decode cX11_told 131 = .ok (.goto 9, 3) := by decide +kernel
theorem dX11_told_134 : decode cX11_told 134 = .ok (.aload_n 0, 1) := by decide +kernel
theorem dX11_told_135 : decode cX11_told 135 = .ok (.getfield 31, 3) := by decide +kernel
theorem dX11_told_138 : decode cX11_told 138 = .ok (.iload_n 2, 1) := by decide +kernel
theorem dX11_told_139 : decode cX11_told 139 = .ok (.iaload, 1) := by decide +kernel
theorem dX11_told_140 : decode cX11_told 140 = .ok (.ireturn, 1) := by decide +kernel
theorem dX11_told_141 : decode cX11_told 141 = .ok (.iload_n 1, 1) := by decide +kernel
theorem dX11_told_142 : decode cX11_told 142 = .ok (.tableswitch 50 0 3 #[30, 35, 40, 45], 30) := by decide +kernel
theorem dX11_told_172 : decode cX11_told 172 = .ok (.aload_n 0, 1) := by decide +kernel
theorem dX11_told_173 : decode cX11_told 173 = .ok (.getfield 93, 3) := by decide +kernel
theorem dX11_told_176 : decode cX11_told 176 = .ok (.ireturn, 1) := by decide +kernel
theorem dX11_told_177 : decode cX11_told 177 = .ok (.aload_n 0, 1) := by decide +kernel
theorem dX11_told_178 : decode cX11_told 178 = .ok (.invokevirtual 96, 3) := by decide +kernel
theorem dX11_told_181 : decode cX11_told 181 = .ok (.ireturn, 1) := by decide +kernel
theorem dX11_told_182 : decode cX11_told 182 = .ok (.aload_n 0, 1) := by decide +kernel
theorem dX11_told_183 : decode cX11_told 183 = .ok (.getfield 139, 3) := by decide +kernel
theorem dX11_told_186 : decode cX11_told 186 = .ok (.ireturn, 1) := by decide +kernel
theorem dX11_told_187 : decode cX11_told 187 = .ok (.aload_n 0, 1) := by decide +kernel
theorem dX11_told_188 : decode cX11_told 188 = .ok (.getfield 77, 3) := by decide +kernel
theorem dX11_told_191 : decode cX11_told 191 = .ok (.ireturn, 1) := by decide +kernel
theorem dX11_told_192 : decode cX11_told 192 = .ok (.bipush (-2), 2) := by decide +kernel
theorem dX11_told_194 : decode cX11_told 194 = .ok (.ireturn, 1) := by decide +kernel
theorem dJ6_bitCount_0f7a4_0 : decode cJ6_bitCount_0f7a4 0 = .ok (.iload_n 0, 1) := by decide +kernel
theorem dJ6_bitCount_0f7a4_1 : decode cJ6_bitCount_0f7a4 1 = .ok (.iload_n 0, 1) := by decide +kernel
theorem dJ6_bitCount_0f7a4_2 : decode cJ6_bitCount_0f7a4 2 = .ok (.iconst 1, 1) := by decide +kernel
theorem dJ6_bitCount_0f7a4_3 : decode cJ6_bitCount_0f7a4 3 = .ok (.iushr, 1) := by decide +kernel
theorem dJ6_bitCount_0f7a4_4 : decode cJ6_bitCount_0f7a4 4 = .ok (.ldc_w 265, 3) := by decide +kernel
theorem dJ6_bitCount_0f7a4_7 : decode cJ6_bitCount_0f7a4 7 = .ok (.iand, 1) := by decide +kernel
theorem dJ6_bitCount_0f7a4_8 : decode cJ6_bitCount_0f7a4 8 = .ok (.isub, 1) := by decide +kernel
theorem dJ6_bitCount_0f7a4_9 : decode cJ6_bitCount_0f7a4 9 = .ok (.istore_n 0, 1) := by decide +kernel
theorem dJ6_bitCount_0f7a4_10 : decode cJ6_bitCount_0f7a4 10 = .ok (.iload_n 0, 1) := by decide +kernel
theorem dJ6_bitCount_0f7a4_11 : decode cJ6_bitCount_0f7a4 11 = .ok (.ldc_w 266, 3) := by decide +kernel
theorem dJ6_bitCount_0f7a4_14 : decode cJ6_bitCount_0f7a4 14 = .ok (.iand, 1) := by decide +kernel
theorem dJ6_bitCount_0f7a4_15 : decode cJ6_bitCount_0f7a4 15 = .ok (.iload_n 0, 1) := by decide +kernel
theorem dJ6_bitCount_0f7a4_16 : decode cJ6_bitCount_0f7a4 16 = .ok (.iconst 2, 1) := by decide +kernel
theorem dJ6_bitCount_0f7a4_17 : decode cJ6_bitCount_0f7a4 17 = .ok (.iushr, 1) := by decide +kernel
theorem dJ6_bitCount_0f7a4_18 : decode cJ6_bitCount_0f7a4 18 = .ok (.ldc_w 266, 3) := by decide +kernel
theorem dJ6_bitCount_0f7a4_21 : decode cJ6_bitCount_0f7a4 21 = .ok (.iand, 1) := by decide +kernel
theorem dJ6_bitCount_0f7a4_22 : decode cJ6_bitCount_0f7a4 22 = .ok (.iadd, 1) := by decide +kernel
theorem dJ6_bitCount_0f7a4_23 : decode cJ6_bitCount_0f7a4 23 = .ok (.istore_n 0, 1) := by decide +kernel
theorem dJ6_bitCount_0f7a4_24 : decode cJ6_bitCount_0f7a4 24 = .ok (.iload_n 0, 1) := by decide +kernel
theorem dJ6_bitCount_0f7a4_25 : decode cJ6_bitCount_0f7a4 25 = .ok (.iload_n 0, 1) := by decide +kernel
theorem dJ6_bitCount_0f7a4_26 : decode cJ6_bitCount_0f7a4 26 = .ok (.iconst 4, 1) := by decide +kernel
theorem dJ6_bitCount_0f7a4_27 : decode cJ6_bitCount_0f7a4 27 = .ok (.iushr, 1) := by decide +kernel
theorem dJ6_bitCount_0f7a4_28 : decode cJ6_bitCount_0f7a4 28 = .ok (.iadd, 1) := by decide +kernel
theorem dJ6_bitCount_0f7a4_29 : decode cJ6_bitCount_0f7a4 29 = .ok (.ldc_w 267, 3) := by decide +kernel
theorem dJ6_bitCount_0f7a4_32 : decode cJ6_bitCount_0f7a4 32 = .ok (.iand, 1) := by decide +kernel
theorem dJ6_bitCount_0f7a4_33 : decode cJ6_bitCount_0f7a4 33 = .ok (.istore_n 0, 1) := by decide +kernel
theorem dJ6_bitCount_0f7a4_34 : decode cJ6_bitCount_0f7a4 34 = .ok (.iload_n 0, 1) := by decide +kernel
theorem dJ6_bitCount_0f7a4_35 : decode cJ6_bitCount_0f7a4 35 = .ok (.iload_n 0, 1) := by decide +kernel
theorem dJ6_bitCount_0f7a4_36 : decode cJ6_bitCount_0f7a4 36 = .ok (.bipush 8, 2) := by decide +kernel
theorem dJ6_bitCount_0f7a4_38 : decode cJ6_bitCount_0f7a4 38 = .ok (.iushr, 1) := by decide +kernel
theorem dJ6_bitCount_0f7a4_39 : decode cJ6_bitCount_0f7a4 39 = .ok (.iadd, 1) := by decide +kernel
theorem dJ6_bitCount_0f7a4_40 : decode cJ6_bitCount_0f7a4 40 = .ok (.istore_n 0, 1) := by decide +kernel
theorem dJ6_bitCount_0f7a4_41 : decode cJ6_bitCount_0f7a4 41 = .ok (.iload_n 0, 1) := by decide +kernel
theorem dJ6_bitCount_0f7a4_42 : decode cJ6_bitCount_0f7a4 42 = .ok (.iload_n 0, 1) := by decide +kernel
theorem dJ6_bitCount_0f7a4_43 : decode cJ6_bitCount_0f7a4 43 = .ok (.bipush 16, 2) := by decide +kernel
theorem dJ6_bitCount_0f7a4_45 : decode cJ6_bitCount_0f7a4 45 = .ok (.iushr, 1) := by decide +kernel
theorem dJ6_bitCount_0f7a4_46 : decode cJ6_bitCount_0f7a4 46 = .ok (.iadd, 1) := by decide +kernel
theorem dJ6_bitCount_0f7a4_47 : decode cJ6_bitCount_0f7a4 47 = .ok (.istore_n 0, 1) := by decide +kernel
theorem dJ6_bitCount_0f7a4_48 : decode cJ6_bitCount_0f7a4 48 = .ok (.iload_n 0, 1) := by decide +kernel
theorem dJ6_bitCount_0f7a4_49 : decode cJ6_bitCount_0f7a4 49 = .ok (.bipush 63, 2) := by decide +kernel
theorem dJ6_bitCount_0f7a4_51 : decode cJ6_bitCount_0f7a4 51 = .ok (.iand, 1) := by decide +kernel
theorem dJ6_bitCount_0f7a4_52 : decode cJ6_bitCount_0f7a4 52 = .ok (.ireturn, 1) := by decide +kernel
theorem dJ9_max_7cf53_0 : decode cJ9_max_7cf53 0 = .ok (.iload_n 0, 1) := by decide +kernel
theorem dJ9_max_7cf53_1 : decode cJ9_max_7cf53 1 = .ok (.iload_n 1, 1) := by decide +kernel
theorem dJ9_max_7cf53_2 : decode cJ9_max_7cf53 2 = .ok (.if_icmp .lt 7, 3) := by decide +kernel
theorem dJ9_max_7cf53_5 : decode cJ9_max_7cf53 5 = .ok (.iload_n 0, 1) := by decide +kernel
theorem dJ9_max_7cf53_6 : decode cJ9_max_7cf53 6 = .ok (.goto 4, 3) := by decide +kernel
theorem dJ9_max_7cf53_9 : decode cJ9_max_7cf53 9 = .ok (.iload_n 1, 1) := by decide +kernel
theorem dJ9_max_7cf53_10 : decode cJ9_max_7cf53 10 = .ok (.ireturn, 1) := by decide +kernel
theorem dJ9_min_7cf53_0 : decode cJ9_min_7cf53 0 = .ok (.iload_n 0, 1) := by decide +kernel
theorem dJ9_min_7cf53_1 : decode cJ9_min_7cf53 1 = .ok (.iload_n 1, 1) := by decide +kernel
theorem dJ9_min_7cf53_2 : decode cJ9_min_7cf53 2 = .ok (.if_icmp .gt 7, 3) := by decide +kernel
theorem dJ9_min_7cf53_5 : decode cJ9_min_7cf53 5 = .ok (.iload_n 0, 1) := by decide +kernel
theorem dJ9_min_7cf53_6 : decode cJ9_min_7cf53 6 = .ok (.goto 4, 3) := by decide +kernel
theorem dJ9_min_7cf53_9 : decode cJ9_min_7cf53 9 = .ok (.iload_n 1, 1) := by decide +kernel
theorem dJ9_min_7cf53_10 : decode cJ9_min_7cf53 10 = .ok (.ireturn, 1) := by decide +kernel
theorem dJ9_min_f86c9_0 : decode cJ9_min_f86c9 0 = .ok (.lload_n 0, 1) := by decide +kernel
theorem dJ9_min_f86c9_1 : decode cJ9_min_f86c9 1 = .ok (.lload_n 2, 1) := by decide +kernel
theorem dJ9_min_f86c9_2 : decode cJ9_min_f86c9 2 = .ok (.lcmp, 1) := by decide +kernel
theorem dJ9_min_f86c9_3 : decode cJ9_min_f86c9 3 = .ok (.ifCond .gt 7, 3) := by decide +kernel
theorem dJ9_min_f86c9_6 : decode cJ9_min_f86c9 6 = .ok (.lload_n 0, 1) := by decide +kernel
theorem dJ9_min_f86c9_7 : decode cJ9_min_f86c9 7 = .ok (.goto 4, 3) := by decide +kernel
theorem dJ9_min_f86c9_10 : decode cJ9_min_f86c9 10 = .ok (.lload_n 2, 1) := by decide +kernel
theorem dJ9_min_f86c9_11 : decode cJ9_min_f86c9 11 = .ok (.lreturn, 1) := by decide +kernel
theorem dL_law_0 : decode cL_law 0 = .ok (.new 7, 3) := by decide +kernel
theorem dL_law_3 : decode cL_law 3 = .ok (.dup, 1) := by decide +kernel
theorem dL_law_4 : decode cL_law 4 = .ok (.invokespecial 9, 3) := by decide +kernel
theorem dL_law_7 : decode cL_law 7 = .ok (.astore_n 1, 1) := by decide +kernel
theorem dL_law_8 : decode cL_law 8 = .ok (.new 10, 3) := by decide +kernel
theorem dL_law_11 : decode cL_law 11 = .ok (.dup, 1) := by decide +kernel
theorem dL_law_12 : decode cL_law 12 = .ok (.invokespecial 12, 3) := by decide +kernel
theorem dL_law_15 : decode cL_law 15 = .ok (.astore_n 2, 1) := by decide +kernel
theorem dL_law_16 : decode cL_law 16 = .ok (.iconst 0, 1) := by decide +kernel
theorem dL_law_17 : decode cL_law 17 = .ok (.istore_n 3, 1) := by decide +kernel
theorem dL_law_18 : decode cL_law 18 = .ok (.iload_n 3, 1) := by decide +kernel
theorem dL_law_19 : decode cL_law 19 = .ok (.aload_n 0, 1) := by decide +kernel
theorem dL_law_20 : decode cL_law 20 = .ok (.arraylength, 1) := by decide +kernel
theorem dL_law_21 : decode cL_law 21 = .ok (.iconst 3, 1) := by decide +kernel
theorem dL_law_22 : decode cL_law 22 = .ok (.isub, 1) := by decide +kernel
theorem dL_law_23 : decode cL_law 23 = .ok (.if_icmp .gt 773, 3) := by decide +kernel
theorem dL_law_26 : decode cL_law 26 = .ok (.aload_n 0, 1) := by decide +kernel
theorem dL_law_27 : decode cL_law 27 = .ok (.iload_n 3, 1) := by decide +kernel
theorem dL_law_28 : decode cL_law 28 = .ok (.iaload, 1) := by decide +kernel
theorem dL_law_29 : decode cL_law 29 = .ok (.bipush 31, 2) := by decide +kernel
theorem dL_law_31 : decode cL_law 31 = .ok (.iand, 1) := by decide +kernel
theorem dL_law_32 : decode cL_law 32 = .ok (.tableswitch 758 0 25 #[120, 143, 156, 179, 202, 225, 248, 281, 314, 347, 380, 403, 416, 439, 462, 485, 508, 521, 544, 577, 590, 623, 656, 689, 712, 735], 120) := by decide +kernel
theorem dL_law_152 : decode cL_law 152 = .ok (.aload_n 1, 1) := by decide +kernel
theorem dL_law_153 : decode cL_law 153 = .ok (.aload_n 0, 1) := by decide +kernel
theorem dL_law_154 : decode cL_law 154 = .ok (.iload_n 3, 1) := by decide +kernel
theorem dL_law_155 : decode cL_law 155 = .ok (.iconst 1, 1) := by decide +kernel
theorem dL_law_156 : decode cL_law 156 = .ok (.iadd, 1) := by decide +kernel
theorem dL_law_157 : decode cL_law 157 = .ok (.iaload, 1) := by decide +kernel
theorem dL_law_158 : decode cL_law 158 = .ok (.invokevirtual 13, 3) := by decide +kernel
theorem dL_law_161 : decode cL_law 161 = .ok (.aload_n 2, 1) := by decide +kernel
theorem dL_law_162 : decode cL_law 162 = .ok (.aload_n 0, 1) := by decide +kernel
theorem dL_law_163 : decode cL_law 163 = .ok (.iload_n 3, 1) := by decide +kernel
theorem dL_law_164 : decode cL_law 164 = .ok (.iconst 1, 1) := by decide +kernel
theorem dL_law_165 : decode cL_law 165 = .ok (.iadd, 1) := by decide +kernel
theorem dL_law_166 : decode cL_law 166 = .ok (.iaload, 1) := by decide +kernel
theorem dL_law_167 : decode cL_law 167 = .ok (.invokevirtual 17, 3) := by decide +kernel
theorem dL_law_170 : decode cL_law 170 = .ok (.if_icmp .eq 620, 3) := by decide +kernel
theorem dL_law_173 : decode cL_law 173 = .ok (.iconst 0, 1) := by decide +kernel
theorem dL_law_174 : decode cL_law 174 = .ok (.ireturn, 1) := by decide +kernel
theorem dL_law_175 : decode cL_law 175 = .ok (.aload_n 1, 1) := by decide +kernel
theorem dL_law_176 : decode cL_law 176 = .ok (.invokevirtual 18, 3) := by decide +kernel
theorem dL_law_179 : decode cL_law 179 = .ok (.aload_n 2, 1) := by decide +kernel
theorem dL_law_180 : decode cL_law 180 = .ok (.invokevirtual 22, 3) := by decide +kernel
theorem dL_law_183 : decode cL_law 183 = .ok (.if_icmp .eq 607, 3) := by decide +kernel
theorem dL_law_186 : decode cL_law 186 = .ok (.iconst 0, 1) := by decide +kernel
theorem dL_law_187 : decode cL_law 187 = .ok (.ireturn, 1) := by decide +kernel
theorem dL_law_188 : decode cL_law 188 = .ok (.aload_n 1, 1) := by decide +kernel
theorem dL_law_189 : decode cL_law 189 = .ok (.aload_n 0, 1) := by decide +kernel
theorem dL_law_190 : decode cL_law 190 = .ok (.iload_n 3, 1) := by decide +kernel
theorem dL_law_191 : decode cL_law 191 = .ok (.iconst 1, 1) := by decide +kernel
theorem dL_law_192 : decode cL_law 192 = .ok (.iadd, 1) := by decide +kernel
theorem dL_law_193 : decode cL_law 193 = .ok (.iaload, 1) := by decide +kernel
theorem dL_law_194 : decode cL_law 194 = .ok (.invokevirtual 23, 3) := by decide +kernel
theorem dL_law_197 : decode cL_law 197 = .ok (.aload_n 2, 1) := by decide +kernel
theorem dL_law_198 : decode cL_law 198 = .ok (.aload_n 0, 1) := by decide +kernel
theorem dL_law_199 : decode cL_law 199 = .ok (.iload_n 3, 1) := by decide +kernel
theorem dL_law_200 : decode cL_law 200 = .ok (.iconst 1, 1) := by decide +kernel
theorem dL_law_201 : decode cL_law 201 = .ok (.iadd, 1) := by decide +kernel
theorem dL_law_202 : decode cL_law 202 = .ok (.iaload, 1) := by decide +kernel
theorem dL_law_203 : decode cL_law 203 = .ok (.invokevirtual 26, 3) := by decide +kernel
theorem dL_law_206 : decode cL_law 206 = .ok (.if_icmp .eq 584, 3) := by decide +kernel
theorem dL_law_209 : decode cL_law 209 = .ok (.iconst 0, 1) := by decide +kernel
theorem dL_law_210 : decode cL_law 210 = .ok (.ireturn, 1) := by decide +kernel
theorem dL_law_211 : decode cL_law 211 = .ok (.aload_n 1, 1) := by decide +kernel
theorem dL_law_212 : decode cL_law 212 = .ok (.aload_n 0, 1) := by decide +kernel
theorem dL_law_213 : decode cL_law 213 = .ok (.iload_n 3, 1) := by decide +kernel
theorem dL_law_214 : decode cL_law 214 = .ok (.iconst 1, 1) := by decide +kernel
theorem dL_law_215 : decode cL_law 215 = .ok (.iadd, 1) := by decide +kernel
theorem dL_law_216 : decode cL_law 216 = .ok (.iaload, 1) := by decide +kernel
theorem dL_law_217 : decode cL_law 217 = .ok (.invokevirtual 27, 3) := by decide +kernel
theorem dL_law_220 : decode cL_law 220 = .ok (.aload_n 2, 1) := by decide +kernel
theorem dL_law_221 : decode cL_law 221 = .ok (.aload_n 0, 1) := by decide +kernel
theorem dL_law_222 : decode cL_law 222 = .ok (.iload_n 3, 1) := by decide +kernel
theorem dL_law_223 : decode cL_law 223 = .ok (.iconst 1, 1) := by decide +kernel
theorem dL_law_224 : decode cL_law 224 = .ok (.iadd, 1) := by decide +kernel
theorem dL_law_225 : decode cL_law 225 = .ok (.iaload, 1) := by decide +kernel
theorem dL_law_226 : decode cL_law 226 = .ok (.invokevirtual 30, 3) := by decide +kernel
theorem dL_law_229 : decode cL_law 229 = .ok (.if_icmp .eq 561, 3) := by decide +kernel
theorem dL_law_232 : decode cL_law 232 = .ok (.iconst 0, 1) := by decide +kernel
theorem dL_law_233 : decode cL_law 233 = .ok (.ireturn, 1) := by decide +kernel
theorem dL_law_234 : decode cL_law 234 = .ok (.aload_n 1, 1) := by decide +kernel
theorem dL_law_235 : decode cL_law 235 = .ok (.aload_n 0, 1) := by decide +kernel
theorem dL_law_236 : decode cL_law 236 = .ok (.iload_n 3, 1) := by decide +kernel
theorem dL_law_237 : decode cL_law 237 = .ok (.iconst 1, 1) := by decide +kernel
theorem dL_law_238 : decode cL_law 238 = .ok (.iadd, 1) := by decide +kernel
theorem dL_law_239 : decode cL_law 239 = .ok (.iaload, 1) := by decide +kernel
theorem dL_law_240 : decode cL_law 240 = .ok (.invokevirtual 31, 3) := by decide +kernel
theorem dL_law_243 : decode cL_law 243 = .ok (.aload_n 2, 1) := by decide +kernel
theorem dL_law_244 : decode cL_law 244 = .ok (.aload_n 0, 1) := by decide +kernel
theorem dL_law_245 : decode cL_law 245 = .ok (.iload_n 3, 1) := by decide +kernel
theorem dL_law_246 : decode cL_law 246 = .ok (.iconst 1, 1) := by decide +kernel
theorem dL_law_247 : decode cL_law 247 = .ok (.iadd, 1) := by decide +kernel
theorem dL_law_248 : decode cL_law 248 = .ok (.iaload, 1) := by decide +kernel
theorem dL_law_249 : decode cL_law 249 = .ok (.invokevirtual 34, 3) := by decide +kernel
theorem dL_law_252 : decode cL_law 252 = .ok (.if_icmp .eq 538, 3) := by decide +kernel
theorem dL_law_255 : decode cL_law 255 = .ok (.iconst 0, 1) := by decide +kernel
theorem dL_law_256 : decode cL_law 256 = .ok (.ireturn, 1) := by decide +kernel
theorem dL_law_257 : decode cL_law 257 = .ok (.aload_n 1, 1) := by decide +kernel
theorem dL_law_258 : decode cL_law 258 = .ok (.aload_n 0, 1) := by decide +kernel
theorem dL_law_259 : decode cL_law 259 = .ok (.iload_n 3, 1) := by decide +kernel
theorem dL_law_260 : decode cL_law 260 = .ok (.iconst 1, 1) := by decide +kernel
theorem dL_law_261 : decode cL_law 261 = .ok (.iadd, 1) := by decide +kernel
theorem dL_law_262 : decode cL_law 262 = .ok (.iaload, 1) := by decide +kernel
theorem dL_law_263 : decode cL_law 263 = .ok (.invokevirtual 35, 3) := by decide +kernel
theorem dL_law_266 : decode cL_law 266 = .ok (.aload_n 2, 1) := by decide +kernel
theorem dL_law_267 : decode cL_law 267 = .ok (.aload_n 0, 1) := by decide +kernel
theorem dL_law_268 : decode cL_law 268 = .ok (.iload_n 3, 1) := by decide +kernel
theorem dL_law_269 : decode cL_law 269 = .ok (.iconst 1, 1) := by decide +kernel
theorem dL_law_270 : decode cL_law 270 = .ok (.iadd, 1) := by decide +kernel
theorem dL_law_271 : decode cL_law 271 = .ok (.iaload, 1) := by decide +kernel
theorem dL_law_272 : decode cL_law 272 = .ok (.invokevirtual 38, 3) := by decide +kernel
theorem dL_law_275 : decode cL_law 275 = .ok (.if_icmp .eq 515, 3) := by decide +kernel
theorem dL_law_278 : decode cL_law 278 = .ok (.iconst 0, 1) := by decide +kernel
theorem dL_law_279 : decode cL_law 279 = .ok (.ireturn, 1) := by decide +kernel
theorem dL_law_280 : decode cL_law 280 = .ok (.aload_n 1, 1) := by decide +kernel
theorem dL_law_281 : decode cL_law 281 = .ok (.aload_n 0, 1) := by decide +kernel
theorem dL_law_282 : decode cL_law 282 = .ok (.iload_n 3, 1) := by decide +kernel
theorem dL_law_283 : decode cL_law 283 = .ok (.iconst 1, 1) := by decide +kernel
theorem dL_law_284 : decode cL_law 284 = .ok (.iadd, 1) := by decide +kernel
theorem dL_law_285 : decode cL_law 285 = .ok (.iaload, 1) := by decide +kernel
theorem dL_law_286 : decode cL_law 286 = .ok (.aload_n 0, 1) := by decide +kernel
theorem dL_law_287 : decode cL_law 287 = .ok (.iload_n 3, 1) := by decide +kernel
theorem dL_law_288 : decode cL_law 288 = .ok (.iconst 2, 1) := by decide +kernel
theorem dL_law_289 : decode cL_law 289 = .ok (.iadd, 1) := by decide +kernel
theorem dL_law_290 : decode cL_law 290 = .ok (.iaload, 1) := by decide +kernel
theorem dL_law_291 : decode cL_law 291 = .ok (.invokevirtual 39, 3) := by decide +kernel
theorem dL_law_294 : decode cL_law 294 = .ok (.aload_n 2, 1) := by decide +kernel
theorem dL_law_295 : decode cL_law 295 = .ok (.aload_n 0, 1) := by decide +kernel
theorem dL_law_296 : decode cL_law 296 = .ok (.iload_n 3, 1) := by decide +kernel
theorem dL_law_297 : decode cL_law 297 = .ok (.iconst 1, 1) := by decide +kernel
theorem dL_law_298 : decode cL_law 298 = .ok (.iadd, 1) := by decide +kernel
theorem dL_law_299 : decode cL_law 299 = .ok (.iaload, 1) := by decide +kernel
theorem dL_law_300 : decode cL_law 300 = .ok (.aload_n 0, 1) := by decide +kernel
theorem dL_law_301 : decode cL_law 301 = .ok (.iload_n 3, 1) := by decide +kernel
theorem dL_law_302 : decode cL_law 302 = .ok (.iconst 2, 1) := by decide +kernel
theorem dL_law_303 : decode cL_law 303 = .ok (.iadd, 1) := by decide +kernel
theorem dL_law_304 : decode cL_law 304 = .ok (.iaload, 1) := by decide +kernel
theorem dL_law_305 : decode cL_law 305 = .ok (.invokevirtual 43, 3) := by decide +kernel
theorem dL_law_308 : decode cL_law 308 = .ok (.if_icmp .eq 482, 3) := by decide +kernel
theorem dL_law_311 : decode cL_law 311 = .ok (.iconst 0, 1) := by decide +kernel
theorem dL_law_312 : decode cL_law 312 = .ok (.ireturn, 1) := by decide +kernel
theorem dL_law_313 : decode cL_law 313 = .ok (.aload_n 1, 1) := by decide +kernel
theorem dL_law_314 : decode cL_law 314 = .ok (.aload_n 0, 1) := by decide +kernel
theorem dL_law_315 : decode cL_law 315 = .ok (.iload_n 3, 1) := by decide +kernel
theorem dL_law_316 : decode cL_law 316 = .ok (.iconst 1, 1) := by decide +kernel
theorem dL_law_317 : decode cL_law 317 = .ok (.iadd, 1) := by decide +kernel
theorem dL_law_318 : decode cL_law 318 = .ok (.iaload, 1) := by decide +kernel
theorem dL_law_319 : decode cL_law 319 = .ok (.aload_n 0, 1) := by decide +kernel
theorem dL_law_320 : decode cL_law 320 = .ok (.iload_n 3, 1) := by decide +kernel
theorem dL_law_321 : decode cL_law 321 = .ok (.iconst 2, 1) := by decide +kernel
theorem dL_law_322 : decode cL_law 322 = .ok (.iadd, 1) := by decide +kernel
theorem dL_law_323 : decode cL_law 323 = .ok (.iaload, 1) := by decide +kernel
theorem dL_law_324 : decode cL_law 324 = .ok (.invokevirtual 44, 3) := by decide +kernel
theorem dL_law_327 : decode cL_law 327 = .ok (.aload_n 2, 1) := by decide +kernel
theorem dL_law_328 : decode cL_law 328 = .ok (.aload_n 0, 1) := by decide +kernel
theorem dL_law_329 : decode cL_law 329 = .ok (.iload_n 3, 1) := by decide +kernel
theorem dL_law_330 : decode cL_law 330 = .ok (.iconst 1, 1) := by decide +kernel
theorem dL_law_331 : decode cL_law 331 = .ok (.iadd, 1) := by decide +kernel
theorem dL_law_332 : decode cL_law 332 = .ok (.iaload, 1) := by decide +kernel
theorem dL_law_333 : decode cL_law 333 = .ok (.aload_n 0, 1) := by decide +kernel
theorem dL_law_334 : decode cL_law 334 = .ok (.iload_n 3, 1) := by decide +kernel
theorem dL_law_335 : decode cL_law 335 = .ok (.iconst 2, 1) := by decide +kernel
theorem dL_law_336 : decode cL_law 336 = .ok (.iadd, 1) := by decide +kernel
theorem dL_law_337 : decode cL_law 337 = .ok (.iaload, 1) := by decide +kernel
theorem dL_law_338 : decode cL_law 338 = .ok (.invokevirtual 47, 3) := by decide +kernel
theorem dL_law_341 : decode cL_law 341 = .ok (.if_icmp .eq 449, 3) := by decide +kernel
theorem dL_law_344 : decode cL_law 344 = .ok (.iconst 0, 1) := by decide +kernel
theorem dL_law_345 : decode cL_law 345 = .ok (.ireturn, 1) := by decide +kernel
theorem dL_law_346 : decode cL_law 346 = .ok (.aload_n 1, 1) := by decide +kernel
theorem dL_law_347 : decode cL_law 347 = .ok (.aload_n 0, 1) := by decide +kernel
theorem dL_law_348 : decode cL_law 348 = .ok (.iload_n 3, 1) := by decide +kernel
theorem dL_law_349 : decode cL_law 349 = .ok (.iconst 1, 1) := by decide +kernel
theorem dL_law_350 : decode cL_law 350 = .ok (.iadd, 1) := by decide +kernel
theorem dL_law_351 : decode cL_law 351 = .ok (.iaload, 1) := by decide +kernel
theorem dL_law_352 : decode cL_law 352 = .ok (.aload_n 0, 1) := by decide +kernel
theorem dL_law_353 : decode cL_law 353 = .ok (.iload_n 3, 1) := by decide +kernel
theorem dL_law_354 : decode cL_law 354 = .ok (.iconst 2, 1) := by decide +kernel
theorem dL_law_355 : decode cL_law 355 = .ok (.iadd, 1) := by decide +kernel
theorem dL_law_356 : decode cL_law 356 = .ok (.iaload, 1) := by decide +kernel
theorem dL_law_357 : decode cL_law 357 = .ok (.invokevirtual 48, 3) := by decide +kernel
theorem dL_law_360 : decode cL_law 360 = .ok (.aload_n 2, 1) := by decide +kernel
theorem dL_law_361 : decode cL_law 361 = .ok (.aload_n 0, 1) := by decide +kernel
theorem dL_law_362 : decode cL_law 362 = .ok (.iload_n 3, 1) := by decide +kernel
theorem dL_law_363 : decode cL_law 363 = .ok (.iconst 1, 1) := by decide +kernel
theorem dL_law_364 : decode cL_law 364 = .ok (.iadd, 1) := by decide +kernel
theorem dL_law_365 : decode cL_law 365 = .ok (.iaload, 1) := by decide +kernel
theorem dL_law_366 : decode cL_law 366 = .ok (.aload_n 0, 1) := by decide +kernel
theorem dL_law_367 : decode cL_law 367 = .ok (.iload_n 3, 1) := by decide +kernel
theorem dL_law_368 : decode cL_law 368 = .ok (.iconst 2, 1) := by decide +kernel
theorem dL_law_369 : decode cL_law 369 = .ok (.iadd, 1) := by decide +kernel
theorem dL_law_370 : decode cL_law 370 = .ok (.iaload, 1) := by decide +kernel
theorem dL_law_371 : decode cL_law 371 = .ok (.invokevirtual 51, 3) := by decide +kernel
theorem dL_law_374 : decode cL_law 374 = .ok (.if_icmp .eq 416, 3) := by decide +kernel
theorem dL_law_377 : decode cL_law 377 = .ok (.iconst 0, 1) := by decide +kernel
theorem dL_law_378 : decode cL_law 378 = .ok (.ireturn, 1) := by decide +kernel
theorem dL_law_379 : decode cL_law 379 = .ok (.aload_n 1, 1) := by decide +kernel
theorem dL_law_380 : decode cL_law 380 = .ok (.aload_n 0, 1) := by decide +kernel
theorem dL_law_381 : decode cL_law 381 = .ok (.iload_n 3, 1) := by decide +kernel
theorem dL_law_382 : decode cL_law 382 = .ok (.iconst 1, 1) := by decide +kernel
theorem dL_law_383 : decode cL_law 383 = .ok (.iadd, 1) := by decide +kernel
theorem dL_law_384 : decode cL_law 384 = .ok (.iaload, 1) := by decide +kernel
theorem dL_law_385 : decode cL_law 385 = .ok (.aload_n 0, 1) := by decide +kernel
theorem dL_law_386 : decode cL_law 386 = .ok (.iload_n 3, 1) := by decide +kernel
theorem dL_law_387 : decode cL_law 387 = .ok (.iconst 2, 1) := by decide +kernel
theorem dL_law_388 : decode cL_law 388 = .ok (.iadd, 1) := by decide +kernel
theorem dL_law_389 : decode cL_law 389 = .ok (.iaload, 1) := by decide +kernel
theorem dL_law_390 : decode cL_law 390 = .ok (.invokevirtual 52, 3) := by decide +kernel
theorem dL_law_393 : decode cL_law 393 = .ok (.aload_n 2, 1) := by decide +kernel
theorem dL_law_394 : decode cL_law 394 = .ok (.aload_n 0, 1) := by decide +kernel
theorem dL_law_395 : decode cL_law 395 = .ok (.iload_n 3, 1) := by decide +kernel
theorem dL_law_396 : decode cL_law 396 = .ok (.iconst 1, 1) := by decide +kernel
theorem dL_law_397 : decode cL_law 397 = .ok (.iadd, 1) := by decide +kernel
theorem dL_law_398 : decode cL_law 398 = .ok (.iaload, 1) := by decide +kernel
theorem dL_law_399 : decode cL_law 399 = .ok (.aload_n 0, 1) := by decide +kernel
theorem dL_law_400 : decode cL_law 400 = .ok (.iload_n 3, 1) := by decide +kernel
theorem dL_law_401 : decode cL_law 401 = .ok (.iconst 2, 1) := by decide +kernel
theorem dL_law_402 : decode cL_law 402 = .ok (.iadd, 1) := by decide +kernel
theorem dL_law_403 : decode cL_law 403 = .ok (.iaload, 1) := by decide +kernel
theorem dL_law_404 : decode cL_law 404 = .ok (.invokevirtual 55, 3) := by decide +kernel
theorem dL_law_407 : decode cL_law 407 = .ok (.if_icmp .eq 383, 3) := by decide +kernel
theorem dL_law_410 : decode cL_law 410 = .ok (.iconst 0, 1) := by decide +kernel
theorem dL_law_411 : decode cL_law 411 = .ok (.ireturn, 1) := by decide +kernel
theorem dL_law_412 : decode cL_law 412 = .ok (.aload_n 1, 1) := by decide +kernel
theorem dL_law_413 : decode cL_law 413 = .ok (.aload_n 0, 1) := by decide +kernel
theorem dL_law_414 : decode cL_law 414 = .ok (.iload_n 3, 1) := by decide +kernel
theorem dL_law_415 : decode cL_law 415 = .ok (.iconst 1, 1) := by decide +kernel
theorem dL_law_416 : decode cL_law 416 = .ok (.iadd, 1) := by decide +kernel
theorem dL_law_417 : decode cL_law 417 = .ok (.iaload, 1) := by decide +kernel
theorem dL_law_418 : decode cL_law 418 = .ok (.invokevirtual 56, 3) := by decide +kernel
theorem dL_law_421 : decode cL_law 421 = .ok (.aload_n 2, 1) := by decide +kernel
theorem dL_law_422 : decode cL_law 422 = .ok (.aload_n 0, 1) := by decide +kernel
theorem dL_law_423 : decode cL_law 423 = .ok (.iload_n 3, 1) := by decide +kernel
theorem dL_law_424 : decode cL_law 424 = .ok (.iconst 1, 1) := by decide +kernel
theorem dL_law_425 : decode cL_law 425 = .ok (.iadd, 1) := by decide +kernel
theorem dL_law_426 : decode cL_law 426 = .ok (.iaload, 1) := by decide +kernel
theorem dL_law_427 : decode cL_law 427 = .ok (.invokevirtual 59, 3) := by decide +kernel
theorem dL_law_430 : decode cL_law 430 = .ok (.if_icmp .eq 360, 3) := by decide +kernel
theorem dL_law_433 : decode cL_law 433 = .ok (.iconst 0, 1) := by decide +kernel
theorem dL_law_434 : decode cL_law 434 = .ok (.ireturn, 1) := by decide +kernel
theorem dL_law_435 : decode cL_law 435 = .ok (.aload_n 1, 1) := by decide +kernel
theorem dL_law_436 : decode cL_law 436 = .ok (.invokevirtual 60, 3) := by decide +kernel
theorem dL_law_439 : decode cL_law 439 = .ok (.aload_n 2, 1) := by decide +kernel
theorem dL_law_440 : decode cL_law 440 = .ok (.invokevirtual 63, 3) := by decide +kernel
theorem dL_law_443 : decode cL_law 443 = .ok (.if_icmp .eq 347, 3) := by decide +kernel
theorem dL_law_446 : decode cL_law 446 = .ok (.iconst 0, 1) := by decide +kernel
theorem dL_law_447 : decode cL_law 447 = .ok (.ireturn, 1) := by decide +kernel
theorem dL_law_448 : decode cL_law 448 = .ok (.aload_n 1, 1) := by decide +kernel
theorem dL_law_449 : decode cL_law 449 = .ok (.aload_n 0, 1) := by decide +kernel
theorem dL_law_450 : decode cL_law 450 = .ok (.iload_n 3, 1) := by decide +kernel
theorem dL_law_451 : decode cL_law 451 = .ok (.iconst 1, 1) := by decide +kernel
theorem dL_law_452 : decode cL_law 452 = .ok (.iadd, 1) := by decide +kernel
theorem dL_law_453 : decode cL_law 453 = .ok (.iaload, 1) := by decide +kernel
theorem dL_law_454 : decode cL_law 454 = .ok (.invokevirtual 64, 3) := by decide +kernel
theorem dL_law_457 : decode cL_law 457 = .ok (.aload_n 2, 1) := by decide +kernel
theorem dL_law_458 : decode cL_law 458 = .ok (.aload_n 0, 1) := by decide +kernel
theorem dL_law_459 : decode cL_law 459 = .ok (.iload_n 3, 1) := by decide +kernel
theorem dL_law_460 : decode cL_law 460 = .ok (.iconst 1, 1) := by decide +kernel
theorem dL_law_461 : decode cL_law 461 = .ok (.iadd, 1) := by decide +kernel
theorem dL_law_462 : decode cL_law 462 = .ok (.iaload, 1) := by decide +kernel
theorem dL_law_463 : decode cL_law 463 = .ok (.invokevirtual 67, 3) := by decide +kernel
theorem dL_law_466 : decode cL_law 466 = .ok (.if_icmp .eq 324, 3) := by decide +kernel
theorem dL_law_469 : decode cL_law 469 = .ok (.iconst 0, 1) := by decide +kernel
theorem dL_law_470 : decode cL_law 470 = .ok (.ireturn, 1) := by decide +kernel
theorem dL_law_471 : decode cL_law 471 = .ok (.aload_n 1, 1) := by decide +kernel
theorem dL_law_472 : decode cL_law 472 = .ok (.aload_n 0, 1) := by decide +kernel
theorem dL_law_473 : decode cL_law 473 = .ok (.iload_n 3, 1) := by decide +kernel
theorem dL_law_474 : decode cL_law 474 = .ok (.iconst 1, 1) := by decide +kernel
theorem dL_law_475 : decode cL_law 475 = .ok (.iadd, 1) := by decide +kernel
theorem dL_law_476 : decode cL_law 476 = .ok (.iaload, 1) := by decide +kernel
theorem dL_law_477 : decode cL_law 477 = .ok (.invokevirtual 68, 3) := by decide +kernel
theorem dL_law_480 : decode cL_law 480 = .ok (.aload_n 2, 1) := by decide +kernel
theorem dL_law_481 : decode cL_law 481 = .ok (.aload_n 0, 1) := by decide +kernel
theorem dL_law_482 : decode cL_law 482 = .ok (.iload_n 3, 1) := by decide +kernel
theorem dL_law_483 : decode cL_law 483 = .ok (.iconst 1, 1) := by decide +kernel
theorem dL_law_484 : decode cL_law 484 = .ok (.iadd, 1) := by decide +kernel
theorem dL_law_485 : decode cL_law 485 = .ok (.iaload, 1) := by decide +kernel
theorem dL_law_486 : decode cL_law 486 = .ok (.invokevirtual 71, 3) := by decide +kernel
theorem dL_law_489 : decode cL_law 489 = .ok (.if_icmp .eq 301, 3) := by decide +kernel
theorem dL_law_492 : decode cL_law 492 = .ok (.iconst 0, 1) := by decide +kernel
theorem dL_law_493 : decode cL_law 493 = .ok (.ireturn, 1) := by decide +kernel
theorem dL_law_494 : decode cL_law 494 = .ok (.aload_n 1, 1) := by decide +kernel
theorem dL_law_495 : decode cL_law 495 = .ok (.aload_n 0, 1) := by decide +kernel
theorem dL_law_496 : decode cL_law 496 = .ok (.iload_n 3, 1) := by decide +kernel
theorem dL_law_497 : decode cL_law 497 = .ok (.iconst 1, 1) := by decide +kernel
theorem dL_law_498 : decode cL_law 498 = .ok (.iadd, 1) := by decide +kernel
theorem dL_law_499 : decode cL_law 499 = .ok (.iaload, 1) := by decide +kernel
theorem dL_law_500 : decode cL_law 500 = .ok (.invokevirtual 72, 3) := by decide +kernel
theorem dL_law_503 : decode cL_law 503 = .ok (.aload_n 2, 1) := by decide +kernel
theorem dL_law_504 : decode cL_law 504 = .ok (.aload_n 0, 1) := by decide +kernel
theorem dL_law_505 : decode cL_law 505 = .ok (.iload_n 3, 1) := by decide +kernel
theorem dL_law_506 : decode cL_law 506 = .ok (.iconst 1, 1) := by decide +kernel
theorem dL_law_507 : decode cL_law 507 = .ok (.iadd, 1) := by decide +kernel
theorem dL_law_508 : decode cL_law 508 = .ok (.iaload, 1) := by decide +kernel
theorem dL_law_509 : decode cL_law 509 = .ok (.invokevirtual 75, 3) := by decide +kernel
theorem dL_law_512 : decode cL_law 512 = .ok (.if_icmp .eq 278, 3) := by decide +kernel
theorem dL_law_515 : decode cL_law 515 = .ok (.iconst 0, 1) := by decide +kernel
theorem dL_law_516 : decode cL_law 516 = .ok (.ireturn, 1) := by decide +kernel
theorem dL_law_517 : decode cL_law 517 = .ok (.aload_n 1, 1) := by decide +kernel
theorem dL_law_518 : decode cL_law 518 = .ok (.aload_n 0, 1) := by decide +kernel
theorem dL_law_519 : decode cL_law 519 = .ok (.iload_n 3, 1) := by decide +kernel
theorem dL_law_520 : decode cL_law 520 = .ok (.iconst 1, 1) := by decide +kernel
theorem dL_law_521 : decode cL_law 521 = .ok (.iadd, 1) := by decide +kernel
theorem dL_law_522 : decode cL_law 522 = .ok (.iaload, 1) := by decide +kernel
theorem dL_law_523 : decode cL_law 523 = .ok (.invokevirtual 76, 3) := by decide +kernel
theorem dL_law_526 : decode cL_law 526 = .ok (.aload_n 2, 1) := by decide +kernel
theorem dL_law_527 : decode cL_law 527 = .ok (.aload_n 0, 1) := by decide +kernel
theorem dL_law_528 : decode cL_law 528 = .ok (.iload_n 3, 1) := by decide +kernel
theorem dL_law_529 : decode cL_law 529 = .ok (.iconst 1, 1) := by decide +kernel
theorem dL_law_530 : decode cL_law 530 = .ok (.iadd, 1) := by decide +kernel
theorem dL_law_531 : decode cL_law 531 = .ok (.iaload, 1) := by decide +kernel
theorem dL_law_532 : decode cL_law 532 = .ok (.invokevirtual 79, 3) := by decide +kernel
theorem dL_law_535 : decode cL_law 535 = .ok (.if_icmp .eq 255, 3) := by decide +kernel
theorem dL_law_538 : decode cL_law 538 = .ok (.iconst 0, 1) := by decide +kernel
theorem dL_law_539 : decode cL_law 539 = .ok (.ireturn, 1) := by decide +kernel
theorem dL_law_540 : decode cL_law 540 = .ok (.aload_n 1, 1) := by decide +kernel
theorem dL_law_541 : decode cL_law 541 = .ok (.invokevirtual 80, 3) := by decide +kernel
theorem dL_law_544 : decode cL_law 544 = .ok (.aload_n 2, 1) := by decide +kernel
theorem dL_law_545 : decode cL_law 545 = .ok (.invokevirtual 83, 3) := by decide +kernel
theorem dL_law_548 : decode cL_law 548 = .ok (.if_icmp .eq 242, 3) := by decide +kernel
theorem dL_law_551 : decode cL_law 551 = .ok (.iconst 0, 1) := by decide +kernel
theorem dL_law_552 : decode cL_law 552 = .ok (.ireturn, 1) := by decide +kernel
theorem dL_law_553 : decode cL_law 553 = .ok (.aload_n 1, 1) := by decide +kernel
theorem dL_law_554 : decode cL_law 554 = .ok (.aload_n 0, 1) := by decide +kernel
theorem dL_law_555 : decode cL_law 555 = .ok (.iload_n 3, 1) := by decide +kernel
theorem dL_law_556 : decode cL_law 556 = .ok (.iconst 1, 1) := by decide +kernel
theorem dL_law_557 : decode cL_law 557 = .ok (.iadd, 1) := by decide +kernel
theorem dL_law_558 : decode cL_law 558 = .ok (.iaload, 1) := by decide +kernel
theorem dL_law_559 : decode cL_law 559 = .ok (.invokevirtual 84, 3) := by decide +kernel
theorem dL_law_562 : decode cL_law 562 = .ok (.aload_n 2, 1) := by decide +kernel
theorem dL_law_563 : decode cL_law 563 = .ok (.aload_n 0, 1) := by decide +kernel
theorem dL_law_564 : decode cL_law 564 = .ok (.iload_n 3, 1) := by decide +kernel
theorem dL_law_565 : decode cL_law 565 = .ok (.iconst 1, 1) := by decide +kernel
theorem dL_law_566 : decode cL_law 566 = .ok (.iadd, 1) := by decide +kernel
theorem dL_law_567 : decode cL_law 567 = .ok (.iaload, 1) := by decide +kernel
theorem dL_law_568 : decode cL_law 568 = .ok (.invokevirtual 87, 3) := by decide +kernel
theorem dL_law_571 : decode cL_law 571 = .ok (.if_icmp .eq 219, 3) := by decide +kernel
theorem dL_law_574 : decode cL_law 574 = .ok (.iconst 0, 1) := by decide +kernel
theorem dL_law_575 : decode cL_law 575 = .ok (.ireturn, 1) := by decide +kernel
theorem dL_law_576 : decode cL_law 576 = .ok (.aload_n 1, 1) := by decide +kernel
theorem dL_law_577 : decode cL_law 577 = .ok (.aload_n 0, 1) := by decide +kernel
theorem dL_law_578 : decode cL_law 578 = .ok (.iload_n 3, 1) := by decide +kernel
theorem dL_law_579 : decode cL_law 579 = .ok (.iconst 1, 1) := by decide +kernel
theorem dL_law_580 : decode cL_law 580 = .ok (.iadd, 1) := by decide +kernel
theorem dL_law_581 : decode cL_law 581 = .ok (.iaload, 1) := by decide +kernel
theorem dL_law_582 : decode cL_law 582 = .ok (.aload_n 0, 1) := by decide +kernel
theorem dL_law_583 : decode cL_law 583 = .ok (.iload_n 3, 1) := by decide +kernel
theorem dL_law_584 : decode cL_law 584 = .ok (.iconst 2, 1) := by decide +kernel
theorem dL_law_585 : decode cL_law 585 = .ok (.iadd, 1) := by decide +kernel
theorem dL_law_586 : decode cL_law 586 = .ok (.iaload, 1) := by decide +kernel
theorem dL_law_587 : decode cL_law 587 = .ok (.invokevirtual 88, 3) := by decide +kernel
theorem dL_law_590 : decode cL_law 590 = .ok (.aload_n 2, 1) := by decide +kernel
theorem dL_law_591 : decode cL_law 591 = .ok (.aload_n 0, 1) := by decide +kernel
theorem dL_law_592 : decode cL_law 592 = .ok (.iload_n 3, 1) := by decide +kernel
theorem dL_law_593 : decode cL_law 593 = .ok (.iconst 1, 1) := by decide +kernel
theorem dL_law_594 : decode cL_law 594 = .ok (.iadd, 1) := by decide +kernel
theorem dL_law_595 : decode cL_law 595 = .ok (.iaload, 1) := by decide +kernel
theorem dL_law_596 : decode cL_law 596 = .ok (.aload_n 0, 1) := by decide +kernel
theorem dL_law_597 : decode cL_law 597 = .ok (.iload_n 3, 1) := by decide +kernel
theorem dL_law_598 : decode cL_law 598 = .ok (.iconst 2, 1) := by decide +kernel
theorem dL_law_599 : decode cL_law 599 = .ok (.iadd, 1) := by decide +kernel
theorem dL_law_600 : decode cL_law 600 = .ok (.iaload, 1) := by decide +kernel
theorem dL_law_601 : decode cL_law 601 = .ok (.invokevirtual 91, 3) := by decide +kernel
theorem dL_law_604 : decode cL_law 604 = .ok (.if_icmp .eq 186, 3) := by decide +kernel
theorem dL_law_607 : decode cL_law 607 = .ok (.iconst 0, 1) := by decide +kernel
theorem dL_law_608 : decode cL_law 608 = .ok (.ireturn, 1) := by decide +kernel
theorem dL_law_609 : decode cL_law 609 = .ok (.aload_n 1, 1) := by decide +kernel
theorem dL_law_610 : decode cL_law 610 = .ok (.invokevirtual 92, 3) := by decide +kernel
theorem dL_law_613 : decode cL_law 613 = .ok (.aload_n 2, 1) := by decide +kernel
theorem dL_law_614 : decode cL_law 614 = .ok (.invokevirtual 95, 3) := by decide +kernel
theorem dL_law_617 : decode cL_law 617 = .ok (.if_icmp .eq 173, 3) := by decide +kernel
theorem dL_law_620 : decode cL_law 620 = .ok (.iconst 0, 1) := by decide +kernel
theorem dL_law_621 : decode cL_law 621 = .ok (.ireturn, 1) := by decide +kernel
theorem dL_law_622 : decode cL_law 622 = .ok (.aload_n 1, 1) := by decide +kernel
theorem dL_law_623 : decode cL_law 623 = .ok (.aload_n 0, 1) := by decide +kernel
theorem dL_law_624 : decode cL_law 624 = .ok (.iload_n 3, 1) := by decide +kernel
theorem dL_law_625 : decode cL_law 625 = .ok (.iconst 1, 1) := by decide +kernel
theorem dL_law_626 : decode cL_law 626 = .ok (.iadd, 1) := by decide +kernel
theorem dL_law_627 : decode cL_law 627 = .ok (.iaload, 1) := by decide +kernel
theorem dL_law_628 : decode cL_law 628 = .ok (.aload_n 0, 1) := by decide +kernel
theorem dL_law_629 : decode cL_law 629 = .ok (.iload_n 3, 1) := by decide +kernel
theorem dL_law_630 : decode cL_law 630 = .ok (.iconst 2, 1) := by decide +kernel
theorem dL_law_631 : decode cL_law 631 = .ok (.iadd, 1) := by decide +kernel
theorem dL_law_632 : decode cL_law 632 = .ok (.iaload, 1) := by decide +kernel
theorem dL_law_633 : decode cL_law 633 = .ok (.invokevirtual 96, 3) := by decide +kernel
theorem dL_law_636 : decode cL_law 636 = .ok (.aload_n 2, 1) := by decide +kernel
theorem dL_law_637 : decode cL_law 637 = .ok (.aload_n 0, 1) := by decide +kernel
theorem dL_law_638 : decode cL_law 638 = .ok (.iload_n 3, 1) := by decide +kernel
theorem dL_law_639 : decode cL_law 639 = .ok (.iconst 1, 1) := by decide +kernel
theorem dL_law_640 : decode cL_law 640 = .ok (.iadd, 1) := by decide +kernel
theorem dL_law_641 : decode cL_law 641 = .ok (.iaload, 1) := by decide +kernel
theorem dL_law_642 : decode cL_law 642 = .ok (.aload_n 0, 1) := by decide +kernel
theorem dL_law_643 : decode cL_law 643 = .ok (.iload_n 3, 1) := by decide +kernel
theorem dL_law_644 : decode cL_law 644 = .ok (.iconst 2, 1) := by decide +kernel
theorem dL_law_645 : decode cL_law 645 = .ok (.iadd, 1) := by decide +kernel
theorem dL_law_646 : decode cL_law 646 = .ok (.iaload, 1) := by decide +kernel
theorem dL_law_647 : decode cL_law 647 = .ok (.invokevirtual 99, 3) := by decide +kernel
theorem dL_law_650 : decode cL_law 650 = .ok (.if_icmp .eq 140, 3) := by decide +kernel
theorem dL_law_653 : decode cL_law 653 = .ok (.iconst 0, 1) := by decide +kernel
theorem dL_law_654 : decode cL_law 654 = .ok (.ireturn, 1) := by decide +kernel
theorem dL_law_655 : decode cL_law 655 = .ok (.aload_n 1, 1) := by decide +kernel
theorem dL_law_656 : decode cL_law 656 = .ok (.aload_n 0, 1) := by decide +kernel
theorem dL_law_657 : decode cL_law 657 = .ok (.iload_n 3, 1) := by decide +kernel
theorem dL_law_658 : decode cL_law 658 = .ok (.iconst 1, 1) := by decide +kernel
theorem dL_law_659 : decode cL_law 659 = .ok (.iadd, 1) := by decide +kernel
theorem dL_law_660 : decode cL_law 660 = .ok (.iaload, 1) := by decide +kernel
theorem dL_law_661 : decode cL_law 661 = .ok (.aload_n 0, 1) := by decide +kernel
theorem dL_law_662 : decode cL_law 662 = .ok (.iload_n 3, 1) := by decide +kernel
theorem dL_law_663 : decode cL_law 663 = .ok (.iconst 2, 1) := by decide +kernel
theorem dL_law_664 : decode cL_law 664 = .ok (.iadd, 1) := by decide +kernel
theorem dL_law_665 : decode cL_law 665 = .ok (.iaload, 1) := by decide +kernel
theorem dL_law_666 : decode cL_law 666 = .ok (.invokevirtual 100, 3) := by decide +kernel
theorem dL_law_669 : decode cL_law 669 = .ok (.aload_n 2, 1) := by decide +kernel
theorem dL_law_670 : decode cL_law 670 = .ok (.aload_n 0, 1) := by decide +kernel
theorem dL_law_671 : decode cL_law 671 = .ok (.iload_n 3, 1) := by decide +kernel
theorem dL_law_672 : decode cL_law 672 = .ok (.iconst 1, 1) := by decide +kernel
theorem dL_law_673 : decode cL_law 673 = .ok (.iadd, 1) := by decide +kernel
theorem dL_law_674 : decode cL_law 674 = .ok (.iaload, 1) := by decide +kernel
theorem dL_law_675 : decode cL_law 675 = .ok (.aload_n 0, 1) := by decide +kernel
theorem dL_law_676 : decode cL_law 676 = .ok (.iload_n 3, 1) := by decide +kernel
theorem dL_law_677 : decode cL_law 677 = .ok (.iconst 2, 1) := by decide +kernel
theorem dL_law_678 : decode cL_law 678 = .ok (.iadd, 1) := by decide +kernel
theorem dL_law_679 : decode cL_law 679 = .ok (.iaload, 1) := by decide +kernel
theorem dL_law_680 : decode cL_law 680 = .ok (.invokevirtual 103, 3) := by decide +kernel
theorem dL_law_683 : decode cL_law 683 = .ok (.if_icmp .eq 107, 3) := by decide +kernel
theorem dL_law_686 : decode cL_law 686 = .ok (.iconst 0, 1) := by decide +kernel
theorem dL_law_687 : decode cL_law 687 = .ok (.ireturn, 1) := by decide +kernel
theorem dL_law_688 : decode cL_law 688 = .ok (.aload_n 1, 1) := by decide +kernel
theorem dL_law_689 : decode cL_law 689 = .ok (.aload_n 0, 1) := by decide +kernel
theorem dL_law_690 : decode cL_law 690 = .ok (.iload_n 3, 1) := by decide +kernel
theorem dL_law_691 : decode cL_law 691 = .ok (.iconst 1, 1) := by decide +kernel
theorem dL_law_692 : decode cL_law 692 = .ok (.iadd, 1) := by decide +kernel
theorem dL_law_693 : decode cL_law 693 = .ok (.iaload, 1) := by decide +kernel
theorem dL_law_694 : decode cL_law 694 = .ok (.aload_n 0, 1) := by decide +kernel
theorem dL_law_695 : decode cL_law 695 = .ok (.iload_n 3, 1) := by decide +kernel
theorem dL_law_696 : decode cL_law 696 = .ok (.iconst 2, 1) := by decide +kernel
theorem dL_law_697 : decode cL_law 697 = .ok (.iadd, 1) := by decide +kernel
theorem dL_law_698 : decode cL_law 698 = .ok (.iaload, 1) := by decide +kernel
theorem dL_law_699 : decode cL_law 699 = .ok (.invokevirtual 104, 3) := by decide +kernel
theorem dL_law_702 : decode cL_law 702 = .ok (.aload_n 2, 1) := by decide +kernel
theorem dL_law_703 : decode cL_law 703 = .ok (.aload_n 0, 1) := by decide +kernel
theorem dL_law_704 : decode cL_law 704 = .ok (.iload_n 3, 1) := by decide +kernel
theorem dL_law_705 : decode cL_law 705 = .ok (.iconst 1, 1) := by decide +kernel
theorem dL_law_706 : decode cL_law 706 = .ok (.iadd, 1) := by decide +kernel
theorem dL_law_707 : decode cL_law 707 = .ok (.iaload, 1) := by decide +kernel
theorem dL_law_708 : decode cL_law 708 = .ok (.aload_n 0, 1) := by decide +kernel
theorem dL_law_709 : decode cL_law 709 = .ok (.iload_n 3, 1) := by decide +kernel
theorem dL_law_710 : decode cL_law 710 = .ok (.iconst 2, 1) := by decide +kernel
theorem dL_law_711 : decode cL_law 711 = .ok (.iadd, 1) := by decide +kernel
theorem dL_law_712 : decode cL_law 712 = .ok (.iaload, 1) := by decide +kernel
theorem dL_law_713 : decode cL_law 713 = .ok (.invokevirtual 107, 3) := by decide +kernel
theorem dL_law_716 : decode cL_law 716 = .ok (.if_icmp .eq 74, 3) := by decide +kernel
theorem dL_law_719 : decode cL_law 719 = .ok (.iconst 0, 1) := by decide +kernel
theorem dL_law_720 : decode cL_law 720 = .ok (.ireturn, 1) := by decide +kernel
theorem dL_law_721 : decode cL_law 721 = .ok (.aload_n 1, 1) := by decide +kernel
theorem dL_law_722 : decode cL_law 722 = .ok (.aload_n 0, 1) := by decide +kernel
theorem dL_law_723 : decode cL_law 723 = .ok (.iload_n 3, 1) := by decide +kernel
theorem dL_law_724 : decode cL_law 724 = .ok (.iconst 1, 1) := by decide +kernel
theorem dL_law_725 : decode cL_law 725 = .ok (.iadd, 1) := by decide +kernel
theorem dL_law_726 : decode cL_law 726 = .ok (.iaload, 1) := by decide +kernel
theorem dL_law_727 : decode cL_law 727 = .ok (.invokevirtual 108, 3) := by decide +kernel
theorem dL_law_730 : decode cL_law 730 = .ok (.aload_n 2, 1) := by decide +kernel
theorem dL_law_731 : decode cL_law 731 = .ok (.aload_n 0, 1) := by decide +kernel
theorem dL_law_732 : decode cL_law 732 = .ok (.iload_n 3, 1) := by decide +kernel
theorem dL_law_733 : decode cL_law 733 = .ok (.iconst 1, 1) := by decide +kernel
theorem dL_law_734 : decode cL_law 734 = .ok (.iadd, 1) := by decide +kernel
theorem dL_law_735 : decode cL_law 735 = .ok (.iaload, 1) := by decide +kernel
theorem dL_law_736 : decode cL_law 736 = .ok (.invokevirtual 111, 3) := by decide +kernel
theorem dL_law_739 : decode cL_law 739 = .ok (.if_icmp .eq 51, 3) := by decide +kernel
theorem dL_law_742 : decode cL_law 742 = .ok (.iconst 0, 1) := by decide +kernel
theorem dL_law_743 : decode cL_law 743 = .ok (.ireturn, 1) := by decide +kernel
theorem dL_law_744 : decode cL_law 744 = .ok (.aload_n 1, 1) := by decide +kernel
theorem dL_law_745 : decode cL_law 745 = .ok (.aload_n 0, 1) := by decide +kernel
theorem dL_law_746 : decode cL_law 746 = .ok (.iload_n 3, 1) := by decide +kernel
theorem dL_law_747 : decode cL_law 747 = .ok (.iconst 1, 1) := by decide +kernel
theorem dL_law_748 : decode cL_law 748 = .ok (.iadd, 1) := by decide +kernel
theorem dL_law_749 : decode cL_law 749 = .ok (.iaload, 1) := by decide +kernel
theorem dL_law_750 : decode cL_law 750 = .ok (.invokevirtual 112, 3) := by decide +kernel
theorem dL_law_753 : decode cL_law 753 = .ok (.aload_n 2, 1) := by decide +kernel
theorem dL_law_754 : decode cL_law 754 = .ok (.aload_n 0, 1) := by decide +kernel
theorem dL_law_755 : decode cL_law 755 = .ok (.iload_n 3, 1) := by decide +kernel
theorem dL_law_756 : decode cL_law 756 = .ok (.iconst 1, 1) := by decide +kernel
theorem dL_law_757 : decode cL_law 757 = .ok (.iadd, 1) := by decide +kernel
theorem dL_law_758 : decode cL_law 758 = .ok (.iaload, 1) := by decide +kernel
theorem dL_law_759 : decode cL_law 759 = .ok (.invokevirtual 115, 3) := by decide +kernel
theorem dL_law_762 : decode cL_law 762 = .ok (.if_icmp .eq 28, 3) := by decide +kernel
theorem dL_law_765 : decode cL_law 765 = .ok (.iconst 0, 1) := by decide +kernel
theorem dL_law_766 : decode cL_law 766 = .ok (.ireturn, 1) := by decide +kernel
theorem dL_law_767 : decode cL_law 767 = .ok (.aload_n 1, 1) := by decide +kernel
theorem dL_law_768 : decode cL_law 768 = .ok (.aload_n 0, 1) := by decide +kernel
theorem dL_law_769 : decode cL_law 769 = .ok (.iload_n 3, 1) := by decide +kernel
theorem dL_law_770 : decode cL_law 770 = .ok (.iconst 1, 1) := by decide +kernel
theorem dL_law_771 : decode cL_law 771 = .ok (.iadd, 1) := by decide +kernel
theorem dL_law_772 : decode cL_law 772 = .ok (.iaload, 1) := by decide +kernel
theorem dL_law_773 : decode cL_law 773 = .ok (.invokevirtual 116, 3) := by decide +kernel
theorem dL_law_776 : decode cL_law 776 = .ok (.aload_n 2, 1) := by decide +kernel
theorem dL_law_777 : decode cL_law 777 = .ok (.aload_n 0, 1) := by decide +kernel
theorem dL_law_778 : decode cL_law 778 = .ok (.iload_n 3, 1) := by decide +kernel
theorem dL_law_779 : decode cL_law 779 = .ok (.iconst 1, 1) := by decide +kernel
theorem dL_law_780 : decode cL_law 780 = .ok (.iadd, 1) := by decide +kernel
theorem dL_law_781 : decode cL_law 781 = .ok (.iaload, 1) := by decide +kernel
theorem dL_law_782 : decode cL_law 782 = .ok (.invokevirtual 119, 3) := by decide +kernel
theorem dL_law_785 : decode cL_law 785 = .ok (.if_icmp .eq 5, 3) := by decide +kernel
theorem dL_law_788 : decode cL_law 788 = .ok (.iconst 0, 1) := by decide +kernel
theorem dL_law_789 : decode cL_law 789 = .ok (.ireturn, 1) := by decide +kernel
theorem dL_law_790 : decode cL_law 790 = .ok (.iinc 3 3, 3) := by decide +kernel
theorem dL_law_793 : decode cL_law 793 = .ok (.goto (-775), 3) := by decide +kernel
theorem dL_law_796 : decode cL_law 796 = .ok (.iconst 1, 1) := by decide +kernel
theorem dL_law_797 : decode cL_law 797 = .ok (.ireturn, 1) := by decide +kernel
