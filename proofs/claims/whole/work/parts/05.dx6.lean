theorem dX6_init_0 : decode cX6_init 0 = .ok (.aload_n 0, 1) := by decide +kernel
theorem dX6_init_1 : decode cX6_init 1 = .ok (.invokespecial 1, 3) := by decide +kernel
theorem dX6_init_4 : decode cX6_init 4 = .ok (.aload_n 0, 1) := by decide +kernel
theorem dX6_init_5 : decode cX6_init 5 = .ok (.bipush 6, 2) := by decide +kernel
theorem dX6_init_7 : decode cX6_init 7 = .ok (.newarray .int, 2) := by decide +kernel
theorem dX6_init_9 : decode cX6_init 9 = .ok (.putfield 7, 3) := by decide +kernel
theorem dX6_init_12 : decode cX6_init 12 = .ok (.aload_n 0, 1) := by decide +kernel
theorem dX6_init_13 : decode cX6_init 13 = .ok (.sipush 240, 3) := by decide +kernel
theorem dX6_init_16 : decode cX6_init 16 = .ok (.newarray .int, 2) := by decide +kernel
theorem dX6_init_18 : decode cX6_init 18 = .ok (.putfield 13, 3) := by decide +kernel
theorem dX6_init_21 : decode cX6_init 21 = .ok (.aload_n 0, 1) := by decide +kernel
theorem dX6_init_22 : decode cX6_init 22 = .ok (.iconst 4, 1) := by decide +kernel
theorem dX6_init_23 : decode cX6_init 23 = .ok (.newarray .int, 2) := by decide +kernel
theorem dX6_init_25 : decode cX6_init 25 = .ok (.putfield 16, 3) := by decide +kernel
theorem dX6_init_28 : decode cX6_init 28 = .ok (.aload_n 0, 1) := by decide +kernel
theorem dX6_init_29 : decode cX6_init 29 = .ok (.sipush 240, 3) := by decide +kernel
theorem dX6_init_32 : decode cX6_init 32 = .ok (.newarray .int, 2) := by decide +kernel
theorem dX6_init_34 : decode cX6_init 34 = .ok (.putfield 19, 3) := by decide +kernel
theorem dX6_init_37 : decode cX6_init 37 = .ok (.aload_n 0, 1) := by decide +kernel
theorem dX6_init_38 : decode cX6_init 38 = .ok (.bipush 6, 2) := by decide +kernel
theorem dX6_init_40 : decode cX6_init 40 = .ok (.newarray .int, 2) := by decide +kernel
theorem dX6_init_42 : decode cX6_init 42 = .ok (.putfield 22, 3) := by decide +kernel
theorem dX6_init_45 : decode cX6_init 45 = .ok (.aload_n 0, 1) := by decide +kernel
theorem dX6_init_46 : decode cX6_init 46 = .ok (.lconst 1, 1) := by decide +kernel
theorem dX6_init_47 : decode cX6_init 47 = .ok (.putfield 25, 3) := by decide +kernel
theorem dX6_init_50 : decode cX6_init 50 = .ok (.aload_n 0, 1) := by decide +kernel
theorem dX6_init_51 : decode cX6_init 51 = .ok (.bipush 18, 2) := by decide +kernel
theorem dX6_init_53 : decode cX6_init 53 = .ok (.newarray .int, 2) := by decide +kernel
theorem dX6_init_55 : decode cX6_init 55 = .ok (.putfield 29, 3) := by decide +kernel
theorem dX6_init_58 : decode cX6_init 58 = .ok (.aload_n 0, 1) := by decide +kernel
theorem dX6_init_59 : decode cX6_init 59 = .ok (.bipush 6, 2) := by decide +kernel
theorem dX6_init_61 : decode cX6_init 61 = .ok (.newarray .int, 2) := by decide +kernel
theorem dX6_init_63 : decode cX6_init 63 = .ok (.putfield 32, 3) := by decide +kernel
theorem dX6_init_66 : decode cX6_init 66 = .ok (.aload_n 0, 1) := by decide +kernel
theorem dX6_init_67 : decode cX6_init 67 = .ok (.bipush 6, 2) := by decide +kernel
theorem dX6_init_69 : decode cX6_init 69 = .ok (.newarray .int, 2) := by decide +kernel
theorem dX6_init_71 : decode cX6_init 71 = .ok (.putfield 35, 3) := by decide +kernel
theorem dX6_init_74 : decode cX6_init 74 = .ok (.aload_n 0, 1) := by decide +kernel
theorem dX6_init_75 : decode cX6_init 75 = .ok (.bipush 23, 2) := by decide +kernel
theorem dX6_init_77 : decode cX6_init 77 = .ok (.newarray .int, 2) := by decide +kernel
theorem dX6_init_79 : decode cX6_init 79 = .ok (.putfield 38, 3) := by decide +kernel
theorem dX6_init_82 : decode cX6_init 82 = .ok (.aload_n 0, 1) := by decide +kernel
theorem dX6_init_83 : decode cX6_init 83 = .ok (.sipush 920, 3) := by decide +kernel
theorem dX6_init_86 : decode cX6_init 86 = .ok (.newarray .int, 2) := by decide +kernel
theorem dX6_init_88 : decode cX6_init 88 = .ok (.putfield 41, 3) := by decide +kernel
theorem dX6_init_91 : decode cX6_init 91 = .ok (.aload_n 0, 1) := by decide +kernel
theorem dX6_init_92 : decode cX6_init 92 = .ok (.bipush 69, 2) := by decide +kernel
theorem dX6_init_94 : decode cX6_init 94 = .ok (.newarray .int, 2) := by decide +kernel
theorem dX6_init_96 : decode cX6_init 96 = .ok (.putfield 44, 3) := by decide +kernel
theorem dX6_init_99 : decode cX6_init 99 = .ok (.aload_n 0, 1) := by decide +kernel
theorem dX6_init_100 : decode cX6_init 100 = .ok (.sipush 2760, 3) := by decide +kernel
theorem dX6_init_103 : decode cX6_init 103 = .ok (.newarray .int, 2) := by decide +kernel
theorem dX6_init_105 : decode cX6_init 105 = .ok (.putfield 47, 3) := by decide +kernel
theorem dX6_init_108 : decode cX6_init 108 = .ok (.aload_n 0, 1) := by decide +kernel
theorem dX6_init_109 : decode cX6_init 109 = .ok (.iconst 3, 1) := by decide +kernel
theorem dX6_init_110 : decode cX6_init 110 = .ok (.newarray .int, 2) := by decide +kernel
theorem dX6_init_112 : decode cX6_init 112 = .ok (.putfield 50, 3) := by decide +kernel
theorem dX6_init_115 : decode cX6_init 115 = .ok (.aload_n 0, 1) := by decide +kernel
theorem dX6_init_116 : decode cX6_init 116 = .ok (.bipush 6, 2) := by decide +kernel
theorem dX6_init_118 : decode cX6_init 118 = .ok (.newarray .int, 2) := by decide +kernel
theorem dX6_init_120 : decode cX6_init 120 = .ok (.putfield 53, 3) := by decide +kernel
theorem dX6_init_123 : decode cX6_init 123 = .ok (.aload_n 0, 1) := by decide +kernel
theorem dX6_init_124 : decode cX6_init 124 = .ok (.bipush 6, 2) := by decide +kernel
theorem dX6_init_126 : decode cX6_init 126 = .ok (.newarray .int, 2) := by decide +kernel
theorem dX6_init_128 : decode cX6_init 128 = .ok (.putfield 56, 3) := by decide +kernel
theorem dX6_init_131 : decode cX6_init 131 = .ok (.iconst 0, 1) := by decide +kernel
theorem dX6_init_132 : decode cX6_init 132 = .ok (.istore_n 1, 1) := by decide +kernel
theorem dX6_init_133 : decode cX6_init 133 = .ok (.iload_n 1, 1) := by decide +kernel
theorem dX6_init_134 : decode cX6_init 134 = .ok (.bipush 6, 2) := by decide +kernel
theorem dX6_init_136 : decode cX6_init 136 = .ok (.if_icmp .ge 16, 3) := by decide +kernel
theorem dX6_init_139 : decode cX6_init 139 = .ok (.aload_n 0, 1) := by decide +kernel
theorem dX6_init_140 : decode cX6_init 140 = .ok (.getfield 7, 3) := by decide +kernel
theorem dX6_init_143 : decode cX6_init 143 = .ok (.iload_n 1, 1) := by decide +kernel
theorem dX6_init_144 : decode cX6_init 144 = .ok (.iconst (-1), 1) := by decide +kernel
theorem dX6_init_145 : decode cX6_init 145 = .ok (.iastore, 1) := by decide +kernel
theorem dX6_init_146 : decode cX6_init 146 = .ok (.iinc 1 1, 3) := by decide +kernel
theorem dX6_init_149 : decode cX6_init 149 = .ok (.goto (-16), 3) := by decide +kernel
theorem dX6_init_152 : decode cX6_init 152 = .ok (.iconst 0, 1) := by decide +kernel
theorem dX6_init_153 : decode cX6_init 153 = .ok (.istore_n 1, 1) := by decide +kernel
theorem dX6_init_154 : decode cX6_init 154 = .ok (.iload_n 1, 1) := by decide +kernel
theorem dX6_init_155 : decode cX6_init 155 = .ok (.iconst 4, 1) := by decide +kernel
theorem dX6_init_156 : decode cX6_init 156 = .ok (.if_icmp .ge 16, 3) := by decide +kernel
theorem dX6_init_159 : decode cX6_init 159 = .ok (.aload_n 0, 1) := by decide +kernel
theorem dX6_init_160 : decode cX6_init 160 = .ok (.getfield 16, 3) := by decide +kernel
theorem dX6_init_163 : decode cX6_init 163 = .ok (.iload_n 1, 1) := by decide +kernel
theorem dX6_init_164 : decode cX6_init 164 = .ok (.iconst (-1), 1) := by decide +kernel
theorem dX6_init_165 : decode cX6_init 165 = .ok (.iastore, 1) := by decide +kernel
theorem dX6_init_166 : decode cX6_init 166 = .ok (.iinc 1 1, 3) := by decide +kernel
theorem dX6_init_169 : decode cX6_init 169 = .ok (.goto (-15), 3) := by decide +kernel
theorem dX6_init_172 : decode cX6_init 172 = .ok (.iconst 0, 1) := by decide +kernel
theorem dX6_init_173 : decode cX6_init 173 = .ok (.istore_n 1, 1) := by decide +kernel
theorem dX6_init_174 : decode cX6_init 174 = .ok (.iload_n 1, 1) := by decide +kernel
theorem dX6_init_175 : decode cX6_init 175 = .ok (.iconst 3, 1) := by decide +kernel
theorem dX6_init_176 : decode cX6_init 176 = .ok (.if_icmp .ge 16, 3) := by decide +kernel
theorem dX6_init_179 : decode cX6_init 179 = .ok (.aload_n 0, 1) := by decide +kernel
theorem dX6_init_180 : decode cX6_init 180 = .ok (.getfield 50, 3) := by decide +kernel
theorem dX6_init_183 : decode cX6_init 183 = .ok (.iload_n 1, 1) := by decide +kernel
theorem dX6_init_184 : decode cX6_init 184 = .ok (.iconst (-1), 1) := by decide +kernel
theorem dX6_init_185 : decode cX6_init 185 = .ok (.iastore, 1) := by decide +kernel
theorem dX6_init_186 : decode cX6_init 186 = .ok (.iinc 1 1, 3) := by decide +kernel
theorem dX6_init_189 : decode cX6_init 189 = .ok (.goto (-15), 3) := by decide +kernel
theorem dX6_init_192 : decode cX6_init 192 = .ok (.return_, 1) := by decide +kernel
theorem dX6_in_0 : decode cX6_in 0 = .ok (.iload_n 0, 1) := by decide +kernel
theorem dX6_in_1 : decode cX6_in 1 = .ok (.iload_n 1, 1) := by decide +kernel
theorem dX6_in_2 : decode cX6_in 2 = .ok (.if_icmp .lt 12, 3) := by decide +kernel
theorem dX6_in_5 : decode cX6_in 5 = .ok (.iload_n 0, 1) := by decide +kernel
theorem dX6_in_6 : decode cX6_in 6 = .ok (.iload_n 2, 1) := by decide +kernel
theorem dX6_in_7 : decode cX6_in 7 = .ok (.if_icmp .gt 7, 3) := by decide +kernel
theorem dX6_in_10 : decode cX6_in 10 = .ok (.iconst 1, 1) := by decide +kernel
theorem dX6_in_11 : decode cX6_in 11 = .ok (.goto 4, 3) := by decide +kernel
theorem dX6_in_14 : decode cX6_in 14 = .ok (.iconst 0, 1) := by decide +kernel
theorem dX6_in_15 : decode cX6_in 15 = .ok (.ireturn, 1) := by decide +kernel
theorem dX6_has_0 : decode cX6_has 0 = .ok (.iload_n 0, 1) := by decide +kernel
theorem dX6_has_1 : decode cX6_has 1 = .ok (.iload_n 1, 1) := by decide +kernel
theorem dX6_has_2 : decode cX6_has 2 = .ok (.ishr, 1) := by decide +kernel
theorem dX6_has_3 : decode cX6_has 3 = .ok (.iconst 1, 1) := by decide +kernel
theorem dX6_has_4 : decode cX6_has 4 = .ok (.iand, 1) := by decide +kernel
theorem dX6_has_5 : decode cX6_has 5 = .ok (.iconst 1, 1) := by decide +kernel
theorem dX6_has_6 : decode cX6_has 6 = .ok (.if_icmp .ne 7, 3) := by decide +kernel
theorem dX6_has_9 : decode cX6_has 9 = .ok (.iconst 1, 1) := by decide +kernel
theorem dX6_has_10 : decode cX6_has 10 = .ok (.goto 4, 3) := by decide +kernel
theorem dX6_has_13 : decode cX6_has 13 = .ok (.iconst 0, 1) := by decide +kernel
theorem dX6_has_14 : decode cX6_has 14 = .ok (.ireturn, 1) := by decide +kernel
theorem dX6_bits_0 : decode cX6_bits 0 = .ok (.iconst 0, 1) := by decide +kernel
theorem dX6_bits_1 : decode cX6_bits 1 = .ok (.istore_n 1, 1) := by decide +kernel
theorem dX6_bits_2 : decode cX6_bits 2 = .ok (.iconst 0, 1) := by decide +kernel
theorem dX6_bits_3 : decode cX6_bits 3 = .ok (.istore_n 2, 1) := by decide +kernel
theorem dX6_bits_4 : decode cX6_bits 4 = .ok (.iload_n 2, 1) := by decide +kernel
theorem dX6_bits_5 : decode cX6_bits 5 = .ok (.bipush 6, 2) := by decide +kernel
theorem dX6_bits_7 : decode cX6_bits 7 = .ok (.if_icmp .ge 17, 3) := by decide +kernel
theorem dX6_bits_10 : decode cX6_bits 10 = .ok (.iload_n 1, 1) := by decide +kernel
theorem dX6_bits_11 : decode cX6_bits 11 = .ok (.iload_n 0, 1) := by decide +kernel
theorem dX6_bits_12 : decode cX6_bits 12 = .ok (.iload_n 2, 1) := by decide +kernel
theorem dX6_bits_13 : decode cX6_bits 13 = .ok (.ishr, 1) := by decide +kernel
theorem dX6_bits_14 : decode cX6_bits 14 = .ok (.iconst 1, 1) := by decide +kernel
theorem dX6_bits_15 : decode cX6_bits 15 = .ok (.iand, 1) := by decide +kernel
theorem dX6_bits_16 : decode cX6_bits 16 = .ok (.iadd, 1) := by decide +kernel
theorem dX6_bits_17 : decode cX6_bits 17 = .ok (.istore_n 1, 1) := by decide +kernel
theorem dX6_bits_18 : decode cX6_bits 18 = .ok (.iinc 2 1, 3) := by decide +kernel
theorem dX6_bits_21 : decode cX6_bits 21 = .ok (.goto (-17), 3) := by decide +kernel
theorem dX6_bits_24 : decode cX6_bits 24 = .ok (.iload_n 1, 1) := by decide +kernel
theorem dX6_bits_25 : decode cX6_bits 25 = .ok (.ireturn, 1) := by decide +kernel
theorem dX6_finds_0 : decode cX6_finds 0 = .ok (.aload_n 0, 1) := by decide +kernel
theorem dX6_finds_1 : decode cX6_finds 1 = .ok (.iload_n 1, 1) := by decide +kernel
theorem dX6_finds_2 : decode cX6_finds 2 = .ok (.putfield 59, 3) := by decide +kernel
theorem dX6_finds_5 : decode cX6_finds 5 = .ok (.aload_n 0, 1) := by decide +kernel
theorem dX6_finds_6 : decode cX6_finds 6 = .ok (.getfield 22, 3) := by decide +kernel
theorem dX6_finds_9 : decode cX6_finds 9 = .ok (.iload_n 1, 1) := by decide +kernel
theorem dX6_finds_10 : decode cX6_finds 10 = .ok (.dup2, 1) := by decide +kernel
theorem dX6_finds_11 : decode cX6_finds 11 = .ok (.iaload, 1) := by decide +kernel
theorem dX6_finds_12 : decode cX6_finds 12 = .ok (.iconst 1, 1) := by decide +kernel
theorem dX6_finds_13 : decode cX6_finds 13 = .ok (.iadd, 1) := by decide +kernel
theorem dX6_finds_14 : decode cX6_finds 14 = .ok (.iastore, 1) := by decide +kernel
theorem dX6_finds_15 : decode cX6_finds 15 = .ok (.bipush (-3), 2) := by decide +kernel
theorem dX6_finds_17 : decode cX6_finds 17 = .ok (.ireturn, 1) := by decide +kernel
theorem dX6_tells_0 : decode cX6_tells 0 = .ok (.aload_n 0, 1) := by decide +kernel
theorem dX6_tells_1 : decode cX6_tells 1 = .ok (.iload_n 1, 1) := by decide +kernel
theorem dX6_tells_2 : decode cX6_tells 2 = .ok (.putfield 63, 3) := by decide +kernel
theorem dX6_tells_5 : decode cX6_tells 5 = .ok (.iconst 1, 1) := by decide +kernel
theorem dX6_tells_6 : decode cX6_tells 6 = .ok (.ireturn, 1) := by decide +kernel
theorem dX6_bring_0 : decode cX6_bring 0 = .ok (.iconst 0, 1) := by decide +kernel
theorem dX6_bring_1 : decode cX6_bring 1 = .ok (.istore 5, 2) := by decide +kernel
theorem dX6_bring_3 : decode cX6_bring 3 = .ok (.iload 5, 2) := by decide +kernel
theorem dX6_bring_5 : decode cX6_bring 5 = .ok (.iload 4, 2) := by decide +kernel
theorem dX6_bring_7 : decode cX6_bring 7 = .ok (.if_icmp .ge 21, 3) := by decide +kernel
theorem dX6_bring_10 : decode cX6_bring 10 = .ok (.aload_n 2, 1) := by decide +kernel
theorem dX6_bring_11 : decode cX6_bring 11 = .ok (.iload_n 3, 1) := by decide +kernel
theorem dX6_bring_12 : decode cX6_bring 12 = .ok (.iload 5, 2) := by decide +kernel
theorem dX6_bring_14 : decode cX6_bring 14 = .ok (.iadd, 1) := by decide +kernel
theorem dX6_bring_15 : decode cX6_bring 15 = .ok (.aload_n 0, 1) := by decide +kernel
theorem dX6_bring_16 : decode cX6_bring 16 = .ok (.iload_n 1, 1) := by decide +kernel
theorem dX6_bring_17 : decode cX6_bring 17 = .ok (.iload 5, 2) := by decide +kernel
theorem dX6_bring_19 : decode cX6_bring 19 = .ok (.iadd, 1) := by decide +kernel
theorem dX6_bring_20 : decode cX6_bring 20 = .ok (.iaload, 1) := by decide +kernel
theorem dX6_bring_21 : decode cX6_bring 21 = .ok (.iastore, 1) := by decide +kernel
theorem dX6_bring_22 : decode cX6_bring 22 = .ok (.iinc 5 1, 3) := by decide +kernel
theorem dX6_bring_25 : decode cX6_bring 25 = .ok (.goto (-22), 3) := by decide +kernel
theorem dX6_bring_28 : decode cX6_bring 28 = .ok (.return_, 1) := by decide +kernel
theorem dX6_isOne_0 : decode cX6_isOne 0 = .ok (.iload_n 1, 1) := by decide +kernel
theorem dX6_isOne_1 : decode cX6_isOne 1 = .ok (.iconst 0, 1) := by decide +kernel
theorem dX6_isOne_2 : decode cX6_isOne 2 = .ok (.aload_n 0, 1) := by decide +kernel
theorem dX6_isOne_3 : decode cX6_isOne 3 = .ok (.getfield 66, 3) := by decide +kernel
theorem dX6_isOne_6 : decode cX6_isOne 6 = .ok (.iconst 1, 1) := by decide +kernel
theorem dX6_isOne_7 : decode cX6_isOne 7 = .ok (.isub, 1) := by decide +kernel
theorem dX6_isOne_8 : decode cX6_isOne 8 = .ok (.invokestatic 69, 3) := by decide +kernel
theorem dX6_isOne_11 : decode cX6_isOne 11 = .ok (.ireturn, 1) := by decide +kernel
theorem dX6_row_0 : decode cX6_row 0 = .ok (.iload_n 1, 1) := by decide +kernel
theorem dX6_row_1 : decode cX6_row 1 = .ok (.iconst 0, 1) := by decide +kernel
theorem dX6_row_2 : decode cX6_row 2 = .ok (.iconst 5, 1) := by decide +kernel
theorem dX6_row_3 : decode cX6_row 3 = .ok (.invokestatic 69, 3) := by decide +kernel
theorem dX6_row_6 : decode cX6_row 6 = .ok (.ifCond .eq 9, 3) := by decide +kernel
theorem dX6_row_9 : decode cX6_row 9 = .ok (.iload_n 2, 1) := by decide +kernel
theorem dX6_row_10 : decode cX6_row 10 = .ok (.bipush 40, 2) := by decide +kernel
theorem dX6_row_12 : decode cX6_row 12 = .ok (.if_icmp .le 5, 3) := by decide +kernel
theorem dX6_row_15 : decode cX6_row 15 = .ok (.iconst (-1), 1) := by decide +kernel
theorem dX6_row_16 : decode cX6_row 16 = .ok (.ireturn, 1) := by decide +kernel
theorem dX6_row_17 : decode cX6_row 17 = .ok (.iload_n 2, 1) := by decide +kernel
theorem dX6_row_18 : decode cX6_row 18 = .ok (.ifCond .ge 9, 3) := by decide +kernel
theorem dX6_row_21 : decode cX6_row 21 = .ok (.aload_n 0, 1) := by decide +kernel
theorem dX6_row_22 : decode cX6_row 22 = .ok (.iconst 5, 1) := by decide +kernel
theorem dX6_row_23 : decode cX6_row 23 = .ok (.invokevirtual 73, 3) := by decide +kernel
theorem dX6_row_26 : decode cX6_row 26 = .ok (.ireturn, 1) := by decide +kernel
theorem dX6_row_27 : decode cX6_row 27 = .ok (.aload_n 0, 1) := by decide +kernel
theorem dX6_row_28 : decode cX6_row 28 = .ok (.getfield 7, 3) := by decide +kernel
theorem dX6_row_31 : decode cX6_row 31 = .ok (.iload_n 1, 1) := by decide +kernel
theorem dX6_row_32 : decode cX6_row 32 = .ok (.iload_n 2, 1) := by decide +kernel
theorem dX6_row_33 : decode cX6_row 33 = .ok (.iastore, 1) := by decide +kernel
theorem dX6_row_34 : decode cX6_row 34 = .ok (.iconst 0, 1) := by decide +kernel
theorem dX6_row_35 : decode cX6_row 35 = .ok (.istore_n 3, 1) := by decide +kernel
theorem dX6_row_36 : decode cX6_row 36 = .ok (.iload_n 3, 1) := by decide +kernel
theorem dX6_row_37 : decode cX6_row 37 = .ok (.bipush 40, 2) := by decide +kernel
theorem dX6_row_39 : decode cX6_row 39 = .ok (.if_icmp .ge 21, 3) := by decide +kernel
theorem dX6_row_42 : decode cX6_row 42 = .ok (.aload_n 0, 1) := by decide +kernel
theorem dX6_row_43 : decode cX6_row 43 = .ok (.getfield 13, 3) := by decide +kernel
theorem dX6_row_46 : decode cX6_row 46 = .ok (.bipush 40, 2) := by decide +kernel
theorem dX6_row_48 : decode cX6_row 48 = .ok (.iload_n 1, 1) := by decide +kernel
theorem dX6_row_49 : decode cX6_row 49 = .ok (.imul, 1) := by decide +kernel
theorem dX6_row_50 : decode cX6_row 50 = .ok (.iload_n 3, 1) := by decide +kernel
theorem dX6_row_51 : decode cX6_row 51 = .ok (.iadd, 1) := by decide +kernel
theorem dX6_row_52 : decode cX6_row 52 = .ok (.iconst 0, 1) := by decide +kernel
theorem dX6_row_53 : decode cX6_row 53 = .ok (.iastore, 1) := by decide +kernel
theorem dX6_row_54 : decode cX6_row 54 = .ok (.iinc 3 1, 3) := by decide +kernel
theorem dX6_row_57 : decode cX6_row 57 = .ok (.goto (-21), 3) := by decide +kernel
theorem dX6_row_60 : decode cX6_row 60 = .ok (.iload_n 2, 1) := by decide +kernel
theorem dX6_row_61 : decode cX6_row 61 = .ok (.ireturn, 1) := by decide +kernel
theorem dX6_wrongAt_0 : decode cX6_wrongAt 0 = .ok (.iload_n 1, 1) := by decide +kernel
theorem dX6_wrongAt_1 : decode cX6_wrongAt 1 = .ok (.iconst 0, 1) := by decide +kernel
theorem dX6_wrongAt_2 : decode cX6_wrongAt 2 = .ok (.iconst 5, 1) := by decide +kernel
theorem dX6_wrongAt_3 : decode cX6_wrongAt 3 = .ok (.invokestatic 69, 3) := by decide +kernel
theorem dX6_wrongAt_6 : decode cX6_wrongAt 6 = .ok (.ifCond .ne 5, 3) := by decide +kernel
theorem dX6_wrongAt_9 : decode cX6_wrongAt 9 = .ok (.iconst (-1), 1) := by decide +kernel
theorem dX6_wrongAt_10 : decode cX6_wrongAt 10 = .ok (.ireturn, 1) := by decide +kernel
theorem dX6_wrongAt_11 : decode cX6_wrongAt 11 = .ok (.aload_n 0, 1) := by decide +kernel
theorem dX6_wrongAt_12 : decode cX6_wrongAt 12 = .ok (.getfield 7, 3) := by decide +kernel
theorem dX6_wrongAt_15 : decode cX6_wrongAt 15 = .ok (.iload_n 1, 1) := by decide +kernel
theorem dX6_wrongAt_16 : decode cX6_wrongAt 16 = .ok (.iaload, 1) := by decide +kernel
theorem dX6_wrongAt_17 : decode cX6_wrongAt 17 = .ok (.ifCond .ge 9, 3) := by decide +kernel
theorem dX6_wrongAt_20 : decode cX6_wrongAt 20 = .ok (.aload_n 0, 1) := by decide +kernel
theorem dX6_wrongAt_21 : decode cX6_wrongAt 21 = .ok (.iconst 1, 1) := by decide +kernel
theorem dX6_wrongAt_22 : decode cX6_wrongAt 22 = .ok (.invokevirtual 73, 3) := by decide +kernel
theorem dX6_wrongAt_25 : decode cX6_wrongAt 25 = .ok (.ireturn, 1) := by decide +kernel
theorem dX6_wrongAt_26 : decode cX6_wrongAt 26 = .ok (.iload_n 2, 1) := by decide +kernel
theorem dX6_wrongAt_27 : decode cX6_wrongAt 27 = .ok (.iconst 0, 1) := by decide +kernel
theorem dX6_wrongAt_28 : decode cX6_wrongAt 28 = .ok (.aload_n 0, 1) := by decide +kernel
theorem dX6_wrongAt_29 : decode cX6_wrongAt 29 = .ok (.getfield 7, 3) := by decide +kernel
theorem dX6_wrongAt_32 : decode cX6_wrongAt 32 = .ok (.iload_n 1, 1) := by decide +kernel
theorem dX6_wrongAt_33 : decode cX6_wrongAt 33 = .ok (.iaload, 1) := by decide +kernel
theorem dX6_wrongAt_34 : decode cX6_wrongAt 34 = .ok (.iconst 1, 1) := by decide +kernel
theorem dX6_wrongAt_35 : decode cX6_wrongAt 35 = .ok (.isub, 1) := by decide +kernel
theorem dX6_wrongAt_36 : decode cX6_wrongAt 36 = .ok (.invokestatic 69, 3) := by decide +kernel
theorem dX6_wrongAt_39 : decode cX6_wrongAt 39 = .ok (.ifCond .eq 7, 3) := by decide +kernel
theorem dX6_wrongAt_42 : decode cX6_wrongAt 42 = .ok (.iconst 0, 1) := by decide +kernel
theorem dX6_wrongAt_43 : decode cX6_wrongAt 43 = .ok (.goto 8, 3) := by decide +kernel
theorem dX6_wrongAt_46 : decode cX6_wrongAt 46 = .ok (.aload_n 0, 1) := by decide +kernel
theorem dX6_wrongAt_47 : decode cX6_wrongAt 47 = .ok (.iconst 2, 1) := by decide +kernel
theorem dX6_wrongAt_48 : decode cX6_wrongAt 48 = .ok (.invokevirtual 73, 3) := by decide +kernel
theorem dX6_wrongAt_51 : decode cX6_wrongAt 51 = .ok (.ireturn, 1) := by decide +kernel
theorem dX6_lay_0 : decode cX6_lay 0 = .ok (.aload_n 0, 1) := by decide +kernel
theorem dX6_lay_1 : decode cX6_lay 1 = .ok (.iload_n 1, 1) := by decide +kernel
theorem dX6_lay_2 : decode cX6_lay 2 = .ok (.iload_n 2, 1) := by decide +kernel
theorem dX6_lay_3 : decode cX6_lay 3 = .ok (.invokevirtual 77, 3) := by decide +kernel
theorem dX6_lay_6 : decode cX6_lay 6 = .ok (.istore 4, 2) := by decide +kernel
theorem dX6_lay_8 : decode cX6_lay 8 = .ok (.iload 4, 2) := by decide +kernel
theorem dX6_lay_10 : decode cX6_lay 10 = .ok (.ifCond .eq 6, 3) := by decide +kernel
theorem dX6_lay_13 : decode cX6_lay 13 = .ok (.iload 4, 2) := by decide +kernel
theorem dX6_lay_15 : decode cX6_lay 15 = .ok (.ireturn, 1) := by decide +kernel
theorem dX6_lay_16 : decode cX6_lay 16 = .ok (.aload_n 0, 1) := by decide +kernel
theorem dX6_lay_17 : decode cX6_lay 17 = .ok (.getfield 13, 3) := by decide +kernel
theorem dX6_lay_20 : decode cX6_lay 20 = .ok (.bipush 40, 2) := by decide +kernel
theorem dX6_lay_22 : decode cX6_lay 22 = .ok (.iload_n 1, 1) := by decide +kernel
theorem dX6_lay_23 : decode cX6_lay 23 = .ok (.imul, 1) := by decide +kernel
theorem dX6_lay_24 : decode cX6_lay 24 = .ok (.iload_n 2, 1) := by decide +kernel
theorem dX6_lay_25 : decode cX6_lay 25 = .ok (.iadd, 1) := by decide +kernel
theorem dX6_lay_26 : decode cX6_lay 26 = .ok (.iaload, 1) := by decide +kernel
theorem dX6_lay_27 : decode cX6_lay 27 = .ok (.istore 5, 2) := by decide +kernel
theorem dX6_lay_29 : decode cX6_lay 29 = .ok (.aload_n 0, 1) := by decide +kernel
theorem dX6_lay_30 : decode cX6_lay 30 = .ok (.getfield 13, 3) := by decide +kernel
theorem dX6_lay_33 : decode cX6_lay 33 = .ok (.bipush 40, 2) := by decide +kernel
theorem dX6_lay_35 : decode cX6_lay 35 = .ok (.iload_n 1, 1) := by decide +kernel
theorem dX6_lay_36 : decode cX6_lay 36 = .ok (.imul, 1) := by decide +kernel
theorem dX6_lay_37 : decode cX6_lay 37 = .ok (.iload_n 2, 1) := by decide +kernel
theorem dX6_lay_38 : decode cX6_lay 38 = .ok (.iadd, 1) := by decide +kernel
theorem dX6_lay_39 : decode cX6_lay 39 = .ok (.iload_n 3, 1) := by decide +kernel
theorem dX6_lay_40 : decode cX6_lay 40 = .ok (.iastore, 1) := by decide +kernel
theorem dX6_lay_41 : decode cX6_lay 41 = .ok (.aload_n 0, 1) := by decide +kernel
theorem dX6_lay_42 : decode cX6_lay 42 = .ok (.iload 5, 2) := by decide +kernel
theorem dX6_lay_44 : decode cX6_lay 44 = .ok (.invokevirtual 81, 3) := by decide +kernel
theorem dX6_lay_47 : decode cX6_lay 47 = .ok (.ireturn, 1) := by decide +kernel
theorem dX6_at_0 : decode cX6_at 0 = .ok (.aload_n 0, 1) := by decide +kernel
theorem dX6_at_1 : decode cX6_at 1 = .ok (.iload_n 1, 1) := by decide +kernel
theorem dX6_at_2 : decode cX6_at 2 = .ok (.iload_n 2, 1) := by decide +kernel
theorem dX6_at_3 : decode cX6_at 3 = .ok (.invokevirtual 77, 3) := by decide +kernel
theorem dX6_at_6 : decode cX6_at 6 = .ok (.istore_n 3, 1) := by decide +kernel
theorem dX6_at_7 : decode cX6_at 7 = .ok (.iload_n 3, 1) := by decide +kernel
theorem dX6_at_8 : decode cX6_at 8 = .ok (.ifCond .eq 7, 3) := by decide +kernel
theorem dX6_at_11 : decode cX6_at 11 = .ok (.iload_n 3, 1) := by decide +kernel
theorem dX6_at_12 : decode cX6_at 12 = .ok (.goto 18, 3) := by decide +kernel
theorem dX6_at_15 : decode cX6_at 15 = .ok (.aload_n 0, 1) := by decide +kernel
theorem dX6_at_16 : decode cX6_at 16 = .ok (.aload_n 0, 1) := by decide +kernel
theorem dX6_at_17 : decode cX6_at 17 = .ok (.getfield 13, 3) := by decide +kernel
theorem dX6_at_20 : decode cX6_at 20 = .ok (.bipush 40, 2) := by decide +kernel
theorem dX6_at_22 : decode cX6_at 22 = .ok (.iload_n 1, 1) := by decide +kernel
theorem dX6_at_23 : decode cX6_at 23 = .ok (.imul, 1) := by decide +kernel
theorem dX6_at_24 : decode cX6_at 24 = .ok (.iload_n 2, 1) := by decide +kernel
theorem dX6_at_25 : decode cX6_at 25 = .ok (.iadd, 1) := by decide +kernel
theorem dX6_at_26 : decode cX6_at 26 = .ok (.iaload, 1) := by decide +kernel
theorem dX6_at_27 : decode cX6_at 27 = .ok (.invokevirtual 81, 3) := by decide +kernel
theorem dX6_at_30 : decode cX6_at 30 = .ok (.ireturn, 1) := by decide +kernel
theorem dX6_tear_0 : decode cX6_tear 0 = .ok (.iload_n 1, 1) := by decide +kernel
theorem dX6_tear_1 : decode cX6_tear 1 = .ok (.iconst 0, 1) := by decide +kernel
theorem dX6_tear_2 : decode cX6_tear 2 = .ok (.iconst 5, 1) := by decide +kernel
theorem dX6_tear_3 : decode cX6_tear 3 = .ok (.invokestatic 69, 3) := by decide +kernel
theorem dX6_tear_6 : decode cX6_tear 6 = .ok (.ifCond .ne 5, 3) := by decide +kernel
theorem dX6_tear_9 : decode cX6_tear 9 = .ok (.iconst (-1), 1) := by decide +kernel
theorem dX6_tear_10 : decode cX6_tear 10 = .ok (.ireturn, 1) := by decide +kernel
theorem dX6_tear_11 : decode cX6_tear 11 = .ok (.aload_n 0, 1) := by decide +kernel
theorem dX6_tear_12 : decode cX6_tear 12 = .ok (.getfield 7, 3) := by decide +kernel
theorem dX6_tear_15 : decode cX6_tear 15 = .ok (.iload_n 1, 1) := by decide +kernel
theorem dX6_tear_16 : decode cX6_tear 16 = .ok (.iaload, 1) := by decide +kernel
theorem dX6_tear_17 : decode cX6_tear 17 = .ok (.ifCond .ge 9, 3) := by decide +kernel
theorem dX6_tear_20 : decode cX6_tear 20 = .ok (.aload_n 0, 1) := by decide +kernel
theorem dX6_tear_21 : decode cX6_tear 21 = .ok (.iconst 1, 1) := by decide +kernel
theorem dX6_tear_22 : decode cX6_tear 22 = .ok (.invokevirtual 73, 3) := by decide +kernel
theorem dX6_tear_25 : decode cX6_tear 25 = .ok (.ireturn, 1) := by decide +kernel
theorem dX6_tear_26 : decode cX6_tear 26 = .ok (.aload_n 0, 1) := by decide +kernel
theorem dX6_tear_27 : decode cX6_tear 27 = .ok (.getfield 7, 3) := by decide +kernel
theorem dX6_tear_30 : decode cX6_tear 30 = .ok (.iload_n 1, 1) := by decide +kernel
theorem dX6_tear_31 : decode cX6_tear 31 = .ok (.iconst (-1), 1) := by decide +kernel
theorem dX6_tear_32 : decode cX6_tear 32 = .ok (.iastore, 1) := by decide +kernel
theorem dX6_tear_33 : decode cX6_tear 33 = .ok (.iconst 1, 1) := by decide +kernel
theorem dX6_tear_34 : decode cX6_tear 34 = .ok (.ireturn, 1) := by decide +kernel
theorem dX6_isPart_0 : decode cX6_isPart 0 = .ok (.iload_n 0, 1) := by decide +kernel
theorem dX6_isPart_1 : decode cX6_isPart 1 = .ok (.ifCond .lt 19, 3) := by decide +kernel
theorem dX6_isPart_4 : decode cX6_isPart 4 = .ok (.iload_n 1, 1) := by decide +kernel
theorem dX6_isPart_5 : decode cX6_isPart 5 = .ok (.iload_n 2, 1) := by decide +kernel
theorem dX6_isPart_6 : decode cX6_isPart 6 = .ok (.if_icmp .gt 14, 3) := by decide +kernel
theorem dX6_isPart_9 : decode cX6_isPart 9 = .ok (.iload_n 0, 1) := by decide +kernel
theorem dX6_isPart_10 : decode cX6_isPart 10 = .ok (.iload_n 2, 1) := by decide +kernel
theorem dX6_isPart_11 : decode cX6_isPart 11 = .ok (.iload_n 1, 1) := by decide +kernel
theorem dX6_isPart_12 : decode cX6_isPart 12 = .ok (.isub, 1) := by decide +kernel
theorem dX6_isPart_13 : decode cX6_isPart 13 = .ok (.if_icmp .gt 7, 3) := by decide +kernel
theorem dX6_isPart_16 : decode cX6_isPart 16 = .ok (.iconst 1, 1) := by decide +kernel
theorem dX6_isPart_17 : decode cX6_isPart 17 = .ok (.goto 4, 3) := by decide +kernel
theorem dX6_isPart_20 : decode cX6_isPart 20 = .ok (.iconst 0, 1) := by decide +kernel
theorem dX6_isPart_21 : decode cX6_isPart 21 = .ok (.ireturn, 1) := by decide +kernel
theorem dX6_copy_0 : decode cX6_copy 0 = .ok (.iload_n 1, 1) := by decide +kernel
theorem dX6_copy_1 : decode cX6_copy 1 = .ok (.iconst 0, 1) := by decide +kernel
theorem dX6_copy_2 : decode cX6_copy 2 = .ok (.iconst 5, 1) := by decide +kernel
theorem dX6_copy_3 : decode cX6_copy 3 = .ok (.invokestatic 69, 3) := by decide +kernel
theorem dX6_copy_6 : decode cX6_copy 6 = .ok (.ifCond .eq 12, 3) := by decide +kernel
theorem dX6_copy_9 : decode cX6_copy 9 = .ok (.iload_n 3, 1) := by decide +kernel
theorem dX6_copy_10 : decode cX6_copy 10 = .ok (.iconst 0, 1) := by decide +kernel
theorem dX6_copy_11 : decode cX6_copy 11 = .ok (.iconst 5, 1) := by decide +kernel
theorem dX6_copy_12 : decode cX6_copy 12 = .ok (.invokestatic 69, 3) := by decide +kernel
theorem dX6_copy_15 : decode cX6_copy 15 = .ok (.ifCond .ne 5, 3) := by decide +kernel
theorem dX6_copy_18 : decode cX6_copy 18 = .ok (.iconst (-1), 1) := by decide +kernel
theorem dX6_copy_19 : decode cX6_copy 19 = .ok (.ireturn, 1) := by decide +kernel
theorem dX6_copy_20 : decode cX6_copy 20 = .ok (.iload 5, 2) := by decide +kernel
theorem dX6_copy_22 : decode cX6_copy 22 = .ok (.ifCond .ge 9, 3) := by decide +kernel
theorem dX6_copy_25 : decode cX6_copy 25 = .ok (.aload_n 0, 1) := by decide +kernel
theorem dX6_copy_26 : decode cX6_copy 26 = .ok (.iconst 5, 1) := by decide +kernel
theorem dX6_copy_27 : decode cX6_copy 27 = .ok (.invokevirtual 73, 3) := by decide +kernel
theorem dX6_copy_30 : decode cX6_copy 30 = .ok (.ireturn, 1) := by decide +kernel
theorem dX6_copy_31 : decode cX6_copy 31 = .ok (.aload_n 0, 1) := by decide +kernel
theorem dX6_copy_32 : decode cX6_copy 32 = .ok (.getfield 7, 3) := by decide +kernel
theorem dX6_copy_35 : decode cX6_copy 35 = .ok (.iload_n 1, 1) := by decide +kernel
theorem dX6_copy_36 : decode cX6_copy 36 = .ok (.iaload, 1) := by decide +kernel
theorem dX6_copy_37 : decode cX6_copy 37 = .ok (.ifCond .lt 12, 3) := by decide +kernel
theorem dX6_copy_40 : decode cX6_copy 40 = .ok (.aload_n 0, 1) := by decide +kernel
theorem dX6_copy_41 : decode cX6_copy 41 = .ok (.getfield 7, 3) := by decide +kernel
theorem dX6_copy_44 : decode cX6_copy 44 = .ok (.iload_n 3, 1) := by decide +kernel
theorem dX6_copy_45 : decode cX6_copy 45 = .ok (.iaload, 1) := by decide +kernel
theorem dX6_copy_46 : decode cX6_copy 46 = .ok (.ifCond .ge 9, 3) := by decide +kernel
theorem dX6_copy_49 : decode cX6_copy 49 = .ok (.aload_n 0, 1) := by decide +kernel
theorem dX6_copy_50 : decode cX6_copy 50 = .ok (.iconst 1, 1) := by decide +kernel
theorem dX6_copy_51 : decode cX6_copy 51 = .ok (.invokevirtual 73, 3) := by decide +kernel
theorem dX6_copy_54 : decode cX6_copy 54 = .ok (.ireturn, 1) := by decide +kernel
theorem dX6_copy_55 : decode cX6_copy 55 = .ok (.iload_n 2, 1) := by decide +kernel
theorem dX6_copy_56 : decode cX6_copy 56 = .ok (.iload 5, 2) := by decide +kernel
theorem dX6_copy_58 : decode cX6_copy 58 = .ok (.aload_n 0, 1) := by decide +kernel
theorem dX6_copy_59 : decode cX6_copy 59 = .ok (.getfield 7, 3) := by decide +kernel
theorem dX6_copy_62 : decode cX6_copy 62 = .ok (.iload_n 1, 1) := by decide +kernel
theorem dX6_copy_63 : decode cX6_copy 63 = .ok (.iaload, 1) := by decide +kernel
theorem dX6_copy_64 : decode cX6_copy 64 = .ok (.invokestatic 84, 3) := by decide +kernel
theorem dX6_copy_67 : decode cX6_copy 67 = .ok (.ifCond .eq 19, 3) := by decide +kernel
theorem dX6_copy_70 : decode cX6_copy 70 = .ok (.iload 4, 2) := by decide +kernel
theorem dX6_copy_72 : decode cX6_copy 72 = .ok (.iload 5, 2) := by decide +kernel
theorem dX6_copy_74 : decode cX6_copy 74 = .ok (.aload_n 0, 1) := by decide +kernel
theorem dX6_copy_75 : decode cX6_copy 75 = .ok (.getfield 7, 3) := by decide +kernel
theorem dX6_copy_78 : decode cX6_copy 78 = .ok (.iload_n 3, 1) := by decide +kernel
theorem dX6_copy_79 : decode cX6_copy 79 = .ok (.iaload, 1) := by decide +kernel
theorem dX6_copy_80 : decode cX6_copy 80 = .ok (.invokestatic 84, 3) := by decide +kernel
theorem dX6_copy_83 : decode cX6_copy 83 = .ok (.ifCond .ne 9, 3) := by decide +kernel
theorem dX6_copy_86 : decode cX6_copy 86 = .ok (.aload_n 0, 1) := by decide +kernel
theorem dX6_copy_87 : decode cX6_copy 87 = .ok (.iconst 2, 1) := by decide +kernel
theorem dX6_copy_88 : decode cX6_copy 88 = .ok (.invokevirtual 73, 3) := by decide +kernel
theorem dX6_copy_91 : decode cX6_copy 91 = .ok (.ireturn, 1) := by decide +kernel
theorem dX6_copy_92 : decode cX6_copy 92 = .ok (.iload_n 1, 1) := by decide +kernel
theorem dX6_copy_93 : decode cX6_copy 93 = .ok (.iload_n 3, 1) := by decide +kernel
theorem dX6_copy_94 : decode cX6_copy 94 = .ok (.if_icmp .ne 13, 3) := by decide +kernel
theorem dX6_copy_97 : decode cX6_copy 97 = .ok (.iload 4, 2) := by decide +kernel
theorem dX6_copy_99 : decode cX6_copy 99 = .ok (.iload_n 2, 1) := by decide +kernel
theorem dX6_copy_100 : decode cX6_copy 100 = .ok (.if_icmp .le 7, 3) := by decide +kernel
theorem dX6_copy_103 : decode cX6_copy 103 = .ok (.iconst 1, 1) := by decide +kernel
theorem dX6_copy_104 : decode cX6_copy 104 = .ok (.goto 4, 3) := by decide +kernel
theorem dX6_copy_107 : decode cX6_copy 107 = .ok (.iconst 0, 1) := by decide +kernel
theorem dX6_copy_108 : decode cX6_copy 108 = .ok (.istore 6, 2) := by decide +kernel
theorem dX6_copy_110 : decode cX6_copy 110 = .ok (.iconst 0, 1) := by decide +kernel
theorem dX6_copy_111 : decode cX6_copy 111 = .ok (.istore 7, 2) := by decide +kernel
theorem dX6_copy_113 : decode cX6_copy 113 = .ok (.iload 7, 2) := by decide +kernel
theorem dX6_copy_115 : decode cX6_copy 115 = .ok (.iload 5, 2) := by decide +kernel
theorem dX6_copy_117 : decode cX6_copy 117 = .ok (.if_icmp .ge 57, 3) := by decide +kernel
theorem dX6_copy_120 : decode cX6_copy 120 = .ok (.iload 6, 2) := by decide +kernel
theorem dX6_copy_122 : decode cX6_copy 122 = .ok (.ifCond .eq 13, 3) := by decide +kernel
theorem dX6_copy_125 : decode cX6_copy 125 = .ok (.iload 5, 2) := by decide +kernel
theorem dX6_copy_127 : decode cX6_copy 127 = .ok (.iconst 1, 1) := by decide +kernel
theorem dX6_copy_128 : decode cX6_copy 128 = .ok (.isub, 1) := by decide +kernel
theorem dX6_copy_129 : decode cX6_copy 129 = .ok (.iload 7, 2) := by decide +kernel
theorem dX6_copy_131 : decode cX6_copy 131 = .ok (.isub, 1) := by decide +kernel
theorem dX6_copy_132 : decode cX6_copy 132 = .ok (.goto 5, 3) := by decide +kernel
theorem dX6_copy_135 : decode cX6_copy 135 = .ok (.iload 7, 2) := by decide +kernel
theorem dX6_copy_137 : decode cX6_copy 137 = .ok (.istore 8, 2) := by decide +kernel
theorem dX6_copy_139 : decode cX6_copy 139 = .ok (.aload_n 0, 1) := by decide +kernel
theorem dX6_copy_140 : decode cX6_copy 140 = .ok (.getfield 13, 3) := by decide +kernel
theorem dX6_copy_143 : decode cX6_copy 143 = .ok (.bipush 40, 2) := by decide +kernel
theorem dX6_copy_145 : decode cX6_copy 145 = .ok (.iload_n 3, 1) := by decide +kernel
theorem dX6_copy_146 : decode cX6_copy 146 = .ok (.imul, 1) := by decide +kernel
theorem dX6_copy_147 : decode cX6_copy 147 = .ok (.iload 4, 2) := by decide +kernel
theorem dX6_copy_149 : decode cX6_copy 149 = .ok (.iadd, 1) := by decide +kernel
theorem dX6_copy_150 : decode cX6_copy 150 = .ok (.iload 8, 2) := by decide +kernel
theorem dX6_copy_152 : decode cX6_copy 152 = .ok (.iadd, 1) := by decide +kernel
theorem dX6_copy_153 : decode cX6_copy 153 = .ok (.aload_n 0, 1) := by decide +kernel
theorem dX6_copy_154 : decode cX6_copy 154 = .ok (.getfield 13, 3) := by decide +kernel
theorem dX6_copy_157 : decode cX6_copy 157 = .ok (.bipush 40, 2) := by decide +kernel
theorem dX6_copy_159 : decode cX6_copy 159 = .ok (.iload_n 1, 1) := by decide +kernel
theorem dX6_copy_160 : decode cX6_copy 160 = .ok (.imul, 1) := by decide +kernel
theorem dX6_copy_161 : decode cX6_copy 161 = .ok (.iload_n 2, 1) := by decide +kernel
theorem dX6_copy_162 : decode cX6_copy 162 = .ok (.iadd, 1) := by decide +kernel
theorem dX6_copy_163 : decode cX6_copy 163 = .ok (.iload 8, 2) := by decide +kernel
theorem dX6_copy_165 : decode cX6_copy 165 = .ok (.iadd, 1) := by decide +kernel
theorem dX6_copy_166 : decode cX6_copy 166 = .ok (.iaload, 1) := by decide +kernel
theorem dX6_copy_167 : decode cX6_copy 167 = .ok (.iastore, 1) := by decide +kernel
theorem dX6_copy_168 : decode cX6_copy 168 = .ok (.iinc 7 1, 3) := by decide +kernel
theorem dX6_copy_171 : decode cX6_copy 171 = .ok (.goto (-58), 3) := by decide +kernel
theorem dX6_copy_174 : decode cX6_copy 174 = .ok (.iconst 1, 1) := by decide +kernel
theorem dX6_copy_175 : decode cX6_copy 175 = .ok (.ireturn, 1) := by decide +kernel
theorem dX6_mean_0 : decode cX6_mean 0 = .ok (.iload_n 1, 1) := by decide +kernel
theorem dX6_mean_1 : decode cX6_mean 1 = .ok (.iconst 0, 1) := by decide +kernel
theorem dX6_mean_2 : decode cX6_mean 2 = .ok (.iconst 5, 1) := by decide +kernel
theorem dX6_mean_3 : decode cX6_mean 3 = .ok (.invokestatic 69, 3) := by decide +kernel
theorem dX6_mean_6 : decode cX6_mean 6 = .ok (.ifCond .ne 5, 3) := by decide +kernel
theorem dX6_mean_9 : decode cX6_mean 9 = .ok (.iconst (-1), 1) := by decide +kernel
theorem dX6_mean_10 : decode cX6_mean 10 = .ok (.ireturn, 1) := by decide +kernel
theorem dX6_mean_11 : decode cX6_mean 11 = .ok (.aload_n 0, 1) := by decide +kernel
theorem dX6_mean_12 : decode cX6_mean 12 = .ok (.getfield 7, 3) := by decide +kernel
theorem dX6_mean_15 : decode cX6_mean 15 = .ok (.iload_n 1, 1) := by decide +kernel
theorem dX6_mean_16 : decode cX6_mean 16 = .ok (.iaload, 1) := by decide +kernel
theorem dX6_mean_17 : decode cX6_mean 17 = .ok (.ifCond .ge 9, 3) := by decide +kernel
theorem dX6_mean_20 : decode cX6_mean 20 = .ok (.aload_n 0, 1) := by decide +kernel
theorem dX6_mean_21 : decode cX6_mean 21 = .ok (.iconst 1, 1) := by decide +kernel
theorem dX6_mean_22 : decode cX6_mean 22 = .ok (.invokevirtual 73, 3) := by decide +kernel
theorem dX6_mean_25 : decode cX6_mean 25 = .ok (.ireturn, 1) := by decide +kernel
theorem dX6_mean_26 : decode cX6_mean 26 = .ok (.aload_n 0, 1) := by decide +kernel
theorem dX6_mean_27 : decode cX6_mean 27 = .ok (.getfield 7, 3) := by decide +kernel
theorem dX6_mean_30 : decode cX6_mean 30 = .ok (.iload_n 1, 1) := by decide +kernel
theorem dX6_mean_31 : decode cX6_mean 31 = .ok (.iaload, 1) := by decide +kernel
theorem dX6_mean_32 : decode cX6_mean 32 = .ok (.ifCond .ne 9, 3) := by decide +kernel
theorem dX6_mean_35 : decode cX6_mean 35 = .ok (.aload_n 0, 1) := by decide +kernel
theorem dX6_mean_36 : decode cX6_mean 36 = .ok (.iconst 4, 1) := by decide +kernel
theorem dX6_mean_37 : decode cX6_mean 37 = .ok (.invokevirtual 73, 3) := by decide +kernel
theorem dX6_mean_40 : decode cX6_mean 40 = .ok (.ireturn, 1) := by decide +kernel
theorem dX6_mean_41 : decode cX6_mean 41 = .ok (.lconst 0, 1) := by decide +kernel
theorem dX6_mean_42 : decode cX6_mean 42 = .ok (.lstore_n 2, 1) := by decide +kernel
theorem dX6_mean_43 : decode cX6_mean 43 = .ok (.iconst 0, 1) := by decide +kernel
theorem dX6_mean_44 : decode cX6_mean 44 = .ok (.istore 4, 2) := by decide +kernel
theorem dX6_mean_46 : decode cX6_mean 46 = .ok (.iload 4, 2) := by decide +kernel
theorem dX6_mean_48 : decode cX6_mean 48 = .ok (.aload_n 0, 1) := by decide +kernel
theorem dX6_mean_49 : decode cX6_mean 49 = .ok (.getfield 7, 3) := by decide +kernel
theorem dX6_mean_52 : decode cX6_mean 52 = .ok (.iload_n 1, 1) := by decide +kernel
theorem dX6_mean_53 : decode cX6_mean 53 = .ok (.iaload, 1) := by decide +kernel
theorem dX6_mean_54 : decode cX6_mean 54 = .ok (.if_icmp .ge 25, 3) := by decide +kernel
theorem dX6_mean_57 : decode cX6_mean 57 = .ok (.lload_n 2, 1) := by decide +kernel
theorem dX6_mean_58 : decode cX6_mean 58 = .ok (.aload_n 0, 1) := by decide +kernel
theorem dX6_mean_59 : decode cX6_mean 59 = .ok (.getfield 13, 3) := by decide +kernel
theorem dX6_mean_62 : decode cX6_mean 62 = .ok (.bipush 40, 2) := by decide +kernel
theorem dX6_mean_64 : decode cX6_mean 64 = .ok (.iload_n 1, 1) := by decide +kernel
theorem dX6_mean_65 : decode cX6_mean 65 = .ok (.imul, 1) := by decide +kernel
theorem dX6_mean_66 : decode cX6_mean 66 = .ok (.iload 4, 2) := by decide +kernel
theorem dX6_mean_68 : decode cX6_mean 68 = .ok (.iadd, 1) := by decide +kernel
theorem dX6_mean_69 : decode cX6_mean 69 = .ok (.iaload, 1) := by decide +kernel
theorem dX6_mean_70 : decode cX6_mean 70 = .ok (.i2l, 1) := by decide +kernel
theorem dX6_mean_71 : decode cX6_mean 71 = .ok (.ladd, 1) := by decide +kernel
theorem dX6_mean_72 : decode cX6_mean 72 = .ok (.lstore_n 2, 1) := by decide +kernel
theorem dX6_mean_73 : decode cX6_mean 73 = .ok (.iinc 4 1, 3) := by decide +kernel
theorem dX6_mean_76 : decode cX6_mean 76 = .ok (.goto (-30), 3) := by decide +kernel
theorem dX6_mean_79 : decode cX6_mean 79 = .ok (.aload_n 0, 1) := by decide +kernel
theorem dX6_mean_80 : decode cX6_mean 80 = .ok (.lload_n 2, 1) := by decide +kernel
theorem dX6_mean_81 : decode cX6_mean 81 = .ok (.aload_n 0, 1) := by decide +kernel
theorem dX6_mean_82 : decode cX6_mean 82 = .ok (.getfield 7, 3) := by decide +kernel
theorem dX6_mean_85 : decode cX6_mean 85 = .ok (.iload_n 1, 1) := by decide +kernel
theorem dX6_mean_86 : decode cX6_mean 86 = .ok (.iaload, 1) := by decide +kernel
theorem dX6_mean_87 : decode cX6_mean 87 = .ok (.i2l, 1) := by decide +kernel
theorem dX6_mean_88 : decode cX6_mean 88 = .ok (.ldiv, 1) := by decide +kernel
theorem dX6_mean_89 : decode cX6_mean 89 = .ok (.l2i, 1) := by decide +kernel
theorem dX6_mean_90 : decode cX6_mean 90 = .ok (.invokevirtual 81, 3) := by decide +kernel
theorem dX6_mean_93 : decode cX6_mean 93 = .ok (.ireturn, 1) := by decide +kernel
theorem dX6_text_0 : decode cX6_text 0 = .ok (.iload_n 1, 1) := by decide +kernel
theorem dX6_text_1 : decode cX6_text 1 = .ok (.iconst 0, 1) := by decide +kernel
theorem dX6_text_2 : decode cX6_text 2 = .ok (.iconst 3, 1) := by decide +kernel
theorem dX6_text_3 : decode cX6_text 3 = .ok (.invokestatic 69, 3) := by decide +kernel
theorem dX6_text_6 : decode cX6_text 6 = .ok (.ifCond .eq 9, 3) := by decide +kernel
theorem dX6_text_9 : decode cX6_text 9 = .ok (.iload_n 2, 1) := by decide +kernel
theorem dX6_text_10 : decode cX6_text 10 = .ok (.bipush 60, 2) := by decide +kernel
theorem dX6_text_12 : decode cX6_text 12 = .ok (.if_icmp .le 5, 3) := by decide +kernel
theorem dX6_text_15 : decode cX6_text 15 = .ok (.iconst (-1), 1) := by decide +kernel
theorem dX6_text_16 : decode cX6_text 16 = .ok (.ireturn, 1) := by decide +kernel
theorem dX6_text_17 : decode cX6_text 17 = .ok (.iload_n 2, 1) := by decide +kernel
theorem dX6_text_18 : decode cX6_text 18 = .ok (.ifCond .ge 9, 3) := by decide +kernel
theorem dX6_text_21 : decode cX6_text 21 = .ok (.aload_n 0, 1) := by decide +kernel
theorem dX6_text_22 : decode cX6_text 22 = .ok (.iconst 5, 1) := by decide +kernel
theorem dX6_text_23 : decode cX6_text 23 = .ok (.invokevirtual 73, 3) := by decide +kernel
theorem dX6_text_26 : decode cX6_text 26 = .ok (.ireturn, 1) := by decide +kernel
theorem dX6_text_27 : decode cX6_text 27 = .ok (.aload_n 0, 1) := by decide +kernel
theorem dX6_text_28 : decode cX6_text 28 = .ok (.getfield 16, 3) := by decide +kernel
theorem dX6_text_31 : decode cX6_text 31 = .ok (.iload_n 1, 1) := by decide +kernel
theorem dX6_text_32 : decode cX6_text 32 = .ok (.iload_n 2, 1) := by decide +kernel
theorem dX6_text_33 : decode cX6_text 33 = .ok (.iastore, 1) := by decide +kernel
theorem dX6_text_34 : decode cX6_text 34 = .ok (.iconst 0, 1) := by decide +kernel
theorem dX6_text_35 : decode cX6_text 35 = .ok (.istore_n 3, 1) := by decide +kernel
theorem dX6_text_36 : decode cX6_text 36 = .ok (.iload_n 3, 1) := by decide +kernel
theorem dX6_text_37 : decode cX6_text 37 = .ok (.bipush 60, 2) := by decide +kernel
theorem dX6_text_39 : decode cX6_text 39 = .ok (.if_icmp .ge 22, 3) := by decide +kernel
theorem dX6_text_42 : decode cX6_text 42 = .ok (.aload_n 0, 1) := by decide +kernel
theorem dX6_text_43 : decode cX6_text 43 = .ok (.getfield 19, 3) := by decide +kernel
theorem dX6_text_46 : decode cX6_text 46 = .ok (.bipush 60, 2) := by decide +kernel
theorem dX6_text_48 : decode cX6_text 48 = .ok (.iload_n 1, 1) := by decide +kernel
theorem dX6_text_49 : decode cX6_text 49 = .ok (.imul, 1) := by decide +kernel
theorem dX6_text_50 : decode cX6_text 50 = .ok (.iload_n 3, 1) := by decide +kernel
theorem dX6_text_51 : decode cX6_text 51 = .ok (.iadd, 1) := by decide +kernel
theorem dX6_text_52 : decode cX6_text 52 = .ok (.bipush 32, 2) := by decide +kernel
theorem dX6_text_54 : decode cX6_text 54 = .ok (.iastore, 1) := by decide +kernel
theorem dX6_text_55 : decode cX6_text 55 = .ok (.iinc 3 1, 3) := by decide +kernel
theorem dX6_text_58 : decode cX6_text 58 = .ok (.goto (-22), 3) := by decide +kernel
theorem dX6_text_61 : decode cX6_text 61 = .ok (.iload_n 2, 1) := by decide +kernel
theorem dX6_text_62 : decode cX6_text 62 = .ok (.ireturn, 1) := by decide +kernel
theorem dX6_put_0 : decode cX6_put 0 = .ok (.iload_n 1, 1) := by decide +kernel
theorem dX6_put_1 : decode cX6_put 1 = .ok (.iconst 0, 1) := by decide +kernel
theorem dX6_put_2 : decode cX6_put 2 = .ok (.iconst 3, 1) := by decide +kernel
theorem dX6_put_3 : decode cX6_put 3 = .ok (.invokestatic 69, 3) := by decide +kernel
theorem dX6_put_6 : decode cX6_put 6 = .ok (.ifCond .ne 5, 3) := by decide +kernel
theorem dX6_put_9 : decode cX6_put 9 = .ok (.iconst (-1), 1) := by decide +kernel
theorem dX6_put_10 : decode cX6_put 10 = .ok (.ireturn, 1) := by decide +kernel
theorem dX6_put_11 : decode cX6_put 11 = .ok (.aload_n 0, 1) := by decide +kernel
theorem dX6_put_12 : decode cX6_put 12 = .ok (.getfield 16, 3) := by decide +kernel
theorem dX6_put_15 : decode cX6_put 15 = .ok (.iload_n 1, 1) := by decide +kernel
theorem dX6_put_16 : decode cX6_put 16 = .ok (.iaload, 1) := by decide +kernel
theorem dX6_put_17 : decode cX6_put 17 = .ok (.ifCond .ge 9, 3) := by decide +kernel
theorem dX6_put_20 : decode cX6_put 20 = .ok (.aload_n 0, 1) := by decide +kernel
theorem dX6_put_21 : decode cX6_put 21 = .ok (.iconst 1, 1) := by decide +kernel
theorem dX6_put_22 : decode cX6_put 22 = .ok (.invokevirtual 73, 3) := by decide +kernel
theorem dX6_put_25 : decode cX6_put 25 = .ok (.ireturn, 1) := by decide +kernel
theorem dX6_put_26 : decode cX6_put 26 = .ok (.iload_n 2, 1) := by decide +kernel
theorem dX6_put_27 : decode cX6_put 27 = .ok (.iconst 0, 1) := by decide +kernel
theorem dX6_put_28 : decode cX6_put 28 = .ok (.aload_n 0, 1) := by decide +kernel
theorem dX6_put_29 : decode cX6_put 29 = .ok (.getfield 16, 3) := by decide +kernel
theorem dX6_put_32 : decode cX6_put 32 = .ok (.iload_n 1, 1) := by decide +kernel
theorem dX6_put_33 : decode cX6_put 33 = .ok (.iaload, 1) := by decide +kernel
theorem dX6_put_34 : decode cX6_put 34 = .ok (.iconst 1, 1) := by decide +kernel
theorem dX6_put_35 : decode cX6_put 35 = .ok (.isub, 1) := by decide +kernel
theorem dX6_put_36 : decode cX6_put 36 = .ok (.invokestatic 69, 3) := by decide +kernel
theorem dX6_put_39 : decode cX6_put 39 = .ok (.ifCond .ne 9, 3) := by decide +kernel
theorem dX6_put_42 : decode cX6_put 42 = .ok (.aload_n 0, 1) := by decide +kernel
theorem dX6_put_43 : decode cX6_put 43 = .ok (.iconst 2, 1) := by decide +kernel
theorem dX6_put_44 : decode cX6_put 44 = .ok (.invokevirtual 73, 3) := by decide +kernel
theorem dX6_put_47 : decode cX6_put 47 = .ok (.ireturn, 1) := by decide +kernel
theorem dX6_put_48 : decode cX6_put 48 = .ok (.aload_n 0, 1) := by decide +kernel
theorem dX6_put_49 : decode cX6_put 49 = .ok (.getfield 19, 3) := by decide +kernel
theorem dX6_put_52 : decode cX6_put 52 = .ok (.bipush 60, 2) := by decide +kernel
theorem dX6_put_54 : decode cX6_put 54 = .ok (.iload_n 1, 1) := by decide +kernel
theorem dX6_put_55 : decode cX6_put 55 = .ok (.imul, 1) := by decide +kernel
theorem dX6_put_56 : decode cX6_put 56 = .ok (.iload_n 2, 1) := by decide +kernel
theorem dX6_put_57 : decode cX6_put 57 = .ok (.iadd, 1) := by decide +kernel
theorem dX6_put_58 : decode cX6_put 58 = .ok (.iaload, 1) := by decide +kernel
theorem dX6_put_59 : decode cX6_put 59 = .ok (.istore 4, 2) := by decide +kernel
theorem dX6_put_61 : decode cX6_put 61 = .ok (.aload_n 0, 1) := by decide +kernel
theorem dX6_put_62 : decode cX6_put 62 = .ok (.getfield 19, 3) := by decide +kernel
theorem dX6_put_65 : decode cX6_put 65 = .ok (.bipush 60, 2) := by decide +kernel
theorem dX6_put_67 : decode cX6_put 67 = .ok (.iload_n 1, 1) := by decide +kernel
theorem dX6_put_68 : decode cX6_put 68 = .ok (.imul, 1) := by decide +kernel
theorem dX6_put_69 : decode cX6_put 69 = .ok (.iload_n 2, 1) := by decide +kernel
theorem dX6_put_70 : decode cX6_put 70 = .ok (.iadd, 1) := by decide +kernel
theorem dX6_put_71 : decode cX6_put 71 = .ok (.iload_n 3, 1) := by decide +kernel
theorem dX6_put_72 : decode cX6_put 72 = .ok (.i2b, 1) := by decide +kernel
theorem dX6_put_73 : decode cX6_put 73 = .ok (.iastore, 1) := by decide +kernel
theorem dX6_put_74 : decode cX6_put 74 = .ok (.iload 4, 2) := by decide +kernel
theorem dX6_put_76 : decode cX6_put 76 = .ok (.sipush 1000, 3) := by decide +kernel
theorem dX6_put_79 : decode cX6_put 79 = .ok (.iadd, 1) := by decide +kernel
theorem dX6_put_80 : decode cX6_put 80 = .ok (.ireturn, 1) := by decide +kernel
theorem dX6_letterAt_0 : decode cX6_letterAt 0 = .ok (.iload_n 1, 1) := by decide +kernel
theorem dX6_letterAt_1 : decode cX6_letterAt 1 = .ok (.aload_n 0, 1) := by decide +kernel
theorem dX6_letterAt_2 : decode cX6_letterAt 2 = .ok (.getfield 87, 3) := by decide +kernel
theorem dX6_letterAt_5 : decode cX6_letterAt 5 = .ok (.if_icmp .ge 17, 3) := by decide +kernel
theorem dX6_letterAt_8 : decode cX6_letterAt 8 = .ok (.aload_n 0, 1) := by decide +kernel
theorem dX6_letterAt_9 : decode cX6_letterAt 9 = .ok (.getfield 19, 3) := by decide +kernel
theorem dX6_letterAt_12 : decode cX6_letterAt 12 = .ok (.aload_n 0, 1) := by decide +kernel
theorem dX6_letterAt_13 : decode cX6_letterAt 13 = .ok (.getfield 90, 3) := by decide +kernel
theorem dX6_letterAt_16 : decode cX6_letterAt 16 = .ok (.iload_n 1, 1) := by decide +kernel
theorem dX6_letterAt_17 : decode cX6_letterAt 17 = .ok (.iadd, 1) := by decide +kernel
theorem dX6_letterAt_18 : decode cX6_letterAt 18 = .ok (.iaload, 1) := by decide +kernel
theorem dX6_letterAt_19 : decode cX6_letterAt 19 = .ok (.goto 6, 3) := by decide +kernel
theorem dX6_letterAt_22 : decode cX6_letterAt 22 = .ok (.sipush (-1000), 3) := by decide +kernel
theorem dX6_letterAt_25 : decode cX6_letterAt 25 = .ok (.ireturn, 1) := by decide +kernel
theorem dX6_figure_0 : decode cX6_figure 0 = .ok (.aload_n 0, 1) := by decide +kernel
theorem dX6_figure_1 : decode cX6_figure 1 = .ok (.aload_n 0, 1) := by decide +kernel
theorem dX6_figure_2 : decode cX6_figure 2 = .ok (.getfield 93, 3) := by decide +kernel
theorem dX6_figure_5 : decode cX6_figure 5 = .ok (.invokevirtual 96, 3) := by decide +kernel
theorem dX6_figure_8 : decode cX6_figure 8 = .ok (.bipush 48, 2) := by decide +kernel
theorem dX6_figure_10 : decode cX6_figure 10 = .ok (.isub, 1) := by decide +kernel
theorem dX6_figure_11 : decode cX6_figure 11 = .ok (.istore_n 3, 1) := by decide +kernel
theorem dX6_figure_12 : decode cX6_figure 12 = .ok (.iload_n 3, 1) := by decide +kernel
theorem dX6_figure_13 : decode cX6_figure 13 = .ok (.iload_n 1, 1) := by decide +kernel
theorem dX6_figure_14 : decode cX6_figure 14 = .ok (.iload_n 2, 1) := by decide +kernel
theorem dX6_figure_15 : decode cX6_figure 15 = .ok (.invokestatic 69, 3) := by decide +kernel
theorem dX6_figure_18 : decode cX6_figure 18 = .ok (.ifCond .ne 5, 3) := by decide +kernel
theorem dX6_figure_21 : decode cX6_figure 21 = .ok (.iconst (-1), 1) := by decide +kernel
theorem dX6_figure_22 : decode cX6_figure 22 = .ok (.ireturn, 1) := by decide +kernel
theorem dX6_figure_23 : decode cX6_figure 23 = .ok (.aload_n 0, 1) := by decide +kernel
theorem dX6_figure_24 : decode cX6_figure 24 = .ok (.dup, 1) := by decide +kernel
theorem dX6_figure_25 : decode cX6_figure 25 = .ok (.getfield 93, 3) := by decide +kernel
theorem dX6_figure_28 : decode cX6_figure 28 = .ok (.iconst 1, 1) := by decide +kernel
theorem dX6_figure_29 : decode cX6_figure 29 = .ok (.iadd, 1) := by decide +kernel
theorem dX6_figure_30 : decode cX6_figure 30 = .ok (.putfield 93, 3) := by decide +kernel
theorem dX6_figure_33 : decode cX6_figure 33 = .ok (.iload_n 3, 1) := by decide +kernel
theorem dX6_figure_34 : decode cX6_figure 34 = .ok (.ireturn, 1) := by decide +kernel
theorem dX6_skip_0 : decode cX6_skip 0 = .ok (.aload_n 0, 1) := by decide +kernel
theorem dX6_skip_1 : decode cX6_skip 1 = .ok (.aload_n 0, 1) := by decide +kernel
theorem dX6_skip_2 : decode cX6_skip 2 = .ok (.getfield 93, 3) := by decide +kernel
theorem dX6_skip_5 : decode cX6_skip 5 = .ok (.invokevirtual 96, 3) := by decide +kernel
theorem dX6_skip_8 : decode cX6_skip 8 = .ok (.bipush 32, 2) := by decide +kernel
theorem dX6_skip_10 : decode cX6_skip 10 = .ok (.if_icmp .ne 16, 3) := by decide +kernel
theorem dX6_skip_13 : decode cX6_skip 13 = .ok (.aload_n 0, 1) := by decide +kernel
theorem dX6_skip_14 : decode cX6_skip 14 = .ok (.dup, 1) := by decide +kernel
theorem dX6_skip_15 : decode cX6_skip 15 = .ok (.getfield 93, 3) := by decide +kernel
theorem dX6_skip_18 : decode cX6_skip 18 = .ok (.iconst 1, 1) := by decide +kernel
theorem dX6_skip_19 : decode cX6_skip 19 = .ok (.iadd, 1) := by decide +kernel
theorem dX6_skip_20 : decode cX6_skip 20 = .ok (.putfield 93, 3) := by decide +kernel
theorem dX6_skip_23 : decode cX6_skip 23 = .ok (.goto (-23), 3) := by decide +kernel
theorem dX6_skip_26 : decode cX6_skip 26 = .ok (.return_, 1) := by decide +kernel
theorem dX6_sortBy_0 : decode cX6_sortBy 0 = .ok (.iload_n 0, 1) := by decide +kernel
theorem dX6_sortBy_1 : decode cX6_sortBy 1 = .ok (.bipush 104, 2) := by decide +kernel
theorem dX6_sortBy_3 : decode cX6_sortBy 3 = .ok (.if_icmp .ne 7, 3) := by decide +kernel
theorem dX6_sortBy_6 : decode cX6_sortBy 6 = .ok (.iconst 0, 1) := by decide +kernel
theorem dX6_sortBy_7 : decode cX6_sortBy 7 = .ok (.goto 54, 3) := by decide +kernel
theorem dX6_sortBy_10 : decode cX6_sortBy 10 = .ok (.iload_n 0, 1) := by decide +kernel
theorem dX6_sortBy_11 : decode cX6_sortBy 11 = .ok (.bipush 118, 2) := by decide +kernel
theorem dX6_sortBy_13 : decode cX6_sortBy 13 = .ok (.if_icmp .ne 7, 3) := by decide +kernel
theorem dX6_sortBy_16 : decode cX6_sortBy 16 = .ok (.iconst 1, 1) := by decide +kernel
theorem dX6_sortBy_17 : decode cX6_sortBy 17 = .ok (.goto 44, 3) := by decide +kernel
theorem dX6_sortBy_20 : decode cX6_sortBy 20 = .ok (.iload_n 0, 1) := by decide +kernel
theorem dX6_sortBy_21 : decode cX6_sortBy 21 = .ok (.bipush 114, 2) := by decide +kernel
theorem dX6_sortBy_23 : decode cX6_sortBy 23 = .ok (.if_icmp .ne 7, 3) := by decide +kernel
theorem dX6_sortBy_26 : decode cX6_sortBy 26 = .ok (.iconst 2, 1) := by decide +kernel
theorem dX6_sortBy_27 : decode cX6_sortBy 27 = .ok (.goto 34, 3) := by decide +kernel
theorem dX6_sortBy_30 : decode cX6_sortBy 30 = .ok (.iload_n 0, 1) := by decide +kernel
theorem dX6_sortBy_31 : decode cX6_sortBy 31 = .ok (.bipush 100, 2) := by decide +kernel
theorem dX6_sortBy_33 : decode cX6_sortBy 33 = .ok (.if_icmp .ne 7, 3) := by decide +kernel
theorem dX6_sortBy_36 : decode cX6_sortBy 36 = .ok (.iconst 3, 1) := by decide +kernel
theorem dX6_sortBy_37 : decode cX6_sortBy 37 = .ok (.goto 24, 3) := by decide +kernel
theorem dX6_sortBy_40 : decode cX6_sortBy 40 = .ok (.iload_n 0, 1) := by decide +kernel
theorem dX6_sortBy_41 : decode cX6_sortBy 41 = .ok (.bipush 105, 2) := by decide +kernel
theorem dX6_sortBy_43 : decode cX6_sortBy 43 = .ok (.if_icmp .ne 7, 3) := by decide +kernel
theorem dX6_sortBy_46 : decode cX6_sortBy 46 = .ok (.iconst 4, 1) := by decide +kernel
theorem dX6_sortBy_47 : decode cX6_sortBy 47 = .ok (.goto 14, 3) := by decide +kernel
theorem dX6_sortBy_50 : decode cX6_sortBy 50 = .ok (.iload_n 0, 1) := by decide +kernel
theorem dX6_sortBy_51 : decode cX6_sortBy 51 = .ok (.bipush 109, 2) := by decide +kernel
theorem dX6_sortBy_53 : decode cX6_sortBy 53 = .ok (.if_icmp .ne 7, 3) := by decide +kernel
theorem dX6_sortBy_56 : decode cX6_sortBy 56 = .ok (.iconst 5, 1) := by decide +kernel
theorem dX6_sortBy_57 : decode cX6_sortBy 57 = .ok (.goto 4, 3) := by decide +kernel
theorem dX6_sortBy_60 : decode cX6_sortBy 60 = .ok (.iconst (-1), 1) := by decide +kernel
theorem dX6_sortBy_61 : decode cX6_sortBy 61 = .ok (.ireturn, 1) := by decide +kernel
theorem dX6_twoFigures_0 : decode cX6_twoFigures 0 = .ok (.aload_n 0, 1) := by decide +kernel
theorem dX6_twoFigures_1 : decode cX6_twoFigures 1 = .ok (.iconst 0, 1) := by decide +kernel
theorem dX6_twoFigures_2 : decode cX6_twoFigures 2 = .ok (.bipush 9, 2) := by decide +kernel
theorem dX6_twoFigures_4 : decode cX6_twoFigures 4 = .ok (.invokevirtual 99, 3) := by decide +kernel
theorem dX6_twoFigures_7 : decode cX6_twoFigures 7 = .ok (.istore_n 1, 1) := by decide +kernel
theorem dX6_twoFigures_8 : decode cX6_twoFigures 8 = .ok (.iload_n 1, 1) := by decide +kernel
theorem dX6_twoFigures_9 : decode cX6_twoFigures 9 = .ok (.ifCond .ge 5, 3) := by decide +kernel
theorem dX6_twoFigures_12 : decode cX6_twoFigures 12 = .ok (.iconst (-1), 1) := by decide +kernel
theorem dX6_twoFigures_13 : decode cX6_twoFigures 13 = .ok (.ireturn, 1) := by decide +kernel
theorem dX6_twoFigures_14 : decode cX6_twoFigures 14 = .ok (.aload_n 0, 1) := by decide +kernel
theorem dX6_twoFigures_15 : decode cX6_twoFigures 15 = .ok (.iconst 0, 1) := by decide +kernel
theorem dX6_twoFigures_16 : decode cX6_twoFigures 16 = .ok (.bipush 9, 2) := by decide +kernel
theorem dX6_twoFigures_18 : decode cX6_twoFigures 18 = .ok (.invokevirtual 99, 3) := by decide +kernel
theorem dX6_twoFigures_21 : decode cX6_twoFigures 21 = .ok (.istore_n 2, 1) := by decide +kernel
theorem dX6_twoFigures_22 : decode cX6_twoFigures 22 = .ok (.iload_n 2, 1) := by decide +kernel
theorem dX6_twoFigures_23 : decode cX6_twoFigures 23 = .ok (.ifCond .ge 7, 3) := by decide +kernel
theorem dX6_twoFigures_26 : decode cX6_twoFigures 26 = .ok (.iconst (-1), 1) := by decide +kernel
theorem dX6_twoFigures_27 : decode cX6_twoFigures 27 = .ok (.goto 9, 3) := by decide +kernel
theorem dX6_twoFigures_30 : decode cX6_twoFigures 30 = .ok (.bipush 10, 2) := by decide +kernel
theorem dX6_twoFigures_32 : decode cX6_twoFigures 32 = .ok (.iload_n 1, 1) := by decide +kernel
theorem dX6_twoFigures_33 : decode cX6_twoFigures 33 = .ok (.imul, 1) := by decide +kernel
theorem dX6_twoFigures_34 : decode cX6_twoFigures 34 = .ok (.iload_n 2, 1) := by decide +kernel
theorem dX6_twoFigures_35 : decode cX6_twoFigures 35 = .ok (.iadd, 1) := by decide +kernel
theorem dX6_twoFigures_36 : decode cX6_twoFigures 36 = .ok (.ireturn, 1) := by decide +kernel
theorem dX6_isStreet_0 : decode cX6_isStreet 0 = .ok (.aload_n 0, 1) := by decide +kernel
theorem dX6_isStreet_1 : decode cX6_isStreet 1 = .ok (.aload_n 0, 1) := by decide +kernel
theorem dX6_isStreet_2 : decode cX6_isStreet 2 = .ok (.getfield 93, 3) := by decide +kernel
theorem dX6_isStreet_5 : decode cX6_isStreet 5 = .ok (.invokevirtual 96, 3) := by decide +kernel
theorem dX6_isStreet_8 : decode cX6_isStreet 8 = .ok (.bipush 115, 2) := by decide +kernel
theorem dX6_isStreet_10 : decode cX6_isStreet 10 = .ok (.if_icmp .eq 5, 3) := by decide +kernel
theorem dX6_isStreet_13 : decode cX6_isStreet 13 = .ok (.iconst 0, 1) := by decide +kernel
theorem dX6_isStreet_14 : decode cX6_isStreet 14 = .ok (.ireturn, 1) := by decide +kernel
theorem dX6_isStreet_15 : decode cX6_isStreet 15 = .ok (.aload_n 0, 1) := by decide +kernel
theorem dX6_isStreet_16 : decode cX6_isStreet 16 = .ok (.dup, 1) := by decide +kernel
theorem dX6_isStreet_17 : decode cX6_isStreet 17 = .ok (.getfield 93, 3) := by decide +kernel
theorem dX6_isStreet_20 : decode cX6_isStreet 20 = .ok (.iconst 1, 1) := by decide +kernel
theorem dX6_isStreet_21 : decode cX6_isStreet 21 = .ok (.iadd, 1) := by decide +kernel
theorem dX6_isStreet_22 : decode cX6_isStreet 22 = .ok (.putfield 93, 3) := by decide +kernel
theorem dX6_isStreet_25 : decode cX6_isStreet 25 = .ok (.aload_n 0, 1) := by decide +kernel
theorem dX6_isStreet_26 : decode cX6_isStreet 26 = .ok (.aload_n 0, 1) := by decide +kernel
theorem dX6_isStreet_27 : decode cX6_isStreet 27 = .ok (.iconst 0, 1) := by decide +kernel
theorem dX6_isStreet_28 : decode cX6_isStreet 28 = .ok (.iconst 1, 1) := by decide +kernel
theorem dX6_isStreet_29 : decode cX6_isStreet 29 = .ok (.invokevirtual 99, 3) := by decide +kernel
theorem dX6_isStreet_32 : decode cX6_isStreet 32 = .ok (.putfield 102, 3) := by decide +kernel
theorem dX6_isStreet_35 : decode cX6_isStreet 35 = .ok (.aload_n 0, 1) := by decide +kernel
theorem dX6_isStreet_36 : decode cX6_isStreet 36 = .ok (.getfield 102, 3) := by decide +kernel
theorem dX6_isStreet_39 : decode cX6_isStreet 39 = .ok (.ifCond .ge 5, 3) := by decide +kernel
theorem dX6_isStreet_42 : decode cX6_isStreet 42 = .ok (.iconst 0, 1) := by decide +kernel
theorem dX6_isStreet_43 : decode cX6_isStreet 43 = .ok (.ireturn, 1) := by decide +kernel
theorem dX6_isStreet_44 : decode cX6_isStreet 44 = .ok (.aload_n 0, 1) := by decide +kernel
theorem dX6_isStreet_45 : decode cX6_isStreet 45 = .ok (.aload_n 0, 1) := by decide +kernel
theorem dX6_isStreet_46 : decode cX6_isStreet 46 = .ok (.invokevirtual 105, 3) := by decide +kernel
theorem dX6_isStreet_49 : decode cX6_isStreet 49 = .ok (.putfield 109, 3) := by decide +kernel
theorem dX6_isStreet_52 : decode cX6_isStreet 52 = .ok (.aload_n 0, 1) := by decide +kernel
theorem dX6_isStreet_53 : decode cX6_isStreet 53 = .ok (.getfield 109, 3) := by decide +kernel
theorem dX6_isStreet_56 : decode cX6_isStreet 56 = .ok (.ifCond .lt 7, 3) := by decide +kernel
theorem dX6_isStreet_59 : decode cX6_isStreet 59 = .ok (.iconst 1, 1) := by decide +kernel
theorem dX6_isStreet_60 : decode cX6_isStreet 60 = .ok (.goto 4, 3) := by decide +kernel
theorem dX6_isStreet_63 : decode cX6_isStreet 63 = .ok (.iconst 0, 1) := by decide +kernel
theorem dX6_isStreet_64 : decode cX6_isStreet 64 = .ok (.ireturn, 1) := by decide +kernel
theorem dX6_isHouseItem_0 : decode cX6_isHouseItem 0 = .ok (.aload_n 0, 1) := by decide +kernel
theorem dX6_isHouseItem_1 : decode cX6_isHouseItem 1 = .ok (.aload_n 0, 1) := by decide +kernel
theorem dX6_isHouseItem_2 : decode cX6_isHouseItem 2 = .ok (.getfield 93, 3) := by decide +kernel
theorem dX6_isHouseItem_5 : decode cX6_isHouseItem 5 = .ok (.invokevirtual 96, 3) := by decide +kernel
theorem dX6_isHouseItem_8 : decode cX6_isHouseItem 8 = .ok (.invokestatic 112, 3) := by decide +kernel
theorem dX6_isHouseItem_11 : decode cX6_isHouseItem 11 = .ok (.istore_n 1, 1) := by decide +kernel
theorem dX6_isHouseItem_12 : decode cX6_isHouseItem 12 = .ok (.iload_n 1, 1) := by decide +kernel
theorem dX6_isHouseItem_13 : decode cX6_isHouseItem 13 = .ok (.ifCond .lt 12, 3) := by decide +kernel
theorem dX6_isHouseItem_16 : decode cX6_isHouseItem 16 = .ok (.aload_n 0, 1) := by decide +kernel
theorem dX6_isHouseItem_17 : decode cX6_isHouseItem 17 = .ok (.getfield 115, 3) := by decide +kernel
theorem dX6_isHouseItem_20 : decode cX6_isHouseItem 20 = .ok (.bipush 6, 2) := by decide +kernel
theorem dX6_isHouseItem_22 : decode cX6_isHouseItem 22 = .ok (.if_icmp .ne 5, 3) := by decide +kernel
theorem dX6_isHouseItem_25 : decode cX6_isHouseItem 25 = .ok (.iconst 0, 1) := by decide +kernel
theorem dX6_isHouseItem_26 : decode cX6_isHouseItem 26 = .ok (.ireturn, 1) := by decide +kernel
theorem dX6_isHouseItem_27 : decode cX6_isHouseItem 27 = .ok (.aload_n 0, 1) := by decide +kernel
theorem dX6_isHouseItem_28 : decode cX6_isHouseItem 28 = .ok (.dup, 1) := by decide +kernel
theorem dX6_isHouseItem_29 : decode cX6_isHouseItem 29 = .ok (.getfield 93, 3) := by decide +kernel
theorem dX6_isHouseItem_32 : decode cX6_isHouseItem 32 = .ok (.iconst 1, 1) := by decide +kernel
theorem dX6_isHouseItem_33 : decode cX6_isHouseItem 33 = .ok (.iadd, 1) := by decide +kernel
theorem dX6_isHouseItem_34 : decode cX6_isHouseItem 34 = .ok (.putfield 93, 3) := by decide +kernel
theorem dX6_isHouseItem_37 : decode cX6_isHouseItem 37 = .ok (.aload_n 0, 1) := by decide +kernel
theorem dX6_isHouseItem_38 : decode cX6_isHouseItem 38 = .ok (.invokevirtual 105, 3) := by decide +kernel
theorem dX6_isHouseItem_41 : decode cX6_isHouseItem 41 = .ok (.istore_n 2, 1) := by decide +kernel
theorem dX6_isHouseItem_42 : decode cX6_isHouseItem 42 = .ok (.iload_n 2, 1) := by decide +kernel
theorem dX6_isHouseItem_43 : decode cX6_isHouseItem 43 = .ok (.ifCond .ge 5, 3) := by decide +kernel
theorem dX6_isHouseItem_46 : decode cX6_isHouseItem 46 = .ok (.iconst 0, 1) := by decide +kernel
theorem dX6_isHouseItem_47 : decode cX6_isHouseItem 47 = .ok (.ireturn, 1) := by decide +kernel
theorem dX6_isHouseItem_48 : decode cX6_isHouseItem 48 = .ok (.aload_n 0, 1) := by decide +kernel
theorem dX6_isHouseItem_49 : decode cX6_isHouseItem 49 = .ok (.invokevirtual 105, 3) := by decide +kernel
theorem dX6_isHouseItem_52 : decode cX6_isHouseItem 52 = .ok (.istore_n 3, 1) := by decide +kernel
theorem dX6_isHouseItem_53 : decode cX6_isHouseItem 53 = .ok (.iload_n 3, 1) := by decide +kernel
theorem dX6_isHouseItem_54 : decode cX6_isHouseItem 54 = .ok (.ifCond .ge 5, 3) := by decide +kernel
theorem dX6_isHouseItem_57 : decode cX6_isHouseItem 57 = .ok (.iconst 0, 1) := by decide +kernel
theorem dX6_isHouseItem_58 : decode cX6_isHouseItem 58 = .ok (.ireturn, 1) := by decide +kernel
theorem dX6_isHouseItem_59 : decode cX6_isHouseItem 59 = .ok (.aload_n 0, 1) := by decide +kernel
theorem dX6_isHouseItem_60 : decode cX6_isHouseItem 60 = .ok (.getfield 29, 3) := by decide +kernel
theorem dX6_isHouseItem_63 : decode cX6_isHouseItem 63 = .ok (.iconst 3, 1) := by decide +kernel
theorem dX6_isHouseItem_64 : decode cX6_isHouseItem 64 = .ok (.aload_n 0, 1) := by decide +kernel
theorem dX6_isHouseItem_65 : decode cX6_isHouseItem 65 = .ok (.getfield 115, 3) := by decide +kernel
theorem dX6_isHouseItem_68 : decode cX6_isHouseItem 68 = .ok (.imul, 1) := by decide +kernel
theorem dX6_isHouseItem_69 : decode cX6_isHouseItem 69 = .ok (.iload_n 1, 1) := by decide +kernel
theorem dX6_isHouseItem_70 : decode cX6_isHouseItem 70 = .ok (.iastore, 1) := by decide +kernel
theorem dX6_isHouseItem_71 : decode cX6_isHouseItem 71 = .ok (.aload_n 0, 1) := by decide +kernel
theorem dX6_isHouseItem_72 : decode cX6_isHouseItem 72 = .ok (.getfield 29, 3) := by decide +kernel
theorem dX6_isHouseItem_75 : decode cX6_isHouseItem 75 = .ok (.iconst 3, 1) := by decide +kernel
theorem dX6_isHouseItem_76 : decode cX6_isHouseItem 76 = .ok (.aload_n 0, 1) := by decide +kernel
theorem dX6_isHouseItem_77 : decode cX6_isHouseItem 77 = .ok (.getfield 115, 3) := by decide +kernel
theorem dX6_isHouseItem_80 : decode cX6_isHouseItem 80 = .ok (.imul, 1) := by decide +kernel
theorem dX6_isHouseItem_81 : decode cX6_isHouseItem 81 = .ok (.iconst 1, 1) := by decide +kernel
theorem dX6_isHouseItem_82 : decode cX6_isHouseItem 82 = .ok (.iadd, 1) := by decide +kernel
theorem dX6_isHouseItem_83 : decode cX6_isHouseItem 83 = .ok (.iload_n 2, 1) := by decide +kernel
theorem dX6_isHouseItem_84 : decode cX6_isHouseItem 84 = .ok (.iastore, 1) := by decide +kernel
theorem dX6_isHouseItem_85 : decode cX6_isHouseItem 85 = .ok (.aload_n 0, 1) := by decide +kernel
theorem dX6_isHouseItem_86 : decode cX6_isHouseItem 86 = .ok (.getfield 29, 3) := by decide +kernel
theorem dX6_isHouseItem_89 : decode cX6_isHouseItem 89 = .ok (.iconst 3, 1) := by decide +kernel
theorem dX6_isHouseItem_90 : decode cX6_isHouseItem 90 = .ok (.aload_n 0, 1) := by decide +kernel
theorem dX6_isHouseItem_91 : decode cX6_isHouseItem 91 = .ok (.getfield 115, 3) := by decide +kernel
theorem dX6_isHouseItem_94 : decode cX6_isHouseItem 94 = .ok (.imul, 1) := by decide +kernel
theorem dX6_isHouseItem_95 : decode cX6_isHouseItem 95 = .ok (.iconst 2, 1) := by decide +kernel
theorem dX6_isHouseItem_96 : decode cX6_isHouseItem 96 = .ok (.iadd, 1) := by decide +kernel
theorem dX6_isHouseItem_97 : decode cX6_isHouseItem 97 = .ok (.iload_n 3, 1) := by decide +kernel
theorem dX6_isHouseItem_98 : decode cX6_isHouseItem 98 = .ok (.iastore, 1) := by decide +kernel
theorem dX6_isHouseItem_99 : decode cX6_isHouseItem 99 = .ok (.aload_n 0, 1) := by decide +kernel
theorem dX6_isHouseItem_100 : decode cX6_isHouseItem 100 = .ok (.dup, 1) := by decide +kernel
theorem dX6_isHouseItem_101 : decode cX6_isHouseItem 101 = .ok (.getfield 115, 3) := by decide +kernel
theorem dX6_isHouseItem_104 : decode cX6_isHouseItem 104 = .ok (.iconst 1, 1) := by decide +kernel
theorem dX6_isHouseItem_105 : decode cX6_isHouseItem 105 = .ok (.iadd, 1) := by decide +kernel
theorem dX6_isHouseItem_106 : decode cX6_isHouseItem 106 = .ok (.putfield 115, 3) := by decide +kernel
theorem dX6_isHouseItem_109 : decode cX6_isHouseItem 109 = .ok (.iconst 1, 1) := by decide +kernel
theorem dX6_isHouseItem_110 : decode cX6_isHouseItem 110 = .ok (.ireturn, 1) := by decide +kernel
theorem dX6_read_0 : decode cX6_read 0 = .ok (.aload_n 0, 1) := by decide +kernel
theorem dX6_read_1 : decode cX6_read 1 = .ok (.bipush 60, 2) := by decide +kernel
theorem dX6_read_3 : decode cX6_read 3 = .ok (.iload_n 1, 1) := by decide +kernel
theorem dX6_read_4 : decode cX6_read 4 = .ok (.imul, 1) := by decide +kernel
theorem dX6_read_5 : decode cX6_read 5 = .ok (.putfield 90, 3) := by decide +kernel
theorem dX6_read_8 : decode cX6_read 8 = .ok (.aload_n 0, 1) := by decide +kernel
theorem dX6_read_9 : decode cX6_read 9 = .ok (.aload_n 0, 1) := by decide +kernel
theorem dX6_read_10 : decode cX6_read 10 = .ok (.getfield 16, 3) := by decide +kernel
theorem dX6_read_13 : decode cX6_read 13 = .ok (.iload_n 1, 1) := by decide +kernel
theorem dX6_read_14 : decode cX6_read 14 = .ok (.iaload, 1) := by decide +kernel
theorem dX6_read_15 : decode cX6_read 15 = .ok (.putfield 87, 3) := by decide +kernel
theorem dX6_read_18 : decode cX6_read 18 = .ok (.aload_n 0, 1) := by decide +kernel
theorem dX6_read_19 : decode cX6_read 19 = .ok (.iconst 0, 1) := by decide +kernel
theorem dX6_read_20 : decode cX6_read 20 = .ok (.putfield 93, 3) := by decide +kernel
theorem dX6_read_23 : decode cX6_read 23 = .ok (.aload_n 0, 1) := by decide +kernel
theorem dX6_read_24 : decode cX6_read 24 = .ok (.iconst 0, 1) := by decide +kernel
theorem dX6_read_25 : decode cX6_read 25 = .ok (.putfield 115, 3) := by decide +kernel
theorem dX6_read_28 : decode cX6_read 28 = .ok (.aload_n 0, 1) := by decide +kernel
theorem dX6_read_29 : decode cX6_read 29 = .ok (.invokevirtual 118, 3) := by decide +kernel
theorem dX6_read_32 : decode cX6_read 32 = .ok (.aload_n 0, 1) := by decide +kernel
theorem dX6_read_33 : decode cX6_read 33 = .ok (.invokevirtual 121, 3) := by decide +kernel
theorem dX6_read_36 : decode cX6_read 36 = .ok (.ifCond .ne 8, 3) := by decide +kernel
theorem dX6_read_39 : decode cX6_read 39 = .ok (.aload_n 0, 1) := by decide +kernel
theorem dX6_read_40 : decode cX6_read 40 = .ok (.getfield 93, 3) := by decide +kernel
theorem dX6_read_43 : decode cX6_read 43 = .ok (.ireturn, 1) := by decide +kernel
theorem dX6_read_44 : decode cX6_read 44 = .ok (.aload_n 0, 1) := by decide +kernel
theorem dX6_read_45 : decode cX6_read 45 = .ok (.invokevirtual 118, 3) := by decide +kernel
theorem dX6_read_48 : decode cX6_read 48 = .ok (.aload_n 0, 1) := by decide +kernel
theorem dX6_read_49 : decode cX6_read 49 = .ok (.getfield 93, 3) := by decide +kernel
theorem dX6_read_52 : decode cX6_read 52 = .ok (.aload_n 0, 1) := by decide +kernel
theorem dX6_read_53 : decode cX6_read 53 = .ok (.getfield 87, 3) := by decide +kernel
theorem dX6_read_56 : decode cX6_read 56 = .ok (.if_icmp .ge 22, 3) := by decide +kernel
theorem dX6_read_59 : decode cX6_read 59 = .ok (.aload_n 0, 1) := by decide +kernel
theorem dX6_read_60 : decode cX6_read 60 = .ok (.invokevirtual 125, 3) := by decide +kernel
theorem dX6_read_63 : decode cX6_read 63 = .ok (.ifCond .ne 8, 3) := by decide +kernel
theorem dX6_read_66 : decode cX6_read 66 = .ok (.aload_n 0, 1) := by decide +kernel
theorem dX6_read_67 : decode cX6_read 67 = .ok (.getfield 93, 3) := by decide +kernel
theorem dX6_read_70 : decode cX6_read 70 = .ok (.ireturn, 1) := by decide +kernel
theorem dX6_read_71 : decode cX6_read 71 = .ok (.aload_n 0, 1) := by decide +kernel
theorem dX6_read_72 : decode cX6_read 72 = .ok (.invokevirtual 118, 3) := by decide +kernel
theorem dX6_read_75 : decode cX6_read 75 = .ok (.goto (-27), 3) := by decide +kernel
theorem dX6_read_78 : decode cX6_read 78 = .ok (.aload_n 0, 1) := by decide +kernel
theorem dX6_read_79 : decode cX6_read 79 = .ok (.getfield 115, 3) := by decide +kernel
theorem dX6_read_82 : decode cX6_read 82 = .ok (.ifCond .ne 10, 3) := by decide +kernel
theorem dX6_read_85 : decode cX6_read 85 = .ok (.aload_n 0, 1) := by decide +kernel
theorem dX6_read_86 : decode cX6_read 86 = .ok (.getfield 87, 3) := by decide +kernel
theorem dX6_read_89 : decode cX6_read 89 = .ok (.goto 5, 3) := by decide +kernel
theorem dX6_read_92 : decode cX6_read 92 = .ok (.bipush (-9), 2) := by decide +kernel
theorem dX6_read_94 : decode cX6_read 94 = .ok (.ireturn, 1) := by decide +kernel
theorem dX6_fault_0 : decode cX6_fault 0 = .ok (.iload_n 1, 1) := by decide +kernel
theorem dX6_fault_1 : decode cX6_fault 1 = .ok (.iconst 0, 1) := by decide +kernel
theorem dX6_fault_2 : decode cX6_fault 2 = .ok (.iconst 3, 1) := by decide +kernel
theorem dX6_fault_3 : decode cX6_fault 3 = .ok (.invokestatic 69, 3) := by decide +kernel
theorem dX6_fault_6 : decode cX6_fault 6 = .ok (.ifCond .ne 5, 3) := by decide +kernel
theorem dX6_fault_9 : decode cX6_fault 9 = .ok (.iconst (-1), 1) := by decide +kernel
theorem dX6_fault_10 : decode cX6_fault 10 = .ok (.ireturn, 1) := by decide +kernel
theorem dX6_fault_11 : decode cX6_fault 11 = .ok (.aload_n 0, 1) := by decide +kernel
theorem dX6_fault_12 : decode cX6_fault 12 = .ok (.getfield 16, 3) := by decide +kernel
theorem dX6_fault_15 : decode cX6_fault 15 = .ok (.iload_n 1, 1) := by decide +kernel
theorem dX6_fault_16 : decode cX6_fault 16 = .ok (.iaload, 1) := by decide +kernel
theorem dX6_fault_17 : decode cX6_fault 17 = .ok (.ifCond .ge 11, 3) := by decide +kernel
theorem dX6_fault_20 : decode cX6_fault 20 = .ok (.aload_n 0, 1) := by decide +kernel
theorem dX6_fault_21 : decode cX6_fault 21 = .ok (.iconst 1, 1) := by decide +kernel
theorem dX6_fault_22 : decode cX6_fault 22 = .ok (.invokevirtual 73, 3) := by decide +kernel
theorem dX6_fault_25 : decode cX6_fault 25 = .ok (.goto 8, 3) := by decide +kernel
theorem dX6_fault_28 : decode cX6_fault 28 = .ok (.aload_n 0, 1) := by decide +kernel
theorem dX6_fault_29 : decode cX6_fault 29 = .ok (.iload_n 1, 1) := by decide +kernel
theorem dX6_fault_30 : decode cX6_fault 30 = .ok (.invokevirtual 128, 3) := by decide +kernel
theorem dX6_fault_33 : decode cX6_fault 33 = .ok (.ireturn, 1) := by decide +kernel
theorem dX6_town_0 : decode cX6_town 0 = .ok (.iload_n 1, 1) := by decide +kernel
theorem dX6_town_1 : decode cX6_town 1 = .ok (.iconst 0, 1) := by decide +kernel
theorem dX6_town_2 : decode cX6_town 2 = .ok (.iconst 3, 1) := by decide +kernel
theorem dX6_town_3 : decode cX6_town 3 = .ok (.invokestatic 69, 3) := by decide +kernel
theorem dX6_town_6 : decode cX6_town 6 = .ok (.ifCond .ne 5, 3) := by decide +kernel
theorem dX6_town_9 : decode cX6_town 9 = .ok (.iconst (-1), 1) := by decide +kernel
theorem dX6_town_10 : decode cX6_town 10 = .ok (.ireturn, 1) := by decide +kernel
theorem dX6_town_11 : decode cX6_town 11 = .ok (.aload_n 0, 1) := by decide +kernel
theorem dX6_town_12 : decode cX6_town 12 = .ok (.getfield 16, 3) := by decide +kernel
theorem dX6_town_15 : decode cX6_town 15 = .ok (.iload_n 1, 1) := by decide +kernel
theorem dX6_town_16 : decode cX6_town 16 = .ok (.iaload, 1) := by decide +kernel
theorem dX6_town_17 : decode cX6_town 17 = .ok (.ifCond .ge 9, 3) := by decide +kernel
theorem dX6_town_20 : decode cX6_town 20 = .ok (.aload_n 0, 1) := by decide +kernel
theorem dX6_town_21 : decode cX6_town 21 = .ok (.iconst 1, 1) := by decide +kernel
theorem dX6_town_22 : decode cX6_town 22 = .ok (.invokevirtual 73, 3) := by decide +kernel
theorem dX6_town_25 : decode cX6_town 25 = .ok (.ireturn, 1) := by decide +kernel
theorem dX6_town_26 : decode cX6_town 26 = .ok (.aload_n 0, 1) := by decide +kernel
theorem dX6_town_27 : decode cX6_town 27 = .ok (.iload_n 1, 1) := by decide +kernel
theorem dX6_town_28 : decode cX6_town 28 = .ok (.invokevirtual 128, 3) := by decide +kernel
theorem dX6_town_31 : decode cX6_town 31 = .ok (.bipush (-9), 2) := by decide +kernel
theorem dX6_town_33 : decode cX6_town 33 = .ok (.if_icmp .eq 6, 3) := by decide +kernel
theorem dX6_town_36 : decode cX6_town 36 = .ok (.bipush (-4), 2) := by decide +kernel
theorem dX6_town_38 : decode cX6_town 38 = .ok (.ireturn, 1) := by decide +kernel
theorem dX6_town_39 : decode cX6_town 39 = .ok (.aload_n 0, 1) := by decide +kernel
theorem dX6_town_40 : decode cX6_town 40 = .ok (.aload_n 0, 1) := by decide +kernel
theorem dX6_town_41 : decode cX6_town 41 = .ok (.getfield 109, 3) := by decide +kernel
theorem dX6_town_44 : decode cX6_town 44 = .ok (.putfield 131, 3) := by decide +kernel
theorem dX6_town_47 : decode cX6_town 47 = .ok (.aload_n 0, 1) := by decide +kernel
theorem dX6_town_48 : decode cX6_town 48 = .ok (.aload_n 0, 1) := by decide +kernel
theorem dX6_town_49 : decode cX6_town 49 = .ok (.getfield 115, 3) := by decide +kernel
theorem dX6_town_52 : decode cX6_town 52 = .ok (.putfield 66, 3) := by decide +kernel
theorem dX6_town_55 : decode cX6_town 55 = .ok (.iconst 0, 1) := by decide +kernel
theorem dX6_town_56 : decode cX6_town 56 = .ok (.istore_n 2, 1) := by decide +kernel
theorem dX6_town_57 : decode cX6_town 57 = .ok (.iload_n 2, 1) := by decide +kernel
theorem dX6_town_58 : decode cX6_town 58 = .ok (.bipush 23, 2) := by decide +kernel
theorem dX6_town_60 : decode cX6_town 60 = .ok (.if_icmp .ge 27, 3) := by decide +kernel
theorem dX6_town_63 : decode cX6_town 63 = .ok (.aload_n 0, 1) := by decide +kernel
theorem dX6_town_64 : decode cX6_town 64 = .ok (.getfield 38, 3) := by decide +kernel
theorem dX6_town_67 : decode cX6_town 67 = .ok (.iload_n 2, 1) := by decide +kernel
theorem dX6_town_68 : decode cX6_town 68 = .ok (.iload_n 2, 1) := by decide +kernel
theorem dX6_town_69 : decode cX6_town 69 = .ok (.bipush 17, 2) := by decide +kernel
theorem dX6_town_71 : decode cX6_town 71 = .ok (.if_icmp .ge 7, 3) := by decide +kernel
theorem dX6_town_74 : decode cX6_town 74 = .ok (.iconst 0, 1) := by decide +kernel
theorem dX6_town_75 : decode cX6_town 75 = .ok (.goto 5, 3) := by decide +kernel
theorem dX6_town_78 : decode cX6_town 78 = .ok (.bipush (-9), 2) := by decide +kernel
theorem dX6_town_80 : decode cX6_town 80 = .ok (.iastore, 1) := by decide +kernel
theorem dX6_town_81 : decode cX6_town 81 = .ok (.iinc 2 1, 3) := by decide +kernel
theorem dX6_town_84 : decode cX6_town 84 = .ok (.goto (-27), 3) := by decide +kernel
theorem dX6_town_87 : decode cX6_town 87 = .ok (.aload_n 0, 1) := by decide +kernel
theorem dX6_town_88 : decode cX6_town 88 = .ok (.getfield 38, 3) := by decide +kernel
theorem dX6_town_91 : decode cX6_town 91 = .ok (.iconst 3, 1) := by decide +kernel
theorem dX6_town_92 : decode cX6_town 92 = .ok (.aload_n 0, 1) := by decide +kernel
theorem dX6_town_93 : decode cX6_town 93 = .ok (.getfield 102, 3) := by decide +kernel
theorem dX6_town_96 : decode cX6_town 96 = .ok (.iastore, 1) := by decide +kernel
theorem dX6_town_97 : decode cX6_town 97 = .ok (.iconst 0, 1) := by decide +kernel
theorem dX6_town_98 : decode cX6_town 98 = .ok (.istore_n 2, 1) := by decide +kernel
theorem dX6_town_99 : decode cX6_town 99 = .ok (.iload_n 2, 1) := by decide +kernel
theorem dX6_town_100 : decode cX6_town 100 = .ok (.aload_n 0, 1) := by decide +kernel
theorem dX6_town_101 : decode cX6_town 101 = .ok (.getfield 66, 3) := by decide +kernel
theorem dX6_town_104 : decode cX6_town 104 = .ok (.if_icmp .ge 57, 3) := by decide +kernel
theorem dX6_town_107 : decode cX6_town 107 = .ok (.aload_n 0, 1) := by decide +kernel
theorem dX6_town_108 : decode cX6_town 108 = .ok (.getfield 32, 3) := by decide +kernel
theorem dX6_town_111 : decode cX6_town 111 = .ok (.iload_n 2, 1) := by decide +kernel
theorem dX6_town_112 : decode cX6_town 112 = .ok (.aload_n 0, 1) := by decide +kernel
theorem dX6_town_113 : decode cX6_town 113 = .ok (.getfield 29, 3) := by decide +kernel
theorem dX6_town_116 : decode cX6_town 116 = .ok (.iconst 3, 1) := by decide +kernel
theorem dX6_town_117 : decode cX6_town 117 = .ok (.iload_n 2, 1) := by decide +kernel
theorem dX6_town_118 : decode cX6_town 118 = .ok (.imul, 1) := by decide +kernel
theorem dX6_town_119 : decode cX6_town 119 = .ok (.iaload, 1) := by decide +kernel
theorem dX6_town_120 : decode cX6_town 120 = .ok (.iastore, 1) := by decide +kernel
theorem dX6_town_121 : decode cX6_town 121 = .ok (.aload_n 0, 1) := by decide +kernel
theorem dX6_town_122 : decode cX6_town 122 = .ok (.getfield 38, 3) := by decide +kernel
theorem dX6_town_125 : decode cX6_town 125 = .ok (.iconst 5, 1) := by decide +kernel
theorem dX6_town_126 : decode cX6_town 126 = .ok (.iload_n 2, 1) := by decide +kernel
theorem dX6_town_127 : decode cX6_town 127 = .ok (.iadd, 1) := by decide +kernel
theorem dX6_town_128 : decode cX6_town 128 = .ok (.aload_n 0, 1) := by decide +kernel
theorem dX6_town_129 : decode cX6_town 129 = .ok (.getfield 29, 3) := by decide +kernel
theorem dX6_town_132 : decode cX6_town 132 = .ok (.iconst 3, 1) := by decide +kernel
theorem dX6_town_133 : decode cX6_town 133 = .ok (.iload_n 2, 1) := by decide +kernel
theorem dX6_town_134 : decode cX6_town 134 = .ok (.imul, 1) := by decide +kernel
theorem dX6_town_135 : decode cX6_town 135 = .ok (.iconst 1, 1) := by decide +kernel
theorem dX6_town_136 : decode cX6_town 136 = .ok (.iadd, 1) := by decide +kernel
theorem dX6_town_137 : decode cX6_town 137 = .ok (.iaload, 1) := by decide +kernel
theorem dX6_town_138 : decode cX6_town 138 = .ok (.iastore, 1) := by decide +kernel
theorem dX6_town_139 : decode cX6_town 139 = .ok (.aload_n 0, 1) := by decide +kernel
theorem dX6_town_140 : decode cX6_town 140 = .ok (.getfield 35, 3) := by decide +kernel
theorem dX6_town_143 : decode cX6_town 143 = .ok (.iload_n 2, 1) := by decide +kernel
theorem dX6_town_144 : decode cX6_town 144 = .ok (.aload_n 0, 1) := by decide +kernel
theorem dX6_town_145 : decode cX6_town 145 = .ok (.getfield 29, 3) := by decide +kernel
theorem dX6_town_148 : decode cX6_town 148 = .ok (.iconst 3, 1) := by decide +kernel
theorem dX6_town_149 : decode cX6_town 149 = .ok (.iload_n 2, 1) := by decide +kernel
theorem dX6_town_150 : decode cX6_town 150 = .ok (.imul, 1) := by decide +kernel
theorem dX6_town_151 : decode cX6_town 151 = .ok (.iconst 2, 1) := by decide +kernel
theorem dX6_town_152 : decode cX6_town 152 = .ok (.iadd, 1) := by decide +kernel
theorem dX6_town_153 : decode cX6_town 153 = .ok (.iaload, 1) := by decide +kernel
theorem dX6_town_154 : decode cX6_town 154 = .ok (.iastore, 1) := by decide +kernel
theorem dX6_town_155 : decode cX6_town 155 = .ok (.iinc 2 1, 3) := by decide +kernel
theorem dX6_town_158 : decode cX6_town 158 = .ok (.goto (-59), 3) := by decide +kernel
theorem dX6_town_161 : decode cX6_town 161 = .ok (.aload_n 0, 1) := by decide +kernel
theorem dX6_town_162 : decode cX6_town 162 = .ok (.iconst 0, 1) := by decide +kernel
theorem dX6_town_163 : decode cX6_town 163 = .ok (.putfield 134, 3) := by decide +kernel
theorem dX6_town_166 : decode cX6_town 166 = .ok (.iconst 0, 1) := by decide +kernel
theorem dX6_town_167 : decode cX6_town 167 = .ok (.istore_n 2, 1) := by decide +kernel
theorem dX6_town_168 : decode cX6_town 168 = .ok (.iload_n 2, 1) := by decide +kernel
theorem dX6_town_169 : decode cX6_town 169 = .ok (.iconst 3, 1) := by decide +kernel
theorem dX6_town_170 : decode cX6_town 170 = .ok (.if_icmp .ge 16, 3) := by decide +kernel
theorem dX6_town_173 : decode cX6_town 173 = .ok (.aload_n 0, 1) := by decide +kernel
theorem dX6_town_174 : decode cX6_town 174 = .ok (.getfield 50, 3) := by decide +kernel
theorem dX6_town_177 : decode cX6_town 177 = .ok (.iload_n 2, 1) := by decide +kernel
theorem dX6_town_178 : decode cX6_town 178 = .ok (.iconst (-1), 1) := by decide +kernel
theorem dX6_town_179 : decode cX6_town 179 = .ok (.iastore, 1) := by decide +kernel
theorem dX6_town_180 : decode cX6_town 180 = .ok (.iinc 2 1, 3) := by decide +kernel
theorem dX6_town_183 : decode cX6_town 183 = .ok (.goto (-15), 3) := by decide +kernel
theorem dX6_town_186 : decode cX6_town 186 = .ok (.aload_n 0, 1) := by decide +kernel
theorem dX6_town_187 : decode cX6_town 187 = .ok (.getfield 66, 3) := by decide +kernel
theorem dX6_town_190 : decode cX6_town 190 = .ok (.ireturn, 1) := by decide +kernel
theorem dX6_is_0 : decode cX6_is 0 = .ok (.iload_n 0, 1) := by decide +kernel
theorem dX6_is_1 : decode cX6_is 1 = .ok (.iload_n 1, 1) := by decide +kernel
theorem dX6_is_2 : decode cX6_is 2 = .ok (.if_icmp .eq 27, 3) := by decide +kernel
theorem dX6_is_5 : decode cX6_is 5 = .ok (.iload_n 1, 1) := by decide +kernel
theorem dX6_is_6 : decode cX6_is 6 = .ok (.ifCond .eq 23, 3) := by decide +kernel
theorem dX6_is_9 : decode cX6_is 9 = .ok (.iload_n 0, 1) := by decide +kernel
theorem dX6_is_10 : decode cX6_is 10 = .ok (.iconst 4, 1) := by decide +kernel
theorem dX6_is_11 : decode cX6_is 11 = .ok (.if_icmp .ne 8, 3) := by decide +kernel
theorem dX6_is_14 : decode cX6_is 14 = .ok (.iload_n 1, 1) := by decide +kernel
theorem dX6_is_15 : decode cX6_is 15 = .ok (.iconst 1, 1) := by decide +kernel
theorem dX6_is_16 : decode cX6_is 16 = .ok (.if_icmp .eq 13, 3) := by decide +kernel
theorem dX6_is_19 : decode cX6_is 19 = .ok (.iload_n 0, 1) := by decide +kernel
theorem dX6_is_20 : decode cX6_is 20 = .ok (.iconst 5, 1) := by decide +kernel
theorem dX6_is_21 : decode cX6_is 21 = .ok (.if_icmp .ne 12, 3) := by decide +kernel
theorem dX6_is_24 : decode cX6_is 24 = .ok (.iload_n 1, 1) := by decide +kernel
theorem dX6_is_25 : decode cX6_is 25 = .ok (.iconst 2, 1) := by decide +kernel
theorem dX6_is_26 : decode cX6_is 26 = .ok (.if_icmp .ne 7, 3) := by decide +kernel
theorem dX6_is_29 : decode cX6_is 29 = .ok (.iconst 1, 1) := by decide +kernel
theorem dX6_is_30 : decode cX6_is 30 = .ok (.goto 4, 3) := by decide +kernel
theorem dX6_is_33 : decode cX6_is 33 = .ok (.iconst 0, 1) := by decide +kernel
theorem dX6_is_34 : decode cX6_is 34 = .ok (.ireturn, 1) := by decide +kernel
theorem dX6_takesBy_0 : decode cX6_takesBy 0 = .ok (.aload_n 0, 1) := by decide +kernel
theorem dX6_takesBy_1 : decode cX6_takesBy 1 = .ok (.getfield 38, 3) := by decide +kernel
theorem dX6_takesBy_4 : decode cX6_takesBy 4 = .ok (.iconst 3, 1) := by decide +kernel
theorem dX6_takesBy_5 : decode cX6_takesBy 5 = .ok (.iaload, 1) := by decide +kernel
theorem dX6_takesBy_6 : decode cX6_takesBy 6 = .ok (.iconst 1, 1) := by decide +kernel
theorem dX6_takesBy_7 : decode cX6_takesBy 7 = .ok (.if_icmp .ne 23, 3) := by decide +kernel
theorem dX6_takesBy_10 : decode cX6_takesBy 10 = .ok (.iload_n 2, 1) := by decide +kernel
theorem dX6_takesBy_11 : decode cX6_takesBy 11 = .ok (.bipush 40, 2) := by decide +kernel
theorem dX6_takesBy_13 : decode cX6_takesBy 13 = .ok (.bipush 49, 2) := by decide +kernel
theorem dX6_takesBy_15 : decode cX6_takesBy 15 = .ok (.invokestatic 69, 3) := by decide +kernel
theorem dX6_takesBy_18 : decode cX6_takesBy 18 = .ok (.ifCond .eq 12, 3) := by decide +kernel
theorem dX6_takesBy_21 : decode cX6_takesBy 21 = .ok (.iload_n 1, 1) := by decide +kernel
theorem dX6_takesBy_22 : decode cX6_takesBy 22 = .ok (.iconst 5, 1) := by decide +kernel
theorem dX6_takesBy_23 : decode cX6_takesBy 23 = .ok (.if_icmp .eq 7, 3) := by decide +kernel
theorem dX6_takesBy_26 : decode cX6_takesBy 26 = .ok (.iconst 1, 1) := by decide +kernel
theorem dX6_takesBy_27 : decode cX6_takesBy 27 = .ok (.goto 4, 3) := by decide +kernel
theorem dX6_takesBy_30 : decode cX6_takesBy 30 = .ok (.iconst 0, 1) := by decide +kernel
theorem dX6_takesBy_31 : decode cX6_takesBy 31 = .ok (.istore_n 3, 1) := by decide +kernel
theorem dX6_takesBy_32 : decode cX6_takesBy 32 = .ok (.iload_n 2, 1) := by decide +kernel
theorem dX6_takesBy_33 : decode cX6_takesBy 33 = .ok (.bipush 50, 2) := by decide +kernel
theorem dX6_takesBy_35 : decode cX6_takesBy 35 = .ok (.if_icmp .ge 7, 3) := by decide +kernel
theorem dX6_takesBy_38 : decode cX6_takesBy 38 = .ok (.iconst 2, 1) := by decide +kernel
theorem dX6_takesBy_39 : decode cX6_takesBy 39 = .ok (.goto 4, 3) := by decide +kernel
theorem dX6_takesBy_42 : decode cX6_takesBy 42 = .ok (.iconst 1, 1) := by decide +kernel
theorem dX6_takesBy_43 : decode cX6_takesBy 43 = .ok (.istore 4, 2) := by decide +kernel
theorem dX6_takesBy_45 : decode cX6_takesBy 45 = .ok (.iload_n 1, 1) := by decide +kernel
theorem dX6_takesBy_46 : decode cX6_takesBy 46 = .ok (.iconst 3, 1) := by decide +kernel
theorem dX6_takesBy_47 : decode cX6_takesBy 47 = .ok (.if_icmp .eq 7, 3) := by decide +kernel
theorem dX6_takesBy_50 : decode cX6_takesBy 50 = .ok (.iload_n 3, 1) := by decide +kernel
theorem dX6_takesBy_51 : decode cX6_takesBy 51 = .ok (.ifCond .eq 6, 3) := by decide +kernel
theorem dX6_takesBy_54 : decode cX6_takesBy 54 = .ok (.bipush (-9), 2) := by decide +kernel
theorem dX6_takesBy_56 : decode cX6_takesBy 56 = .ok (.ireturn, 1) := by decide +kernel
theorem dX6_takesBy_57 : decode cX6_takesBy 57 = .ok (.iload_n 1, 1) := by decide +kernel
theorem dX6_takesBy_58 : decode cX6_takesBy 58 = .ok (.iconst 1, 1) := by decide +kernel
theorem dX6_takesBy_59 : decode cX6_takesBy 59 = .ok (.if_icmp .ne 10, 3) := by decide +kernel
theorem dX6_takesBy_62 : decode cX6_takesBy 62 = .ok (.iconst 2, 1) := by decide +kernel
theorem dX6_takesBy_63 : decode cX6_takesBy 63 = .ok (.iload 4, 2) := by decide +kernel
theorem dX6_takesBy_65 : decode cX6_takesBy 65 = .ok (.imul, 1) := by decide +kernel
theorem dX6_takesBy_66 : decode cX6_takesBy 66 = .ok (.goto 19, 3) := by decide +kernel
theorem dX6_takesBy_69 : decode cX6_takesBy 69 = .ok (.iload_n 1, 1) := by decide +kernel
theorem dX6_takesBy_70 : decode cX6_takesBy 70 = .ok (.iconst 4, 1) := by decide +kernel
theorem dX6_takesBy_71 : decode cX6_takesBy 71 = .ok (.if_icmp .ne 12, 3) := by decide +kernel
theorem dX6_takesBy_74 : decode cX6_takesBy 74 = .ok (.iconst 2, 1) := by decide +kernel
theorem dX6_takesBy_75 : decode cX6_takesBy 75 = .ok (.iload 4, 2) := by decide +kernel
theorem dX6_takesBy_77 : decode cX6_takesBy 77 = .ok (.imul, 1) := by decide +kernel
theorem dX6_takesBy_78 : decode cX6_takesBy 78 = .ok (.iconst 1, 1) := by decide +kernel
theorem dX6_takesBy_79 : decode cX6_takesBy 79 = .ok (.iadd, 1) := by decide +kernel
theorem dX6_takesBy_80 : decode cX6_takesBy 80 = .ok (.goto 5, 3) := by decide +kernel
theorem dX6_takesBy_83 : decode cX6_takesBy 83 = .ok (.iload 4, 2) := by decide +kernel
theorem dX6_takesBy_85 : decode cX6_takesBy 85 = .ok (.ireturn, 1) := by decide +kernel
theorem dX6_takesOf_0 : decode cX6_takesOf 0 = .ok (.aload_n 0, 1) := by decide +kernel
theorem dX6_takesOf_1 : decode cX6_takesOf 1 = .ok (.aload_n 0, 1) := by decide +kernel
theorem dX6_takesOf_2 : decode cX6_takesOf 2 = .ok (.getfield 32, 3) := by decide +kernel
theorem dX6_takesOf_5 : decode cX6_takesOf 5 = .ok (.iload_n 1, 1) := by decide +kernel
theorem dX6_takesOf_6 : decode cX6_takesOf 6 = .ok (.iaload, 1) := by decide +kernel
theorem dX6_takesOf_7 : decode cX6_takesOf 7 = .ok (.aload_n 0, 1) := by decide +kernel
theorem dX6_takesOf_8 : decode cX6_takesOf 8 = .ok (.getfield 38, 3) := by decide +kernel
theorem dX6_takesOf_11 : decode cX6_takesOf 11 = .ok (.iconst 5, 1) := by decide +kernel
theorem dX6_takesOf_12 : decode cX6_takesOf 12 = .ok (.iload_n 1, 1) := by decide +kernel
theorem dX6_takesOf_13 : decode cX6_takesOf 13 = .ok (.iadd, 1) := by decide +kernel
theorem dX6_takesOf_14 : decode cX6_takesOf 14 = .ok (.iaload, 1) := by decide +kernel
theorem dX6_takesOf_15 : decode cX6_takesOf 15 = .ok (.invokevirtual 137, 3) := by decide +kernel
theorem dX6_takesOf_18 : decode cX6_takesOf 18 = .ok (.ireturn, 1) := by decide +kernel
theorem dX6_paysBy_0 : decode cX6_paysBy 0 = .ok (.iload_n 0, 1) := by decide +kernel
theorem dX6_paysBy_1 : decode cX6_paysBy 1 = .ok (.iconst 3, 1) := by decide +kernel
theorem dX6_paysBy_2 : decode cX6_paysBy 2 = .ok (.if_icmp .ne 7, 3) := by decide +kernel
theorem dX6_paysBy_5 : decode cX6_paysBy 5 = .ok (.iconst 0, 1) := by decide +kernel
theorem dX6_paysBy_6 : decode cX6_paysBy 6 = .ok (.goto 22, 3) := by decide +kernel
theorem dX6_paysBy_9 : decode cX6_paysBy 9 = .ok (.iload_n 0, 1) := by decide +kernel
theorem dX6_paysBy_10 : decode cX6_paysBy 10 = .ok (.iconst 2, 1) := by decide +kernel
theorem dX6_paysBy_11 : decode cX6_paysBy 11 = .ok (.if_icmp .ne 7, 3) := by decide +kernel
theorem dX6_paysBy_14 : decode cX6_paysBy 14 = .ok (.iconst 2, 1) := by decide +kernel
theorem dX6_paysBy_15 : decode cX6_paysBy 15 = .ok (.goto 13, 3) := by decide +kernel
theorem dX6_paysBy_18 : decode cX6_paysBy 18 = .ok (.iload_n 0, 1) := by decide +kernel
theorem dX6_paysBy_19 : decode cX6_paysBy 19 = .ok (.iconst 5, 1) := by decide +kernel
theorem dX6_paysBy_20 : decode cX6_paysBy 20 = .ok (.if_icmp .ne 7, 3) := by decide +kernel
theorem dX6_paysBy_23 : decode cX6_paysBy 23 = .ok (.iconst 5, 1) := by decide +kernel
theorem dX6_paysBy_24 : decode cX6_paysBy 24 = .ok (.goto 4, 3) := by decide +kernel
theorem dX6_paysBy_27 : decode cX6_paysBy 27 = .ok (.iconst 1, 1) := by decide +kernel
theorem dX6_paysBy_28 : decode cX6_paysBy 28 = .ok (.ireturn, 1) := by decide +kernel
theorem dX6_isAwake_0 : decode cX6_isAwake 0 = .ok (.aload_n 0, 1) := by decide +kernel
theorem dX6_isAwake_1 : decode cX6_isAwake 1 = .ok (.getfield 38, 3) := by decide +kernel
theorem dX6_isAwake_4 : decode cX6_isAwake 4 = .ok (.bipush 17, 2) := by decide +kernel
theorem dX6_isAwake_6 : decode cX6_isAwake 6 = .ok (.iload_n 1, 1) := by decide +kernel
theorem dX6_isAwake_7 : decode cX6_isAwake 7 = .ok (.iadd, 1) := by decide +kernel
theorem dX6_isAwake_8 : decode cX6_isAwake 8 = .ok (.iaload, 1) := by decide +kernel
theorem dX6_isAwake_9 : decode cX6_isAwake 9 = .ok (.bipush (-9), 2) := by decide +kernel
theorem dX6_isAwake_11 : decode cX6_isAwake 11 = .ok (.if_icmp .eq 7, 3) := by decide +kernel
theorem dX6_isAwake_14 : decode cX6_isAwake 14 = .ok (.iconst 1, 1) := by decide +kernel
theorem dX6_isAwake_15 : decode cX6_isAwake 15 = .ok (.goto 4, 3) := by decide +kernel
theorem dX6_isAwake_18 : decode cX6_isAwake 18 = .ok (.iconst 0, 1) := by decide +kernel
theorem dX6_isAwake_19 : decode cX6_isAwake 19 = .ok (.ireturn, 1) := by decide +kernel
theorem dX6_moreOf_0 : decode cX6_moreOf 0 = .ok (.aload_n 0, 1) := by decide +kernel
theorem dX6_moreOf_1 : decode cX6_moreOf 1 = .ok (.iload_n 1, 1) := by decide +kernel
theorem dX6_moreOf_2 : decode cX6_moreOf 2 = .ok (.invokevirtual 140, 3) := by decide +kernel
theorem dX6_moreOf_5 : decode cX6_moreOf 5 = .ok (.ifCond .eq 5, 3) := by decide +kernel
theorem dX6_moreOf_8 : decode cX6_moreOf 8 = .ok (.iconst 0, 1) := by decide +kernel
theorem dX6_moreOf_9 : decode cX6_moreOf 9 = .ok (.ireturn, 1) := by decide +kernel
theorem dX6_moreOf_10 : decode cX6_moreOf 10 = .ok (.aload_n 0, 1) := by decide +kernel
theorem dX6_moreOf_11 : decode cX6_moreOf 11 = .ok (.iload_n 1, 1) := by decide +kernel
theorem dX6_moreOf_12 : decode cX6_moreOf 12 = .ok (.invokevirtual 144, 3) := by decide +kernel
theorem dX6_moreOf_15 : decode cX6_moreOf 15 = .ok (.istore_n 2, 1) := by decide +kernel
theorem dX6_moreOf_16 : decode cX6_moreOf 16 = .ok (.iload_n 2, 1) := by decide +kernel
theorem dX6_moreOf_17 : decode cX6_moreOf 17 = .ok (.bipush (-9), 2) := by decide +kernel
theorem dX6_moreOf_19 : decode cX6_moreOf 19 = .ok (.if_icmp .ne 6, 3) := by decide +kernel
theorem dX6_moreOf_22 : decode cX6_moreOf 22 = .ok (.bipush (-9), 2) := by decide +kernel
theorem dX6_moreOf_24 : decode cX6_moreOf 24 = .ok (.ireturn, 1) := by decide +kernel
theorem dX6_moreOf_25 : decode cX6_moreOf 25 = .ok (.iload_n 2, 1) := by decide +kernel
theorem dX6_moreOf_26 : decode cX6_moreOf 26 = .ok (.aload_n 0, 1) := by decide +kernel
theorem dX6_moreOf_27 : decode cX6_moreOf 27 = .ok (.getfield 38, 3) := by decide +kernel
theorem dX6_moreOf_30 : decode cX6_moreOf 30 = .ok (.bipush 11, 2) := by decide +kernel
theorem dX6_moreOf_32 : decode cX6_moreOf 32 = .ok (.iload_n 1, 1) := by decide +kernel
theorem dX6_moreOf_33 : decode cX6_moreOf 33 = .ok (.iadd, 1) := by decide +kernel
theorem dX6_moreOf_34 : decode cX6_moreOf 34 = .ok (.iaload, 1) := by decide +kernel
theorem dX6_moreOf_35 : decode cX6_moreOf 35 = .ok (.if_icmp .le 17, 3) := by decide +kernel
theorem dX6_moreOf_38 : decode cX6_moreOf 38 = .ok (.iload_n 2, 1) := by decide +kernel
theorem dX6_moreOf_39 : decode cX6_moreOf 39 = .ok (.aload_n 0, 1) := by decide +kernel
theorem dX6_moreOf_40 : decode cX6_moreOf 40 = .ok (.getfield 38, 3) := by decide +kernel
theorem dX6_moreOf_43 : decode cX6_moreOf 43 = .ok (.bipush 11, 2) := by decide +kernel
theorem dX6_moreOf_45 : decode cX6_moreOf 45 = .ok (.iload_n 1, 1) := by decide +kernel
theorem dX6_moreOf_46 : decode cX6_moreOf 46 = .ok (.iadd, 1) := by decide +kernel
theorem dX6_moreOf_47 : decode cX6_moreOf 47 = .ok (.iaload, 1) := by decide +kernel
theorem dX6_moreOf_48 : decode cX6_moreOf 48 = .ok (.isub, 1) := by decide +kernel
theorem dX6_moreOf_49 : decode cX6_moreOf 49 = .ok (.goto 4, 3) := by decide +kernel
theorem dX6_moreOf_52 : decode cX6_moreOf 52 = .ok (.iconst 1, 1) := by decide +kernel
theorem dX6_moreOf_53 : decode cX6_moreOf 53 = .ok (.ireturn, 1) := by decide +kernel
theorem dX6_houseTells_0 : decode cX6_houseTells 0 = .ok (.iload_n 2, 1) := by decide +kernel
theorem dX6_houseTells_1 : decode cX6_houseTells 1 = .ok (.tableswitch 78 0 4 #[35, 42, 51, 58, 68], 35) := by decide +kernel
theorem dX6_houseTells_36 : decode cX6_houseTells 36 = .ok (.aload_n 0, 1) := by decide +kernel
theorem dX6_houseTells_37 : decode cX6_houseTells 37 = .ok (.getfield 32, 3) := by decide +kernel
theorem dX6_houseTells_40 : decode cX6_houseTells 40 = .ok (.iload_n 1, 1) := by decide +kernel
theorem dX6_houseTells_41 : decode cX6_houseTells 41 = .ok (.iaload, 1) := by decide +kernel
theorem dX6_houseTells_42 : decode cX6_houseTells 42 = .ok (.ireturn, 1) := by decide +kernel
theorem dX6_houseTells_43 : decode cX6_houseTells 43 = .ok (.aload_n 0, 1) := by decide +kernel
theorem dX6_houseTells_44 : decode cX6_houseTells 44 = .ok (.getfield 38, 3) := by decide +kernel
theorem dX6_houseTells_47 : decode cX6_houseTells 47 = .ok (.iconst 5, 1) := by decide +kernel
theorem dX6_houseTells_48 : decode cX6_houseTells 48 = .ok (.iload_n 1, 1) := by decide +kernel
theorem dX6_houseTells_49 : decode cX6_houseTells 49 = .ok (.iadd, 1) := by decide +kernel
theorem dX6_houseTells_50 : decode cX6_houseTells 50 = .ok (.iaload, 1) := by decide +kernel
theorem dX6_houseTells_51 : decode cX6_houseTells 51 = .ok (.ireturn, 1) := by decide +kernel
theorem dX6_houseTells_52 : decode cX6_houseTells 52 = .ok (.aload_n 0, 1) := by decide +kernel
theorem dX6_houseTells_53 : decode cX6_houseTells 53 = .ok (.getfield 35, 3) := by decide +kernel
theorem dX6_houseTells_56 : decode cX6_houseTells 56 = .ok (.iload_n 1, 1) := by decide +kernel
theorem dX6_houseTells_57 : decode cX6_houseTells 57 = .ok (.iaload, 1) := by decide +kernel
theorem dX6_houseTells_58 : decode cX6_houseTells 58 = .ok (.ireturn, 1) := by decide +kernel
theorem dX6_houseTells_59 : decode cX6_houseTells 59 = .ok (.aload_n 0, 1) := by decide +kernel
theorem dX6_houseTells_60 : decode cX6_houseTells 60 = .ok (.getfield 38, 3) := by decide +kernel
theorem dX6_houseTells_63 : decode cX6_houseTells 63 = .ok (.bipush 11, 2) := by decide +kernel
theorem dX6_houseTells_65 : decode cX6_houseTells 65 = .ok (.iload_n 1, 1) := by decide +kernel
theorem dX6_houseTells_66 : decode cX6_houseTells 66 = .ok (.iadd, 1) := by decide +kernel
theorem dX6_houseTells_67 : decode cX6_houseTells 67 = .ok (.iaload, 1) := by decide +kernel
theorem dX6_houseTells_68 : decode cX6_houseTells 68 = .ok (.ireturn, 1) := by decide +kernel
theorem dX6_houseTells_69 : decode cX6_houseTells 69 = .ok (.aload_n 0, 1) := by decide +kernel
theorem dX6_houseTells_70 : decode cX6_houseTells 70 = .ok (.getfield 38, 3) := by decide +kernel
theorem dX6_houseTells_73 : decode cX6_houseTells 73 = .ok (.bipush 17, 2) := by decide +kernel
theorem dX6_houseTells_75 : decode cX6_houseTells 75 = .ok (.iload_n 1, 1) := by decide +kernel
theorem dX6_houseTells_76 : decode cX6_houseTells 76 = .ok (.iadd, 1) := by decide +kernel
theorem dX6_houseTells_77 : decode cX6_houseTells 77 = .ok (.iaload, 1) := by decide +kernel
theorem dX6_houseTells_78 : decode cX6_houseTells 78 = .ok (.ireturn, 1) := by decide +kernel
theorem dX6_houseTells_79 : decode cX6_houseTells 79 = .ok (.aload_n 0, 1) := by decide +kernel
theorem dX6_houseTells_80 : decode cX6_houseTells 80 = .ok (.iload_n 1, 1) := by decide +kernel
theorem dX6_houseTells_81 : decode cX6_houseTells 81 = .ok (.invokevirtual 147, 3) := by decide +kernel
theorem dX6_houseTells_84 : decode cX6_houseTells 84 = .ok (.ireturn, 1) := by decide +kernel
theorem dX6_house_0 : decode cX6_house 0 = .ok (.aload_n 0, 1) := by decide +kernel
theorem dX6_house_1 : decode cX6_house 1 = .ok (.iload_n 1, 1) := by decide +kernel
theorem dX6_house_2 : decode cX6_house 2 = .ok (.invokevirtual 150, 3) := by decide +kernel
theorem dX6_house_5 : decode cX6_house 5 = .ok (.ifCond .eq 25, 3) := by decide +kernel
theorem dX6_house_8 : decode cX6_house 8 = .ok (.iload_n 2, 1) := by decide +kernel
theorem dX6_house_9 : decode cX6_house 9 = .ok (.iconst 0, 1) := by decide +kernel
theorem dX6_house_10 : decode cX6_house 10 = .ok (.iconst 5, 1) := by decide +kernel
theorem dX6_house_11 : decode cX6_house 11 = .ok (.invokestatic 69, 3) := by decide +kernel
theorem dX6_house_14 : decode cX6_house 14 = .ok (.ifCond .eq 16, 3) := by decide +kernel
theorem dX6_house_17 : decode cX6_house 17 = .ok (.aload_n 0, 1) := by decide +kernel
theorem dX6_house_18 : decode cX6_house 18 = .ok (.aload_n 0, 1) := by decide +kernel
theorem dX6_house_19 : decode cX6_house 19 = .ok (.iload_n 1, 1) := by decide +kernel
theorem dX6_house_20 : decode cX6_house 20 = .ok (.iload_n 2, 1) := by decide +kernel
theorem dX6_house_21 : decode cX6_house 21 = .ok (.invokevirtual 153, 3) := by decide +kernel
theorem dX6_house_24 : decode cX6_house 24 = .ok (.invokevirtual 81, 3) := by decide +kernel
theorem dX6_house_27 : decode cX6_house 27 = .ok (.goto 4, 3) := by decide +kernel
theorem dX6_house_30 : decode cX6_house 30 = .ok (.iconst (-1), 1) := by decide +kernel
theorem dX6_house_31 : decode cX6_house 31 = .ok (.ireturn, 1) := by decide +kernel
theorem dX6_awakeOnes_0 : decode cX6_awakeOnes 0 = .ok (.iconst 0, 1) := by decide +kernel
theorem dX6_awakeOnes_1 : decode cX6_awakeOnes 1 = .ok (.istore_n 1, 1) := by decide +kernel
theorem dX6_awakeOnes_2 : decode cX6_awakeOnes 2 = .ok (.iconst 0, 1) := by decide +kernel
theorem dX6_awakeOnes_3 : decode cX6_awakeOnes 3 = .ok (.istore_n 2, 1) := by decide +kernel
theorem dX6_awakeOnes_4 : decode cX6_awakeOnes 4 = .ok (.iload_n 2, 1) := by decide +kernel
theorem dX6_awakeOnes_5 : decode cX6_awakeOnes 5 = .ok (.aload_n 0, 1) := by decide +kernel
theorem dX6_awakeOnes_6 : decode cX6_awakeOnes 6 = .ok (.getfield 66, 3) := by decide +kernel
theorem dX6_awakeOnes_9 : decode cX6_awakeOnes 9 = .ok (.if_icmp .ge 27, 3) := by decide +kernel
theorem dX6_awakeOnes_12 : decode cX6_awakeOnes 12 = .ok (.iload_n 1, 1) := by decide +kernel
theorem dX6_awakeOnes_13 : decode cX6_awakeOnes 13 = .ok (.aload_n 0, 1) := by decide +kernel
theorem dX6_awakeOnes_14 : decode cX6_awakeOnes 14 = .ok (.iload_n 2, 1) := by decide +kernel
theorem dX6_awakeOnes_15 : decode cX6_awakeOnes 15 = .ok (.invokevirtual 140, 3) := by decide +kernel
theorem dX6_awakeOnes_18 : decode cX6_awakeOnes 18 = .ok (.ifCond .eq 9, 3) := by decide +kernel
theorem dX6_awakeOnes_21 : decode cX6_awakeOnes 21 = .ok (.iconst 1, 1) := by decide +kernel
theorem dX6_awakeOnes_22 : decode cX6_awakeOnes 22 = .ok (.iload_n 2, 1) := by decide +kernel
theorem dX6_awakeOnes_23 : decode cX6_awakeOnes 23 = .ok (.ishl, 1) := by decide +kernel
theorem dX6_awakeOnes_24 : decode cX6_awakeOnes 24 = .ok (.goto 4, 3) := by decide +kernel
theorem dX6_awakeOnes_27 : decode cX6_awakeOnes 27 = .ok (.iconst 0, 1) := by decide +kernel
theorem dX6_awakeOnes_28 : decode cX6_awakeOnes 28 = .ok (.ior, 1) := by decide +kernel
theorem dX6_awakeOnes_29 : decode cX6_awakeOnes 29 = .ok (.istore_n 1, 1) := by decide +kernel
theorem dX6_awakeOnes_30 : decode cX6_awakeOnes 30 = .ok (.iinc 2 1, 3) := by decide +kernel
theorem dX6_awakeOnes_33 : decode cX6_awakeOnes 33 = .ok (.goto (-29), 3) := by decide +kernel
theorem dX6_awakeOnes_36 : decode cX6_awakeOnes 36 = .ok (.iload_n 1, 1) := by decide +kernel
theorem dX6_awakeOnes_37 : decode cX6_awakeOnes 37 = .ok (.ireturn, 1) := by decide +kernel
theorem dX6_earlier_0 : decode cX6_earlier 0 = .ok (.iconst 0, 1) := by decide +kernel
theorem dX6_earlier_1 : decode cX6_earlier 1 = .ok (.istore_n 2, 1) := by decide +kernel
theorem dX6_earlier_2 : decode cX6_earlier 2 = .ok (.iconst 0, 1) := by decide +kernel
theorem dX6_earlier_3 : decode cX6_earlier 3 = .ok (.istore_n 3, 1) := by decide +kernel
theorem dX6_earlier_4 : decode cX6_earlier 4 = .ok (.iload_n 3, 1) := by decide +kernel
theorem dX6_earlier_5 : decode cX6_earlier 5 = .ok (.aload_n 0, 1) := by decide +kernel
theorem dX6_earlier_6 : decode cX6_earlier 6 = .ok (.getfield 66, 3) := by decide +kernel
theorem dX6_earlier_9 : decode cX6_earlier 9 = .ok (.if_icmp .ge 36, 3) := by decide +kernel
theorem dX6_earlier_12 : decode cX6_earlier 12 = .ok (.iload_n 2, 1) := by decide +kernel
theorem dX6_earlier_13 : decode cX6_earlier 13 = .ok (.aload_n 0, 1) := by decide +kernel
theorem dX6_earlier_14 : decode cX6_earlier 14 = .ok (.getfield 38, 3) := by decide +kernel
theorem dX6_earlier_17 : decode cX6_earlier 17 = .ok (.iconst 5, 1) := by decide +kernel
theorem dX6_earlier_18 : decode cX6_earlier 18 = .ok (.iload_n 3, 1) := by decide +kernel
theorem dX6_earlier_19 : decode cX6_earlier 19 = .ok (.iadd, 1) := by decide +kernel
theorem dX6_earlier_20 : decode cX6_earlier 20 = .ok (.iaload, 1) := by decide +kernel
theorem dX6_earlier_21 : decode cX6_earlier 21 = .ok (.aload_n 0, 1) := by decide +kernel
theorem dX6_earlier_22 : decode cX6_earlier 22 = .ok (.getfield 38, 3) := by decide +kernel
theorem dX6_earlier_25 : decode cX6_earlier 25 = .ok (.iconst 5, 1) := by decide +kernel
theorem dX6_earlier_26 : decode cX6_earlier 26 = .ok (.iload_n 1, 1) := by decide +kernel
theorem dX6_earlier_27 : decode cX6_earlier 27 = .ok (.iadd, 1) := by decide +kernel
theorem dX6_earlier_28 : decode cX6_earlier 28 = .ok (.iaload, 1) := by decide +kernel
theorem dX6_earlier_29 : decode cX6_earlier 29 = .ok (.if_icmp .ge 7, 3) := by decide +kernel
theorem dX6_earlier_32 : decode cX6_earlier 32 = .ok (.iconst 1, 1) := by decide +kernel
theorem dX6_earlier_33 : decode cX6_earlier 33 = .ok (.goto 4, 3) := by decide +kernel
theorem dX6_earlier_36 : decode cX6_earlier 36 = .ok (.iconst 0, 1) := by decide +kernel
theorem dX6_earlier_37 : decode cX6_earlier 37 = .ok (.iadd, 1) := by decide +kernel
theorem dX6_earlier_38 : decode cX6_earlier 38 = .ok (.istore_n 2, 1) := by decide +kernel
theorem dX6_earlier_39 : decode cX6_earlier 39 = .ok (.iinc 3 1, 3) := by decide +kernel
theorem dX6_earlier_42 : decode cX6_earlier 42 = .ok (.goto (-38), 3) := by decide +kernel
theorem dX6_earlier_45 : decode cX6_earlier 45 = .ok (.iload_n 2, 1) := by decide +kernel
theorem dX6_earlier_46 : decode cX6_earlier 46 = .ok (.ireturn, 1) := by decide +kernel
theorem dX6_mark_0 : decode cX6_mark 0 = .ok (.aload_n 0, 1) := by decide +kernel
theorem dX6_mark_1 : decode cX6_mark 1 = .ok (.iload_n 1, 1) := by decide +kernel
theorem dX6_mark_2 : decode cX6_mark 2 = .ok (.invokevirtual 150, 3) := by decide +kernel
theorem dX6_mark_5 : decode cX6_mark 5 = .ok (.ifCond .eq 12, 3) := by decide +kernel
theorem dX6_mark_8 : decode cX6_mark 8 = .ok (.iload_n 2, 1) := by decide +kernel
theorem dX6_mark_9 : decode cX6_mark 9 = .ok (.iconst 1, 1) := by decide +kernel
theorem dX6_mark_10 : decode cX6_mark 10 = .ok (.iconst 5, 1) := by decide +kernel
theorem dX6_mark_11 : decode cX6_mark 11 = .ok (.invokestatic 69, 3) := by decide +kernel
theorem dX6_mark_14 : decode cX6_mark 14 = .ok (.ifCond .ne 5, 3) := by decide +kernel
theorem dX6_mark_17 : decode cX6_mark 17 = .ok (.iconst (-1), 1) := by decide +kernel
theorem dX6_mark_18 : decode cX6_mark 18 = .ok (.ireturn, 1) := by decide +kernel
theorem dX6_mark_19 : decode cX6_mark 19 = .ok (.aload_n 0, 1) := by decide +kernel
theorem dX6_mark_20 : decode cX6_mark 20 = .ok (.getfield 32, 3) := by decide +kernel
theorem dX6_mark_23 : decode cX6_mark 23 = .ok (.iload_n 1, 1) := by decide +kernel
theorem dX6_mark_24 : decode cX6_mark 24 = .ok (.iaload, 1) := by decide +kernel
theorem dX6_mark_25 : decode cX6_mark 25 = .ok (.iload_n 2, 1) := by decide +kernel
theorem dX6_mark_26 : decode cX6_mark 26 = .ok (.invokestatic 156, 3) := by decide +kernel
theorem dX6_mark_29 : decode cX6_mark 29 = .ok (.ifCond .ne 9, 3) := by decide +kernel
theorem dX6_mark_32 : decode cX6_mark 32 = .ok (.aload_n 0, 1) := by decide +kernel
theorem dX6_mark_33 : decode cX6_mark 33 = .ok (.iconst 3, 1) := by decide +kernel
theorem dX6_mark_34 : decode cX6_mark 34 = .ok (.invokevirtual 73, 3) := by decide +kernel
theorem dX6_mark_37 : decode cX6_mark 37 = .ok (.ireturn, 1) := by decide +kernel
theorem dX6_mark_38 : decode cX6_mark 38 = .ok (.aload_n 0, 1) := by decide +kernel
theorem dX6_mark_39 : decode cX6_mark 39 = .ok (.iload_n 1, 1) := by decide +kernel
theorem dX6_mark_40 : decode cX6_mark 40 = .ok (.invokevirtual 144, 3) := by decide +kernel
theorem dX6_mark_43 : decode cX6_mark 43 = .ok (.istore_n 3, 1) := by decide +kernel
theorem dX6_mark_44 : decode cX6_mark 44 = .ok (.iload_n 2, 1) := by decide +kernel
theorem dX6_mark_45 : decode cX6_mark 45 = .ok (.tableswitch 89 1 4 #[31, 58, 73, 87], 31) := by decide +kernel
theorem dX6_mark_76 : decode cX6_mark 76 = .ok (.iload_n 3, 1) := by decide +kernel
theorem dX6_mark_77 : decode cX6_mark 77 = .ok (.bipush (-9), 2) := by decide +kernel
theorem dX6_mark_79 : decode cX6_mark 79 = .ok (.if_icmp .ne 8, 3) := by decide +kernel
theorem dX6_mark_82 : decode cX6_mark 82 = .ok (.bipush (-9), 2) := by decide +kernel
theorem dX6_mark_84 : decode cX6_mark 84 = .ok (.goto 18, 3) := by decide +kernel
theorem dX6_mark_87 : decode cX6_mark 87 = .ok (.iload_n 3, 1) := by decide +kernel
theorem dX6_mark_88 : decode cX6_mark 88 = .ok (.aload_n 0, 1) := by decide +kernel
theorem dX6_mark_89 : decode cX6_mark 89 = .ok (.iconst 0, 1) := by decide +kernel
theorem dX6_mark_90 : decode cX6_mark 90 = .ok (.aload_n 0, 1) := by decide +kernel
theorem dX6_mark_91 : decode cX6_mark 91 = .ok (.getfield 38, 3) := by decide +kernel
theorem dX6_mark_94 : decode cX6_mark 94 = .ok (.iconst 5, 1) := by decide +kernel
theorem dX6_mark_95 : decode cX6_mark 95 = .ok (.iload_n 1, 1) := by decide +kernel
theorem dX6_mark_96 : decode cX6_mark 96 = .ok (.iadd, 1) := by decide +kernel
theorem dX6_mark_97 : decode cX6_mark 97 = .ok (.iaload, 1) := by decide +kernel
theorem dX6_mark_98 : decode cX6_mark 98 = .ok (.invokevirtual 137, 3) := by decide +kernel
theorem dX6_mark_101 : decode cX6_mark 101 = .ok (.isub, 1) := by decide +kernel
theorem dX6_mark_102 : decode cX6_mark 102 = .ok (.ireturn, 1) := by decide +kernel
theorem dX6_mark_103 : decode cX6_mark 103 = .ok (.aload_n 0, 1) := by decide +kernel
theorem dX6_mark_104 : decode cX6_mark 104 = .ok (.getfield 32, 3) := by decide +kernel
theorem dX6_mark_107 : decode cX6_mark 107 = .ok (.iload_n 1, 1) := by decide +kernel
theorem dX6_mark_108 : decode cX6_mark 108 = .ok (.iaload, 1) := by decide +kernel
theorem dX6_mark_109 : decode cX6_mark 109 = .ok (.invokestatic 160, 3) := by decide +kernel
theorem dX6_mark_112 : decode cX6_mark 112 = .ok (.iconst 0, 1) := by decide +kernel
theorem dX6_mark_113 : decode cX6_mark 113 = .ok (.invokestatic 160, 3) := by decide +kernel
theorem dX6_mark_116 : decode cX6_mark 116 = .ok (.isub, 1) := by decide +kernel
theorem dX6_mark_117 : decode cX6_mark 117 = .ok (.ireturn, 1) := by decide +kernel
theorem dX6_mark_118 : decode cX6_mark 118 = .ok (.aload_n 0, 1) := by decide +kernel
theorem dX6_mark_119 : decode cX6_mark 119 = .ok (.invokevirtual 163, 3) := by decide +kernel
theorem dX6_mark_122 : decode cX6_mark 122 = .ok (.iconst 1, 1) := by decide +kernel
theorem dX6_mark_123 : decode cX6_mark 123 = .ok (.iload_n 1, 1) := by decide +kernel
theorem dX6_mark_124 : decode cX6_mark 124 = .ok (.ishl, 1) := by decide +kernel
theorem dX6_mark_125 : decode cX6_mark 125 = .ok (.iconst (-1), 1) := by decide +kernel
theorem dX6_mark_126 : decode cX6_mark 126 = .ok (.ixor, 1) := by decide +kernel
theorem dX6_mark_127 : decode cX6_mark 127 = .ok (.iand, 1) := by decide +kernel
theorem dX6_mark_128 : decode cX6_mark 128 = .ok (.invokestatic 166, 3) := by decide +kernel
theorem dX6_mark_131 : decode cX6_mark 131 = .ok (.ireturn, 1) := by decide +kernel
theorem dX6_mark_132 : decode cX6_mark 132 = .ok (.iload_n 3, 1) := by decide +kernel
theorem dX6_mark_133 : decode cX6_mark 133 = .ok (.ireturn, 1) := by decide +kernel
theorem dX6_mark_134 : decode cX6_mark 134 = .ok (.aload_n 0, 1) := by decide +kernel
theorem dX6_mark_135 : decode cX6_mark 135 = .ok (.iload_n 1, 1) := by decide +kernel
theorem dX6_mark_136 : decode cX6_mark 136 = .ok (.invokevirtual 169, 3) := by decide +kernel
theorem dX6_mark_139 : decode cX6_mark 139 = .ok (.ireturn, 1) := by decide +kernel
theorem dX6_note_0 : decode cX6_note 0 = .ok (.aload_n 0, 1) := by decide +kernel
theorem dX6_note_1 : decode cX6_note 1 = .ok (.getfield 38, 3) := by decide +kernel
theorem dX6_note_4 : decode cX6_note 4 = .ok (.iconst 0, 1) := by decide +kernel
theorem dX6_note_5 : decode cX6_note 5 = .ok (.aload_n 0, 1) := by decide +kernel
theorem dX6_note_6 : decode cX6_note 6 = .ok (.getfield 41, 3) := by decide +kernel
theorem dX6_note_9 : decode cX6_note 9 = .ok (.bipush 23, 2) := by decide +kernel
theorem dX6_note_11 : decode cX6_note 11 = .ok (.aload_n 0, 1) := by decide +kernel
theorem dX6_note_12 : decode cX6_note 12 = .ok (.getfield 134, 3) := by decide +kernel
theorem dX6_note_15 : decode cX6_note 15 = .ok (.imul, 1) := by decide +kernel
theorem dX6_note_16 : decode cX6_note 16 = .ok (.bipush 23, 2) := by decide +kernel
theorem dX6_note_18 : decode cX6_note 18 = .ok (.invokestatic 172, 3) := by decide +kernel
theorem dX6_note_21 : decode cX6_note 21 = .ok (.aload_n 0, 1) := by decide +kernel
theorem dX6_note_22 : decode cX6_note 22 = .ok (.dup, 1) := by decide +kernel
theorem dX6_note_23 : decode cX6_note 23 = .ok (.getfield 134, 3) := by decide +kernel
theorem dX6_note_26 : decode cX6_note 26 = .ok (.iconst 1, 1) := by decide +kernel
theorem dX6_note_27 : decode cX6_note 27 = .ok (.iadd, 1) := by decide +kernel
theorem dX6_note_28 : decode cX6_note 28 = .ok (.putfield 134, 3) := by decide +kernel
theorem dX6_note_31 : decode cX6_note 31 = .ok (.return_, 1) := by decide +kernel
theorem dX6_far_0 : decode cX6_far 0 = .ok (.iload_n 0, 1) := by decide +kernel
theorem dX6_far_1 : decode cX6_far 1 = .ok (.iload_n 1, 1) := by decide +kernel
theorem dX6_far_2 : decode cX6_far 2 = .ok (.if_icmp .le 9, 3) := by decide +kernel
theorem dX6_far_5 : decode cX6_far 5 = .ok (.iload_n 0, 1) := by decide +kernel
theorem dX6_far_6 : decode cX6_far 6 = .ok (.iload_n 1, 1) := by decide +kernel
theorem dX6_far_7 : decode cX6_far 7 = .ok (.isub, 1) := by decide +kernel
theorem dX6_far_8 : decode cX6_far 8 = .ok (.goto 6, 3) := by decide +kernel
theorem dX6_far_11 : decode cX6_far 11 = .ok (.iload_n 1, 1) := by decide +kernel
theorem dX6_far_12 : decode cX6_far 12 = .ok (.iload_n 0, 1) := by decide +kernel
theorem dX6_far_13 : decode cX6_far 13 = .ok (.isub, 1) := by decide +kernel
theorem dX6_far_14 : decode cX6_far 14 = .ok (.ireturn, 1) := by decide +kernel
theorem dX6_goes_0 : decode cX6_goes 0 = .ok (.aload_n 0, 1) := by decide +kernel
theorem dX6_goes_1 : decode cX6_goes 1 = .ok (.getfield 38, 3) := by decide +kernel
theorem dX6_goes_4 : decode cX6_goes 4 = .ok (.iconst 0, 1) := by decide +kernel
theorem dX6_goes_5 : decode cX6_goes 5 = .ok (.dup2, 1) := by decide +kernel
theorem dX6_goes_6 : decode cX6_goes 6 = .ok (.iaload, 1) := by decide +kernel
theorem dX6_goes_7 : decode cX6_goes 7 = .ok (.iload_n 1, 1) := by decide +kernel
theorem dX6_goes_8 : decode cX6_goes 8 = .ok (.aload_n 0, 1) := by decide +kernel
theorem dX6_goes_9 : decode cX6_goes 9 = .ok (.getfield 38, 3) := by decide +kernel
theorem dX6_goes_12 : decode cX6_goes 12 = .ok (.iconst 2, 1) := by decide +kernel
theorem dX6_goes_13 : decode cX6_goes 13 = .ok (.iaload, 1) := by decide +kernel
theorem dX6_goes_14 : decode cX6_goes 14 = .ok (.invokestatic 176, 3) := by decide +kernel
theorem dX6_goes_17 : decode cX6_goes 17 = .ok (.iadd, 1) := by decide +kernel
theorem dX6_goes_18 : decode cX6_goes 18 = .ok (.iastore, 1) := by decide +kernel
theorem dX6_goes_19 : decode cX6_goes 19 = .ok (.aload_n 0, 1) := by decide +kernel
theorem dX6_goes_20 : decode cX6_goes 20 = .ok (.getfield 38, 3) := by decide +kernel
theorem dX6_goes_23 : decode cX6_goes 23 = .ok (.iconst 2, 1) := by decide +kernel
theorem dX6_goes_24 : decode cX6_goes 24 = .ok (.iload_n 1, 1) := by decide +kernel
theorem dX6_goes_25 : decode cX6_goes 25 = .ok (.iastore, 1) := by decide +kernel
theorem dX6_goes_26 : decode cX6_goes 26 = .ok (.return_, 1) := by decide +kernel
theorem dX6_taps_0 : decode cX6_taps 0 = .ok (.aload_n 0, 1) := by decide +kernel
theorem dX6_taps_1 : decode cX6_taps 1 = .ok (.getfield 38, 3) := by decide +kernel
theorem dX6_taps_4 : decode cX6_taps 4 = .ok (.iconst 2, 1) := by decide +kernel
theorem dX6_taps_5 : decode cX6_taps 5 = .ok (.iaload, 1) := by decide +kernel
theorem dX6_taps_6 : decode cX6_taps 6 = .ok (.istore_n 1, 1) := by decide +kernel
theorem dX6_taps_7 : decode cX6_taps 7 = .ok (.aload_n 0, 1) := by decide +kernel
theorem dX6_taps_8 : decode cX6_taps 8 = .ok (.iload_n 1, 1) := by decide +kernel
theorem dX6_taps_9 : decode cX6_taps 9 = .ok (.invokevirtual 144, 3) := by decide +kernel
theorem dX6_taps_12 : decode cX6_taps 12 = .ok (.istore_n 2, 1) := by decide +kernel
theorem dX6_taps_13 : decode cX6_taps 13 = .ok (.aload_n 0, 1) := by decide +kernel
theorem dX6_taps_14 : decode cX6_taps 14 = .ok (.getfield 38, 3) := by decide +kernel
theorem dX6_taps_17 : decode cX6_taps 17 = .ok (.iconst 0, 1) := by decide +kernel
theorem dX6_taps_18 : decode cX6_taps 18 = .ok (.dup2, 1) := by decide +kernel
theorem dX6_taps_19 : decode cX6_taps 19 = .ok (.iaload, 1) := by decide +kernel
theorem dX6_taps_20 : decode cX6_taps 20 = .ok (.iconst 1, 1) := by decide +kernel
theorem dX6_taps_21 : decode cX6_taps 21 = .ok (.iadd, 1) := by decide +kernel
theorem dX6_taps_22 : decode cX6_taps 22 = .ok (.iastore, 1) := by decide +kernel
theorem dX6_taps_23 : decode cX6_taps 23 = .ok (.aload_n 0, 1) := by decide +kernel
theorem dX6_taps_24 : decode cX6_taps 24 = .ok (.getfield 38, 3) := by decide +kernel
theorem dX6_taps_27 : decode cX6_taps 27 = .ok (.bipush 11, 2) := by decide +kernel
theorem dX6_taps_29 : decode cX6_taps 29 = .ok (.iload_n 1, 1) := by decide +kernel
theorem dX6_taps_30 : decode cX6_taps 30 = .ok (.iadd, 1) := by decide +kernel
theorem dX6_taps_31 : decode cX6_taps 31 = .ok (.dup2, 1) := by decide +kernel
theorem dX6_taps_32 : decode cX6_taps 32 = .ok (.iaload, 1) := by decide +kernel
theorem dX6_taps_33 : decode cX6_taps 33 = .ok (.iconst 1, 1) := by decide +kernel
theorem dX6_taps_34 : decode cX6_taps 34 = .ok (.iadd, 1) := by decide +kernel
theorem dX6_taps_35 : decode cX6_taps 35 = .ok (.iastore, 1) := by decide +kernel
theorem dX6_taps_36 : decode cX6_taps 36 = .ok (.aload_n 0, 1) := by decide +kernel
theorem dX6_taps_37 : decode cX6_taps 37 = .ok (.iload_n 1, 1) := by decide +kernel
theorem dX6_taps_38 : decode cX6_taps 38 = .ok (.invokevirtual 140, 3) := by decide +kernel
theorem dX6_taps_41 : decode cX6_taps 41 = .ok (.ifCond .ne 76, 3) := by decide +kernel
theorem dX6_taps_44 : decode cX6_taps 44 = .ok (.iload_n 2, 1) := by decide +kernel
theorem dX6_taps_45 : decode cX6_taps 45 = .ok (.bipush (-9), 2) := by decide +kernel
theorem dX6_taps_47 : decode cX6_taps 47 = .ok (.if_icmp .eq 70, 3) := by decide +kernel
theorem dX6_taps_50 : decode cX6_taps 50 = .ok (.aload_n 0, 1) := by decide +kernel
theorem dX6_taps_51 : decode cX6_taps 51 = .ok (.getfield 38, 3) := by decide +kernel
theorem dX6_taps_54 : decode cX6_taps 54 = .ok (.bipush 11, 2) := by decide +kernel
theorem dX6_taps_56 : decode cX6_taps 56 = .ok (.iload_n 1, 1) := by decide +kernel
theorem dX6_taps_57 : decode cX6_taps 57 = .ok (.iadd, 1) := by decide +kernel
theorem dX6_taps_58 : decode cX6_taps 58 = .ok (.iaload, 1) := by decide +kernel
theorem dX6_taps_59 : decode cX6_taps 59 = .ok (.iload_n 2, 1) := by decide +kernel
theorem dX6_taps_60 : decode cX6_taps 60 = .ok (.if_icmp .lt 57, 3) := by decide +kernel
theorem dX6_taps_63 : decode cX6_taps 63 = .ok (.aload_n 0, 1) := by decide +kernel
theorem dX6_taps_64 : decode cX6_taps 64 = .ok (.getfield 38, 3) := by decide +kernel
theorem dX6_taps_67 : decode cX6_taps 67 = .ok (.iconst 4, 1) := by decide +kernel
theorem dX6_taps_68 : decode cX6_taps 68 = .ok (.iaload, 1) := by decide +kernel
theorem dX6_taps_69 : decode cX6_taps 69 = .ok (.aload_n 0, 1) := by decide +kernel
theorem dX6_taps_70 : decode cX6_taps 70 = .ok (.getfield 32, 3) := by decide +kernel
theorem dX6_taps_73 : decode cX6_taps 73 = .ok (.iload_n 1, 1) := by decide +kernel
theorem dX6_taps_74 : decode cX6_taps 74 = .ok (.iaload, 1) := by decide +kernel
theorem dX6_taps_75 : decode cX6_taps 75 = .ok (.invokestatic 160, 3) := by decide +kernel
theorem dX6_taps_78 : decode cX6_taps 78 = .ok (.iadd, 1) := by decide +kernel
theorem dX6_taps_79 : decode cX6_taps 79 = .ok (.istore_n 3, 1) := by decide +kernel
theorem dX6_taps_80 : decode cX6_taps 80 = .ok (.aload_n 0, 1) := by decide +kernel
theorem dX6_taps_81 : decode cX6_taps 81 = .ok (.getfield 38, 3) := by decide +kernel
theorem dX6_taps_84 : decode cX6_taps 84 = .ok (.bipush 17, 2) := by decide +kernel
theorem dX6_taps_86 : decode cX6_taps 86 = .ok (.iload_n 1, 1) := by decide +kernel
theorem dX6_taps_87 : decode cX6_taps 87 = .ok (.iadd, 1) := by decide +kernel
theorem dX6_taps_88 : decode cX6_taps 88 = .ok (.aload_n 0, 1) := by decide +kernel
theorem dX6_taps_89 : decode cX6_taps 89 = .ok (.getfield 38, 3) := by decide +kernel
theorem dX6_taps_92 : decode cX6_taps 92 = .ok (.iconst 5, 1) := by decide +kernel
theorem dX6_taps_93 : decode cX6_taps 93 = .ok (.iload_n 1, 1) := by decide +kernel
theorem dX6_taps_94 : decode cX6_taps 94 = .ok (.iadd, 1) := by decide +kernel
theorem dX6_taps_95 : decode cX6_taps 95 = .ok (.iaload, 1) := by decide +kernel
theorem dX6_taps_96 : decode cX6_taps 96 = .ok (.iastore, 1) := by decide +kernel
theorem dX6_taps_97 : decode cX6_taps 97 = .ok (.aload_n 0, 1) := by decide +kernel
theorem dX6_taps_98 : decode cX6_taps 98 = .ok (.getfield 38, 3) := by decide +kernel
theorem dX6_taps_101 : decode cX6_taps 101 = .ok (.iconst 4, 1) := by decide +kernel
theorem dX6_taps_102 : decode cX6_taps 102 = .ok (.iload_n 3, 1) := by decide +kernel
theorem dX6_taps_103 : decode cX6_taps 103 = .ok (.sipush 9999, 3) := by decide +kernel
theorem dX6_taps_106 : decode cX6_taps 106 = .ok (.if_icmp .le 9, 3) := by decide +kernel
theorem dX6_taps_109 : decode cX6_taps 109 = .ok (.sipush 9999, 3) := by decide +kernel
theorem dX6_taps_112 : decode cX6_taps 112 = .ok (.goto 4, 3) := by decide +kernel
theorem dX6_taps_115 : decode cX6_taps 115 = .ok (.iload_n 3, 1) := by decide +kernel
theorem dX6_taps_116 : decode cX6_taps 116 = .ok (.iastore, 1) := by decide +kernel
theorem dX6_taps_117 : decode cX6_taps 117 = .ok (.return_, 1) := by decide +kernel
theorem dX6_changes_0 : decode cX6_changes 0 = .ok (.aload_n 0, 1) := by decide +kernel
theorem dX6_changes_1 : decode cX6_changes 1 = .ok (.getfield 38, 3) := by decide +kernel
theorem dX6_changes_4 : decode cX6_changes 4 = .ok (.iconst 5, 1) := by decide +kernel
theorem dX6_changes_5 : decode cX6_changes 5 = .ok (.iload_n 1, 1) := by decide +kernel
theorem dX6_changes_6 : decode cX6_changes 6 = .ok (.iadd, 1) := by decide +kernel
theorem dX6_changes_7 : decode cX6_changes 7 = .ok (.iload_n 2, 1) := by decide +kernel
theorem dX6_changes_8 : decode cX6_changes 8 = .ok (.iastore, 1) := by decide +kernel
theorem dX6_changes_9 : decode cX6_changes 9 = .ok (.aload_n 0, 1) := by decide +kernel
theorem dX6_changes_10 : decode cX6_changes 10 = .ok (.getfield 38, 3) := by decide +kernel
theorem dX6_changes_13 : decode cX6_changes 13 = .ok (.bipush 11, 2) := by decide +kernel
theorem dX6_changes_15 : decode cX6_changes 15 = .ok (.iload_n 1, 1) := by decide +kernel
theorem dX6_changes_16 : decode cX6_changes 16 = .ok (.iadd, 1) := by decide +kernel
theorem dX6_changes_17 : decode cX6_changes 17 = .ok (.iconst 0, 1) := by decide +kernel
theorem dX6_changes_18 : decode cX6_changes 18 = .ok (.iastore, 1) := by decide +kernel
theorem dX6_changes_19 : decode cX6_changes 19 = .ok (.return_, 1) := by decide +kernel
theorem dX6_walk_0 : decode cX6_walk 0 = .ok (.aload_n 0, 1) := by decide +kernel
theorem dX6_walk_1 : decode cX6_walk 1 = .ok (.iload_n 1, 1) := by decide +kernel
theorem dX6_walk_2 : decode cX6_walk 2 = .ok (.invokevirtual 150, 3) := by decide +kernel
theorem dX6_walk_5 : decode cX6_walk 5 = .ok (.ifCond .ne 5, 3) := by decide +kernel
theorem dX6_walk_8 : decode cX6_walk 8 = .ok (.iconst (-1), 1) := by decide +kernel
theorem dX6_walk_9 : decode cX6_walk 9 = .ok (.ireturn, 1) := by decide +kernel
theorem dX6_walk_10 : decode cX6_walk 10 = .ok (.iload_n 1, 1) := by decide +kernel
theorem dX6_walk_11 : decode cX6_walk 11 = .ok (.aload_n 0, 1) := by decide +kernel
theorem dX6_walk_12 : decode cX6_walk 12 = .ok (.getfield 38, 3) := by decide +kernel
theorem dX6_walk_15 : decode cX6_walk 15 = .ok (.iconst 2, 1) := by decide +kernel
theorem dX6_walk_16 : decode cX6_walk 16 = .ok (.iaload, 1) := by decide +kernel
theorem dX6_walk_17 : decode cX6_walk 17 = .ok (.if_icmp .ne 6, 3) := by decide +kernel
theorem dX6_walk_20 : decode cX6_walk 20 = .ok (.bipush (-4), 2) := by decide +kernel
theorem dX6_walk_22 : decode cX6_walk 22 = .ok (.ireturn, 1) := by decide +kernel
theorem dX6_walk_23 : decode cX6_walk 23 = .ok (.aload_n 0, 1) := by decide +kernel
theorem dX6_walk_24 : decode cX6_walk 24 = .ok (.getfield 134, 3) := by decide +kernel
theorem dX6_walk_27 : decode cX6_walk 27 = .ok (.bipush 40, 2) := by decide +kernel
theorem dX6_walk_29 : decode cX6_walk 29 = .ok (.if_icmp .ne 6, 3) := by decide +kernel
theorem dX6_walk_32 : decode cX6_walk 32 = .ok (.bipush (-2), 2) := by decide +kernel
theorem dX6_walk_34 : decode cX6_walk 34 = .ok (.ireturn, 1) := by decide +kernel
theorem dX6_walk_35 : decode cX6_walk 35 = .ok (.aload_n 0, 1) := by decide +kernel
theorem dX6_walk_36 : decode cX6_walk 36 = .ok (.invokevirtual 179, 3) := by decide +kernel
theorem dX6_walk_39 : decode cX6_walk 39 = .ok (.aload_n 0, 1) := by decide +kernel
theorem dX6_walk_40 : decode cX6_walk 40 = .ok (.iload_n 1, 1) := by decide +kernel
theorem dX6_walk_41 : decode cX6_walk 41 = .ok (.invokevirtual 182, 3) := by decide +kernel
theorem dX6_walk_44 : decode cX6_walk 44 = .ok (.aload_n 0, 1) := by decide +kernel
theorem dX6_walk_45 : decode cX6_walk 45 = .ok (.getfield 38, 3) := by decide +kernel
theorem dX6_walk_48 : decode cX6_walk 48 = .ok (.iconst 0, 1) := by decide +kernel
theorem dX6_walk_49 : decode cX6_walk 49 = .ok (.iaload, 1) := by decide +kernel
theorem dX6_walk_50 : decode cX6_walk 50 = .ok (.ireturn, 1) := by decide +kernel
theorem dX6_tap_0 : decode cX6_tap 0 = .ok (.aload_n 0, 1) := by decide +kernel
theorem dX6_tap_1 : decode cX6_tap 1 = .ok (.getfield 66, 3) := by decide +kernel
theorem dX6_tap_4 : decode cX6_tap 4 = .ok (.ifCond .ne 6, 3) := by decide +kernel
theorem dX6_tap_7 : decode cX6_tap 7 = .ok (.bipush (-4), 2) := by decide +kernel
theorem dX6_tap_9 : decode cX6_tap 9 = .ok (.ireturn, 1) := by decide +kernel
theorem dX6_tap_10 : decode cX6_tap 10 = .ok (.aload_n 0, 1) := by decide +kernel
theorem dX6_tap_11 : decode cX6_tap 11 = .ok (.getfield 134, 3) := by decide +kernel
theorem dX6_tap_14 : decode cX6_tap 14 = .ok (.bipush 40, 2) := by decide +kernel
theorem dX6_tap_16 : decode cX6_tap 16 = .ok (.if_icmp .ne 6, 3) := by decide +kernel
theorem dX6_tap_19 : decode cX6_tap 19 = .ok (.bipush (-2), 2) := by decide +kernel
theorem dX6_tap_21 : decode cX6_tap 21 = .ok (.ireturn, 1) := by decide +kernel
theorem dX6_tap_22 : decode cX6_tap 22 = .ok (.aload_n 0, 1) := by decide +kernel
theorem dX6_tap_23 : decode cX6_tap 23 = .ok (.invokevirtual 179, 3) := by decide +kernel
theorem dX6_tap_26 : decode cX6_tap 26 = .ok (.aload_n 0, 1) := by decide +kernel
theorem dX6_tap_27 : decode cX6_tap 27 = .ok (.invokevirtual 186, 3) := by decide +kernel
theorem dX6_tap_30 : decode cX6_tap 30 = .ok (.aload_n 0, 1) := by decide +kernel
theorem dX6_tap_31 : decode cX6_tap 31 = .ok (.aload_n 0, 1) := by decide +kernel
theorem dX6_tap_32 : decode cX6_tap 32 = .ok (.getfield 38, 3) := by decide +kernel
theorem dX6_tap_35 : decode cX6_tap 35 = .ok (.iconst 2, 1) := by decide +kernel
theorem dX6_tap_36 : decode cX6_tap 36 = .ok (.iaload, 1) := by decide +kernel
theorem dX6_tap_37 : decode cX6_tap 37 = .ok (.invokevirtual 140, 3) := by decide +kernel
theorem dX6_tap_40 : decode cX6_tap 40 = .ok (.ifCond .eq 7, 3) := by decide +kernel
theorem dX6_tap_43 : decode cX6_tap 43 = .ok (.iconst 1, 1) := by decide +kernel
theorem dX6_tap_44 : decode cX6_tap 44 = .ok (.goto 4, 3) := by decide +kernel
theorem dX6_tap_47 : decode cX6_tap 47 = .ok (.iconst 0, 1) := by decide +kernel
theorem dX6_tap_48 : decode cX6_tap 48 = .ok (.ireturn, 1) := by decide +kernel
theorem dX6_slate_0 : decode cX6_slate 0 = .ok (.aload_n 0, 1) := by decide +kernel
theorem dX6_slate_1 : decode cX6_slate 1 = .ok (.iload_n 1, 1) := by decide +kernel
theorem dX6_slate_2 : decode cX6_slate 2 = .ok (.invokevirtual 150, 3) := by decide +kernel
theorem dX6_slate_5 : decode cX6_slate 5 = .ok (.ifCond .eq 13, 3) := by decide +kernel
theorem dX6_slate_8 : decode cX6_slate 8 = .ok (.iload_n 2, 1) := by decide +kernel
theorem dX6_slate_9 : decode cX6_slate 9 = .ok (.iconst 0, 1) := by decide +kernel
theorem dX6_slate_10 : decode cX6_slate 10 = .ok (.bipush 99, 2) := by decide +kernel
theorem dX6_slate_12 : decode cX6_slate 12 = .ok (.invokestatic 69, 3) := by decide +kernel
theorem dX6_slate_15 : decode cX6_slate 15 = .ok (.ifCond .ne 5, 3) := by decide +kernel
theorem dX6_slate_18 : decode cX6_slate 18 = .ok (.iconst (-1), 1) := by decide +kernel
theorem dX6_slate_19 : decode cX6_slate 19 = .ok (.ireturn, 1) := by decide +kernel
theorem dX6_slate_20 : decode cX6_slate 20 = .ok (.aload_n 0, 1) := by decide +kernel
theorem dX6_slate_21 : decode cX6_slate 21 = .ok (.getfield 38, 3) := by decide +kernel
theorem dX6_slate_24 : decode cX6_slate 24 = .ok (.iconst 5, 1) := by decide +kernel
theorem dX6_slate_25 : decode cX6_slate 25 = .ok (.iload_n 1, 1) := by decide +kernel
theorem dX6_slate_26 : decode cX6_slate 26 = .ok (.iadd, 1) := by decide +kernel
theorem dX6_slate_27 : decode cX6_slate 27 = .ok (.iaload, 1) := by decide +kernel
theorem dX6_slate_28 : decode cX6_slate 28 = .ok (.istore_n 3, 1) := by decide +kernel
theorem dX6_slate_29 : decode cX6_slate 29 = .ok (.iload_n 3, 1) := by decide +kernel
theorem dX6_slate_30 : decode cX6_slate 30 = .ok (.iload_n 2, 1) := by decide +kernel
theorem dX6_slate_31 : decode cX6_slate 31 = .ok (.if_icmp .ne 6, 3) := by decide +kernel
theorem dX6_slate_34 : decode cX6_slate 34 = .ok (.bipush (-4), 2) := by decide +kernel
theorem dX6_slate_36 : decode cX6_slate 36 = .ok (.ireturn, 1) := by decide +kernel
theorem dX6_slate_37 : decode cX6_slate 37 = .ok (.aload_n 0, 1) := by decide +kernel
theorem dX6_slate_38 : decode cX6_slate 38 = .ok (.getfield 134, 3) := by decide +kernel
theorem dX6_slate_41 : decode cX6_slate 41 = .ok (.bipush 40, 2) := by decide +kernel
theorem dX6_slate_43 : decode cX6_slate 43 = .ok (.if_icmp .ne 6, 3) := by decide +kernel
theorem dX6_slate_46 : decode cX6_slate 46 = .ok (.bipush (-2), 2) := by decide +kernel
theorem dX6_slate_48 : decode cX6_slate 48 = .ok (.ireturn, 1) := by decide +kernel
theorem dX6_slate_49 : decode cX6_slate 49 = .ok (.aload_n 0, 1) := by decide +kernel
theorem dX6_slate_50 : decode cX6_slate 50 = .ok (.invokevirtual 179, 3) := by decide +kernel
theorem dX6_slate_53 : decode cX6_slate 53 = .ok (.aload_n 0, 1) := by decide +kernel
theorem dX6_slate_54 : decode cX6_slate 54 = .ok (.iload_n 1, 1) := by decide +kernel
theorem dX6_slate_55 : decode cX6_slate 55 = .ok (.iload_n 2, 1) := by decide +kernel
theorem dX6_slate_56 : decode cX6_slate 56 = .ok (.invokevirtual 189, 3) := by decide +kernel
theorem dX6_slate_59 : decode cX6_slate 59 = .ok (.iload_n 3, 1) := by decide +kernel
theorem dX6_slate_60 : decode cX6_slate 60 = .ok (.ireturn, 1) := by decide +kernel
theorem dX6_frost_0 : decode cX6_frost 0 = .ok (.iload_n 1, 1) := by decide +kernel
theorem dX6_frost_1 : decode cX6_frost 1 = .ok (.iconst 0, 1) := by decide +kernel
theorem dX6_frost_2 : decode cX6_frost 2 = .ok (.iconst 1, 1) := by decide +kernel
theorem dX6_frost_3 : decode cX6_frost 3 = .ok (.invokestatic 69, 3) := by decide +kernel
theorem dX6_frost_6 : decode cX6_frost 6 = .ok (.ifCond .ne 5, 3) := by decide +kernel
theorem dX6_frost_9 : decode cX6_frost 9 = .ok (.iconst (-1), 1) := by decide +kernel
theorem dX6_frost_10 : decode cX6_frost 10 = .ok (.ireturn, 1) := by decide +kernel
theorem dX6_frost_11 : decode cX6_frost 11 = .ok (.aload_n 0, 1) := by decide +kernel
theorem dX6_frost_12 : decode cX6_frost 12 = .ok (.getfield 66, 3) := by decide +kernel
theorem dX6_frost_15 : decode cX6_frost 15 = .ok (.ifCond .eq 13, 3) := by decide +kernel
theorem dX6_frost_18 : decode cX6_frost 18 = .ok (.aload_n 0, 1) := by decide +kernel
theorem dX6_frost_19 : decode cX6_frost 19 = .ok (.getfield 38, 3) := by decide +kernel
theorem dX6_frost_22 : decode cX6_frost 22 = .ok (.iconst 3, 1) := by decide +kernel
theorem dX6_frost_23 : decode cX6_frost 23 = .ok (.iaload, 1) := by decide +kernel
theorem dX6_frost_24 : decode cX6_frost 24 = .ok (.iload_n 1, 1) := by decide +kernel
theorem dX6_frost_25 : decode cX6_frost 25 = .ok (.if_icmp .ne 6, 3) := by decide +kernel
theorem dX6_frost_28 : decode cX6_frost 28 = .ok (.bipush (-4), 2) := by decide +kernel
theorem dX6_frost_30 : decode cX6_frost 30 = .ok (.ireturn, 1) := by decide +kernel
theorem dX6_frost_31 : decode cX6_frost 31 = .ok (.aload_n 0, 1) := by decide +kernel
theorem dX6_frost_32 : decode cX6_frost 32 = .ok (.getfield 134, 3) := by decide +kernel
theorem dX6_frost_35 : decode cX6_frost 35 = .ok (.bipush 40, 2) := by decide +kernel
theorem dX6_frost_37 : decode cX6_frost 37 = .ok (.if_icmp .ne 6, 3) := by decide +kernel
theorem dX6_frost_40 : decode cX6_frost 40 = .ok (.bipush (-2), 2) := by decide +kernel
theorem dX6_frost_42 : decode cX6_frost 42 = .ok (.ireturn, 1) := by decide +kernel
theorem dX6_frost_43 : decode cX6_frost 43 = .ok (.aload_n 0, 1) := by decide +kernel
theorem dX6_frost_44 : decode cX6_frost 44 = .ok (.invokevirtual 179, 3) := by decide +kernel
theorem dX6_frost_47 : decode cX6_frost 47 = .ok (.aload_n 0, 1) := by decide +kernel
theorem dX6_frost_48 : decode cX6_frost 48 = .ok (.getfield 38, 3) := by decide +kernel
theorem dX6_frost_51 : decode cX6_frost 51 = .ok (.iconst 3, 1) := by decide +kernel
theorem dX6_frost_52 : decode cX6_frost 52 = .ok (.iload_n 1, 1) := by decide +kernel
theorem dX6_frost_53 : decode cX6_frost 53 = .ok (.iastore, 1) := by decide +kernel
theorem dX6_frost_54 : decode cX6_frost 54 = .ok (.iload_n 1, 1) := by decide +kernel
theorem dX6_frost_55 : decode cX6_frost 55 = .ok (.ireturn, 1) := by decide +kernel
theorem dX6_night_0 : decode cX6_night 0 = .ok (.aload_n 0, 1) := by decide +kernel
theorem dX6_night_1 : decode cX6_night 1 = .ok (.getfield 66, 3) := by decide +kernel
theorem dX6_night_4 : decode cX6_night 4 = .ok (.ifCond .ne 6, 3) := by decide +kernel
theorem dX6_night_7 : decode cX6_night 7 = .ok (.bipush (-4), 2) := by decide +kernel
theorem dX6_night_9 : decode cX6_night 9 = .ok (.ireturn, 1) := by decide +kernel
theorem dX6_night_10 : decode cX6_night 10 = .ok (.aload_n 0, 1) := by decide +kernel
theorem dX6_night_11 : decode cX6_night 11 = .ok (.getfield 134, 3) := by decide +kernel
theorem dX6_night_14 : decode cX6_night 14 = .ok (.bipush 40, 2) := by decide +kernel
theorem dX6_night_16 : decode cX6_night 16 = .ok (.if_icmp .ne 6, 3) := by decide +kernel
theorem dX6_night_19 : decode cX6_night 19 = .ok (.bipush (-2), 2) := by decide +kernel
theorem dX6_night_21 : decode cX6_night 21 = .ok (.ireturn, 1) := by decide +kernel
theorem dX6_night_22 : decode cX6_night 22 = .ok (.aload_n 0, 1) := by decide +kernel
theorem dX6_night_23 : decode cX6_night 23 = .ok (.invokevirtual 179, 3) := by decide +kernel
theorem dX6_night_26 : decode cX6_night 26 = .ok (.aload_n 0, 1) := by decide +kernel
theorem dX6_night_27 : decode cX6_night 27 = .ok (.invokevirtual 163, 3) := by decide +kernel
theorem dX6_night_30 : decode cX6_night 30 = .ok (.invokestatic 166, 3) := by decide +kernel
theorem dX6_night_33 : decode cX6_night 33 = .ok (.istore_n 1, 1) := by decide +kernel
theorem dX6_night_34 : decode cX6_night 34 = .ok (.aload_n 0, 1) := by decide +kernel
theorem dX6_night_35 : decode cX6_night 35 = .ok (.getfield 38, 3) := by decide +kernel
theorem dX6_night_38 : decode cX6_night 38 = .ok (.iconst 0, 1) := by decide +kernel
theorem dX6_night_39 : decode cX6_night 39 = .ok (.iconst 0, 1) := by decide +kernel
theorem dX6_night_40 : decode cX6_night 40 = .ok (.iastore, 1) := by decide +kernel
theorem dX6_night_41 : decode cX6_night 41 = .ok (.aload_n 0, 1) := by decide +kernel
theorem dX6_night_42 : decode cX6_night 42 = .ok (.getfield 38, 3) := by decide +kernel
theorem dX6_night_45 : decode cX6_night 45 = .ok (.iconst 1, 1) := by decide +kernel
theorem dX6_night_46 : decode cX6_night 46 = .ok (.dup2, 1) := by decide +kernel
theorem dX6_night_47 : decode cX6_night 47 = .ok (.iaload, 1) := by decide +kernel
theorem dX6_night_48 : decode cX6_night 48 = .ok (.iconst 1, 1) := by decide +kernel
theorem dX6_night_49 : decode cX6_night 49 = .ok (.iadd, 1) := by decide +kernel
theorem dX6_night_50 : decode cX6_night 50 = .ok (.iastore, 1) := by decide +kernel
theorem dX6_night_51 : decode cX6_night 51 = .ok (.aload_n 0, 1) := by decide +kernel
theorem dX6_night_52 : decode cX6_night 52 = .ok (.getfield 38, 3) := by decide +kernel
theorem dX6_night_55 : decode cX6_night 55 = .ok (.iconst 2, 1) := by decide +kernel
theorem dX6_night_56 : decode cX6_night 56 = .ok (.iconst 0, 1) := by decide +kernel
theorem dX6_night_57 : decode cX6_night 57 = .ok (.iastore, 1) := by decide +kernel
theorem dX6_night_58 : decode cX6_night 58 = .ok (.iconst 0, 1) := by decide +kernel
theorem dX6_night_59 : decode cX6_night 59 = .ok (.istore_n 2, 1) := by decide +kernel
theorem dX6_night_60 : decode cX6_night 60 = .ok (.iload_n 2, 1) := by decide +kernel
theorem dX6_night_61 : decode cX6_night 61 = .ok (.bipush 6, 2) := by decide +kernel
theorem dX6_night_63 : decode cX6_night 63 = .ok (.if_icmp .ge 30, 3) := by decide +kernel
theorem dX6_night_66 : decode cX6_night 66 = .ok (.aload_n 0, 1) := by decide +kernel
theorem dX6_night_67 : decode cX6_night 67 = .ok (.getfield 38, 3) := by decide +kernel
theorem dX6_night_70 : decode cX6_night 70 = .ok (.bipush 11, 2) := by decide +kernel
theorem dX6_night_72 : decode cX6_night 72 = .ok (.iload_n 2, 1) := by decide +kernel
theorem dX6_night_73 : decode cX6_night 73 = .ok (.iadd, 1) := by decide +kernel
theorem dX6_night_74 : decode cX6_night 74 = .ok (.iconst 0, 1) := by decide +kernel
theorem dX6_night_75 : decode cX6_night 75 = .ok (.iastore, 1) := by decide +kernel
theorem dX6_night_76 : decode cX6_night 76 = .ok (.aload_n 0, 1) := by decide +kernel
theorem dX6_night_77 : decode cX6_night 77 = .ok (.getfield 38, 3) := by decide +kernel
theorem dX6_night_80 : decode cX6_night 80 = .ok (.bipush 17, 2) := by decide +kernel
theorem dX6_night_82 : decode cX6_night 82 = .ok (.iload_n 2, 1) := by decide +kernel
theorem dX6_night_83 : decode cX6_night 83 = .ok (.iadd, 1) := by decide +kernel
theorem dX6_night_84 : decode cX6_night 84 = .ok (.bipush (-9), 2) := by decide +kernel
theorem dX6_night_86 : decode cX6_night 86 = .ok (.iastore, 1) := by decide +kernel
theorem dX6_night_87 : decode cX6_night 87 = .ok (.iinc 2 1, 3) := by decide +kernel
theorem dX6_night_90 : decode cX6_night 90 = .ok (.goto (-30), 3) := by decide +kernel
theorem dX6_night_93 : decode cX6_night 93 = .ok (.iload_n 1, 1) := by decide +kernel
theorem dX6_night_94 : decode cX6_night 94 = .ok (.ireturn, 1) := by decide +kernel
theorem dX6_undo_0 : decode cX6_undo 0 = .ok (.iload_n 1, 1) := by decide +kernel
theorem dX6_undo_1 : decode cX6_undo 1 = .ok (.iconst 0, 1) := by decide +kernel
theorem dX6_undo_2 : decode cX6_undo 2 = .ok (.aload_n 0, 1) := by decide +kernel
theorem dX6_undo_3 : decode cX6_undo 3 = .ok (.getfield 134, 3) := by decide +kernel
theorem dX6_undo_6 : decode cX6_undo 6 = .ok (.invokestatic 69, 3) := by decide +kernel
theorem dX6_undo_9 : decode cX6_undo 9 = .ok (.ifCond .ne 5, 3) := by decide +kernel
theorem dX6_undo_12 : decode cX6_undo 12 = .ok (.iconst (-1), 1) := by decide +kernel
theorem dX6_undo_13 : decode cX6_undo 13 = .ok (.ireturn, 1) := by decide +kernel
theorem dX6_undo_14 : decode cX6_undo 14 = .ok (.aload_n 0, 1) := by decide +kernel
theorem dX6_undo_15 : decode cX6_undo 15 = .ok (.getfield 134, 3) := by decide +kernel
theorem dX6_undo_18 : decode cX6_undo 18 = .ok (.iload_n 1, 1) := by decide +kernel
theorem dX6_undo_19 : decode cX6_undo 19 = .ok (.isub, 1) := by decide +kernel
theorem dX6_undo_20 : decode cX6_undo 20 = .ok (.istore_n 2, 1) := by decide +kernel
theorem dX6_undo_21 : decode cX6_undo 21 = .ok (.iload_n 2, 1) := by decide +kernel
theorem dX6_undo_22 : decode cX6_undo 22 = .ok (.ifCond .le 21, 3) := by decide +kernel
theorem dX6_undo_25 : decode cX6_undo 25 = .ok (.aload_n 0, 1) := by decide +kernel
theorem dX6_undo_26 : decode cX6_undo 26 = .ok (.getfield 41, 3) := by decide +kernel
theorem dX6_undo_29 : decode cX6_undo 29 = .ok (.bipush 23, 2) := by decide +kernel
theorem dX6_undo_31 : decode cX6_undo 31 = .ok (.iload_n 1, 1) := by decide +kernel
theorem dX6_undo_32 : decode cX6_undo 32 = .ok (.imul, 1) := by decide +kernel
theorem dX6_undo_33 : decode cX6_undo 33 = .ok (.aload_n 0, 1) := by decide +kernel
theorem dX6_undo_34 : decode cX6_undo 34 = .ok (.getfield 38, 3) := by decide +kernel
theorem dX6_undo_37 : decode cX6_undo 37 = .ok (.iconst 0, 1) := by decide +kernel
theorem dX6_undo_38 : decode cX6_undo 38 = .ok (.bipush 23, 2) := by decide +kernel
theorem dX6_undo_40 : decode cX6_undo 40 = .ok (.invokestatic 172, 3) := by decide +kernel
theorem dX6_undo_43 : decode cX6_undo 43 = .ok (.aload_n 0, 1) := by decide +kernel
theorem dX6_undo_44 : decode cX6_undo 44 = .ok (.iload_n 1, 1) := by decide +kernel
theorem dX6_undo_45 : decode cX6_undo 45 = .ok (.putfield 134, 3) := by decide +kernel
theorem dX6_undo_48 : decode cX6_undo 48 = .ok (.iload_n 2, 1) := by decide +kernel
theorem dX6_undo_49 : decode cX6_undo 49 = .ok (.ireturn, 1) := by decide +kernel
theorem dX6_keep_0 : decode cX6_keep 0 = .ok (.iload_n 1, 1) := by decide +kernel
theorem dX6_keep_1 : decode cX6_keep 1 = .ok (.iconst 0, 1) := by decide +kernel
theorem dX6_keep_2 : decode cX6_keep 2 = .ok (.iconst 2, 1) := by decide +kernel
theorem dX6_keep_3 : decode cX6_keep 3 = .ok (.invokestatic 69, 3) := by decide +kernel
theorem dX6_keep_6 : decode cX6_keep 6 = .ok (.ifCond .ne 5, 3) := by decide +kernel
theorem dX6_keep_9 : decode cX6_keep 9 = .ok (.iconst (-1), 1) := by decide +kernel
theorem dX6_keep_10 : decode cX6_keep 10 = .ok (.ireturn, 1) := by decide +kernel
theorem dX6_keep_11 : decode cX6_keep 11 = .ok (.aload_n 0, 1) := by decide +kernel
theorem dX6_keep_12 : decode cX6_keep 12 = .ok (.getfield 66, 3) := by decide +kernel
theorem dX6_keep_15 : decode cX6_keep 15 = .ok (.ifCond .ne 6, 3) := by decide +kernel
theorem dX6_keep_18 : decode cX6_keep 18 = .ok (.bipush (-4), 2) := by decide +kernel
theorem dX6_keep_20 : decode cX6_keep 20 = .ok (.ireturn, 1) := by decide +kernel
theorem dX6_keep_21 : decode cX6_keep 21 = .ok (.aload_n 0, 1) := by decide +kernel
theorem dX6_keep_22 : decode cX6_keep 22 = .ok (.getfield 38, 3) := by decide +kernel
theorem dX6_keep_25 : decode cX6_keep 25 = .ok (.iconst 0, 1) := by decide +kernel
theorem dX6_keep_26 : decode cX6_keep 26 = .ok (.aload_n 0, 1) := by decide +kernel
theorem dX6_keep_27 : decode cX6_keep 27 = .ok (.getfield 44, 3) := by decide +kernel
theorem dX6_keep_30 : decode cX6_keep 30 = .ok (.bipush 23, 2) := by decide +kernel
theorem dX6_keep_32 : decode cX6_keep 32 = .ok (.iload_n 1, 1) := by decide +kernel
theorem dX6_keep_33 : decode cX6_keep 33 = .ok (.imul, 1) := by decide +kernel
theorem dX6_keep_34 : decode cX6_keep 34 = .ok (.bipush 23, 2) := by decide +kernel
theorem dX6_keep_36 : decode cX6_keep 36 = .ok (.invokestatic 172, 3) := by decide +kernel
theorem dX6_keep_39 : decode cX6_keep 39 = .ok (.aload_n 0, 1) := by decide +kernel
theorem dX6_keep_40 : decode cX6_keep 40 = .ok (.getfield 41, 3) := by decide +kernel
theorem dX6_keep_43 : decode cX6_keep 43 = .ok (.iconst 0, 1) := by decide +kernel
theorem dX6_keep_44 : decode cX6_keep 44 = .ok (.aload_n 0, 1) := by decide +kernel
theorem dX6_keep_45 : decode cX6_keep 45 = .ok (.getfield 47, 3) := by decide +kernel
theorem dX6_keep_48 : decode cX6_keep 48 = .ok (.sipush 920, 3) := by decide +kernel
theorem dX6_keep_51 : decode cX6_keep 51 = .ok (.iload_n 1, 1) := by decide +kernel
theorem dX6_keep_52 : decode cX6_keep 52 = .ok (.imul, 1) := by decide +kernel
theorem dX6_keep_53 : decode cX6_keep 53 = .ok (.sipush 920, 3) := by decide +kernel
theorem dX6_keep_56 : decode cX6_keep 56 = .ok (.invokestatic 172, 3) := by decide +kernel
theorem dX6_keep_59 : decode cX6_keep 59 = .ok (.aload_n 0, 1) := by decide +kernel
theorem dX6_keep_60 : decode cX6_keep 60 = .ok (.getfield 50, 3) := by decide +kernel
theorem dX6_keep_63 : decode cX6_keep 63 = .ok (.iload_n 1, 1) := by decide +kernel
theorem dX6_keep_64 : decode cX6_keep 64 = .ok (.aload_n 0, 1) := by decide +kernel
theorem dX6_keep_65 : decode cX6_keep 65 = .ok (.getfield 134, 3) := by decide +kernel
theorem dX6_keep_68 : decode cX6_keep 68 = .ok (.iastore, 1) := by decide +kernel
theorem dX6_keep_69 : decode cX6_keep 69 = .ok (.aload_n 0, 1) := by decide +kernel
theorem dX6_keep_70 : decode cX6_keep 70 = .ok (.getfield 134, 3) := by decide +kernel
theorem dX6_keep_73 : decode cX6_keep 73 = .ok (.ireturn, 1) := by decide +kernel
theorem dX6_on_0 : decode cX6_on 0 = .ok (.iload_n 1, 1) := by decide +kernel
theorem dX6_on_1 : decode cX6_on 1 = .ok (.iconst 0, 1) := by decide +kernel
theorem dX6_on_2 : decode cX6_on 2 = .ok (.iconst 2, 1) := by decide +kernel
theorem dX6_on_3 : decode cX6_on 3 = .ok (.invokestatic 69, 3) := by decide +kernel
theorem dX6_on_6 : decode cX6_on 6 = .ok (.ifCond .ne 5, 3) := by decide +kernel
theorem dX6_on_9 : decode cX6_on 9 = .ok (.iconst (-1), 1) := by decide +kernel
theorem dX6_on_10 : decode cX6_on 10 = .ok (.ireturn, 1) := by decide +kernel
theorem dX6_on_11 : decode cX6_on 11 = .ok (.aload_n 0, 1) := by decide +kernel
theorem dX6_on_12 : decode cX6_on 12 = .ok (.getfield 50, 3) := by decide +kernel
theorem dX6_on_15 : decode cX6_on 15 = .ok (.iload_n 1, 1) := by decide +kernel
theorem dX6_on_16 : decode cX6_on 16 = .ok (.iaload, 1) := by decide +kernel
theorem dX6_on_17 : decode cX6_on 17 = .ok (.ifCond .ge 9, 3) := by decide +kernel
theorem dX6_on_20 : decode cX6_on 20 = .ok (.aload_n 0, 1) := by decide +kernel
theorem dX6_on_21 : decode cX6_on 21 = .ok (.iconst 1, 1) := by decide +kernel
theorem dX6_on_22 : decode cX6_on 22 = .ok (.invokevirtual 73, 3) := by decide +kernel
theorem dX6_on_25 : decode cX6_on 25 = .ok (.ireturn, 1) := by decide +kernel
theorem dX6_on_26 : decode cX6_on 26 = .ok (.aload_n 0, 1) := by decide +kernel
theorem dX6_on_27 : decode cX6_on 27 = .ok (.getfield 44, 3) := by decide +kernel
theorem dX6_on_30 : decode cX6_on 30 = .ok (.bipush 23, 2) := by decide +kernel
theorem dX6_on_32 : decode cX6_on 32 = .ok (.iload_n 1, 1) := by decide +kernel
theorem dX6_on_33 : decode cX6_on 33 = .ok (.imul, 1) := by decide +kernel
theorem dX6_on_34 : decode cX6_on 34 = .ok (.aload_n 0, 1) := by decide +kernel
theorem dX6_on_35 : decode cX6_on 35 = .ok (.getfield 38, 3) := by decide +kernel
theorem dX6_on_38 : decode cX6_on 38 = .ok (.iconst 0, 1) := by decide +kernel
theorem dX6_on_39 : decode cX6_on 39 = .ok (.bipush 23, 2) := by decide +kernel
theorem dX6_on_41 : decode cX6_on 41 = .ok (.invokestatic 172, 3) := by decide +kernel
theorem dX6_on_44 : decode cX6_on 44 = .ok (.aload_n 0, 1) := by decide +kernel
theorem dX6_on_45 : decode cX6_on 45 = .ok (.getfield 47, 3) := by decide +kernel
theorem dX6_on_48 : decode cX6_on 48 = .ok (.sipush 920, 3) := by decide +kernel
theorem dX6_on_51 : decode cX6_on 51 = .ok (.iload_n 1, 1) := by decide +kernel
theorem dX6_on_52 : decode cX6_on 52 = .ok (.imul, 1) := by decide +kernel
theorem dX6_on_53 : decode cX6_on 53 = .ok (.aload_n 0, 1) := by decide +kernel
theorem dX6_on_54 : decode cX6_on 54 = .ok (.getfield 41, 3) := by decide +kernel
theorem dX6_on_57 : decode cX6_on 57 = .ok (.iconst 0, 1) := by decide +kernel
theorem dX6_on_58 : decode cX6_on 58 = .ok (.sipush 920, 3) := by decide +kernel
theorem dX6_on_61 : decode cX6_on 61 = .ok (.invokestatic 172, 3) := by decide +kernel
theorem dX6_on_64 : decode cX6_on 64 = .ok (.aload_n 0, 1) := by decide +kernel
theorem dX6_on_65 : decode cX6_on 65 = .ok (.aload_n 0, 1) := by decide +kernel
theorem dX6_on_66 : decode cX6_on 66 = .ok (.getfield 50, 3) := by decide +kernel
theorem dX6_on_69 : decode cX6_on 69 = .ok (.iload_n 1, 1) := by decide +kernel
theorem dX6_on_70 : decode cX6_on 70 = .ok (.iaload, 1) := by decide +kernel
theorem dX6_on_71 : decode cX6_on 71 = .ok (.putfield 134, 3) := by decide +kernel
theorem dX6_on_74 : decode cX6_on 74 = .ok (.aload_n 0, 1) := by decide +kernel
theorem dX6_on_75 : decode cX6_on 75 = .ok (.getfield 134, 3) := by decide +kernel
theorem dX6_on_78 : decode cX6_on 78 = .ok (.ireturn, 1) := by decide +kernel
theorem dX6_takes_0 : decode cX6_takes 0 = .ok (.aload_n 0, 1) := by decide +kernel
theorem dX6_takes_1 : decode cX6_takes 1 = .ok (.iload_n 1, 1) := by decide +kernel
theorem dX6_takes_2 : decode cX6_takes 2 = .ok (.invokevirtual 150, 3) := by decide +kernel
theorem dX6_takes_5 : decode cX6_takes 5 = .ok (.ifCond .eq 27, 3) := by decide +kernel
theorem dX6_takes_8 : decode cX6_takes 8 = .ok (.iload_n 2, 1) := by decide +kernel
theorem dX6_takes_9 : decode cX6_takes 9 = .ok (.iconst 0, 1) := by decide +kernel
theorem dX6_takes_10 : decode cX6_takes 10 = .ok (.bipush 99, 2) := by decide +kernel
theorem dX6_takes_12 : decode cX6_takes 12 = .ok (.invokestatic 69, 3) := by decide +kernel
theorem dX6_takes_15 : decode cX6_takes 15 = .ok (.ifCond .eq 17, 3) := by decide +kernel
theorem dX6_takes_18 : decode cX6_takes 18 = .ok (.aload_n 0, 1) := by decide +kernel
theorem dX6_takes_19 : decode cX6_takes 19 = .ok (.aload_n 0, 1) := by decide +kernel
theorem dX6_takes_20 : decode cX6_takes 20 = .ok (.getfield 32, 3) := by decide +kernel
theorem dX6_takes_23 : decode cX6_takes 23 = .ok (.iload_n 1, 1) := by decide +kernel
theorem dX6_takes_24 : decode cX6_takes 24 = .ok (.iaload, 1) := by decide +kernel
theorem dX6_takes_25 : decode cX6_takes 25 = .ok (.iload_n 2, 1) := by decide +kernel
theorem dX6_takes_26 : decode cX6_takes 26 = .ok (.invokevirtual 137, 3) := by decide +kernel
theorem dX6_takes_29 : decode cX6_takes 29 = .ok (.goto 4, 3) := by decide +kernel
theorem dX6_takes_32 : decode cX6_takes 32 = .ok (.iconst (-1), 1) := by decide +kernel
theorem dX6_takes_33 : decode cX6_takes 33 = .ok (.ireturn, 1) := by decide +kernel
theorem dX6_pays_0 : decode cX6_pays 0 = .ok (.aload_n 0, 1) := by decide +kernel
theorem dX6_pays_1 : decode cX6_pays 1 = .ok (.iload_n 1, 1) := by decide +kernel
theorem dX6_pays_2 : decode cX6_pays 2 = .ok (.invokevirtual 150, 3) := by decide +kernel
theorem dX6_pays_5 : decode cX6_pays 5 = .ok (.ifCond .eq 15, 3) := by decide +kernel
theorem dX6_pays_8 : decode cX6_pays 8 = .ok (.aload_n 0, 1) := by decide +kernel
theorem dX6_pays_9 : decode cX6_pays 9 = .ok (.getfield 32, 3) := by decide +kernel
theorem dX6_pays_12 : decode cX6_pays 12 = .ok (.iload_n 1, 1) := by decide +kernel
theorem dX6_pays_13 : decode cX6_pays 13 = .ok (.iaload, 1) := by decide +kernel
theorem dX6_pays_14 : decode cX6_pays 14 = .ok (.invokestatic 160, 3) := by decide +kernel
theorem dX6_pays_17 : decode cX6_pays 17 = .ok (.goto 4, 3) := by decide +kernel
theorem dX6_pays_20 : decode cX6_pays 20 = .ok (.iconst (-1), 1) := by decide +kernel
theorem dX6_pays_21 : decode cX6_pays 21 = .ok (.ireturn, 1) := by decide +kernel
theorem dX6_who_0 : decode cX6_who 0 = .ok (.iload_n 1, 1) := by decide +kernel
theorem dX6_who_1 : decode cX6_who 1 = .ok (.iconst 0, 1) := by decide +kernel
theorem dX6_who_2 : decode cX6_who 2 = .ok (.bipush 99, 2) := by decide +kernel
theorem dX6_who_4 : decode cX6_who 4 = .ok (.invokestatic 69, 3) := by decide +kernel
theorem dX6_who_7 : decode cX6_who 7 = .ok (.ifCond .eq 13, 3) := by decide +kernel
theorem dX6_who_10 : decode cX6_who 10 = .ok (.iload_n 2, 1) := by decide +kernel
theorem dX6_who_11 : decode cX6_who 11 = .ok (.iconst 1, 1) := by decide +kernel
theorem dX6_who_12 : decode cX6_who 12 = .ok (.bipush 9, 2) := by decide +kernel
theorem dX6_who_14 : decode cX6_who 14 = .ok (.invokestatic 69, 3) := by decide +kernel
theorem dX6_who_17 : decode cX6_who 17 = .ok (.ifCond .ne 5, 3) := by decide +kernel
theorem dX6_who_20 : decode cX6_who 20 = .ok (.iconst (-1), 1) := by decide +kernel
theorem dX6_who_21 : decode cX6_who 21 = .ok (.ireturn, 1) := by decide +kernel
theorem dX6_who_22 : decode cX6_who 22 = .ok (.iconst 0, 1) := by decide +kernel
theorem dX6_who_23 : decode cX6_who 23 = .ok (.istore_n 3, 1) := by decide +kernel
theorem dX6_who_24 : decode cX6_who 24 = .ok (.iconst 0, 1) := by decide +kernel
theorem dX6_who_25 : decode cX6_who 25 = .ok (.istore 4, 2) := by decide +kernel
theorem dX6_who_27 : decode cX6_who 27 = .ok (.iload 4, 2) := by decide +kernel
theorem dX6_who_29 : decode cX6_who 29 = .ok (.aload_n 0, 1) := by decide +kernel
theorem dX6_who_30 : decode cX6_who 30 = .ok (.getfield 66, 3) := by decide +kernel
theorem dX6_who_33 : decode cX6_who 33 = .ok (.if_icmp .ge 36, 3) := by decide +kernel
theorem dX6_who_36 : decode cX6_who 36 = .ok (.iload_n 3, 1) := by decide +kernel
theorem dX6_who_37 : decode cX6_who 37 = .ok (.aload_n 0, 1) := by decide +kernel
theorem dX6_who_38 : decode cX6_who 38 = .ok (.aload_n 0, 1) := by decide +kernel
theorem dX6_who_39 : decode cX6_who 39 = .ok (.getfield 32, 3) := by decide +kernel
theorem dX6_who_42 : decode cX6_who 42 = .ok (.iload 4, 2) := by decide +kernel
theorem dX6_who_44 : decode cX6_who 44 = .ok (.iaload, 1) := by decide +kernel
theorem dX6_who_45 : decode cX6_who 45 = .ok (.iload_n 1, 1) := by decide +kernel
theorem dX6_who_46 : decode cX6_who 46 = .ok (.invokevirtual 137, 3) := by decide +kernel
theorem dX6_who_49 : decode cX6_who 49 = .ok (.iload_n 2, 1) := by decide +kernel
theorem dX6_who_50 : decode cX6_who 50 = .ok (.if_icmp .ne 10, 3) := by decide +kernel
theorem dX6_who_53 : decode cX6_who 53 = .ok (.iconst 1, 1) := by decide +kernel
theorem dX6_who_54 : decode cX6_who 54 = .ok (.iload 4, 2) := by decide +kernel
theorem dX6_who_56 : decode cX6_who 56 = .ok (.ishl, 1) := by decide +kernel
theorem dX6_who_57 : decode cX6_who 57 = .ok (.goto 4, 3) := by decide +kernel
theorem dX6_who_60 : decode cX6_who 60 = .ok (.iconst 0, 1) := by decide +kernel
theorem dX6_who_61 : decode cX6_who 61 = .ok (.ior, 1) := by decide +kernel
theorem dX6_who_62 : decode cX6_who 62 = .ok (.istore_n 3, 1) := by decide +kernel
theorem dX6_who_63 : decode cX6_who 63 = .ok (.iinc 4 1, 3) := by decide +kernel
theorem dX6_who_66 : decode cX6_who 66 = .ok (.goto (-39), 3) := by decide +kernel
theorem dX6_who_69 : decode cX6_who 69 = .ok (.iload_n 3, 1) := by decide +kernel
theorem dX6_who_70 : decode cX6_who 70 = .ok (.ireturn, 1) := by decide +kernel
theorem dX6_quarrels_0 : decode cX6_quarrels 0 = .ok (.aload_n 0, 1) := by decide +kernel
theorem dX6_quarrels_1 : decode cX6_quarrels 1 = .ok (.getfield 66, 3) := by decide +kernel
theorem dX6_quarrels_4 : decode cX6_quarrels 4 = .ok (.ifCond .ne 6, 3) := by decide +kernel
theorem dX6_quarrels_7 : decode cX6_quarrels 7 = .ok (.bipush (-4), 2) := by decide +kernel
theorem dX6_quarrels_9 : decode cX6_quarrels 9 = .ok (.ireturn, 1) := by decide +kernel
theorem dX6_quarrels_10 : decode cX6_quarrels 10 = .ok (.iconst 0, 1) := by decide +kernel
theorem dX6_quarrels_11 : decode cX6_quarrels 11 = .ok (.istore_n 1, 1) := by decide +kernel
theorem dX6_quarrels_12 : decode cX6_quarrels 12 = .ok (.iconst 1, 1) := by decide +kernel
theorem dX6_quarrels_13 : decode cX6_quarrels 13 = .ok (.istore_n 2, 1) := by decide +kernel
theorem dX6_quarrels_14 : decode cX6_quarrels 14 = .ok (.iload_n 2, 1) := by decide +kernel
theorem dX6_quarrels_15 : decode cX6_quarrels 15 = .ok (.aload_n 0, 1) := by decide +kernel
theorem dX6_quarrels_16 : decode cX6_quarrels 16 = .ok (.getfield 66, 3) := by decide +kernel
theorem dX6_quarrels_19 : decode cX6_quarrels 19 = .ok (.if_icmp .ge 65, 3) := by decide +kernel
theorem dX6_quarrels_22 : decode cX6_quarrels 22 = .ok (.iload_n 1, 1) := by decide +kernel
theorem dX6_quarrels_23 : decode cX6_quarrels 23 = .ok (.aload_n 0, 1) := by decide +kernel
theorem dX6_quarrels_24 : decode cX6_quarrels 24 = .ok (.iload_n 2, 1) := by decide +kernel
theorem dX6_quarrels_25 : decode cX6_quarrels 25 = .ok (.invokevirtual 140, 3) := by decide +kernel
theorem dX6_quarrels_28 : decode cX6_quarrels 28 = .ok (.ifCond .eq 47, 3) := by decide +kernel
theorem dX6_quarrels_31 : decode cX6_quarrels 31 = .ok (.aload_n 0, 1) := by decide +kernel
theorem dX6_quarrels_32 : decode cX6_quarrels 32 = .ok (.iload_n 2, 1) := by decide +kernel
theorem dX6_quarrels_33 : decode cX6_quarrels 33 = .ok (.iconst 1, 1) := by decide +kernel
theorem dX6_quarrels_34 : decode cX6_quarrels 34 = .ok (.isub, 1) := by decide +kernel
theorem dX6_quarrels_35 : decode cX6_quarrels 35 = .ok (.invokevirtual 140, 3) := by decide +kernel
theorem dX6_quarrels_38 : decode cX6_quarrels 38 = .ok (.ifCond .eq 37, 3) := by decide +kernel
theorem dX6_quarrels_41 : decode cX6_quarrels 41 = .ok (.aload_n 0, 1) := by decide +kernel
theorem dX6_quarrels_42 : decode cX6_quarrels 42 = .ok (.getfield 38, 3) := by decide +kernel
theorem dX6_quarrels_45 : decode cX6_quarrels 45 = .ok (.bipush 17, 2) := by decide +kernel
theorem dX6_quarrels_47 : decode cX6_quarrels 47 = .ok (.iload_n 2, 1) := by decide +kernel
theorem dX6_quarrels_48 : decode cX6_quarrels 48 = .ok (.iadd, 1) := by decide +kernel
theorem dX6_quarrels_49 : decode cX6_quarrels 49 = .ok (.iaload, 1) := by decide +kernel
theorem dX6_quarrels_50 : decode cX6_quarrels 50 = .ok (.aload_n 0, 1) := by decide +kernel
theorem dX6_quarrels_51 : decode cX6_quarrels 51 = .ok (.getfield 38, 3) := by decide +kernel
theorem dX6_quarrels_54 : decode cX6_quarrels 54 = .ok (.bipush 17, 2) := by decide +kernel
theorem dX6_quarrels_56 : decode cX6_quarrels 56 = .ok (.iload_n 2, 1) := by decide +kernel
theorem dX6_quarrels_57 : decode cX6_quarrels 57 = .ok (.iadd, 1) := by decide +kernel
theorem dX6_quarrels_58 : decode cX6_quarrels 58 = .ok (.iconst 1, 1) := by decide +kernel
theorem dX6_quarrels_59 : decode cX6_quarrels 59 = .ok (.isub, 1) := by decide +kernel
theorem dX6_quarrels_60 : decode cX6_quarrels 60 = .ok (.iaload, 1) := by decide +kernel
theorem dX6_quarrels_61 : decode cX6_quarrels 61 = .ok (.invokestatic 176, 3) := by decide +kernel
theorem dX6_quarrels_64 : decode cX6_quarrels 64 = .ok (.aload_n 0, 1) := by decide +kernel
theorem dX6_quarrels_65 : decode cX6_quarrels 65 = .ok (.getfield 131, 3) := by decide +kernel
theorem dX6_quarrels_68 : decode cX6_quarrels 68 = .ok (.if_icmp .le 7, 3) := by decide +kernel
theorem dX6_quarrels_71 : decode cX6_quarrels 71 = .ok (.iconst 1, 1) := by decide +kernel
theorem dX6_quarrels_72 : decode cX6_quarrels 72 = .ok (.goto 4, 3) := by decide +kernel
theorem dX6_quarrels_75 : decode cX6_quarrels 75 = .ok (.iconst 0, 1) := by decide +kernel
theorem dX6_quarrels_76 : decode cX6_quarrels 76 = .ok (.iadd, 1) := by decide +kernel
theorem dX6_quarrels_77 : decode cX6_quarrels 77 = .ok (.istore_n 1, 1) := by decide +kernel
theorem dX6_quarrels_78 : decode cX6_quarrels 78 = .ok (.iinc 2 1, 3) := by decide +kernel
theorem dX6_quarrels_81 : decode cX6_quarrels 81 = .ok (.goto (-67), 3) := by decide +kernel
theorem dX6_quarrels_84 : decode cX6_quarrels 84 = .ok (.iload_n 1, 1) := by decide +kernel
theorem dX6_quarrels_85 : decode cX6_quarrels 85 = .ok (.ireturn, 1) := by decide +kernel
theorem dX6_wakable_0 : decode cX6_wakable 0 = .ok (.iconst 0, 1) := by decide +kernel
theorem dX6_wakable_1 : decode cX6_wakable 1 = .ok (.istore_n 1, 1) := by decide +kernel
theorem dX6_wakable_2 : decode cX6_wakable 2 = .ok (.iconst 0, 1) := by decide +kernel
theorem dX6_wakable_3 : decode cX6_wakable 3 = .ok (.istore_n 2, 1) := by decide +kernel
theorem dX6_wakable_4 : decode cX6_wakable 4 = .ok (.iload_n 2, 1) := by decide +kernel
theorem dX6_wakable_5 : decode cX6_wakable 5 = .ok (.aload_n 0, 1) := by decide +kernel
theorem dX6_wakable_6 : decode cX6_wakable 6 = .ok (.getfield 66, 3) := by decide +kernel
theorem dX6_wakable_9 : decode cX6_wakable 9 = .ok (.if_icmp .ge 27, 3) := by decide +kernel
theorem dX6_wakable_12 : decode cX6_wakable 12 = .ok (.iload_n 1, 1) := by decide +kernel
theorem dX6_wakable_13 : decode cX6_wakable 13 = .ok (.aload_n 0, 1) := by decide +kernel
theorem dX6_wakable_14 : decode cX6_wakable 14 = .ok (.iload_n 2, 1) := by decide +kernel
theorem dX6_wakable_15 : decode cX6_wakable 15 = .ok (.invokevirtual 147, 3) := by decide +kernel
theorem dX6_wakable_18 : decode cX6_wakable 18 = .ok (.ifCond .le 9, 3) := by decide +kernel
theorem dX6_wakable_21 : decode cX6_wakable 21 = .ok (.iconst 1, 1) := by decide +kernel
theorem dX6_wakable_22 : decode cX6_wakable 22 = .ok (.iload_n 2, 1) := by decide +kernel
theorem dX6_wakable_23 : decode cX6_wakable 23 = .ok (.ishl, 1) := by decide +kernel
theorem dX6_wakable_24 : decode cX6_wakable 24 = .ok (.goto 4, 3) := by decide +kernel
theorem dX6_wakable_27 : decode cX6_wakable 27 = .ok (.iconst 0, 1) := by decide +kernel
theorem dX6_wakable_28 : decode cX6_wakable 28 = .ok (.ior, 1) := by decide +kernel
theorem dX6_wakable_29 : decode cX6_wakable 29 = .ok (.istore_n 1, 1) := by decide +kernel
theorem dX6_wakable_30 : decode cX6_wakable 30 = .ok (.iinc 2 1, 3) := by decide +kernel
theorem dX6_wakable_33 : decode cX6_wakable 33 = .ok (.goto (-29), 3) := by decide +kernel
theorem dX6_wakable_36 : decode cX6_wakable 36 = .ok (.iload_n 1, 1) := by decide +kernel
theorem dX6_wakable_37 : decode cX6_wakable 37 = .ok (.ireturn, 1) := by decide +kernel
theorem dX6_isSet_0 : decode cX6_isSet 0 = .ok (.iload_n 1, 1) := by decide +kernel
theorem dX6_isSet_1 : decode cX6_isSet 1 = .ok (.iconst 0, 1) := by decide +kernel
theorem dX6_isSet_2 : decode cX6_isSet 2 = .ok (.iconst 1, 1) := by decide +kernel
theorem dX6_isSet_3 : decode cX6_isSet 3 = .ok (.aload_n 0, 1) := by decide +kernel
theorem dX6_isSet_4 : decode cX6_isSet 4 = .ok (.getfield 66, 3) := by decide +kernel
theorem dX6_isSet_7 : decode cX6_isSet 7 = .ok (.ishl, 1) := by decide +kernel
theorem dX6_isSet_8 : decode cX6_isSet 8 = .ok (.iconst 1, 1) := by decide +kernel
theorem dX6_isSet_9 : decode cX6_isSet 9 = .ok (.isub, 1) := by decide +kernel
theorem dX6_isSet_10 : decode cX6_isSet 10 = .ok (.invokestatic 69, 3) := by decide +kernel
theorem dX6_isSet_13 : decode cX6_isSet 13 = .ok (.ireturn, 1) := by decide +kernel
theorem dX6_soonest_0 : decode cX6_soonest 0 = .ok (.aload_n 0, 1) := by decide +kernel
theorem dX6_soonest_1 : decode cX6_soonest 1 = .ok (.iload_n 1, 1) := by decide +kernel
theorem dX6_soonest_2 : decode cX6_soonest 2 = .ok (.invokevirtual 193, 3) := by decide +kernel
theorem dX6_soonest_5 : decode cX6_soonest 5 = .ok (.ifCond .ne 5, 3) := by decide +kernel
theorem dX6_soonest_8 : decode cX6_soonest 8 = .ok (.iconst (-1), 1) := by decide +kernel
theorem dX6_soonest_9 : decode cX6_soonest 9 = .ok (.ireturn, 1) := by decide +kernel
theorem dX6_soonest_10 : decode cX6_soonest 10 = .ok (.iload_n 1, 1) := by decide +kernel
theorem dX6_soonest_11 : decode cX6_soonest 11 = .ok (.aload_n 0, 1) := by decide +kernel
theorem dX6_soonest_12 : decode cX6_soonest 12 = .ok (.invokevirtual 196, 3) := by decide +kernel
theorem dX6_soonest_15 : decode cX6_soonest 15 = .ok (.iconst (-1), 1) := by decide +kernel
theorem dX6_soonest_16 : decode cX6_soonest 16 = .ok (.ixor, 1) := by decide +kernel
theorem dX6_soonest_17 : decode cX6_soonest 17 = .ok (.iand, 1) := by decide +kernel
theorem dX6_soonest_18 : decode cX6_soonest 18 = .ok (.ifCond .eq 6, 3) := by decide +kernel
theorem dX6_soonest_21 : decode cX6_soonest 21 = .ok (.bipush (-4), 2) := by decide +kernel
theorem dX6_soonest_23 : decode cX6_soonest 23 = .ok (.ireturn, 1) := by decide +kernel
theorem dX6_soonest_24 : decode cX6_soonest 24 = .ok (.iload_n 1, 1) := by decide +kernel
theorem dX6_soonest_25 : decode cX6_soonest 25 = .ok (.ifCond .ne 5, 3) := by decide +kernel
theorem dX6_soonest_28 : decode cX6_soonest 28 = .ok (.iconst 0, 1) := by decide +kernel
theorem dX6_soonest_29 : decode cX6_soonest 29 = .ok (.ireturn, 1) := by decide +kernel
theorem dX6_soonest_30 : decode cX6_soonest 30 = .ok (.iconst 0, 1) := by decide +kernel
theorem dX6_soonest_31 : decode cX6_soonest 31 = .ok (.istore_n 2, 1) := by decide +kernel
theorem dX6_soonest_32 : decode cX6_soonest 32 = .ok (.bipush 6, 2) := by decide +kernel
theorem dX6_soonest_34 : decode cX6_soonest 34 = .ok (.istore_n 3, 1) := by decide +kernel
theorem dX6_soonest_35 : decode cX6_soonest 35 = .ok (.iconst (-1), 1) := by decide +kernel
theorem dX6_soonest_36 : decode cX6_soonest 36 = .ok (.istore 4, 2) := by decide +kernel
theorem dX6_soonest_38 : decode cX6_soonest 38 = .ok (.iconst 0, 1) := by decide +kernel
theorem dX6_soonest_39 : decode cX6_soonest 39 = .ok (.istore 5, 2) := by decide +kernel
theorem dX6_soonest_41 : decode cX6_soonest 41 = .ok (.iload 5, 2) := by decide +kernel
theorem dX6_soonest_43 : decode cX6_soonest 43 = .ok (.aload_n 0, 1) := by decide +kernel
theorem dX6_soonest_44 : decode cX6_soonest 44 = .ok (.getfield 66, 3) := by decide +kernel
theorem dX6_soonest_47 : decode cX6_soonest 47 = .ok (.if_icmp .ge 44, 3) := by decide +kernel
theorem dX6_soonest_50 : decode cX6_soonest 50 = .ok (.iload_n 1, 1) := by decide +kernel
theorem dX6_soonest_51 : decode cX6_soonest 51 = .ok (.iload 5, 2) := by decide +kernel
theorem dX6_soonest_53 : decode cX6_soonest 53 = .ok (.invokestatic 199, 3) := by decide +kernel
theorem dX6_soonest_56 : decode cX6_soonest 56 = .ok (.ifCond .eq 29, 3) := by decide +kernel
theorem dX6_soonest_59 : decode cX6_soonest 59 = .ok (.iload_n 2, 1) := by decide +kernel
theorem dX6_soonest_60 : decode cX6_soonest 60 = .ok (.aload_n 0, 1) := by decide +kernel
theorem dX6_soonest_61 : decode cX6_soonest 61 = .ok (.iload 5, 2) := by decide +kernel
theorem dX6_soonest_63 : decode cX6_soonest 63 = .ok (.invokevirtual 147, 3) := by decide +kernel
theorem dX6_soonest_66 : decode cX6_soonest 66 = .ok (.iadd, 1) := by decide +kernel
theorem dX6_soonest_67 : decode cX6_soonest 67 = .ok (.istore_n 2, 1) := by decide +kernel
theorem dX6_soonest_68 : decode cX6_soonest 68 = .ok (.iload 5, 2) := by decide +kernel
theorem dX6_soonest_70 : decode cX6_soonest 70 = .ok (.iload_n 3, 1) := by decide +kernel
theorem dX6_soonest_71 : decode cX6_soonest 71 = .ok (.if_icmp .ge 8, 3) := by decide +kernel
theorem dX6_soonest_74 : decode cX6_soonest 74 = .ok (.iload 5, 2) := by decide +kernel
theorem dX6_soonest_76 : decode cX6_soonest 76 = .ok (.goto 4, 3) := by decide +kernel
theorem dX6_soonest_79 : decode cX6_soonest 79 = .ok (.iload_n 3, 1) := by decide +kernel
theorem dX6_soonest_80 : decode cX6_soonest 80 = .ok (.istore_n 3, 1) := by decide +kernel
theorem dX6_soonest_81 : decode cX6_soonest 81 = .ok (.iload 5, 2) := by decide +kernel
theorem dX6_soonest_83 : decode cX6_soonest 83 = .ok (.istore 4, 2) := by decide +kernel
theorem dX6_soonest_85 : decode cX6_soonest 85 = .ok (.iinc 5 1, 3) := by decide +kernel
theorem dX6_soonest_88 : decode cX6_soonest 88 = .ok (.goto (-47), 3) := by decide +kernel
theorem dX6_soonest_91 : decode cX6_soonest 91 = .ok (.aload_n 0, 1) := by decide +kernel
theorem dX6_soonest_92 : decode cX6_soonest 92 = .ok (.getfield 38, 3) := by decide +kernel
theorem dX6_soonest_95 : decode cX6_soonest 95 = .ok (.iconst 2, 1) := by decide +kernel
theorem dX6_soonest_96 : decode cX6_soonest 96 = .ok (.iaload, 1) := by decide +kernel
theorem dX6_soonest_97 : decode cX6_soonest 97 = .ok (.iload_n 3, 1) := by decide +kernel
theorem dX6_soonest_98 : decode cX6_soonest 98 = .ok (.invokestatic 176, 3) := by decide +kernel
theorem dX6_soonest_101 : decode cX6_soonest 101 = .ok (.istore 5, 2) := by decide +kernel
theorem dX6_soonest_103 : decode cX6_soonest 103 = .ok (.aload_n 0, 1) := by decide +kernel
theorem dX6_soonest_104 : decode cX6_soonest 104 = .ok (.getfield 38, 3) := by decide +kernel
theorem dX6_soonest_107 : decode cX6_soonest 107 = .ok (.iconst 2, 1) := by decide +kernel
theorem dX6_soonest_108 : decode cX6_soonest 108 = .ok (.iaload, 1) := by decide +kernel
theorem dX6_soonest_109 : decode cX6_soonest 109 = .ok (.iload 4, 2) := by decide +kernel
theorem dX6_soonest_111 : decode cX6_soonest 111 = .ok (.invokestatic 176, 3) := by decide +kernel
theorem dX6_soonest_114 : decode cX6_soonest 114 = .ok (.istore 6, 2) := by decide +kernel
theorem dX6_soonest_116 : decode cX6_soonest 116 = .ok (.iload_n 2, 1) := by decide +kernel
theorem dX6_soonest_117 : decode cX6_soonest 117 = .ok (.iload 4, 2) := by decide +kernel
theorem dX6_soonest_119 : decode cX6_soonest 119 = .ok (.iadd, 1) := by decide +kernel
theorem dX6_soonest_120 : decode cX6_soonest 120 = .ok (.iload_n 3, 1) := by decide +kernel
theorem dX6_soonest_121 : decode cX6_soonest 121 = .ok (.isub, 1) := by decide +kernel
theorem dX6_soonest_122 : decode cX6_soonest 122 = .ok (.iload 5, 2) := by decide +kernel
theorem dX6_soonest_124 : decode cX6_soonest 124 = .ok (.iload 6, 2) := by decide +kernel
theorem dX6_soonest_126 : decode cX6_soonest 126 = .ok (.if_icmp .ge 8, 3) := by decide +kernel
theorem dX6_soonest_129 : decode cX6_soonest 129 = .ok (.iload 5, 2) := by decide +kernel
theorem dX6_soonest_131 : decode cX6_soonest 131 = .ok (.goto 5, 3) := by decide +kernel
theorem dX6_soonest_134 : decode cX6_soonest 134 = .ok (.iload 6, 2) := by decide +kernel
theorem dX6_soonest_136 : decode cX6_soonest 136 = .ok (.iadd, 1) := by decide +kernel
theorem dX6_soonest_137 : decode cX6_soonest 137 = .ok (.ireturn, 1) := by decide +kernel
theorem dX6_layRow_0 : decode cX6_layRow 0 = .ok (.iload_n 1, 1) := by decide +kernel
theorem dX6_layRow_1 : decode cX6_layRow 1 = .ok (.istore 4, 2) := by decide +kernel
theorem dX6_layRow_3 : decode cX6_layRow 3 = .ok (.iconst 0, 1) := by decide +kernel
theorem dX6_layRow_4 : decode cX6_layRow 4 = .ok (.istore 5, 2) := by decide +kernel
theorem dX6_layRow_6 : decode cX6_layRow 6 = .ok (.iload_n 2, 1) := by decide +kernel
theorem dX6_layRow_7 : decode cX6_layRow 7 = .ok (.iconst 1, 1) := by decide +kernel
theorem dX6_layRow_8 : decode cX6_layRow 8 = .ok (.isub, 1) := by decide +kernel
theorem dX6_layRow_9 : decode cX6_layRow 9 = .ok (.istore 6, 2) := by decide +kernel
theorem dX6_layRow_11 : decode cX6_layRow 11 = .ok (.iload 6, 2) := by decide +kernel
theorem dX6_layRow_13 : decode cX6_layRow 13 = .ok (.ifCond .lt 42, 3) := by decide +kernel
theorem dX6_layRow_16 : decode cX6_layRow 16 = .ok (.aload_n 0, 1) := by decide +kernel
theorem dX6_layRow_17 : decode cX6_layRow 17 = .ok (.getfield 53, 3) := by decide +kernel
theorem dX6_layRow_20 : decode cX6_layRow 20 = .ok (.iload 6, 2) := by decide +kernel
theorem dX6_layRow_22 : decode cX6_layRow 22 = .ok (.iload 4, 2) := by decide +kernel
theorem dX6_layRow_24 : decode cX6_layRow 24 = .ok (.bipush 6, 2) := by decide +kernel
theorem dX6_layRow_26 : decode cX6_layRow 26 = .ok (.irem, 1) := by decide +kernel
theorem dX6_layRow_27 : decode cX6_layRow 27 = .ok (.iastore, 1) := by decide +kernel
theorem dX6_layRow_28 : decode cX6_layRow 28 = .ok (.iload 4, 2) := by decide +kernel
theorem dX6_layRow_30 : decode cX6_layRow 30 = .ok (.bipush 6, 2) := by decide +kernel
theorem dX6_layRow_32 : decode cX6_layRow 32 = .ok (.idiv, 1) := by decide +kernel
theorem dX6_layRow_33 : decode cX6_layRow 33 = .ok (.istore 4, 2) := by decide +kernel
theorem dX6_layRow_35 : decode cX6_layRow 35 = .ok (.iload 5, 2) := by decide +kernel
theorem dX6_layRow_37 : decode cX6_layRow 37 = .ok (.iconst 1, 1) := by decide +kernel
theorem dX6_layRow_38 : decode cX6_layRow 38 = .ok (.aload_n 0, 1) := by decide +kernel
theorem dX6_layRow_39 : decode cX6_layRow 39 = .ok (.getfield 53, 3) := by decide +kernel
theorem dX6_layRow_42 : decode cX6_layRow 42 = .ok (.iload 6, 2) := by decide +kernel
theorem dX6_layRow_44 : decode cX6_layRow 44 = .ok (.iaload, 1) := by decide +kernel
theorem dX6_layRow_45 : decode cX6_layRow 45 = .ok (.ishl, 1) := by decide +kernel
theorem dX6_layRow_46 : decode cX6_layRow 46 = .ok (.ior, 1) := by decide +kernel
theorem dX6_layRow_47 : decode cX6_layRow 47 = .ok (.istore 5, 2) := by decide +kernel
theorem dX6_layRow_49 : decode cX6_layRow 49 = .ok (.iinc 6 (-1), 3) := by decide +kernel
theorem dX6_layRow_52 : decode cX6_layRow 52 = .ok (.goto (-41), 3) := by decide +kernel
theorem dX6_layRow_55 : decode cX6_layRow 55 = .ok (.iload 5, 2) := by decide +kernel
theorem dX6_layRow_57 : decode cX6_layRow 57 = .ok (.iload_n 3, 1) := by decide +kernel
theorem dX6_layRow_58 : decode cX6_layRow 58 = .ok (.if_icmp .ne 7, 3) := by decide +kernel
theorem dX6_layRow_61 : decode cX6_layRow 61 = .ok (.iconst 1, 1) := by decide +kernel
theorem dX6_layRow_62 : decode cX6_layRow 62 = .ok (.goto 4, 3) := by decide +kernel
theorem dX6_layRow_65 : decode cX6_layRow 65 = .ok (.iconst 0, 1) := by decide +kernel
theorem dX6_layRow_66 : decode cX6_layRow 66 = .ok (.ireturn, 1) := by decide +kernel
theorem dX6_rowsOf_0 : decode cX6_rowsOf 0 = .ok (.iconst 1, 1) := by decide +kernel
theorem dX6_rowsOf_1 : decode cX6_rowsOf 1 = .ok (.istore_n 1, 1) := by decide +kernel
theorem dX6_rowsOf_2 : decode cX6_rowsOf 2 = .ok (.iconst 0, 1) := by decide +kernel
theorem dX6_rowsOf_3 : decode cX6_rowsOf 3 = .ok (.istore_n 2, 1) := by decide +kernel
theorem dX6_rowsOf_4 : decode cX6_rowsOf 4 = .ok (.iload_n 2, 1) := by decide +kernel
theorem dX6_rowsOf_5 : decode cX6_rowsOf 5 = .ok (.iload_n 0, 1) := by decide +kernel
theorem dX6_rowsOf_6 : decode cX6_rowsOf 6 = .ok (.if_icmp .ge 14, 3) := by decide +kernel
theorem dX6_rowsOf_9 : decode cX6_rowsOf 9 = .ok (.iload_n 1, 1) := by decide +kernel
theorem dX6_rowsOf_10 : decode cX6_rowsOf 10 = .ok (.bipush 6, 2) := by decide +kernel
theorem dX6_rowsOf_12 : decode cX6_rowsOf 12 = .ok (.imul, 1) := by decide +kernel
theorem dX6_rowsOf_13 : decode cX6_rowsOf 13 = .ok (.istore_n 1, 1) := by decide +kernel
theorem dX6_rowsOf_14 : decode cX6_rowsOf 14 = .ok (.iinc 2 1, 3) := by decide +kernel
theorem dX6_rowsOf_17 : decode cX6_rowsOf 17 = .ok (.goto (-13), 3) := by decide +kernel
theorem dX6_rowsOf_20 : decode cX6_rowsOf 20 = .ok (.iload_n 1, 1) := by decide +kernel
theorem dX6_rowsOf_21 : decode cX6_rowsOf 21 = .ok (.ireturn, 1) := by decide +kernel
theorem dX6_minutesOf_0 : decode cX6_minutesOf 0 = .ok (.iconst 0, 1) := by decide +kernel
theorem dX6_minutesOf_1 : decode cX6_minutesOf 1 = .ok (.istore_n 2, 1) := by decide +kernel
theorem dX6_minutesOf_2 : decode cX6_minutesOf 2 = .ok (.aload_n 0, 1) := by decide +kernel
theorem dX6_minutesOf_3 : decode cX6_minutesOf 3 = .ok (.getfield 38, 3) := by decide +kernel
theorem dX6_minutesOf_6 : decode cX6_minutesOf 6 = .ok (.iconst 2, 1) := by decide +kernel
theorem dX6_minutesOf_7 : decode cX6_minutesOf 7 = .ok (.iaload, 1) := by decide +kernel
theorem dX6_minutesOf_8 : decode cX6_minutesOf 8 = .ok (.istore_n 3, 1) := by decide +kernel
theorem dX6_minutesOf_9 : decode cX6_minutesOf 9 = .ok (.iconst 0, 1) := by decide +kernel
theorem dX6_minutesOf_10 : decode cX6_minutesOf 10 = .ok (.istore 4, 2) := by decide +kernel
theorem dX6_minutesOf_12 : decode cX6_minutesOf 12 = .ok (.iload 4, 2) := by decide +kernel
theorem dX6_minutesOf_14 : decode cX6_minutesOf 14 = .ok (.iload_n 1, 1) := by decide +kernel
theorem dX6_minutesOf_15 : decode cX6_minutesOf 15 = .ok (.if_icmp .ge 69, 3) := by decide +kernel
theorem dX6_minutesOf_18 : decode cX6_minutesOf 18 = .ok (.iload_n 2, 1) := by decide +kernel
theorem dX6_minutesOf_19 : decode cX6_minutesOf 19 = .ok (.iload_n 3, 1) := by decide +kernel
theorem dX6_minutesOf_20 : decode cX6_minutesOf 20 = .ok (.aload_n 0, 1) := by decide +kernel
theorem dX6_minutesOf_21 : decode cX6_minutesOf 21 = .ok (.getfield 53, 3) := by decide +kernel
theorem dX6_minutesOf_24 : decode cX6_minutesOf 24 = .ok (.iload 4, 2) := by decide +kernel
theorem dX6_minutesOf_26 : decode cX6_minutesOf 26 = .ok (.iaload, 1) := by decide +kernel
theorem dX6_minutesOf_27 : decode cX6_minutesOf 27 = .ok (.invokestatic 176, 3) := by decide +kernel
theorem dX6_minutesOf_30 : decode cX6_minutesOf 30 = .ok (.aload_n 0, 1) := by decide +kernel
theorem dX6_minutesOf_31 : decode cX6_minutesOf 31 = .ok (.aload_n 0, 1) := by decide +kernel
theorem dX6_minutesOf_32 : decode cX6_minutesOf 32 = .ok (.getfield 53, 3) := by decide +kernel
theorem dX6_minutesOf_35 : decode cX6_minutesOf 35 = .ok (.iload 4, 2) := by decide +kernel
theorem dX6_minutesOf_37 : decode cX6_minutesOf 37 = .ok (.iaload, 1) := by decide +kernel
theorem dX6_minutesOf_38 : decode cX6_minutesOf 38 = .ok (.invokevirtual 147, 3) := by decide +kernel
theorem dX6_minutesOf_41 : decode cX6_minutesOf 41 = .ok (.iadd, 1) := by decide +kernel
theorem dX6_minutesOf_42 : decode cX6_minutesOf 42 = .ok (.iadd, 1) := by decide +kernel
theorem dX6_minutesOf_43 : decode cX6_minutesOf 43 = .ok (.istore_n 2, 1) := by decide +kernel
theorem dX6_minutesOf_44 : decode cX6_minutesOf 44 = .ok (.aload_n 0, 1) := by decide +kernel
theorem dX6_minutesOf_45 : decode cX6_minutesOf 45 = .ok (.getfield 53, 3) := by decide +kernel
theorem dX6_minutesOf_48 : decode cX6_minutesOf 48 = .ok (.iload 4, 2) := by decide +kernel
theorem dX6_minutesOf_50 : decode cX6_minutesOf 50 = .ok (.iaload, 1) := by decide +kernel
theorem dX6_minutesOf_51 : decode cX6_minutesOf 51 = .ok (.istore_n 3, 1) := by decide +kernel
theorem dX6_minutesOf_52 : decode cX6_minutesOf 52 = .ok (.aload_n 0, 1) := by decide +kernel
theorem dX6_minutesOf_53 : decode cX6_minutesOf 53 = .ok (.getfield 38, 3) := by decide +kernel
theorem dX6_minutesOf_56 : decode cX6_minutesOf 56 = .ok (.iconst 0, 1) := by decide +kernel
theorem dX6_minutesOf_57 : decode cX6_minutesOf 57 = .ok (.iaload, 1) := by decide +kernel
theorem dX6_minutesOf_58 : decode cX6_minutesOf 58 = .ok (.iload_n 2, 1) := by decide +kernel
theorem dX6_minutesOf_59 : decode cX6_minutesOf 59 = .ok (.iadd, 1) := by decide +kernel
theorem dX6_minutesOf_60 : decode cX6_minutesOf 60 = .ok (.aload_n 0, 1) := by decide +kernel
theorem dX6_minutesOf_61 : decode cX6_minutesOf 61 = .ok (.getfield 35, 3) := by decide +kernel
theorem dX6_minutesOf_64 : decode cX6_minutesOf 64 = .ok (.aload_n 0, 1) := by decide +kernel
theorem dX6_minutesOf_65 : decode cX6_minutesOf 65 = .ok (.getfield 53, 3) := by decide +kernel
theorem dX6_minutesOf_68 : decode cX6_minutesOf 68 = .ok (.iload 4, 2) := by decide +kernel
theorem dX6_minutesOf_70 : decode cX6_minutesOf 70 = .ok (.iaload, 1) := by decide +kernel
theorem dX6_minutesOf_71 : decode cX6_minutesOf 71 = .ok (.iaload, 1) := by decide +kernel
theorem dX6_minutesOf_72 : decode cX6_minutesOf 72 = .ok (.if_icmp .le 6, 3) := by decide +kernel
theorem dX6_minutesOf_75 : decode cX6_minutesOf 75 = .ok (.bipush (-9), 2) := by decide +kernel
theorem dX6_minutesOf_77 : decode cX6_minutesOf 77 = .ok (.ireturn, 1) := by decide +kernel
theorem dX6_minutesOf_78 : decode cX6_minutesOf 78 = .ok (.iinc 4 1, 3) := by decide +kernel
theorem dX6_minutesOf_81 : decode cX6_minutesOf 81 = .ok (.goto (-69), 3) := by decide +kernel
theorem dX6_minutesOf_84 : decode cX6_minutesOf 84 = .ok (.iload_n 2, 1) := by decide +kernel
theorem dX6_minutesOf_85 : decode cX6_minutesOf 85 = .ok (.ireturn, 1) := by decide +kernel
theorem dX6_bestOf_0 : decode cX6_bestOf 0 = .ok (.iload_n 1, 1) := by decide +kernel
theorem dX6_bestOf_1 : decode cX6_bestOf 1 = .ok (.invokestatic 166, 3) := by decide +kernel
theorem dX6_bestOf_4 : decode cX6_bestOf 4 = .ok (.istore_n 2, 1) := by decide +kernel
theorem dX6_bestOf_5 : decode cX6_bestOf 5 = .ok (.bipush (-9), 2) := by decide +kernel
theorem dX6_bestOf_7 : decode cX6_bestOf 7 = .ok (.istore_n 3, 1) := by decide +kernel
theorem dX6_bestOf_8 : decode cX6_bestOf 8 = .ok (.iconst 0, 1) := by decide +kernel
theorem dX6_bestOf_9 : decode cX6_bestOf 9 = .ok (.istore 4, 2) := by decide +kernel
theorem dX6_bestOf_11 : decode cX6_bestOf 11 = .ok (.iload 4, 2) := by decide +kernel
theorem dX6_bestOf_13 : decode cX6_bestOf 13 = .ok (.iload_n 2, 1) := by decide +kernel
theorem dX6_bestOf_14 : decode cX6_bestOf 14 = .ok (.invokestatic 202, 3) := by decide +kernel
theorem dX6_bestOf_17 : decode cX6_bestOf 17 = .ok (.if_icmp .ge 64, 3) := by decide +kernel
theorem dX6_bestOf_20 : decode cX6_bestOf 20 = .ok (.aload_n 0, 1) := by decide +kernel
theorem dX6_bestOf_21 : decode cX6_bestOf 21 = .ok (.iload 4, 2) := by decide +kernel
theorem dX6_bestOf_23 : decode cX6_bestOf 23 = .ok (.iload_n 2, 1) := by decide +kernel
theorem dX6_bestOf_24 : decode cX6_bestOf 24 = .ok (.iload_n 1, 1) := by decide +kernel
theorem dX6_bestOf_25 : decode cX6_bestOf 25 = .ok (.invokevirtual 205, 3) := by decide +kernel
theorem dX6_bestOf_28 : decode cX6_bestOf 28 = .ok (.ifCond .eq 47, 3) := by decide +kernel
theorem dX6_bestOf_31 : decode cX6_bestOf 31 = .ok (.aload_n 0, 1) := by decide +kernel
theorem dX6_bestOf_32 : decode cX6_bestOf 32 = .ok (.iload_n 2, 1) := by decide +kernel
theorem dX6_bestOf_33 : decode cX6_bestOf 33 = .ok (.invokevirtual 208, 3) := by decide +kernel
theorem dX6_bestOf_36 : decode cX6_bestOf 36 = .ok (.istore 5, 2) := by decide +kernel
theorem dX6_bestOf_38 : decode cX6_bestOf 38 = .ok (.iload 5, 2) := by decide +kernel
theorem dX6_bestOf_40 : decode cX6_bestOf 40 = .ok (.bipush (-9), 2) := by decide +kernel
theorem dX6_bestOf_42 : decode cX6_bestOf 42 = .ok (.if_icmp .eq 33, 3) := by decide +kernel
theorem dX6_bestOf_45 : decode cX6_bestOf 45 = .ok (.iload_n 3, 1) := by decide +kernel
theorem dX6_bestOf_46 : decode cX6_bestOf 46 = .ok (.bipush (-9), 2) := by decide +kernel
theorem dX6_bestOf_48 : decode cX6_bestOf 48 = .ok (.if_icmp .eq 9, 3) := by decide +kernel
theorem dX6_bestOf_51 : decode cX6_bestOf 51 = .ok (.iload 5, 2) := by decide +kernel
theorem dX6_bestOf_53 : decode cX6_bestOf 53 = .ok (.iload_n 3, 1) := by decide +kernel
theorem dX6_bestOf_54 : decode cX6_bestOf 54 = .ok (.if_icmp .ge 21, 3) := by decide +kernel
theorem dX6_bestOf_57 : decode cX6_bestOf 57 = .ok (.iload 5, 2) := by decide +kernel
theorem dX6_bestOf_59 : decode cX6_bestOf 59 = .ok (.istore_n 3, 1) := by decide +kernel
theorem dX6_bestOf_60 : decode cX6_bestOf 60 = .ok (.aload_n 0, 1) := by decide +kernel
theorem dX6_bestOf_61 : decode cX6_bestOf 61 = .ok (.getfield 53, 3) := by decide +kernel
theorem dX6_bestOf_64 : decode cX6_bestOf 64 = .ok (.iconst 0, 1) := by decide +kernel
theorem dX6_bestOf_65 : decode cX6_bestOf 65 = .ok (.aload_n 0, 1) := by decide +kernel
theorem dX6_bestOf_66 : decode cX6_bestOf 66 = .ok (.getfield 56, 3) := by decide +kernel
theorem dX6_bestOf_69 : decode cX6_bestOf 69 = .ok (.iconst 0, 1) := by decide +kernel
theorem dX6_bestOf_70 : decode cX6_bestOf 70 = .ok (.bipush 6, 2) := by decide +kernel
theorem dX6_bestOf_72 : decode cX6_bestOf 72 = .ok (.invokestatic 172, 3) := by decide +kernel
theorem dX6_bestOf_75 : decode cX6_bestOf 75 = .ok (.iinc 4 1, 3) := by decide +kernel
theorem dX6_bestOf_78 : decode cX6_bestOf 78 = .ok (.goto (-67), 3) := by decide +kernel
theorem dX6_bestOf_81 : decode cX6_bestOf 81 = .ok (.iload_n 3, 1) := by decide +kernel
theorem dX6_bestOf_82 : decode cX6_bestOf 82 = .ok (.ireturn, 1) := by decide +kernel
theorem dX6_anew_0 : decode cX6_anew 0 = .ok (.aload_n 0, 1) := by decide +kernel
theorem dX6_anew_1 : decode cX6_anew 1 = .ok (.getfield 7, 3) := by decide +kernel
theorem dX6_anew_4 : decode cX6_anew 4 = .ok (.iload_n 1, 1) := by decide +kernel
theorem dX6_anew_5 : decode cX6_anew 5 = .ok (.iload_n 2, 1) := by decide +kernel
theorem dX6_anew_6 : decode cX6_anew 6 = .ok (.iastore, 1) := by decide +kernel
theorem dX6_anew_7 : decode cX6_anew 7 = .ok (.iconst 0, 1) := by decide +kernel
theorem dX6_anew_8 : decode cX6_anew 8 = .ok (.istore_n 3, 1) := by decide +kernel
theorem dX6_anew_9 : decode cX6_anew 9 = .ok (.iload_n 3, 1) := by decide +kernel
theorem dX6_anew_10 : decode cX6_anew 10 = .ok (.bipush 40, 2) := by decide +kernel
theorem dX6_anew_12 : decode cX6_anew 12 = .ok (.if_icmp .ge 35, 3) := by decide +kernel
theorem dX6_anew_15 : decode cX6_anew 15 = .ok (.aload_n 0, 1) := by decide +kernel
theorem dX6_anew_16 : decode cX6_anew 16 = .ok (.getfield 13, 3) := by decide +kernel
theorem dX6_anew_19 : decode cX6_anew 19 = .ok (.bipush 40, 2) := by decide +kernel
theorem dX6_anew_21 : decode cX6_anew 21 = .ok (.iload_n 1, 1) := by decide +kernel
theorem dX6_anew_22 : decode cX6_anew 22 = .ok (.imul, 1) := by decide +kernel
theorem dX6_anew_23 : decode cX6_anew 23 = .ok (.iload_n 3, 1) := by decide +kernel
theorem dX6_anew_24 : decode cX6_anew 24 = .ok (.iadd, 1) := by decide +kernel
theorem dX6_anew_25 : decode cX6_anew 25 = .ok (.iload_n 3, 1) := by decide +kernel
theorem dX6_anew_26 : decode cX6_anew 26 = .ok (.iload_n 2, 1) := by decide +kernel
theorem dX6_anew_27 : decode cX6_anew 27 = .ok (.if_icmp .ge 12, 3) := by decide +kernel
theorem dX6_anew_30 : decode cX6_anew 30 = .ok (.aload_n 0, 1) := by decide +kernel
theorem dX6_anew_31 : decode cX6_anew 31 = .ok (.getfield 56, 3) := by decide +kernel
theorem dX6_anew_34 : decode cX6_anew 34 = .ok (.iload_n 3, 1) := by decide +kernel
theorem dX6_anew_35 : decode cX6_anew 35 = .ok (.iaload, 1) := by decide +kernel
theorem dX6_anew_36 : decode cX6_anew 36 = .ok (.goto 4, 3) := by decide +kernel
theorem dX6_anew_39 : decode cX6_anew 39 = .ok (.iconst 0, 1) := by decide +kernel
theorem dX6_anew_40 : decode cX6_anew 40 = .ok (.iastore, 1) := by decide +kernel
theorem dX6_anew_41 : decode cX6_anew 41 = .ok (.iinc 3 1, 3) := by decide +kernel
theorem dX6_anew_44 : decode cX6_anew 44 = .ok (.goto (-35), 3) := by decide +kernel
theorem dX6_anew_47 : decode cX6_anew 47 = .ok (.return_, 1) := by decide +kernel
theorem dX6_intime_0 : decode cX6_intime 0 = .ok (.aload_n 0, 1) := by decide +kernel
theorem dX6_intime_1 : decode cX6_intime 1 = .ok (.iload_n 1, 1) := by decide +kernel
theorem dX6_intime_2 : decode cX6_intime 2 = .ok (.invokevirtual 193, 3) := by decide +kernel
theorem dX6_intime_5 : decode cX6_intime 5 = .ok (.ifCond .eq 12, 3) := by decide +kernel
theorem dX6_intime_8 : decode cX6_intime 8 = .ok (.iload_n 2, 1) := by decide +kernel
theorem dX6_intime_9 : decode cX6_intime 9 = .ok (.iconst 0, 1) := by decide +kernel
theorem dX6_intime_10 : decode cX6_intime 10 = .ok (.iconst 5, 1) := by decide +kernel
theorem dX6_intime_11 : decode cX6_intime 11 = .ok (.invokestatic 69, 3) := by decide +kernel
theorem dX6_intime_14 : decode cX6_intime 14 = .ok (.ifCond .ne 5, 3) := by decide +kernel
theorem dX6_intime_17 : decode cX6_intime 17 = .ok (.iconst (-1), 1) := by decide +kernel
theorem dX6_intime_18 : decode cX6_intime 18 = .ok (.ireturn, 1) := by decide +kernel
theorem dX6_intime_19 : decode cX6_intime 19 = .ok (.iload_n 1, 1) := by decide +kernel
theorem dX6_intime_20 : decode cX6_intime 20 = .ok (.aload_n 0, 1) := by decide +kernel
theorem dX6_intime_21 : decode cX6_intime 21 = .ok (.invokevirtual 196, 3) := by decide +kernel
theorem dX6_intime_24 : decode cX6_intime 24 = .ok (.iconst (-1), 1) := by decide +kernel
theorem dX6_intime_25 : decode cX6_intime 25 = .ok (.ixor, 1) := by decide +kernel
theorem dX6_intime_26 : decode cX6_intime 26 = .ok (.iand, 1) := by decide +kernel
theorem dX6_intime_27 : decode cX6_intime 27 = .ok (.ifCond .eq 6, 3) := by decide +kernel
theorem dX6_intime_30 : decode cX6_intime 30 = .ok (.bipush (-4), 2) := by decide +kernel
theorem dX6_intime_32 : decode cX6_intime 32 = .ok (.ireturn, 1) := by decide +kernel
theorem dX6_intime_33 : decode cX6_intime 33 = .ok (.aload_n 0, 1) := by decide +kernel
theorem dX6_intime_34 : decode cX6_intime 34 = .ok (.iload_n 1, 1) := by decide +kernel
theorem dX6_intime_35 : decode cX6_intime 35 = .ok (.invokevirtual 211, 3) := by decide +kernel
theorem dX6_intime_38 : decode cX6_intime 38 = .ok (.istore_n 3, 1) := by decide +kernel
theorem dX6_intime_39 : decode cX6_intime 39 = .ok (.iload_n 3, 1) := by decide +kernel
theorem dX6_intime_40 : decode cX6_intime 40 = .ok (.bipush (-9), 2) := by decide +kernel
theorem dX6_intime_42 : decode cX6_intime 42 = .ok (.if_icmp .eq 12, 3) := by decide +kernel
theorem dX6_intime_45 : decode cX6_intime 45 = .ok (.aload_n 0, 1) := by decide +kernel
theorem dX6_intime_46 : decode cX6_intime 46 = .ok (.iload_n 2, 1) := by decide +kernel
theorem dX6_intime_47 : decode cX6_intime 47 = .ok (.iload_n 1, 1) := by decide +kernel
theorem dX6_intime_48 : decode cX6_intime 48 = .ok (.invokestatic 166, 3) := by decide +kernel
theorem dX6_intime_51 : decode cX6_intime 51 = .ok (.invokevirtual 214, 3) := by decide +kernel
theorem dX6_intime_54 : decode cX6_intime 54 = .ok (.iload_n 3, 1) := by decide +kernel
theorem dX6_intime_55 : decode cX6_intime 55 = .ok (.ireturn, 1) := by decide +kernel
theorem dX6_many_0 : decode cX6_many 0 = .ok (.aload_n 0, 1) := by decide +kernel
theorem dX6_many_1 : decode cX6_many 1 = .ok (.getfield 66, 3) := by decide +kernel
theorem dX6_many_4 : decode cX6_many 4 = .ok (.ifCond .ne 6, 3) := by decide +kernel
theorem dX6_many_7 : decode cX6_many 7 = .ok (.bipush (-4), 2) := by decide +kernel
theorem dX6_many_9 : decode cX6_many 9 = .ok (.ireturn, 1) := by decide +kernel
theorem dX6_many_10 : decode cX6_many 10 = .ok (.aload_n 0, 1) := by decide +kernel
theorem dX6_many_11 : decode cX6_many 11 = .ok (.invokevirtual 196, 3) := by decide +kernel
theorem dX6_many_14 : decode cX6_many 14 = .ok (.istore_n 1, 1) := by decide +kernel
theorem dX6_many_15 : decode cX6_many 15 = .ok (.iconst 0, 1) := by decide +kernel
theorem dX6_many_16 : decode cX6_many 16 = .ok (.istore_n 2, 1) := by decide +kernel
theorem dX6_many_17 : decode cX6_many 17 = .ok (.iconst 1, 1) := by decide +kernel
theorem dX6_many_18 : decode cX6_many 18 = .ok (.istore_n 3, 1) := by decide +kernel
theorem dX6_many_19 : decode cX6_many 19 = .ok (.iload_n 3, 1) := by decide +kernel
theorem dX6_many_20 : decode cX6_many 20 = .ok (.iload_n 1, 1) := by decide +kernel
theorem dX6_many_21 : decode cX6_many 21 = .ok (.if_icmp .gt 44, 3) := by decide +kernel
theorem dX6_many_24 : decode cX6_many 24 = .ok (.iload_n 3, 1) := by decide +kernel
theorem dX6_many_25 : decode cX6_many 25 = .ok (.iload_n 1, 1) := by decide +kernel
theorem dX6_many_26 : decode cX6_many 26 = .ok (.iconst (-1), 1) := by decide +kernel
theorem dX6_many_27 : decode cX6_many 27 = .ok (.ixor, 1) := by decide +kernel
theorem dX6_many_28 : decode cX6_many 28 = .ok (.iand, 1) := by decide +kernel
theorem dX6_many_29 : decode cX6_many 29 = .ok (.ifCond .ne 28, 3) := by decide +kernel
theorem dX6_many_32 : decode cX6_many 32 = .ok (.iload_n 3, 1) := by decide +kernel
theorem dX6_many_33 : decode cX6_many 33 = .ok (.invokestatic 166, 3) := by decide +kernel
theorem dX6_many_36 : decode cX6_many 36 = .ok (.iload_n 2, 1) := by decide +kernel
theorem dX6_many_37 : decode cX6_many 37 = .ok (.invokestatic 166, 3) := by decide +kernel
theorem dX6_many_40 : decode cX6_many 40 = .ok (.if_icmp .le 17, 3) := by decide +kernel
theorem dX6_many_43 : decode cX6_many 43 = .ok (.aload_n 0, 1) := by decide +kernel
theorem dX6_many_44 : decode cX6_many 44 = .ok (.iload_n 3, 1) := by decide +kernel
theorem dX6_many_45 : decode cX6_many 45 = .ok (.invokevirtual 211, 3) := by decide +kernel
theorem dX6_many_48 : decode cX6_many 48 = .ok (.bipush (-9), 2) := by decide +kernel
theorem dX6_many_50 : decode cX6_many 50 = .ok (.if_icmp .eq 7, 3) := by decide +kernel
theorem dX6_many_53 : decode cX6_many 53 = .ok (.iload_n 3, 1) := by decide +kernel
theorem dX6_many_54 : decode cX6_many 54 = .ok (.goto 4, 3) := by decide +kernel
theorem dX6_many_57 : decode cX6_many 57 = .ok (.iload_n 2, 1) := by decide +kernel
theorem dX6_many_58 : decode cX6_many 58 = .ok (.istore_n 2, 1) := by decide +kernel
theorem dX6_many_59 : decode cX6_many 59 = .ok (.iinc 3 1, 3) := by decide +kernel
theorem dX6_many_62 : decode cX6_many 62 = .ok (.goto (-43), 3) := by decide +kernel
theorem dX6_many_65 : decode cX6_many 65 = .ok (.aload_n 0, 1) := by decide +kernel
theorem dX6_many_66 : decode cX6_many 66 = .ok (.iload_n 2, 1) := by decide +kernel
theorem dX6_many_67 : decode cX6_many 67 = .ok (.invokevirtual 81, 3) := by decide +kernel
theorem dX6_many_70 : decode cX6_many 70 = .ok (.pop, 1) := by decide +kernel
theorem dX6_many_71 : decode cX6_many 71 = .ok (.iload_n 2, 1) := by decide +kernel
theorem dX6_many_72 : decode cX6_many 72 = .ok (.invokestatic 166, 3) := by decide +kernel
theorem dX6_many_75 : decode cX6_many 75 = .ok (.ireturn, 1) := by decide +kernel
theorem dX6_dates_0 : decode cX6_dates 0 = .ok (.iload_n 1, 1) := by decide +kernel
theorem dX6_dates_1 : decode cX6_dates 1 = .ok (.iconst 0, 1) := by decide +kernel
theorem dX6_dates_2 : decode cX6_dates 2 = .ok (.iconst 5, 1) := by decide +kernel
theorem dX6_dates_3 : decode cX6_dates 3 = .ok (.invokestatic 69, 3) := by decide +kernel
theorem dX6_dates_6 : decode cX6_dates 6 = .ok (.ifCond .ne 5, 3) := by decide +kernel
theorem dX6_dates_9 : decode cX6_dates 9 = .ok (.iconst (-1), 1) := by decide +kernel
theorem dX6_dates_10 : decode cX6_dates 10 = .ok (.ireturn, 1) := by decide +kernel
theorem dX6_dates_11 : decode cX6_dates 11 = .ok (.aload_n 0, 1) := by decide +kernel
theorem dX6_dates_12 : decode cX6_dates 12 = .ok (.getfield 66, 3) := by decide +kernel
theorem dX6_dates_15 : decode cX6_dates 15 = .ok (.ifCond .ne 6, 3) := by decide +kernel
theorem dX6_dates_18 : decode cX6_dates 18 = .ok (.bipush (-4), 2) := by decide +kernel
theorem dX6_dates_20 : decode cX6_dates 20 = .ok (.ireturn, 1) := by decide +kernel
theorem dX6_dates_21 : decode cX6_dates 21 = .ok (.ldc 217, 2) := by decide +kernel
theorem dX6_dates_23 : decode cX6_dates 23 = .ok (.istore_n 2, 1) := by decide +kernel
theorem dX6_dates_24 : decode cX6_dates 24 = .ok (.iconst 0, 1) := by decide +kernel
theorem dX6_dates_25 : decode cX6_dates 25 = .ok (.istore_n 3, 1) := by decide +kernel
theorem dX6_dates_26 : decode cX6_dates 26 = .ok (.iload_n 3, 1) := by decide +kernel
theorem dX6_dates_27 : decode cX6_dates 27 = .ok (.aload_n 0, 1) := by decide +kernel
theorem dX6_dates_28 : decode cX6_dates 28 = .ok (.getfield 66, 3) := by decide +kernel
theorem dX6_dates_31 : decode cX6_dates 31 = .ok (.invokestatic 202, 3) := by decide +kernel
theorem dX6_dates_34 : decode cX6_dates 34 = .ok (.if_icmp .ge 112, 3) := by decide +kernel
theorem dX6_dates_37 : decode cX6_dates 37 = .ok (.aload_n 0, 1) := by decide +kernel
theorem dX6_dates_38 : decode cX6_dates 38 = .ok (.iload_n 3, 1) := by decide +kernel
theorem dX6_dates_39 : decode cX6_dates 39 = .ok (.aload_n 0, 1) := by decide +kernel
theorem dX6_dates_40 : decode cX6_dates 40 = .ok (.getfield 66, 3) := by decide +kernel
theorem dX6_dates_43 : decode cX6_dates 43 = .ok (.iconst 1, 1) := by decide +kernel
theorem dX6_dates_44 : decode cX6_dates 44 = .ok (.aload_n 0, 1) := by decide +kernel
theorem dX6_dates_45 : decode cX6_dates 45 = .ok (.getfield 66, 3) := by decide +kernel
theorem dX6_dates_48 : decode cX6_dates 48 = .ok (.ishl, 1) := by decide +kernel
theorem dX6_dates_49 : decode cX6_dates 49 = .ok (.iconst 1, 1) := by decide +kernel
theorem dX6_dates_50 : decode cX6_dates 50 = .ok (.isub, 1) := by decide +kernel
theorem dX6_dates_51 : decode cX6_dates 51 = .ok (.invokevirtual 205, 3) := by decide +kernel
theorem dX6_dates_54 : decode cX6_dates 54 = .ok (.ifCond .eq 86, 3) := by decide +kernel
theorem dX6_dates_57 : decode cX6_dates 57 = .ok (.iconst 0, 1) := by decide +kernel
theorem dX6_dates_58 : decode cX6_dates 58 = .ok (.istore 4, 2) := by decide +kernel
theorem dX6_dates_60 : decode cX6_dates 60 = .ok (.iconst 1, 1) := by decide +kernel
theorem dX6_dates_61 : decode cX6_dates 61 = .ok (.istore 5, 2) := by decide +kernel
theorem dX6_dates_63 : decode cX6_dates 63 = .ok (.iload 5, 2) := by decide +kernel
theorem dX6_dates_65 : decode cX6_dates 65 = .ok (.aload_n 0, 1) := by decide +kernel
theorem dX6_dates_66 : decode cX6_dates 66 = .ok (.getfield 66, 3) := by decide +kernel
theorem dX6_dates_69 : decode cX6_dates 69 = .ok (.if_icmp .ge 47, 3) := by decide +kernel
theorem dX6_dates_72 : decode cX6_dates 72 = .ok (.iload 4, 2) := by decide +kernel
theorem dX6_dates_74 : decode cX6_dates 74 = .ok (.aload_n 0, 1) := by decide +kernel
theorem dX6_dates_75 : decode cX6_dates 75 = .ok (.getfield 38, 3) := by decide +kernel
theorem dX6_dates_78 : decode cX6_dates 78 = .ok (.iconst 5, 1) := by decide +kernel
theorem dX6_dates_79 : decode cX6_dates 79 = .ok (.aload_n 0, 1) := by decide +kernel
theorem dX6_dates_80 : decode cX6_dates 80 = .ok (.getfield 53, 3) := by decide +kernel
theorem dX6_dates_83 : decode cX6_dates 83 = .ok (.iload 5, 2) := by decide +kernel
theorem dX6_dates_85 : decode cX6_dates 85 = .ok (.iaload, 1) := by decide +kernel
theorem dX6_dates_86 : decode cX6_dates 86 = .ok (.iadd, 1) := by decide +kernel
theorem dX6_dates_87 : decode cX6_dates 87 = .ok (.iaload, 1) := by decide +kernel
theorem dX6_dates_88 : decode cX6_dates 88 = .ok (.aload_n 0, 1) := by decide +kernel
theorem dX6_dates_89 : decode cX6_dates 89 = .ok (.getfield 38, 3) := by decide +kernel
theorem dX6_dates_92 : decode cX6_dates 92 = .ok (.iconst 5, 1) := by decide +kernel
theorem dX6_dates_93 : decode cX6_dates 93 = .ok (.aload_n 0, 1) := by decide +kernel
theorem dX6_dates_94 : decode cX6_dates 94 = .ok (.getfield 53, 3) := by decide +kernel
theorem dX6_dates_97 : decode cX6_dates 97 = .ok (.iload 5, 2) := by decide +kernel
theorem dX6_dates_99 : decode cX6_dates 99 = .ok (.iconst 1, 1) := by decide +kernel
theorem dX6_dates_100 : decode cX6_dates 100 = .ok (.isub, 1) := by decide +kernel
theorem dX6_dates_101 : decode cX6_dates 101 = .ok (.iaload, 1) := by decide +kernel
theorem dX6_dates_102 : decode cX6_dates 102 = .ok (.iadd, 1) := by decide +kernel
theorem dX6_dates_103 : decode cX6_dates 103 = .ok (.iaload, 1) := by decide +kernel
theorem dX6_dates_104 : decode cX6_dates 104 = .ok (.invokestatic 176, 3) := by decide +kernel
theorem dX6_dates_107 : decode cX6_dates 107 = .ok (.iadd, 1) := by decide +kernel
theorem dX6_dates_108 : decode cX6_dates 108 = .ok (.istore 4, 2) := by decide +kernel
theorem dX6_dates_110 : decode cX6_dates 110 = .ok (.iinc 5 1, 3) := by decide +kernel
theorem dX6_dates_113 : decode cX6_dates 113 = .ok (.goto (-50), 3) := by decide +kernel
theorem dX6_dates_116 : decode cX6_dates 116 = .ok (.iload 4, 2) := by decide +kernel
theorem dX6_dates_118 : decode cX6_dates 118 = .ok (.iload_n 2, 1) := by decide +kernel
theorem dX6_dates_119 : decode cX6_dates 119 = .ok (.if_icmp .ge 21, 3) := by decide +kernel
theorem dX6_dates_122 : decode cX6_dates 122 = .ok (.iload 4, 2) := by decide +kernel
theorem dX6_dates_124 : decode cX6_dates 124 = .ok (.istore_n 2, 1) := by decide +kernel
theorem dX6_dates_125 : decode cX6_dates 125 = .ok (.aload_n 0, 1) := by decide +kernel
theorem dX6_dates_126 : decode cX6_dates 126 = .ok (.getfield 53, 3) := by decide +kernel
theorem dX6_dates_129 : decode cX6_dates 129 = .ok (.iconst 0, 1) := by decide +kernel
theorem dX6_dates_130 : decode cX6_dates 130 = .ok (.aload_n 0, 1) := by decide +kernel
theorem dX6_dates_131 : decode cX6_dates 131 = .ok (.getfield 56, 3) := by decide +kernel
theorem dX6_dates_134 : decode cX6_dates 134 = .ok (.iconst 0, 1) := by decide +kernel
theorem dX6_dates_135 : decode cX6_dates 135 = .ok (.bipush 6, 2) := by decide +kernel
theorem dX6_dates_137 : decode cX6_dates 137 = .ok (.invokestatic 172, 3) := by decide +kernel
theorem dX6_dates_140 : decode cX6_dates 140 = .ok (.iinc 3 1, 3) := by decide +kernel
theorem dX6_dates_143 : decode cX6_dates 143 = .ok (.goto (-117), 3) := by decide +kernel
theorem dX6_dates_146 : decode cX6_dates 146 = .ok (.aload_n 0, 1) := by decide +kernel
theorem dX6_dates_147 : decode cX6_dates 147 = .ok (.iload_n 1, 1) := by decide +kernel
theorem dX6_dates_148 : decode cX6_dates 148 = .ok (.aload_n 0, 1) := by decide +kernel
theorem dX6_dates_149 : decode cX6_dates 149 = .ok (.getfield 66, 3) := by decide +kernel
theorem dX6_dates_152 : decode cX6_dates 152 = .ok (.invokevirtual 214, 3) := by decide +kernel
theorem dX6_dates_155 : decode cX6_dates 155 = .ok (.iload_n 2, 1) := by decide +kernel
theorem dX6_dates_156 : decode cX6_dates 156 = .ok (.ireturn, 1) := by decide +kernel
theorem dX6_wrongPairs_0 : decode cX6_wrongPairs 0 = .ok (.aload_n 0, 1) := by decide +kernel
theorem dX6_wrongPairs_1 : decode cX6_wrongPairs 1 = .ok (.getfield 7, 3) := by decide +kernel
theorem dX6_wrongPairs_4 : decode cX6_wrongPairs 4 = .ok (.iload_n 1, 1) := by decide +kernel
theorem dX6_wrongPairs_5 : decode cX6_wrongPairs 5 = .ok (.iaload, 1) := by decide +kernel
theorem dX6_wrongPairs_6 : decode cX6_wrongPairs 6 = .ok (.ifCond .ge 9, 3) := by decide +kernel
theorem dX6_wrongPairs_9 : decode cX6_wrongPairs 9 = .ok (.aload_n 0, 1) := by decide +kernel
theorem dX6_wrongPairs_10 : decode cX6_wrongPairs 10 = .ok (.iconst 1, 1) := by decide +kernel
theorem dX6_wrongPairs_11 : decode cX6_wrongPairs 11 = .ok (.invokevirtual 73, 3) := by decide +kernel
theorem dX6_wrongPairs_14 : decode cX6_wrongPairs 14 = .ok (.ireturn, 1) := by decide +kernel
theorem dX6_wrongPairs_15 : decode cX6_wrongPairs 15 = .ok (.aload_n 0, 1) := by decide +kernel
theorem dX6_wrongPairs_16 : decode cX6_wrongPairs 16 = .ok (.getfield 7, 3) := by decide +kernel
theorem dX6_wrongPairs_19 : decode cX6_wrongPairs 19 = .ok (.iload_n 1, 1) := by decide +kernel
theorem dX6_wrongPairs_20 : decode cX6_wrongPairs 20 = .ok (.iaload, 1) := by decide +kernel
theorem dX6_wrongPairs_21 : decode cX6_wrongPairs 21 = .ok (.iconst 2, 1) := by decide +kernel
theorem dX6_wrongPairs_22 : decode cX6_wrongPairs 22 = .ok (.irem, 1) := by decide +kernel
theorem dX6_wrongPairs_23 : decode cX6_wrongPairs 23 = .ok (.iconst 1, 1) := by decide +kernel
theorem dX6_wrongPairs_24 : decode cX6_wrongPairs 24 = .ok (.if_icmp .eq 14, 3) := by decide +kernel
theorem dX6_wrongPairs_27 : decode cX6_wrongPairs 27 = .ok (.aload_n 0, 1) := by decide +kernel
theorem dX6_wrongPairs_28 : decode cX6_wrongPairs 28 = .ok (.getfield 7, 3) := by decide +kernel
theorem dX6_wrongPairs_31 : decode cX6_wrongPairs 31 = .ok (.iload_n 1, 1) := by decide +kernel
theorem dX6_wrongPairs_32 : decode cX6_wrongPairs 32 = .ok (.iaload, 1) := by decide +kernel
theorem dX6_wrongPairs_33 : decode cX6_wrongPairs 33 = .ok (.bipush 16, 2) := by decide +kernel
theorem dX6_wrongPairs_35 : decode cX6_wrongPairs 35 = .ok (.if_icmp .le 9, 3) := by decide +kernel
theorem dX6_wrongPairs_38 : decode cX6_wrongPairs 38 = .ok (.aload_n 0, 1) := by decide +kernel
theorem dX6_wrongPairs_39 : decode cX6_wrongPairs 39 = .ok (.iconst 5, 1) := by decide +kernel
theorem dX6_wrongPairs_40 : decode cX6_wrongPairs 40 = .ok (.invokevirtual 73, 3) := by decide +kernel
theorem dX6_wrongPairs_43 : decode cX6_wrongPairs 43 = .ok (.ireturn, 1) := by decide +kernel
theorem dX6_wrongPairs_44 : decode cX6_wrongPairs 44 = .ok (.iconst 1, 1) := by decide +kernel
theorem dX6_wrongPairs_45 : decode cX6_wrongPairs 45 = .ok (.istore_n 2, 1) := by decide +kernel
theorem dX6_wrongPairs_46 : decode cX6_wrongPairs 46 = .ok (.iconst 0, 1) := by decide +kernel
theorem dX6_wrongPairs_47 : decode cX6_wrongPairs 47 = .ok (.istore_n 3, 1) := by decide +kernel
theorem dX6_wrongPairs_48 : decode cX6_wrongPairs 48 = .ok (.iload_n 3, 1) := by decide +kernel
theorem dX6_wrongPairs_49 : decode cX6_wrongPairs 49 = .ok (.aload_n 0, 1) := by decide +kernel
theorem dX6_wrongPairs_50 : decode cX6_wrongPairs 50 = .ok (.getfield 7, 3) := by decide +kernel
theorem dX6_wrongPairs_53 : decode cX6_wrongPairs 53 = .ok (.iload_n 1, 1) := by decide +kernel
theorem dX6_wrongPairs_54 : decode cX6_wrongPairs 54 = .ok (.iaload, 1) := by decide +kernel
theorem dX6_wrongPairs_55 : decode cX6_wrongPairs 55 = .ok (.if_icmp .ge 50, 3) := by decide +kernel
theorem dX6_wrongPairs_58 : decode cX6_wrongPairs 58 = .ok (.iload_n 2, 1) := by decide +kernel
theorem dX6_wrongPairs_59 : decode cX6_wrongPairs 59 = .ok (.ifCond .eq 38, 3) := by decide +kernel
theorem dX6_wrongPairs_62 : decode cX6_wrongPairs 62 = .ok (.aload_n 0, 1) := by decide +kernel
theorem dX6_wrongPairs_63 : decode cX6_wrongPairs 63 = .ok (.getfield 13, 3) := by decide +kernel
theorem dX6_wrongPairs_66 : decode cX6_wrongPairs 66 = .ok (.bipush 40, 2) := by decide +kernel
theorem dX6_wrongPairs_68 : decode cX6_wrongPairs 68 = .ok (.iload_n 1, 1) := by decide +kernel
theorem dX6_wrongPairs_69 : decode cX6_wrongPairs 69 = .ok (.imul, 1) := by decide +kernel
theorem dX6_wrongPairs_70 : decode cX6_wrongPairs 70 = .ok (.iload_n 3, 1) := by decide +kernel
theorem dX6_wrongPairs_71 : decode cX6_wrongPairs 71 = .ok (.iadd, 1) := by decide +kernel
theorem dX6_wrongPairs_72 : decode cX6_wrongPairs 72 = .ok (.iaload, 1) := by decide +kernel
theorem dX6_wrongPairs_73 : decode cX6_wrongPairs 73 = .ok (.iconst 0, 1) := by decide +kernel
theorem dX6_wrongPairs_74 : decode cX6_wrongPairs 74 = .ok (.iload_n 3, 1) := by decide +kernel
theorem dX6_wrongPairs_75 : decode cX6_wrongPairs 75 = .ok (.iconst 2, 1) := by decide +kernel
theorem dX6_wrongPairs_76 : decode cX6_wrongPairs 76 = .ok (.irem, 1) := by decide +kernel
theorem dX6_wrongPairs_77 : decode cX6_wrongPairs 77 = .ok (.ifCond .ne 8, 3) := by decide +kernel
theorem dX6_wrongPairs_80 : decode cX6_wrongPairs 80 = .ok (.bipush 99, 2) := by decide +kernel
theorem dX6_wrongPairs_82 : decode cX6_wrongPairs 82 = .ok (.goto 5, 3) := by decide +kernel
theorem dX6_wrongPairs_85 : decode cX6_wrongPairs 85 = .ok (.bipush 9, 2) := by decide +kernel
theorem dX6_wrongPairs_87 : decode cX6_wrongPairs 87 = .ok (.invokestatic 69, 3) := by decide +kernel
theorem dX6_wrongPairs_90 : decode cX6_wrongPairs 90 = .ok (.ifCond .eq 7, 3) := by decide +kernel
theorem dX6_wrongPairs_93 : decode cX6_wrongPairs 93 = .ok (.iconst 1, 1) := by decide +kernel
theorem dX6_wrongPairs_94 : decode cX6_wrongPairs 94 = .ok (.goto 4, 3) := by decide +kernel
theorem dX6_wrongPairs_97 : decode cX6_wrongPairs 97 = .ok (.iconst 0, 1) := by decide +kernel
theorem dX6_wrongPairs_98 : decode cX6_wrongPairs 98 = .ok (.istore_n 2, 1) := by decide +kernel
theorem dX6_wrongPairs_99 : decode cX6_wrongPairs 99 = .ok (.iinc 3 1, 3) := by decide +kernel
theorem dX6_wrongPairs_102 : decode cX6_wrongPairs 102 = .ok (.goto (-54), 3) := by decide +kernel
theorem dX6_wrongPairs_105 : decode cX6_wrongPairs 105 = .ok (.iload_n 2, 1) := by decide +kernel
theorem dX6_wrongPairs_106 : decode cX6_wrongPairs 106 = .ok (.ifCond .eq 7, 3) := by decide +kernel
theorem dX6_wrongPairs_109 : decode cX6_wrongPairs 109 = .ok (.iconst 0, 1) := by decide +kernel
theorem dX6_wrongPairs_110 : decode cX6_wrongPairs 110 = .ok (.goto 8, 3) := by decide +kernel
theorem dX6_wrongPairs_113 : decode cX6_wrongPairs 113 = .ok (.aload_n 0, 1) := by decide +kernel
theorem dX6_wrongPairs_114 : decode cX6_wrongPairs 114 = .ok (.iconst 3, 1) := by decide +kernel
theorem dX6_wrongPairs_115 : decode cX6_wrongPairs 115 = .ok (.invokevirtual 73, 3) := by decide +kernel
theorem dX6_wrongPairs_118 : decode cX6_wrongPairs 118 = .ok (.ireturn, 1) := by decide +kernel
theorem dX6_tookBy_0 : decode cX6_tookBy 0 = .ok (.aload_n 0, 1) := by decide +kernel
theorem dX6_tookBy_1 : decode cX6_tookBy 1 = .ok (.iload_n 1, 1) := by decide +kernel
theorem dX6_tookBy_2 : decode cX6_tookBy 2 = .ok (.iload_n 2, 1) := by decide +kernel
theorem dX6_tookBy_3 : decode cX6_tookBy 3 = .ok (.invokevirtual 137, 3) := by decide +kernel
theorem dX6_tookBy_6 : decode cX6_tookBy 6 = .ok (.istore_n 3, 1) := by decide +kernel
theorem dX6_tookBy_7 : decode cX6_tookBy 7 = .ok (.iload_n 3, 1) := by decide +kernel
theorem dX6_tookBy_8 : decode cX6_tookBy 8 = .ok (.bipush (-9), 2) := by decide +kernel
theorem dX6_tookBy_10 : decode cX6_tookBy 10 = .ok (.if_icmp .ne 7, 3) := by decide +kernel
theorem dX6_tookBy_13 : decode cX6_tookBy 13 = .ok (.iconst 0, 1) := by decide +kernel
theorem dX6_tookBy_14 : decode cX6_tookBy 14 = .ok (.goto 4, 3) := by decide +kernel
theorem dX6_tookBy_17 : decode cX6_tookBy 17 = .ok (.iload_n 3, 1) := by decide +kernel
theorem dX6_tookBy_18 : decode cX6_tookBy 18 = .ok (.ireturn, 1) := by decide +kernel
theorem dX6_tookSo_0 : decode cX6_tookSo 0 = .ok (.iconst 1, 1) := by decide +kernel
theorem dX6_tookSo_1 : decode cX6_tookSo 1 = .ok (.istore_n 3, 1) := by decide +kernel
theorem dX6_tookSo_2 : decode cX6_tookSo 2 = .ok (.iconst 0, 1) := by decide +kernel
theorem dX6_tookSo_3 : decode cX6_tookSo 3 = .ok (.istore 4, 2) := by decide +kernel
theorem dX6_tookSo_5 : decode cX6_tookSo 5 = .ok (.iload 4, 2) := by decide +kernel
theorem dX6_tookSo_7 : decode cX6_tookSo 7 = .ok (.aload_n 0, 1) := by decide +kernel
theorem dX6_tookSo_8 : decode cX6_tookSo 8 = .ok (.getfield 7, 3) := by decide +kernel
theorem dX6_tookSo_11 : decode cX6_tookSo 11 = .ok (.iload_n 1, 1) := by decide +kernel
theorem dX6_tookSo_12 : decode cX6_tookSo 12 = .ok (.iaload, 1) := by decide +kernel
theorem dX6_tookSo_13 : decode cX6_tookSo 13 = .ok (.if_icmp .ge 53, 3) := by decide +kernel
theorem dX6_tookSo_16 : decode cX6_tookSo 16 = .ok (.iload_n 3, 1) := by decide +kernel
theorem dX6_tookSo_17 : decode cX6_tookSo 17 = .ok (.ifCond .eq 41, 3) := by decide +kernel
theorem dX6_tookSo_20 : decode cX6_tookSo 20 = .ok (.aload_n 0, 1) := by decide +kernel
theorem dX6_tookSo_21 : decode cX6_tookSo 21 = .ok (.iload_n 2, 1) := by decide +kernel
theorem dX6_tookSo_22 : decode cX6_tookSo 22 = .ok (.aload_n 0, 1) := by decide +kernel
theorem dX6_tookSo_23 : decode cX6_tookSo 23 = .ok (.getfield 13, 3) := by decide +kernel
theorem dX6_tookSo_26 : decode cX6_tookSo 26 = .ok (.bipush 40, 2) := by decide +kernel
theorem dX6_tookSo_28 : decode cX6_tookSo 28 = .ok (.iload_n 1, 1) := by decide +kernel
theorem dX6_tookSo_29 : decode cX6_tookSo 29 = .ok (.imul, 1) := by decide +kernel
theorem dX6_tookSo_30 : decode cX6_tookSo 30 = .ok (.iload 4, 2) := by decide +kernel
theorem dX6_tookSo_32 : decode cX6_tookSo 32 = .ok (.iadd, 1) := by decide +kernel
theorem dX6_tookSo_33 : decode cX6_tookSo 33 = .ok (.iaload, 1) := by decide +kernel
theorem dX6_tookSo_34 : decode cX6_tookSo 34 = .ok (.invokevirtual 218, 3) := by decide +kernel
theorem dX6_tookSo_37 : decode cX6_tookSo 37 = .ok (.aload_n 0, 1) := by decide +kernel
theorem dX6_tookSo_38 : decode cX6_tookSo 38 = .ok (.getfield 13, 3) := by decide +kernel
theorem dX6_tookSo_41 : decode cX6_tookSo 41 = .ok (.bipush 40, 2) := by decide +kernel
theorem dX6_tookSo_43 : decode cX6_tookSo 43 = .ok (.iload_n 1, 1) := by decide +kernel
theorem dX6_tookSo_44 : decode cX6_tookSo 44 = .ok (.imul, 1) := by decide +kernel
theorem dX6_tookSo_45 : decode cX6_tookSo 45 = .ok (.iload 4, 2) := by decide +kernel
theorem dX6_tookSo_47 : decode cX6_tookSo 47 = .ok (.iadd, 1) := by decide +kernel
theorem dX6_tookSo_48 : decode cX6_tookSo 48 = .ok (.iconst 1, 1) := by decide +kernel
theorem dX6_tookSo_49 : decode cX6_tookSo 49 = .ok (.iadd, 1) := by decide +kernel
theorem dX6_tookSo_50 : decode cX6_tookSo 50 = .ok (.iaload, 1) := by decide +kernel
theorem dX6_tookSo_51 : decode cX6_tookSo 51 = .ok (.if_icmp .ne 7, 3) := by decide +kernel
theorem dX6_tookSo_54 : decode cX6_tookSo 54 = .ok (.iconst 1, 1) := by decide +kernel
theorem dX6_tookSo_55 : decode cX6_tookSo 55 = .ok (.goto 4, 3) := by decide +kernel
theorem dX6_tookSo_58 : decode cX6_tookSo 58 = .ok (.iconst 0, 1) := by decide +kernel
theorem dX6_tookSo_59 : decode cX6_tookSo 59 = .ok (.istore_n 3, 1) := by decide +kernel
theorem dX6_tookSo_60 : decode cX6_tookSo 60 = .ok (.iinc 4 2, 3) := by decide +kernel
theorem dX6_tookSo_63 : decode cX6_tookSo 63 = .ok (.goto (-58), 3) := by decide +kernel
theorem dX6_tookSo_66 : decode cX6_tookSo 66 = .ok (.iload_n 3, 1) := by decide +kernel
theorem dX6_tookSo_67 : decode cX6_tookSo 67 = .ok (.ireturn, 1) := by decide +kernel
theorem dX6_kindsBy_0 : decode cX6_kindsBy 0 = .ok (.iconst 0, 1) := by decide +kernel
theorem dX6_kindsBy_1 : decode cX6_kindsBy 1 = .ok (.istore_n 2, 1) := by decide +kernel
theorem dX6_kindsBy_2 : decode cX6_kindsBy 2 = .ok (.iconst 0, 1) := by decide +kernel
theorem dX6_kindsBy_3 : decode cX6_kindsBy 3 = .ok (.istore_n 3, 1) := by decide +kernel
theorem dX6_kindsBy_4 : decode cX6_kindsBy 4 = .ok (.iload_n 3, 1) := by decide +kernel
theorem dX6_kindsBy_5 : decode cX6_kindsBy 5 = .ok (.bipush 6, 2) := by decide +kernel
theorem dX6_kindsBy_7 : decode cX6_kindsBy 7 = .ok (.if_icmp .ge 28, 3) := by decide +kernel
theorem dX6_kindsBy_10 : decode cX6_kindsBy 10 = .ok (.iload_n 2, 1) := by decide +kernel
theorem dX6_kindsBy_11 : decode cX6_kindsBy 11 = .ok (.aload_n 0, 1) := by decide +kernel
theorem dX6_kindsBy_12 : decode cX6_kindsBy 12 = .ok (.iload_n 1, 1) := by decide +kernel
theorem dX6_kindsBy_13 : decode cX6_kindsBy 13 = .ok (.iload_n 3, 1) := by decide +kernel
theorem dX6_kindsBy_14 : decode cX6_kindsBy 14 = .ok (.invokevirtual 221, 3) := by decide +kernel
theorem dX6_kindsBy_17 : decode cX6_kindsBy 17 = .ok (.ifCond .eq 9, 3) := by decide +kernel
theorem dX6_kindsBy_20 : decode cX6_kindsBy 20 = .ok (.iconst 1, 1) := by decide +kernel
theorem dX6_kindsBy_21 : decode cX6_kindsBy 21 = .ok (.iload_n 3, 1) := by decide +kernel
theorem dX6_kindsBy_22 : decode cX6_kindsBy 22 = .ok (.ishl, 1) := by decide +kernel
theorem dX6_kindsBy_23 : decode cX6_kindsBy 23 = .ok (.goto 4, 3) := by decide +kernel
theorem dX6_kindsBy_26 : decode cX6_kindsBy 26 = .ok (.iconst 0, 1) := by decide +kernel
theorem dX6_kindsBy_27 : decode cX6_kindsBy 27 = .ok (.ior, 1) := by decide +kernel
theorem dX6_kindsBy_28 : decode cX6_kindsBy 28 = .ok (.istore_n 2, 1) := by decide +kernel
theorem dX6_kindsBy_29 : decode cX6_kindsBy 29 = .ok (.iinc 3 1, 3) := by decide +kernel
theorem dX6_kindsBy_32 : decode cX6_kindsBy 32 = .ok (.goto (-28), 3) := by decide +kernel
theorem dX6_kindsBy_35 : decode cX6_kindsBy 35 = .ok (.iload_n 2, 1) := by decide +kernel
theorem dX6_kindsBy_36 : decode cX6_kindsBy 36 = .ok (.ireturn, 1) := by decide +kernel
theorem dX6_whose_0 : decode cX6_whose 0 = .ok (.iload_n 1, 1) := by decide +kernel
theorem dX6_whose_1 : decode cX6_whose 1 = .ok (.iconst 0, 1) := by decide +kernel
theorem dX6_whose_2 : decode cX6_whose 2 = .ok (.iconst 5, 1) := by decide +kernel
theorem dX6_whose_3 : decode cX6_whose 3 = .ok (.invokestatic 69, 3) := by decide +kernel
theorem dX6_whose_6 : decode cX6_whose 6 = .ok (.ifCond .ne 5, 3) := by decide +kernel
theorem dX6_whose_9 : decode cX6_whose 9 = .ok (.iconst (-1), 1) := by decide +kernel
theorem dX6_whose_10 : decode cX6_whose 10 = .ok (.ireturn, 1) := by decide +kernel
theorem dX6_whose_11 : decode cX6_whose 11 = .ok (.aload_n 0, 1) := by decide +kernel
theorem dX6_whose_12 : decode cX6_whose 12 = .ok (.iload_n 1, 1) := by decide +kernel
theorem dX6_whose_13 : decode cX6_whose 13 = .ok (.invokevirtual 224, 3) := by decide +kernel
theorem dX6_whose_16 : decode cX6_whose 16 = .ok (.ifCond .eq 6, 3) := by decide +kernel
theorem dX6_whose_19 : decode cX6_whose 19 = .ok (.bipush (-3), 2) := by decide +kernel
theorem dX6_whose_21 : decode cX6_whose 21 = .ok (.ireturn, 1) := by decide +kernel
theorem dX6_whose_22 : decode cX6_whose 22 = .ok (.iconst 0, 1) := by decide +kernel
theorem dX6_whose_23 : decode cX6_whose 23 = .ok (.istore_n 2, 1) := by decide +kernel
theorem dX6_whose_24 : decode cX6_whose 24 = .ok (.iconst 0, 1) := by decide +kernel
theorem dX6_whose_25 : decode cX6_whose 25 = .ok (.istore_n 3, 1) := by decide +kernel
theorem dX6_whose_26 : decode cX6_whose 26 = .ok (.iload_n 3, 1) := by decide +kernel
theorem dX6_whose_27 : decode cX6_whose 27 = .ok (.aload_n 0, 1) := by decide +kernel
theorem dX6_whose_28 : decode cX6_whose 28 = .ok (.getfield 66, 3) := by decide +kernel
theorem dX6_whose_31 : decode cX6_whose 31 = .ok (.if_icmp .ge 33, 3) := by decide +kernel
theorem dX6_whose_34 : decode cX6_whose 34 = .ok (.iload_n 2, 1) := by decide +kernel
theorem dX6_whose_35 : decode cX6_whose 35 = .ok (.aload_n 0, 1) := by decide +kernel
theorem dX6_whose_36 : decode cX6_whose 36 = .ok (.iload_n 1, 1) := by decide +kernel
theorem dX6_whose_37 : decode cX6_whose 37 = .ok (.aload_n 0, 1) := by decide +kernel
theorem dX6_whose_38 : decode cX6_whose 38 = .ok (.getfield 32, 3) := by decide +kernel
theorem dX6_whose_41 : decode cX6_whose 41 = .ok (.iload_n 3, 1) := by decide +kernel
theorem dX6_whose_42 : decode cX6_whose 42 = .ok (.iaload, 1) := by decide +kernel
theorem dX6_whose_43 : decode cX6_whose 43 = .ok (.invokevirtual 221, 3) := by decide +kernel
theorem dX6_whose_46 : decode cX6_whose 46 = .ok (.ifCond .eq 9, 3) := by decide +kernel
theorem dX6_whose_49 : decode cX6_whose 49 = .ok (.iconst 1, 1) := by decide +kernel
theorem dX6_whose_50 : decode cX6_whose 50 = .ok (.iload_n 3, 1) := by decide +kernel
theorem dX6_whose_51 : decode cX6_whose 51 = .ok (.ishl, 1) := by decide +kernel
theorem dX6_whose_52 : decode cX6_whose 52 = .ok (.goto 4, 3) := by decide +kernel
theorem dX6_whose_55 : decode cX6_whose 55 = .ok (.iconst 0, 1) := by decide +kernel
theorem dX6_whose_56 : decode cX6_whose 56 = .ok (.ior, 1) := by decide +kernel
theorem dX6_whose_57 : decode cX6_whose 57 = .ok (.istore_n 2, 1) := by decide +kernel
theorem dX6_whose_58 : decode cX6_whose 58 = .ok (.iinc 3 1, 3) := by decide +kernel
theorem dX6_whose_61 : decode cX6_whose 61 = .ok (.goto (-35), 3) := by decide +kernel
theorem dX6_whose_64 : decode cX6_whose 64 = .ok (.iload_n 2, 1) := by decide +kernel
theorem dX6_whose_65 : decode cX6_whose 65 = .ok (.ireturn, 1) := by decide +kernel
theorem dX6_kinds_0 : decode cX6_kinds 0 = .ok (.iload_n 1, 1) := by decide +kernel
theorem dX6_kinds_1 : decode cX6_kinds 1 = .ok (.iconst 0, 1) := by decide +kernel
theorem dX6_kinds_2 : decode cX6_kinds 2 = .ok (.iconst 5, 1) := by decide +kernel
theorem dX6_kinds_3 : decode cX6_kinds 3 = .ok (.invokestatic 69, 3) := by decide +kernel
theorem dX6_kinds_6 : decode cX6_kinds 6 = .ok (.ifCond .ne 5, 3) := by decide +kernel
theorem dX6_kinds_9 : decode cX6_kinds 9 = .ok (.iconst (-1), 1) := by decide +kernel
theorem dX6_kinds_10 : decode cX6_kinds 10 = .ok (.ireturn, 1) := by decide +kernel
theorem dX6_kinds_11 : decode cX6_kinds 11 = .ok (.aload_n 0, 1) := by decide +kernel
theorem dX6_kinds_12 : decode cX6_kinds 12 = .ok (.iload_n 1, 1) := by decide +kernel
theorem dX6_kinds_13 : decode cX6_kinds 13 = .ok (.invokevirtual 224, 3) := by decide +kernel
theorem dX6_kinds_16 : decode cX6_kinds 16 = .ok (.ifCond .eq 8, 3) := by decide +kernel
theorem dX6_kinds_19 : decode cX6_kinds 19 = .ok (.bipush (-3), 2) := by decide +kernel
theorem dX6_kinds_21 : decode cX6_kinds 21 = .ok (.goto 8, 3) := by decide +kernel
theorem dX6_kinds_24 : decode cX6_kinds 24 = .ok (.aload_n 0, 1) := by decide +kernel
theorem dX6_kinds_25 : decode cX6_kinds 25 = .ok (.iload_n 1, 1) := by decide +kernel
theorem dX6_kinds_26 : decode cX6_kinds 26 = .ok (.invokevirtual 227, 3) := by decide +kernel
theorem dX6_kinds_29 : decode cX6_kinds 29 = .ok (.ireturn, 1) := by decide +kernel
theorem dX6_test_0 : decode cX6_test 0 = .ok (.iload_n 1, 1) := by decide +kernel
theorem dX6_test_1 : decode cX6_test 1 = .ok (.iconst 0, 1) := by decide +kernel
theorem dX6_test_2 : decode cX6_test 2 = .ok (.iconst 5, 1) := by decide +kernel
theorem dX6_test_3 : decode cX6_test 3 = .ok (.invokestatic 69, 3) := by decide +kernel
theorem dX6_test_6 : decode cX6_test 6 = .ok (.ifCond .ne 5, 3) := by decide +kernel
theorem dX6_test_9 : decode cX6_test 9 = .ok (.iconst (-1), 1) := by decide +kernel
theorem dX6_test_10 : decode cX6_test 10 = .ok (.ireturn, 1) := by decide +kernel
theorem dX6_test_11 : decode cX6_test 11 = .ok (.aload_n 0, 1) := by decide +kernel
theorem dX6_test_12 : decode cX6_test 12 = .ok (.iload_n 1, 1) := by decide +kernel
theorem dX6_test_13 : decode cX6_test 13 = .ok (.invokevirtual 224, 3) := by decide +kernel
theorem dX6_test_16 : decode cX6_test 16 = .ok (.ifCond .eq 6, 3) := by decide +kernel
theorem dX6_test_19 : decode cX6_test 19 = .ok (.bipush (-3), 2) := by decide +kernel
theorem dX6_test_21 : decode cX6_test 21 = .ok (.ireturn, 1) := by decide +kernel
theorem dX6_test_22 : decode cX6_test 22 = .ok (.aload_n 0, 1) := by decide +kernel
theorem dX6_test_23 : decode cX6_test 23 = .ok (.iload_n 1, 1) := by decide +kernel
theorem dX6_test_24 : decode cX6_test 24 = .ok (.invokevirtual 227, 3) := by decide +kernel
theorem dX6_test_27 : decode cX6_test 27 = .ok (.istore_n 2, 1) := by decide +kernel
theorem dX6_test_28 : decode cX6_test 28 = .ok (.iload_n 2, 1) := by decide +kernel
theorem dX6_test_29 : decode cX6_test 29 = .ok (.ifCond .ne 6, 3) := by decide +kernel
theorem dX6_test_32 : decode cX6_test 32 = .ok (.bipush (-9), 2) := by decide +kernel
theorem dX6_test_34 : decode cX6_test 34 = .ok (.ireturn, 1) := by decide +kernel
theorem dX6_test_35 : decode cX6_test 35 = .ok (.bipush (-9), 2) := by decide +kernel
theorem dX6_test_37 : decode cX6_test 37 = .ok (.istore_n 3, 1) := by decide +kernel
theorem dX6_test_38 : decode cX6_test 38 = .ok (.iconst 0, 1) := by decide +kernel
theorem dX6_test_39 : decode cX6_test 39 = .ok (.istore 4, 2) := by decide +kernel
theorem dX6_test_41 : decode cX6_test 41 = .ok (.iconst 0, 1) := by decide +kernel
theorem dX6_test_42 : decode cX6_test 42 = .ok (.istore 5, 2) := by decide +kernel
theorem dX6_test_44 : decode cX6_test 44 = .ok (.iload 5, 2) := by decide +kernel
theorem dX6_test_46 : decode cX6_test 46 = .ok (.bipush 100, 2) := by decide +kernel
theorem dX6_test_48 : decode cX6_test 48 = .ok (.if_icmp .ge 156, 3) := by decide +kernel
theorem dX6_test_51 : decode cX6_test 51 = .ok (.iconst 0, 1) := by decide +kernel
theorem dX6_test_52 : decode cX6_test 52 = .ok (.istore 6, 2) := by decide +kernel
theorem dX6_test_54 : decode cX6_test 54 = .ok (.iconst 0, 1) := by decide +kernel
theorem dX6_test_55 : decode cX6_test 55 = .ok (.istore 7, 2) := by decide +kernel
theorem dX6_test_57 : decode cX6_test 57 = .ok (.iload 7, 2) := by decide +kernel
theorem dX6_test_59 : decode cX6_test 59 = .ok (.bipush 6, 2) := by decide +kernel
theorem dX6_test_61 : decode cX6_test 61 = .ok (.if_icmp .ge 91, 3) := by decide +kernel
theorem dX6_test_64 : decode cX6_test 64 = .ok (.iconst 0, 1) := by decide +kernel
theorem dX6_test_65 : decode cX6_test 65 = .ok (.istore 8, 2) := by decide +kernel
theorem dX6_test_67 : decode cX6_test 67 = .ok (.iconst 0, 1) := by decide +kernel
theorem dX6_test_68 : decode cX6_test 68 = .ok (.istore 9, 2) := by decide +kernel
theorem dX6_test_70 : decode cX6_test 70 = .ok (.iload 9, 2) := by decide +kernel
theorem dX6_test_72 : decode cX6_test 72 = .ok (.bipush 6, 2) := by decide +kernel
theorem dX6_test_74 : decode cX6_test 74 = .ok (.if_icmp .ge 56, 3) := by decide +kernel
theorem dX6_test_77 : decode cX6_test 77 = .ok (.iload 8, 2) := by decide +kernel
theorem dX6_test_79 : decode cX6_test 79 = .ok (.iload_n 2, 1) := by decide +kernel
theorem dX6_test_80 : decode cX6_test 80 = .ok (.iload 7, 2) := by decide +kernel
theorem dX6_test_82 : decode cX6_test 82 = .ok (.invokestatic 199, 3) := by decide +kernel
theorem dX6_test_85 : decode cX6_test 85 = .ok (.ifCond .eq 35, 3) := by decide +kernel
theorem dX6_test_88 : decode cX6_test 88 = .ok (.iload_n 2, 1) := by decide +kernel
theorem dX6_test_89 : decode cX6_test 89 = .ok (.iload 9, 2) := by decide +kernel
theorem dX6_test_91 : decode cX6_test 91 = .ok (.invokestatic 199, 3) := by decide +kernel
theorem dX6_test_94 : decode cX6_test 94 = .ok (.ifCond .eq 26, 3) := by decide +kernel
theorem dX6_test_97 : decode cX6_test 97 = .ok (.aload_n 0, 1) := by decide +kernel
theorem dX6_test_98 : decode cX6_test 98 = .ok (.iload 7, 2) := by decide +kernel
theorem dX6_test_100 : decode cX6_test 100 = .ok (.iload 5, 2) := by decide +kernel
theorem dX6_test_102 : decode cX6_test 102 = .ok (.invokevirtual 218, 3) := by decide +kernel
theorem dX6_test_105 : decode cX6_test 105 = .ok (.aload_n 0, 1) := by decide +kernel
theorem dX6_test_106 : decode cX6_test 106 = .ok (.iload 9, 2) := by decide +kernel
theorem dX6_test_108 : decode cX6_test 108 = .ok (.iload 5, 2) := by decide +kernel
theorem dX6_test_110 : decode cX6_test 110 = .ok (.invokevirtual 218, 3) := by decide +kernel
theorem dX6_test_113 : decode cX6_test 113 = .ok (.if_icmp .ne 7, 3) := by decide +kernel
theorem dX6_test_116 : decode cX6_test 116 = .ok (.iconst 1, 1) := by decide +kernel
theorem dX6_test_117 : decode cX6_test 117 = .ok (.goto 4, 3) := by decide +kernel
theorem dX6_test_120 : decode cX6_test 120 = .ok (.iconst 0, 1) := by decide +kernel
theorem dX6_test_121 : decode cX6_test 121 = .ok (.iadd, 1) := by decide +kernel
theorem dX6_test_122 : decode cX6_test 122 = .ok (.istore 8, 2) := by decide +kernel
theorem dX6_test_124 : decode cX6_test 124 = .ok (.iinc 9 1, 3) := by decide +kernel
theorem dX6_test_127 : decode cX6_test 127 = .ok (.goto (-57), 3) := by decide +kernel
theorem dX6_test_130 : decode cX6_test 130 = .ok (.iload 8, 2) := by decide +kernel
theorem dX6_test_132 : decode cX6_test 132 = .ok (.iload 6, 2) := by decide +kernel
theorem dX6_test_134 : decode cX6_test 134 = .ok (.if_icmp .le 8, 3) := by decide +kernel
theorem dX6_test_137 : decode cX6_test 137 = .ok (.iload 8, 2) := by decide +kernel
theorem dX6_test_139 : decode cX6_test 139 = .ok (.goto 5, 3) := by decide +kernel
theorem dX6_test_142 : decode cX6_test 142 = .ok (.iload 6, 2) := by decide +kernel
theorem dX6_test_144 : decode cX6_test 144 = .ok (.istore 6, 2) := by decide +kernel
theorem dX6_test_146 : decode cX6_test 146 = .ok (.iinc 7 1, 3) := by decide +kernel
theorem dX6_test_149 : decode cX6_test 149 = .ok (.goto (-92), 3) := by decide +kernel
theorem dX6_test_152 : decode cX6_test 152 = .ok (.iload_n 3, 1) := by decide +kernel
theorem dX6_test_153 : decode cX6_test 153 = .ok (.bipush (-9), 2) := by decide +kernel
theorem dX6_test_155 : decode cX6_test 155 = .ok (.if_icmp .eq 10, 3) := by decide +kernel
theorem dX6_test_158 : decode cX6_test 158 = .ok (.iload 6, 2) := by decide +kernel
theorem dX6_test_160 : decode cX6_test 160 = .ok (.iload 4, 2) := by decide +kernel
theorem dX6_test_162 : decode cX6_test 162 = .ok (.if_icmp .ge 7, 3) := by decide +kernel
theorem dX6_test_165 : decode cX6_test 165 = .ok (.iconst 1, 1) := by decide +kernel
theorem dX6_test_166 : decode cX6_test 166 = .ok (.goto 4, 3) := by decide +kernel
theorem dX6_test_169 : decode cX6_test 169 = .ok (.iconst 0, 1) := by decide +kernel
theorem dX6_test_170 : decode cX6_test 170 = .ok (.istore 7, 2) := by decide +kernel
theorem dX6_test_172 : decode cX6_test 172 = .ok (.iload 7, 2) := by decide +kernel
theorem dX6_test_174 : decode cX6_test 174 = .ok (.ifCond .eq 8, 3) := by decide +kernel
theorem dX6_test_177 : decode cX6_test 177 = .ok (.iload 5, 2) := by decide +kernel
theorem dX6_test_179 : decode cX6_test 179 = .ok (.goto 4, 3) := by decide +kernel
theorem dX6_test_182 : decode cX6_test 182 = .ok (.iload_n 3, 1) := by decide +kernel
theorem dX6_test_183 : decode cX6_test 183 = .ok (.istore_n 3, 1) := by decide +kernel
theorem dX6_test_184 : decode cX6_test 184 = .ok (.iload 7, 2) := by decide +kernel
theorem dX6_test_186 : decode cX6_test 186 = .ok (.ifCond .eq 8, 3) := by decide +kernel
theorem dX6_test_189 : decode cX6_test 189 = .ok (.iload 6, 2) := by decide +kernel
theorem dX6_test_191 : decode cX6_test 191 = .ok (.goto 5, 3) := by decide +kernel
theorem dX6_test_194 : decode cX6_test 194 = .ok (.iload 4, 2) := by decide +kernel
theorem dX6_test_196 : decode cX6_test 196 = .ok (.istore 4, 2) := by decide +kernel
theorem dX6_test_198 : decode cX6_test 198 = .ok (.iinc 5 1, 3) := by decide +kernel
theorem dX6_test_201 : decode cX6_test 201 = .ok (.goto (-157), 3) := by decide +kernel
theorem dX6_test_204 : decode cX6_test 204 = .ok (.aload_n 0, 1) := by decide +kernel
theorem dX6_test_205 : decode cX6_test 205 = .ok (.iload 4, 2) := by decide +kernel
theorem dX6_test_207 : decode cX6_test 207 = .ok (.invokevirtual 81, 3) := by decide +kernel
theorem dX6_test_210 : decode cX6_test 210 = .ok (.pop, 1) := by decide +kernel
theorem dX6_test_211 : decode cX6_test 211 = .ok (.iload_n 3, 1) := by decide +kernel
theorem dX6_test_212 : decode cX6_test 212 = .ok (.ireturn, 1) := by decide +kernel
theorem dX6_pay_0 : decode cX6_pay 0 = .ok (.iconst 0, 1) := by decide +kernel
theorem dX6_pay_1 : decode cX6_pay 1 = .ok (.istore_n 3, 1) := by decide +kernel
theorem dX6_pay_2 : decode cX6_pay 2 = .ok (.iconst 0, 1) := by decide +kernel
theorem dX6_pay_3 : decode cX6_pay 3 = .ok (.istore 4, 2) := by decide +kernel
theorem dX6_pay_5 : decode cX6_pay 5 = .ok (.iload 4, 2) := by decide +kernel
theorem dX6_pay_7 : decode cX6_pay 7 = .ok (.aload_n 0, 1) := by decide +kernel
theorem dX6_pay_8 : decode cX6_pay 8 = .ok (.getfield 66, 3) := by decide +kernel
theorem dX6_pay_11 : decode cX6_pay 11 = .ok (.if_icmp .ge 35, 3) := by decide +kernel
theorem dX6_pay_14 : decode cX6_pay 14 = .ok (.iload_n 3, 1) := by decide +kernel
theorem dX6_pay_15 : decode cX6_pay 15 = .ok (.iload_n 1, 1) := by decide +kernel
theorem dX6_pay_16 : decode cX6_pay 16 = .ok (.iload 4, 2) := by decide +kernel
theorem dX6_pay_18 : decode cX6_pay 18 = .ok (.invokestatic 199, 3) := by decide +kernel
theorem dX6_pay_21 : decode cX6_pay 21 = .ok (.ifCond .eq 16, 3) := by decide +kernel
theorem dX6_pay_24 : decode cX6_pay 24 = .ok (.aload_n 0, 1) := by decide +kernel
theorem dX6_pay_25 : decode cX6_pay 25 = .ok (.getfield 32, 3) := by decide +kernel
theorem dX6_pay_28 : decode cX6_pay 28 = .ok (.iload 4, 2) := by decide +kernel
theorem dX6_pay_30 : decode cX6_pay 30 = .ok (.iaload, 1) := by decide +kernel
theorem dX6_pay_31 : decode cX6_pay 31 = .ok (.invokestatic 160, 3) := by decide +kernel
theorem dX6_pay_34 : decode cX6_pay 34 = .ok (.goto 4, 3) := by decide +kernel
theorem dX6_pay_37 : decode cX6_pay 37 = .ok (.iconst 0, 1) := by decide +kernel
theorem dX6_pay_38 : decode cX6_pay 38 = .ok (.iadd, 1) := by decide +kernel
theorem dX6_pay_39 : decode cX6_pay 39 = .ok (.istore_n 3, 1) := by decide +kernel
theorem dX6_pay_40 : decode cX6_pay 40 = .ok (.iinc 4 1, 3) := by decide +kernel
theorem dX6_pay_43 : decode cX6_pay 43 = .ok (.goto (-38), 3) := by decide +kernel
theorem dX6_pay_46 : decode cX6_pay 46 = .ok (.iload_n 3, 1) := by decide +kernel
theorem dX6_pay_47 : decode cX6_pay 47 = .ok (.iload_n 2, 1) := by decide +kernel
theorem dX6_pay_48 : decode cX6_pay 48 = .ok (.if_icmp .ne 7, 3) := by decide +kernel
theorem dX6_pay_51 : decode cX6_pay 51 = .ok (.iconst 1, 1) := by decide +kernel
theorem dX6_pay_52 : decode cX6_pay 52 = .ok (.goto 4, 3) := by decide +kernel
theorem dX6_pay_55 : decode cX6_pay 55 = .ok (.iconst 0, 1) := by decide +kernel
theorem dX6_pay_56 : decode cX6_pay 56 = .ok (.ireturn, 1) := by decide +kernel
theorem dX6_sets_0 : decode cX6_sets 0 = .ok (.iload_n 1, 1) := by decide +kernel
theorem dX6_sets_1 : decode cX6_sets 1 = .ok (.iconst 0, 1) := by decide +kernel
theorem dX6_sets_2 : decode cX6_sets 2 = .ok (.bipush 99, 2) := by decide +kernel
theorem dX6_sets_4 : decode cX6_sets 4 = .ok (.invokestatic 69, 3) := by decide +kernel
theorem dX6_sets_7 : decode cX6_sets 7 = .ok (.ifCond .ne 5, 3) := by decide +kernel
theorem dX6_sets_10 : decode cX6_sets 10 = .ok (.iconst (-1), 1) := by decide +kernel
theorem dX6_sets_11 : decode cX6_sets 11 = .ok (.ireturn, 1) := by decide +kernel
theorem dX6_sets_12 : decode cX6_sets 12 = .ok (.aload_n 0, 1) := by decide +kernel
theorem dX6_sets_13 : decode cX6_sets 13 = .ok (.getfield 66, 3) := by decide +kernel
theorem dX6_sets_16 : decode cX6_sets 16 = .ok (.ifCond .ne 6, 3) := by decide +kernel
theorem dX6_sets_19 : decode cX6_sets 19 = .ok (.bipush (-4), 2) := by decide +kernel
theorem dX6_sets_21 : decode cX6_sets 21 = .ok (.ireturn, 1) := by decide +kernel
theorem dX6_sets_22 : decode cX6_sets 22 = .ok (.iconst 0, 1) := by decide +kernel
theorem dX6_sets_23 : decode cX6_sets 23 = .ok (.istore_n 2, 1) := by decide +kernel
theorem dX6_sets_24 : decode cX6_sets 24 = .ok (.bipush (-9), 2) := by decide +kernel
theorem dX6_sets_26 : decode cX6_sets 26 = .ok (.istore_n 3, 1) := by decide +kernel
theorem dX6_sets_27 : decode cX6_sets 27 = .ok (.iconst 1, 1) := by decide +kernel
theorem dX6_sets_28 : decode cX6_sets 28 = .ok (.aload_n 0, 1) := by decide +kernel
theorem dX6_sets_29 : decode cX6_sets 29 = .ok (.getfield 66, 3) := by decide +kernel
theorem dX6_sets_32 : decode cX6_sets 32 = .ok (.ishl, 1) := by decide +kernel
theorem dX6_sets_33 : decode cX6_sets 33 = .ok (.iconst 1, 1) := by decide +kernel
theorem dX6_sets_34 : decode cX6_sets 34 = .ok (.isub, 1) := by decide +kernel
theorem dX6_sets_35 : decode cX6_sets 35 = .ok (.istore 4, 2) := by decide +kernel
theorem dX6_sets_37 : decode cX6_sets 37 = .ok (.iload 4, 2) := by decide +kernel
theorem dX6_sets_39 : decode cX6_sets 39 = .ok (.ifCond .lt 44, 3) := by decide +kernel
theorem dX6_sets_42 : decode cX6_sets 42 = .ok (.iload_n 2, 1) := by decide +kernel
theorem dX6_sets_43 : decode cX6_sets 43 = .ok (.aload_n 0, 1) := by decide +kernel
theorem dX6_sets_44 : decode cX6_sets 44 = .ok (.iload 4, 2) := by decide +kernel
theorem dX6_sets_46 : decode cX6_sets 46 = .ok (.iload_n 1, 1) := by decide +kernel
theorem dX6_sets_47 : decode cX6_sets 47 = .ok (.invokevirtual 230, 3) := by decide +kernel
theorem dX6_sets_50 : decode cX6_sets 50 = .ok (.ifCond .eq 7, 3) := by decide +kernel
theorem dX6_sets_53 : decode cX6_sets 53 = .ok (.iconst 1, 1) := by decide +kernel
theorem dX6_sets_54 : decode cX6_sets 54 = .ok (.goto 4, 3) := by decide +kernel
theorem dX6_sets_57 : decode cX6_sets 57 = .ok (.iconst 0, 1) := by decide +kernel
theorem dX6_sets_58 : decode cX6_sets 58 = .ok (.iadd, 1) := by decide +kernel
theorem dX6_sets_59 : decode cX6_sets 59 = .ok (.istore_n 2, 1) := by decide +kernel
theorem dX6_sets_60 : decode cX6_sets 60 = .ok (.aload_n 0, 1) := by decide +kernel
theorem dX6_sets_61 : decode cX6_sets 61 = .ok (.iload 4, 2) := by decide +kernel
theorem dX6_sets_63 : decode cX6_sets 63 = .ok (.iload_n 1, 1) := by decide +kernel
theorem dX6_sets_64 : decode cX6_sets 64 = .ok (.invokevirtual 230, 3) := by decide +kernel
theorem dX6_sets_67 : decode cX6_sets 67 = .ok (.ifCond .eq 8, 3) := by decide +kernel
theorem dX6_sets_70 : decode cX6_sets 70 = .ok (.iload 4, 2) := by decide +kernel
theorem dX6_sets_72 : decode cX6_sets 72 = .ok (.goto 4, 3) := by decide +kernel
theorem dX6_sets_75 : decode cX6_sets 75 = .ok (.iload_n 3, 1) := by decide +kernel
theorem dX6_sets_76 : decode cX6_sets 76 = .ok (.istore_n 3, 1) := by decide +kernel
theorem dX6_sets_77 : decode cX6_sets 77 = .ok (.iinc 4 (-1), 3) := by decide +kernel
theorem dX6_sets_80 : decode cX6_sets 80 = .ok (.goto (-43), 3) := by decide +kernel
theorem dX6_sets_83 : decode cX6_sets 83 = .ok (.aload_n 0, 1) := by decide +kernel
theorem dX6_sets_84 : decode cX6_sets 84 = .ok (.iload_n 2, 1) := by decide +kernel
theorem dX6_sets_85 : decode cX6_sets 85 = .ok (.i2l, 1) := by decide +kernel
theorem dX6_sets_86 : decode cX6_sets 86 = .ok (.putfield 233, 3) := by decide +kernel
theorem dX6_sets_89 : decode cX6_sets 89 = .ok (.aload_n 0, 1) := by decide +kernel
theorem dX6_sets_90 : decode cX6_sets 90 = .ok (.lconst 1, 1) := by decide +kernel
theorem dX6_sets_91 : decode cX6_sets 91 = .ok (.putfield 25, 3) := by decide +kernel
theorem dX6_sets_94 : decode cX6_sets 94 = .ok (.aload_n 0, 1) := by decide +kernel
theorem dX6_sets_95 : decode cX6_sets 95 = .ok (.iload_n 3, 1) := by decide +kernel
theorem dX6_sets_96 : decode cX6_sets 96 = .ok (.invokevirtual 81, 3) := by decide +kernel
theorem dX6_sets_99 : decode cX6_sets 99 = .ok (.ireturn, 1) := by decide +kernel
theorem dX6_sure_0 : decode cX6_sure 0 = .ok (.iload_n 1, 1) := by decide +kernel
theorem dX6_sure_1 : decode cX6_sure 1 = .ok (.iconst 0, 1) := by decide +kernel
theorem dX6_sure_2 : decode cX6_sure 2 = .ok (.bipush 99, 2) := by decide +kernel
theorem dX6_sure_4 : decode cX6_sure 4 = .ok (.invokestatic 69, 3) := by decide +kernel
theorem dX6_sure_7 : decode cX6_sure 7 = .ok (.ifCond .ne 5, 3) := by decide +kernel
theorem dX6_sure_10 : decode cX6_sure 10 = .ok (.iconst (-1), 1) := by decide +kernel
theorem dX6_sure_11 : decode cX6_sure 11 = .ok (.ireturn, 1) := by decide +kernel
theorem dX6_sure_12 : decode cX6_sure 12 = .ok (.aload_n 0, 1) := by decide +kernel
theorem dX6_sure_13 : decode cX6_sure 13 = .ok (.getfield 66, 3) := by decide +kernel
theorem dX6_sure_16 : decode cX6_sure 16 = .ok (.ifCond .ne 6, 3) := by decide +kernel
theorem dX6_sure_19 : decode cX6_sure 19 = .ok (.bipush (-4), 2) := by decide +kernel
theorem dX6_sure_21 : decode cX6_sure 21 = .ok (.ireturn, 1) := by decide +kernel
theorem dX6_sure_22 : decode cX6_sure 22 = .ok (.iconst 1, 1) := by decide +kernel
theorem dX6_sure_23 : decode cX6_sure 23 = .ok (.aload_n 0, 1) := by decide +kernel
theorem dX6_sure_24 : decode cX6_sure 24 = .ok (.getfield 66, 3) := by decide +kernel
theorem dX6_sure_27 : decode cX6_sure 27 = .ok (.ishl, 1) := by decide +kernel
theorem dX6_sure_28 : decode cX6_sure 28 = .ok (.iconst 1, 1) := by decide +kernel
theorem dX6_sure_29 : decode cX6_sure 29 = .ok (.isub, 1) := by decide +kernel
theorem dX6_sure_30 : decode cX6_sure 30 = .ok (.istore_n 2, 1) := by decide +kernel
theorem dX6_sure_31 : decode cX6_sure 31 = .ok (.iconst 0, 1) := by decide +kernel
theorem dX6_sure_32 : decode cX6_sure 32 = .ok (.istore_n 3, 1) := by decide +kernel
theorem dX6_sure_33 : decode cX6_sure 33 = .ok (.iconst 0, 1) := by decide +kernel
theorem dX6_sure_34 : decode cX6_sure 34 = .ok (.istore 4, 2) := by decide +kernel
theorem dX6_sure_36 : decode cX6_sure 36 = .ok (.iconst 0, 1) := by decide +kernel
theorem dX6_sure_37 : decode cX6_sure 37 = .ok (.istore 5, 2) := by decide +kernel
theorem dX6_sure_39 : decode cX6_sure 39 = .ok (.iload 5, 2) := by decide +kernel
theorem dX6_sure_41 : decode cX6_sure 41 = .ok (.iconst 1, 1) := by decide +kernel
theorem dX6_sure_42 : decode cX6_sure 42 = .ok (.aload_n 0, 1) := by decide +kernel
theorem dX6_sure_43 : decode cX6_sure 43 = .ok (.getfield 66, 3) := by decide +kernel
theorem dX6_sure_46 : decode cX6_sure 46 = .ok (.ishl, 1) := by decide +kernel
theorem dX6_sure_47 : decode cX6_sure 47 = .ok (.if_icmp .ge 32, 3) := by decide +kernel
theorem dX6_sure_50 : decode cX6_sure 50 = .ok (.aload_n 0, 1) := by decide +kernel
theorem dX6_sure_51 : decode cX6_sure 51 = .ok (.iload 5, 2) := by decide +kernel
theorem dX6_sure_53 : decode cX6_sure 53 = .ok (.iload_n 1, 1) := by decide +kernel
theorem dX6_sure_54 : decode cX6_sure 54 = .ok (.invokevirtual 230, 3) := by decide +kernel
theorem dX6_sure_57 : decode cX6_sure 57 = .ok (.ifCond .eq 16, 3) := by decide +kernel
theorem dX6_sure_60 : decode cX6_sure 60 = .ok (.iload_n 2, 1) := by decide +kernel
theorem dX6_sure_61 : decode cX6_sure 61 = .ok (.iload 5, 2) := by decide +kernel
theorem dX6_sure_63 : decode cX6_sure 63 = .ok (.iand, 1) := by decide +kernel
theorem dX6_sure_64 : decode cX6_sure 64 = .ok (.istore_n 2, 1) := by decide +kernel
theorem dX6_sure_65 : decode cX6_sure 65 = .ok (.iload_n 3, 1) := by decide +kernel
theorem dX6_sure_66 : decode cX6_sure 66 = .ok (.iload 5, 2) := by decide +kernel
theorem dX6_sure_68 : decode cX6_sure 68 = .ok (.ior, 1) := by decide +kernel
theorem dX6_sure_69 : decode cX6_sure 69 = .ok (.istore_n 3, 1) := by decide +kernel
theorem dX6_sure_70 : decode cX6_sure 70 = .ok (.iinc 4 1, 3) := by decide +kernel
theorem dX6_sure_73 : decode cX6_sure 73 = .ok (.iinc 5 1, 3) := by decide +kernel
theorem dX6_sure_76 : decode cX6_sure 76 = .ok (.goto (-37), 3) := by decide +kernel
theorem dX6_sure_79 : decode cX6_sure 79 = .ok (.iload 4, 2) := by decide +kernel
theorem dX6_sure_81 : decode cX6_sure 81 = .ok (.ifCond .ne 9, 3) := by decide +kernel
theorem dX6_sure_84 : decode cX6_sure 84 = .ok (.aload_n 0, 1) := by decide +kernel
theorem dX6_sure_85 : decode cX6_sure 85 = .ok (.iconst 4, 1) := by decide +kernel
theorem dX6_sure_86 : decode cX6_sure 86 = .ok (.invokevirtual 73, 3) := by decide +kernel
theorem dX6_sure_89 : decode cX6_sure 89 = .ok (.ireturn, 1) := by decide +kernel
theorem dX6_sure_90 : decode cX6_sure 90 = .ok (.aload_n 0, 1) := by decide +kernel
theorem dX6_sure_91 : decode cX6_sure 91 = .ok (.iconst 1, 1) := by decide +kernel
theorem dX6_sure_92 : decode cX6_sure 92 = .ok (.aload_n 0, 1) := by decide +kernel
theorem dX6_sure_93 : decode cX6_sure 93 = .ok (.getfield 66, 3) := by decide +kernel
theorem dX6_sure_96 : decode cX6_sure 96 = .ok (.ishl, 1) := by decide +kernel
theorem dX6_sure_97 : decode cX6_sure 97 = .ok (.iconst 1, 1) := by decide +kernel
theorem dX6_sure_98 : decode cX6_sure 98 = .ok (.isub, 1) := by decide +kernel
theorem dX6_sure_99 : decode cX6_sure 99 = .ok (.iload_n 3, 1) := by decide +kernel
theorem dX6_sure_100 : decode cX6_sure 100 = .ok (.iconst (-1), 1) := by decide +kernel
theorem dX6_sure_101 : decode cX6_sure 101 = .ok (.ixor, 1) := by decide +kernel
theorem dX6_sure_102 : decode cX6_sure 102 = .ok (.iand, 1) := by decide +kernel
theorem dX6_sure_103 : decode cX6_sure 103 = .ok (.invokevirtual 81, 3) := by decide +kernel
theorem dX6_sure_106 : decode cX6_sure 106 = .ok (.pop, 1) := by decide +kernel
theorem dX6_sure_107 : decode cX6_sure 107 = .ok (.iload_n 2, 1) := by decide +kernel
theorem dX6_sure_108 : decode cX6_sure 108 = .ok (.ireturn, 1) := by decide +kernel
theorem dX6_ownBy_0 : decode cX6_ownBy 0 = .ok (.iconst 0, 1) := by decide +kernel
theorem dX6_ownBy_1 : decode cX6_ownBy 1 = .ok (.istore_n 3, 1) := by decide +kernel
theorem dX6_ownBy_2 : decode cX6_ownBy 2 = .ok (.iconst 0, 1) := by decide +kernel
theorem dX6_ownBy_3 : decode cX6_ownBy 3 = .ok (.istore 4, 2) := by decide +kernel
theorem dX6_ownBy_5 : decode cX6_ownBy 5 = .ok (.iload 4, 2) := by decide +kernel
theorem dX6_ownBy_7 : decode cX6_ownBy 7 = .ok (.iconst 1, 1) := by decide +kernel
theorem dX6_ownBy_8 : decode cX6_ownBy 8 = .ok (.aload_n 0, 1) := by decide +kernel
theorem dX6_ownBy_9 : decode cX6_ownBy 9 = .ok (.getfield 66, 3) := by decide +kernel
theorem dX6_ownBy_12 : decode cX6_ownBy 12 = .ok (.ishl, 1) := by decide +kernel
theorem dX6_ownBy_13 : decode cX6_ownBy 13 = .ok (.if_icmp .ge 129, 3) := by decide +kernel
theorem dX6_ownBy_16 : decode cX6_ownBy 16 = .ok (.iconst 0, 1) := by decide +kernel
theorem dX6_ownBy_17 : decode cX6_ownBy 17 = .ok (.istore 5, 2) := by decide +kernel
theorem dX6_ownBy_19 : decode cX6_ownBy 19 = .ok (.iconst 1, 1) := by decide +kernel
theorem dX6_ownBy_20 : decode cX6_ownBy 20 = .ok (.istore 6, 2) := by decide +kernel
theorem dX6_ownBy_22 : decode cX6_ownBy 22 = .ok (.iconst 0, 1) := by decide +kernel
theorem dX6_ownBy_23 : decode cX6_ownBy 23 = .ok (.istore 7, 2) := by decide +kernel
theorem dX6_ownBy_25 : decode cX6_ownBy 25 = .ok (.iload 7, 2) := by decide +kernel
theorem dX6_ownBy_27 : decode cX6_ownBy 27 = .ok (.aload_n 0, 1) := by decide +kernel
theorem dX6_ownBy_28 : decode cX6_ownBy 28 = .ok (.getfield 66, 3) := by decide +kernel
theorem dX6_ownBy_31 : decode cX6_ownBy 31 = .ok (.if_icmp .ge 75, 3) := by decide +kernel
theorem dX6_ownBy_34 : decode cX6_ownBy 34 = .ok (.aload_n 0, 1) := by decide +kernel
theorem dX6_ownBy_35 : decode cX6_ownBy 35 = .ok (.iload 7, 2) := by decide +kernel
theorem dX6_ownBy_37 : decode cX6_ownBy 37 = .ok (.invokevirtual 147, 3) := by decide +kernel
theorem dX6_ownBy_40 : decode cX6_ownBy 40 = .ok (.istore 8, 2) := by decide +kernel
theorem dX6_ownBy_42 : decode cX6_ownBy 42 = .ok (.iload 6, 2) := by decide +kernel
theorem dX6_ownBy_44 : decode cX6_ownBy 44 = .ok (.ifCond .eq 32, 3) := by decide +kernel
theorem dX6_ownBy_47 : decode cX6_ownBy 47 = .ok (.iload 4, 2) := by decide +kernel
theorem dX6_ownBy_49 : decode cX6_ownBy 49 = .ok (.iload 7, 2) := by decide +kernel
theorem dX6_ownBy_51 : decode cX6_ownBy 51 = .ok (.invokestatic 199, 3) := by decide +kernel
theorem dX6_ownBy_54 : decode cX6_ownBy 54 = .ok (.ifCond .eq 18, 3) := by decide +kernel
theorem dX6_ownBy_57 : decode cX6_ownBy 57 = .ok (.iload 7, 2) := by decide +kernel
theorem dX6_ownBy_59 : decode cX6_ownBy 59 = .ok (.iconst 2, 1) := by decide +kernel
theorem dX6_ownBy_60 : decode cX6_ownBy 60 = .ok (.irem, 1) := by decide +kernel
theorem dX6_ownBy_61 : decode cX6_ownBy 61 = .ok (.iload_n 1, 1) := by decide +kernel
theorem dX6_ownBy_62 : decode cX6_ownBy 62 = .ok (.if_icmp .ne 14, 3) := by decide +kernel
theorem dX6_ownBy_65 : decode cX6_ownBy 65 = .ok (.iload 8, 2) := by decide +kernel
theorem dX6_ownBy_67 : decode cX6_ownBy 67 = .ok (.bipush (-9), 2) := by decide +kernel
theorem dX6_ownBy_69 : decode cX6_ownBy 69 = .ok (.if_icmp .eq 7, 3) := by decide +kernel
theorem dX6_ownBy_72 : decode cX6_ownBy 72 = .ok (.iconst 1, 1) := by decide +kernel
theorem dX6_ownBy_73 : decode cX6_ownBy 73 = .ok (.goto 4, 3) := by decide +kernel
theorem dX6_ownBy_76 : decode cX6_ownBy 76 = .ok (.iconst 0, 1) := by decide +kernel
theorem dX6_ownBy_77 : decode cX6_ownBy 77 = .ok (.istore 6, 2) := by decide +kernel
theorem dX6_ownBy_79 : decode cX6_ownBy 79 = .ok (.iload 5, 2) := by decide +kernel
theorem dX6_ownBy_81 : decode cX6_ownBy 81 = .ok (.iload 4, 2) := by decide +kernel
theorem dX6_ownBy_83 : decode cX6_ownBy 83 = .ok (.iload 7, 2) := by decide +kernel
theorem dX6_ownBy_85 : decode cX6_ownBy 85 = .ok (.invokestatic 199, 3) := by decide +kernel
theorem dX6_ownBy_88 : decode cX6_ownBy 88 = .ok (.ifCond .eq 8, 3) := by decide +kernel
theorem dX6_ownBy_91 : decode cX6_ownBy 91 = .ok (.iload 8, 2) := by decide +kernel
theorem dX6_ownBy_93 : decode cX6_ownBy 93 = .ok (.goto 4, 3) := by decide +kernel
theorem dX6_ownBy_96 : decode cX6_ownBy 96 = .ok (.iconst 0, 1) := by decide +kernel
theorem dX6_ownBy_97 : decode cX6_ownBy 97 = .ok (.iadd, 1) := by decide +kernel
theorem dX6_ownBy_98 : decode cX6_ownBy 98 = .ok (.istore 5, 2) := by decide +kernel
theorem dX6_ownBy_100 : decode cX6_ownBy 100 = .ok (.iinc 7 1, 3) := by decide +kernel
theorem dX6_ownBy_103 : decode cX6_ownBy 103 = .ok (.goto (-78), 3) := by decide +kernel
theorem dX6_ownBy_106 : decode cX6_ownBy 106 = .ok (.iload 6, 2) := by decide +kernel
theorem dX6_ownBy_108 : decode cX6_ownBy 108 = .ok (.ifCond .eq 26, 3) := by decide +kernel
theorem dX6_ownBy_111 : decode cX6_ownBy 111 = .ok (.iload 5, 2) := by decide +kernel
theorem dX6_ownBy_113 : decode cX6_ownBy 113 = .ok (.iload_n 2, 1) := by decide +kernel
theorem dX6_ownBy_114 : decode cX6_ownBy 114 = .ok (.if_icmp .gt 20, 3) := by decide +kernel
theorem dX6_ownBy_117 : decode cX6_ownBy 117 = .ok (.iload 4, 2) := by decide +kernel
theorem dX6_ownBy_119 : decode cX6_ownBy 119 = .ok (.invokestatic 166, 3) := by decide +kernel
theorem dX6_ownBy_122 : decode cX6_ownBy 122 = .ok (.iload_n 3, 1) := by decide +kernel
theorem dX6_ownBy_123 : decode cX6_ownBy 123 = .ok (.if_icmp .le 11, 3) := by decide +kernel
theorem dX6_ownBy_126 : decode cX6_ownBy 126 = .ok (.iload 4, 2) := by decide +kernel
theorem dX6_ownBy_128 : decode cX6_ownBy 128 = .ok (.invokestatic 166, 3) := by decide +kernel
theorem dX6_ownBy_131 : decode cX6_ownBy 131 = .ok (.goto 4, 3) := by decide +kernel
theorem dX6_ownBy_134 : decode cX6_ownBy 134 = .ok (.iload_n 3, 1) := by decide +kernel
theorem dX6_ownBy_135 : decode cX6_ownBy 135 = .ok (.istore_n 3, 1) := by decide +kernel
theorem dX6_ownBy_136 : decode cX6_ownBy 136 = .ok (.iinc 4 1, 3) := by decide +kernel
theorem dX6_ownBy_139 : decode cX6_ownBy 139 = .ok (.goto (-134), 3) := by decide +kernel
theorem dX6_ownBy_142 : decode cX6_ownBy 142 = .ok (.iload_n 3, 1) := by decide +kernel
theorem dX6_ownBy_143 : decode cX6_ownBy 143 = .ok (.ireturn, 1) := by decide +kernel
theorem dX6_duel_0 : decode cX6_duel 0 = .ok (.iload_n 1, 1) := by decide +kernel
theorem dX6_duel_1 : decode cX6_duel 1 = .ok (.iconst 0, 1) := by decide +kernel
theorem dX6_duel_2 : decode cX6_duel 2 = .ok (.iconst 3, 1) := by decide +kernel
theorem dX6_duel_3 : decode cX6_duel 3 = .ok (.invokestatic 69, 3) := by decide +kernel
theorem dX6_duel_6 : decode cX6_duel 6 = .ok (.ifCond .ne 5, 3) := by decide +kernel
theorem dX6_duel_9 : decode cX6_duel 9 = .ok (.iconst (-1), 1) := by decide +kernel
theorem dX6_duel_10 : decode cX6_duel 10 = .ok (.ireturn, 1) := by decide +kernel
theorem dX6_duel_11 : decode cX6_duel 11 = .ok (.aload_n 0, 1) := by decide +kernel
theorem dX6_duel_12 : decode cX6_duel 12 = .ok (.getfield 66, 3) := by decide +kernel
theorem dX6_duel_15 : decode cX6_duel 15 = .ok (.ifCond .ne 8, 3) := by decide +kernel
theorem dX6_duel_18 : decode cX6_duel 18 = .ok (.bipush (-4), 2) := by decide +kernel
theorem dX6_duel_20 : decode cX6_duel 20 = .ok (.goto 20, 3) := by decide +kernel
theorem dX6_duel_23 : decode cX6_duel 23 = .ok (.aload_n 0, 1) := by decide +kernel
theorem dX6_duel_24 : decode cX6_duel 24 = .ok (.aload_n 0, 1) := by decide +kernel
theorem dX6_duel_25 : decode cX6_duel 25 = .ok (.iconst 0, 1) := by decide +kernel
theorem dX6_duel_26 : decode cX6_duel 26 = .ok (.iload_n 1, 1) := by decide +kernel
theorem dX6_duel_27 : decode cX6_duel 27 = .ok (.invokevirtual 236, 3) := by decide +kernel
theorem dX6_duel_30 : decode cX6_duel 30 = .ok (.aload_n 0, 1) := by decide +kernel
theorem dX6_duel_31 : decode cX6_duel 31 = .ok (.iconst 1, 1) := by decide +kernel
theorem dX6_duel_32 : decode cX6_duel 32 = .ok (.iload_n 1, 1) := by decide +kernel
theorem dX6_duel_33 : decode cX6_duel 33 = .ok (.invokevirtual 236, 3) := by decide +kernel
theorem dX6_duel_36 : decode cX6_duel 36 = .ok (.isub, 1) := by decide +kernel
theorem dX6_duel_37 : decode cX6_duel 37 = .ok (.invokevirtual 81, 3) := by decide +kernel
theorem dX6_duel_40 : decode cX6_duel 40 = .ok (.ireturn, 1) := by decide +kernel
theorem dX6_tellsPart_0 : decode cX6_tellsPart 0 = .ok (.lload_n 1, 1) := by decide +kernel
theorem dX6_tellsPart_1 : decode cX6_tellsPart 1 = .ok (.lstore 5, 2) := by decide +kernel
theorem dX6_tellsPart_3 : decode cX6_tellsPart 3 = .ok (.lload_n 3, 1) := by decide +kernel
theorem dX6_tellsPart_4 : decode cX6_tellsPart 4 = .ok (.lstore 7, 2) := by decide +kernel
theorem dX6_tellsPart_6 : decode cX6_tellsPart 6 = .ok (.lload 7, 2) := by decide +kernel
theorem dX6_tellsPart_8 : decode cX6_tellsPart 8 = .ok (.lconst 0, 1) := by decide +kernel
theorem dX6_tellsPart_9 : decode cX6_tellsPart 9 = .ok (.lcmp, 1) := by decide +kernel
theorem dX6_tellsPart_10 : decode cX6_tellsPart 10 = .ok (.ifCond .le 21, 3) := by decide +kernel
theorem dX6_tellsPart_13 : decode cX6_tellsPart 13 = .ok (.lload 5, 2) := by decide +kernel
theorem dX6_tellsPart_15 : decode cX6_tellsPart 15 = .ok (.lload 7, 2) := by decide +kernel
theorem dX6_tellsPart_17 : decode cX6_tellsPart 17 = .ok (.lrem, 1) := by decide +kernel
theorem dX6_tellsPart_18 : decode cX6_tellsPart 18 = .ok (.lstore 9, 2) := by decide +kernel
theorem dX6_tellsPart_20 : decode cX6_tellsPart 20 = .ok (.lload 7, 2) := by decide +kernel
theorem dX6_tellsPart_22 : decode cX6_tellsPart 22 = .ok (.lstore 5, 2) := by decide +kernel
theorem dX6_tellsPart_24 : decode cX6_tellsPart 24 = .ok (.lload 9, 2) := by decide +kernel
theorem dX6_tellsPart_26 : decode cX6_tellsPart 26 = .ok (.lstore 7, 2) := by decide +kernel
theorem dX6_tellsPart_28 : decode cX6_tellsPart 28 = .ok (.goto (-22), 3) := by decide +kernel
theorem dX6_tellsPart_31 : decode cX6_tellsPart 31 = .ok (.aload_n 0, 1) := by decide +kernel
theorem dX6_tellsPart_32 : decode cX6_tellsPart 32 = .ok (.lload_n 1, 1) := by decide +kernel
theorem dX6_tellsPart_33 : decode cX6_tellsPart 33 = .ok (.lload 5, 2) := by decide +kernel
theorem dX6_tellsPart_35 : decode cX6_tellsPart 35 = .ok (.ldiv, 1) := by decide +kernel
theorem dX6_tellsPart_36 : decode cX6_tellsPart 36 = .ok (.putfield 233, 3) := by decide +kernel
theorem dX6_tellsPart_39 : decode cX6_tellsPart 39 = .ok (.aload_n 0, 1) := by decide +kernel
theorem dX6_tellsPart_40 : decode cX6_tellsPart 40 = .ok (.lload_n 3, 1) := by decide +kernel
theorem dX6_tellsPart_41 : decode cX6_tellsPart 41 = .ok (.lload 5, 2) := by decide +kernel
theorem dX6_tellsPart_43 : decode cX6_tellsPart 43 = .ok (.ldiv, 1) := by decide +kernel
theorem dX6_tellsPart_44 : decode cX6_tellsPart 44 = .ok (.putfield 25, 3) := by decide +kernel
theorem dX6_tellsPart_47 : decode cX6_tellsPart 47 = .ok (.return_, 1) := by decide +kernel
theorem dX6_waysOf_0 : decode cX6_waysOf 0 = .ok (.lconst 1, 1) := by decide +kernel
theorem dX6_waysOf_1 : decode cX6_waysOf 1 = .ok (.lstore_n 3, 1) := by decide +kernel
theorem dX6_waysOf_2 : decode cX6_waysOf 2 = .ok (.iconst 0, 1) := by decide +kernel
theorem dX6_waysOf_3 : decode cX6_waysOf 3 = .ok (.istore 5, 2) := by decide +kernel
theorem dX6_waysOf_5 : decode cX6_waysOf 5 = .ok (.iload 5, 2) := by decide +kernel
theorem dX6_waysOf_7 : decode cX6_waysOf 7 = .ok (.iload_n 1, 1) := by decide +kernel
theorem dX6_waysOf_8 : decode cX6_waysOf 8 = .ok (.if_icmp .ge 23, 3) := by decide +kernel
theorem dX6_waysOf_11 : decode cX6_waysOf 11 = .ok (.lload_n 3, 1) := by decide +kernel
theorem dX6_waysOf_12 : decode cX6_waysOf 12 = .ok (.iload_n 0, 1) := by decide +kernel
theorem dX6_waysOf_13 : decode cX6_waysOf 13 = .ok (.iload 5, 2) := by decide +kernel
theorem dX6_waysOf_15 : decode cX6_waysOf 15 = .ok (.isub, 1) := by decide +kernel
theorem dX6_waysOf_16 : decode cX6_waysOf 16 = .ok (.i2l, 1) := by decide +kernel
theorem dX6_waysOf_17 : decode cX6_waysOf 17 = .ok (.lmul, 1) := by decide +kernel
theorem dX6_waysOf_18 : decode cX6_waysOf 18 = .ok (.iload 5, 2) := by decide +kernel
theorem dX6_waysOf_20 : decode cX6_waysOf 20 = .ok (.iconst 1, 1) := by decide +kernel
theorem dX6_waysOf_21 : decode cX6_waysOf 21 = .ok (.iadd, 1) := by decide +kernel
theorem dX6_waysOf_22 : decode cX6_waysOf 22 = .ok (.i2l, 1) := by decide +kernel
theorem dX6_waysOf_23 : decode cX6_waysOf 23 = .ok (.ldiv, 1) := by decide +kernel
theorem dX6_waysOf_24 : decode cX6_waysOf 24 = .ok (.lstore_n 3, 1) := by decide +kernel
theorem dX6_waysOf_25 : decode cX6_waysOf 25 = .ok (.iinc 5 1, 3) := by decide +kernel
theorem dX6_waysOf_28 : decode cX6_waysOf 28 = .ok (.goto (-23), 3) := by decide +kernel
theorem dX6_waysOf_31 : decode cX6_waysOf 31 = .ok (.iconst 0, 1) := by decide +kernel
theorem dX6_waysOf_32 : decode cX6_waysOf 32 = .ok (.istore 5, 2) := by decide +kernel
theorem dX6_waysOf_34 : decode cX6_waysOf 34 = .ok (.iload 5, 2) := by decide +kernel
theorem dX6_waysOf_36 : decode cX6_waysOf 36 = .ok (.iload_n 0, 1) := by decide +kernel
theorem dX6_waysOf_37 : decode cX6_waysOf 37 = .ok (.if_icmp .ge 28, 3) := by decide +kernel
theorem dX6_waysOf_40 : decode cX6_waysOf 40 = .ok (.lload_n 3, 1) := by decide +kernel
theorem dX6_waysOf_41 : decode cX6_waysOf 41 = .ok (.iload 5, 2) := by decide +kernel
theorem dX6_waysOf_43 : decode cX6_waysOf 43 = .ok (.iload_n 1, 1) := by decide +kernel
theorem dX6_waysOf_44 : decode cX6_waysOf 44 = .ok (.if_icmp .ge 8, 3) := by decide +kernel
theorem dX6_waysOf_47 : decode cX6_waysOf 47 = .ok (.iload_n 2, 1) := by decide +kernel
theorem dX6_waysOf_48 : decode cX6_waysOf 48 = .ok (.i2l, 1) := by decide +kernel
theorem dX6_waysOf_49 : decode cX6_waysOf 49 = .ok (.goto 8, 3) := by decide +kernel
theorem dX6_waysOf_52 : decode cX6_waysOf 52 = .ok (.bipush 12, 2) := by decide +kernel
theorem dX6_waysOf_54 : decode cX6_waysOf 54 = .ok (.iload_n 2, 1) := by decide +kernel
theorem dX6_waysOf_55 : decode cX6_waysOf 55 = .ok (.isub, 1) := by decide +kernel
theorem dX6_waysOf_56 : decode cX6_waysOf 56 = .ok (.i2l, 1) := by decide +kernel
theorem dX6_waysOf_57 : decode cX6_waysOf 57 = .ok (.lmul, 1) := by decide +kernel
theorem dX6_waysOf_58 : decode cX6_waysOf 58 = .ok (.lstore_n 3, 1) := by decide +kernel
theorem dX6_waysOf_59 : decode cX6_waysOf 59 = .ok (.iinc 5 1, 3) := by decide +kernel
theorem dX6_waysOf_62 : decode cX6_waysOf 62 = .ok (.goto (-28), 3) := by decide +kernel
theorem dX6_waysOf_65 : decode cX6_waysOf 65 = .ok (.lload_n 3, 1) := by decide +kernel
theorem dX6_waysOf_66 : decode cX6_waysOf 66 = .ok (.lreturn, 1) := by decide +kernel
theorem dX6_whole_0 : decode cX6_whole 0 = .ok (.lconst 1, 1) := by decide +kernel
theorem dX6_whole_1 : decode cX6_whole 1 = .ok (.lstore_n 1, 1) := by decide +kernel
theorem dX6_whole_2 : decode cX6_whole 2 = .ok (.iconst 0, 1) := by decide +kernel
theorem dX6_whole_3 : decode cX6_whole 3 = .ok (.istore_n 3, 1) := by decide +kernel
theorem dX6_whole_4 : decode cX6_whole 4 = .ok (.iload_n 3, 1) := by decide +kernel
theorem dX6_whole_5 : decode cX6_whole 5 = .ok (.iload_n 0, 1) := by decide +kernel
theorem dX6_whole_6 : decode cX6_whole 6 = .ok (.if_icmp .ge 15, 3) := by decide +kernel
theorem dX6_whole_9 : decode cX6_whole 9 = .ok (.lload_n 1, 1) := by decide +kernel
theorem dX6_whole_10 : decode cX6_whole 10 = .ok (.ldc2_w 239, 3) := by decide +kernel
theorem dX6_whole_13 : decode cX6_whole 13 = .ok (.lmul, 1) := by decide +kernel
theorem dX6_whole_14 : decode cX6_whole 14 = .ok (.lstore_n 1, 1) := by decide +kernel
theorem dX6_whole_15 : decode cX6_whole 15 = .ok (.iinc 3 1, 3) := by decide +kernel
theorem dX6_whole_18 : decode cX6_whole 18 = .ok (.goto (-14), 3) := by decide +kernel
theorem dX6_whole_21 : decode cX6_whole 21 = .ok (.lload_n 1, 1) := by decide +kernel
theorem dX6_whole_22 : decode cX6_whole 22 = .ok (.lreturn, 1) := by decide +kernel
theorem dX6_odds_0 : decode cX6_odds 0 = .ok (.aload_n 0, 1) := by decide +kernel
theorem dX6_odds_1 : decode cX6_odds 1 = .ok (.iload_n 1, 1) := by decide +kernel
theorem dX6_odds_2 : decode cX6_odds 2 = .ok (.invokevirtual 150, 3) := by decide +kernel
theorem dX6_odds_5 : decode cX6_odds 5 = .ok (.ifCond .eq 23, 3) := by decide +kernel
theorem dX6_odds_8 : decode cX6_odds 8 = .ok (.iload_n 2, 1) := by decide +kernel
theorem dX6_odds_9 : decode cX6_odds 9 = .ok (.iconst 0, 1) := by decide +kernel
theorem dX6_odds_10 : decode cX6_odds 10 = .ok (.bipush 8, 2) := by decide +kernel
theorem dX6_odds_12 : decode cX6_odds 12 = .ok (.invokestatic 69, 3) := by decide +kernel
theorem dX6_odds_15 : decode cX6_odds 15 = .ok (.ifCond .eq 13, 3) := by decide +kernel
theorem dX6_odds_18 : decode cX6_odds 18 = .ok (.iload_n 3, 1) := by decide +kernel
theorem dX6_odds_19 : decode cX6_odds 19 = .ok (.iconst 0, 1) := by decide +kernel
theorem dX6_odds_20 : decode cX6_odds 20 = .ok (.bipush 12, 2) := by decide +kernel
theorem dX6_odds_22 : decode cX6_odds 22 = .ok (.invokestatic 69, 3) := by decide +kernel
theorem dX6_odds_25 : decode cX6_odds 25 = .ok (.ifCond .ne 5, 3) := by decide +kernel
theorem dX6_odds_28 : decode cX6_odds 28 = .ok (.iconst (-1), 1) := by decide +kernel
theorem dX6_odds_29 : decode cX6_odds 29 = .ok (.ireturn, 1) := by decide +kernel
theorem dX6_odds_30 : decode cX6_odds 30 = .ok (.aload_n 0, 1) := by decide +kernel
theorem dX6_odds_31 : decode cX6_odds 31 = .ok (.iload_n 1, 1) := by decide +kernel
theorem dX6_odds_32 : decode cX6_odds 32 = .ok (.invokevirtual 147, 3) := by decide +kernel
theorem dX6_odds_35 : decode cX6_odds 35 = .ok (.istore 4, 2) := by decide +kernel
theorem dX6_odds_37 : decode cX6_odds 37 = .ok (.lconst 0, 1) := by decide +kernel
theorem dX6_odds_38 : decode cX6_odds 38 = .ok (.lstore 5, 2) := by decide +kernel
theorem dX6_odds_40 : decode cX6_odds 40 = .ok (.iconst 0, 1) := by decide +kernel
theorem dX6_odds_41 : decode cX6_odds 41 = .ok (.istore 7, 2) := by decide +kernel
theorem dX6_odds_43 : decode cX6_odds 43 = .ok (.iload 7, 2) := by decide +kernel
theorem dX6_odds_45 : decode cX6_odds 45 = .ok (.iload_n 2, 1) := by decide +kernel
theorem dX6_odds_46 : decode cX6_odds 46 = .ok (.if_icmp .gt 39, 3) := by decide +kernel
theorem dX6_odds_49 : decode cX6_odds 49 = .ok (.lload 5, 2) := by decide +kernel
theorem dX6_odds_51 : decode cX6_odds 51 = .ok (.iload 4, 2) := by decide +kernel
theorem dX6_odds_53 : decode cX6_odds 53 = .ok (.bipush (-9), 2) := by decide +kernel
theorem dX6_odds_55 : decode cX6_odds 55 = .ok (.if_icmp .eq 20, 3) := by decide +kernel
theorem dX6_odds_58 : decode cX6_odds 58 = .ok (.iload 7, 2) := by decide +kernel
theorem dX6_odds_60 : decode cX6_odds 60 = .ok (.iload 4, 2) := by decide +kernel
theorem dX6_odds_62 : decode cX6_odds 62 = .ok (.if_icmp .lt 13, 3) := by decide +kernel
theorem dX6_odds_65 : decode cX6_odds 65 = .ok (.iload_n 2, 1) := by decide +kernel
theorem dX6_odds_66 : decode cX6_odds 66 = .ok (.iload 7, 2) := by decide +kernel
theorem dX6_odds_68 : decode cX6_odds 68 = .ok (.iload_n 3, 1) := by decide +kernel
theorem dX6_odds_69 : decode cX6_odds 69 = .ok (.invokestatic 241, 3) := by decide +kernel
theorem dX6_odds_72 : decode cX6_odds 72 = .ok (.goto 4, 3) := by decide +kernel
theorem dX6_odds_75 : decode cX6_odds 75 = .ok (.lconst 0, 1) := by decide +kernel
theorem dX6_odds_76 : decode cX6_odds 76 = .ok (.ladd, 1) := by decide +kernel
theorem dX6_odds_77 : decode cX6_odds 77 = .ok (.lstore 5, 2) := by decide +kernel
theorem dX6_odds_79 : decode cX6_odds 79 = .ok (.iinc 7 1, 3) := by decide +kernel
theorem dX6_odds_82 : decode cX6_odds 82 = .ok (.goto (-39), 3) := by decide +kernel
theorem dX6_odds_85 : decode cX6_odds 85 = .ok (.aload_n 0, 1) := by decide +kernel
theorem dX6_odds_86 : decode cX6_odds 86 = .ok (.lload 5, 2) := by decide +kernel
theorem dX6_odds_88 : decode cX6_odds 88 = .ok (.iload_n 2, 1) := by decide +kernel
theorem dX6_odds_89 : decode cX6_odds 89 = .ok (.invokestatic 245, 3) := by decide +kernel
theorem dX6_odds_92 : decode cX6_odds 92 = .ok (.invokevirtual 249, 3) := by decide +kernel
theorem dX6_odds_95 : decode cX6_odds 95 = .ok (.iconst 1, 1) := by decide +kernel
theorem dX6_odds_96 : decode cX6_odds 96 = .ok (.ireturn, 1) := by decide +kernel
theorem dX6_mid_0 : decode cX6_mid 0 = .ok (.aload_n 0, 1) := by decide +kernel
theorem dX6_mid_1 : decode cX6_mid 1 = .ok (.iload_n 1, 1) := by decide +kernel
theorem dX6_mid_2 : decode cX6_mid 2 = .ok (.invokevirtual 150, 3) := by decide +kernel
theorem dX6_mid_5 : decode cX6_mid 5 = .ok (.ifCond .eq 23, 3) := by decide +kernel
theorem dX6_mid_8 : decode cX6_mid 8 = .ok (.iload_n 2, 1) := by decide +kernel
theorem dX6_mid_9 : decode cX6_mid 9 = .ok (.iconst 0, 1) := by decide +kernel
theorem dX6_mid_10 : decode cX6_mid 10 = .ok (.bipush 8, 2) := by decide +kernel
theorem dX6_mid_12 : decode cX6_mid 12 = .ok (.invokestatic 69, 3) := by decide +kernel
theorem dX6_mid_15 : decode cX6_mid 15 = .ok (.ifCond .eq 13, 3) := by decide +kernel
theorem dX6_mid_18 : decode cX6_mid 18 = .ok (.iload_n 3, 1) := by decide +kernel
theorem dX6_mid_19 : decode cX6_mid 19 = .ok (.iconst 0, 1) := by decide +kernel
theorem dX6_mid_20 : decode cX6_mid 20 = .ok (.bipush 12, 2) := by decide +kernel
theorem dX6_mid_22 : decode cX6_mid 22 = .ok (.invokestatic 69, 3) := by decide +kernel
theorem dX6_mid_25 : decode cX6_mid 25 = .ok (.ifCond .ne 5, 3) := by decide +kernel
theorem dX6_mid_28 : decode cX6_mid 28 = .ok (.iconst (-1), 1) := by decide +kernel
theorem dX6_mid_29 : decode cX6_mid 29 = .ok (.ireturn, 1) := by decide +kernel
theorem dX6_mid_30 : decode cX6_mid 30 = .ok (.aload_n 0, 1) := by decide +kernel
theorem dX6_mid_31 : decode cX6_mid 31 = .ok (.iload_n 1, 1) := by decide +kernel
theorem dX6_mid_32 : decode cX6_mid 32 = .ok (.invokevirtual 147, 3) := by decide +kernel
theorem dX6_mid_35 : decode cX6_mid 35 = .ok (.istore 4, 2) := by decide +kernel
theorem dX6_mid_37 : decode cX6_mid 37 = .ok (.iload 4, 2) := by decide +kernel
theorem dX6_mid_39 : decode cX6_mid 39 = .ok (.bipush (-9), 2) := by decide +kernel
theorem dX6_mid_41 : decode cX6_mid 41 = .ok (.if_icmp .ne 9, 3) := by decide +kernel
theorem dX6_mid_44 : decode cX6_mid 44 = .ok (.aload_n 0, 1) := by decide +kernel
theorem dX6_mid_45 : decode cX6_mid 45 = .ok (.iconst 4, 1) := by decide +kernel
theorem dX6_mid_46 : decode cX6_mid 46 = .ok (.invokevirtual 73, 3) := by decide +kernel
theorem dX6_mid_49 : decode cX6_mid 49 = .ok (.ireturn, 1) := by decide +kernel
theorem dX6_mid_50 : decode cX6_mid 50 = .ok (.lconst 0, 1) := by decide +kernel
theorem dX6_mid_51 : decode cX6_mid 51 = .ok (.lstore 5, 2) := by decide +kernel
theorem dX6_mid_53 : decode cX6_mid 53 = .ok (.iconst 0, 1) := by decide +kernel
theorem dX6_mid_54 : decode cX6_mid 54 = .ok (.istore 7, 2) := by decide +kernel
theorem dX6_mid_56 : decode cX6_mid 56 = .ok (.iload 7, 2) := by decide +kernel
theorem dX6_mid_58 : decode cX6_mid 58 = .ok (.iload_n 2, 1) := by decide +kernel
theorem dX6_mid_59 : decode cX6_mid 59 = .ok (.if_icmp .gt 39, 3) := by decide +kernel
theorem dX6_mid_62 : decode cX6_mid 62 = .ok (.lload 5, 2) := by decide +kernel
theorem dX6_mid_64 : decode cX6_mid 64 = .ok (.iload 7, 2) := by decide +kernel
theorem dX6_mid_66 : decode cX6_mid 66 = .ok (.iload 4, 2) := by decide +kernel
theorem dX6_mid_68 : decode cX6_mid 68 = .ok (.if_icmp .ge 20, 3) := by decide +kernel
theorem dX6_mid_71 : decode cX6_mid 71 = .ok (.iload_n 2, 1) := by decide +kernel
theorem dX6_mid_72 : decode cX6_mid 72 = .ok (.iload 7, 2) := by decide +kernel
theorem dX6_mid_74 : decode cX6_mid 74 = .ok (.iload_n 3, 1) := by decide +kernel
theorem dX6_mid_75 : decode cX6_mid 75 = .ok (.invokestatic 241, 3) := by decide +kernel
theorem dX6_mid_78 : decode cX6_mid 78 = .ok (.iload 4, 2) := by decide +kernel
theorem dX6_mid_80 : decode cX6_mid 80 = .ok (.iload 7, 2) := by decide +kernel
theorem dX6_mid_82 : decode cX6_mid 82 = .ok (.isub, 1) := by decide +kernel
theorem dX6_mid_83 : decode cX6_mid 83 = .ok (.i2l, 1) := by decide +kernel
theorem dX6_mid_84 : decode cX6_mid 84 = .ok (.lmul, 1) := by decide +kernel
theorem dX6_mid_85 : decode cX6_mid 85 = .ok (.goto 4, 3) := by decide +kernel
theorem dX6_mid_88 : decode cX6_mid 88 = .ok (.lconst 0, 1) := by decide +kernel
theorem dX6_mid_89 : decode cX6_mid 89 = .ok (.ladd, 1) := by decide +kernel
theorem dX6_mid_90 : decode cX6_mid 90 = .ok (.lstore 5, 2) := by decide +kernel
theorem dX6_mid_92 : decode cX6_mid 92 = .ok (.iinc 7 1, 3) := by decide +kernel
theorem dX6_mid_95 : decode cX6_mid 95 = .ok (.goto (-39), 3) := by decide +kernel
theorem dX6_mid_98 : decode cX6_mid 98 = .ok (.aload_n 0, 1) := by decide +kernel
theorem dX6_mid_99 : decode cX6_mid 99 = .ok (.lload 5, 2) := by decide +kernel
theorem dX6_mid_101 : decode cX6_mid 101 = .ok (.iload_n 2, 1) := by decide +kernel
theorem dX6_mid_102 : decode cX6_mid 102 = .ok (.invokestatic 245, 3) := by decide +kernel
theorem dX6_mid_105 : decode cX6_mid 105 = .ok (.invokevirtual 249, 3) := by decide +kernel
theorem dX6_mid_108 : decode cX6_mid 108 = .ok (.iconst 1, 1) := by decide +kernel
theorem dX6_mid_109 : decode cX6_mid 109 = .ok (.ireturn, 1) := by decide +kernel
theorem dX6_lots_0 : decode cX6_lots 0 = .ok (.iload_n 1, 1) := by decide +kernel
theorem dX6_lots_1 : decode cX6_lots 1 = .ok (.iconst 1, 1) := by decide +kernel
theorem dX6_lots_2 : decode cX6_lots 2 = .ok (.bipush 20, 2) := by decide +kernel
theorem dX6_lots_4 : decode cX6_lots 4 = .ok (.invokestatic 69, 3) := by decide +kernel
theorem dX6_lots_7 : decode cX6_lots 7 = .ok (.ifCond .eq 13, 3) := by decide +kernel
theorem dX6_lots_10 : decode cX6_lots 10 = .ok (.iload_n 2, 1) := by decide +kernel
theorem dX6_lots_11 : decode cX6_lots 11 = .ok (.iconst 1, 1) := by decide +kernel
theorem dX6_lots_12 : decode cX6_lots 12 = .ok (.ldc 253, 2) := by decide +kernel
theorem dX6_lots_14 : decode cX6_lots 14 = .ok (.invokestatic 69, 3) := by decide +kernel
theorem dX6_lots_17 : decode cX6_lots 17 = .ok (.ifCond .ne 5, 3) := by decide +kernel
theorem dX6_lots_20 : decode cX6_lots 20 = .ok (.iconst (-1), 1) := by decide +kernel
theorem dX6_lots_21 : decode cX6_lots 21 = .ok (.ireturn, 1) := by decide +kernel
theorem dX6_lots_22 : decode cX6_lots 22 = .ok (.aload_n 0, 1) := by decide +kernel
theorem dX6_lots_23 : decode cX6_lots 23 = .ok (.getfield 66, 3) := by decide +kernel
theorem dX6_lots_26 : decode cX6_lots 26 = .ok (.ifCond .ne 6, 3) := by decide +kernel
theorem dX6_lots_29 : decode cX6_lots 29 = .ok (.bipush (-4), 2) := by decide +kernel
theorem dX6_lots_31 : decode cX6_lots 31 = .ok (.ireturn, 1) := by decide +kernel
theorem dX6_lots_32 : decode cX6_lots 32 = .ok (.aload_n 0, 1) := by decide +kernel
theorem dX6_lots_33 : decode cX6_lots 33 = .ok (.getfield 134, 3) := by decide +kernel
theorem dX6_lots_36 : decode cX6_lots 36 = .ok (.iload_n 1, 1) := by decide +kernel
theorem dX6_lots_37 : decode cX6_lots 37 = .ok (.iadd, 1) := by decide +kernel
theorem dX6_lots_38 : decode cX6_lots 38 = .ok (.bipush 40, 2) := by decide +kernel
theorem dX6_lots_40 : decode cX6_lots 40 = .ok (.if_icmp .le 6, 3) := by decide +kernel
theorem dX6_lots_43 : decode cX6_lots 43 = .ok (.bipush (-2), 2) := by decide +kernel
theorem dX6_lots_45 : decode cX6_lots 45 = .ok (.ireturn, 1) := by decide +kernel
theorem dX6_lots_46 : decode cX6_lots 46 = .ok (.iload_n 2, 1) := by decide +kernel
theorem dX6_lots_47 : decode cX6_lots 47 = .ok (.i2l, 1) := by decide +kernel
theorem dX6_lots_48 : decode cX6_lots 48 = .ok (.lstore_n 3, 1) := by decide +kernel
theorem dX6_lots_49 : decode cX6_lots 49 = .ok (.iconst 0, 1) := by decide +kernel
theorem dX6_lots_50 : decode cX6_lots 50 = .ok (.istore 5, 2) := by decide +kernel
theorem dX6_lots_52 : decode cX6_lots 52 = .ok (.iload 5, 2) := by decide +kernel
theorem dX6_lots_54 : decode cX6_lots 54 = .ok (.iload_n 1, 1) := by decide +kernel
theorem dX6_lots_55 : decode cX6_lots 55 = .ok (.if_icmp .ge 114, 3) := by decide +kernel
theorem dX6_lots_58 : decode cX6_lots 58 = .ok (.lload_n 3, 1) := by decide +kernel
theorem dX6_lots_59 : decode cX6_lots 59 = .ok (.ldc2_w 254, 3) := by decide +kernel
theorem dX6_lots_62 : decode cX6_lots 62 = .ok (.lmul, 1) := by decide +kernel
theorem dX6_lots_63 : decode cX6_lots 63 = .ok (.ldc2_w 256, 3) := by decide +kernel
theorem dX6_lots_66 : decode cX6_lots 66 = .ok (.lrem, 1) := by decide +kernel
theorem dX6_lots_67 : decode cX6_lots 67 = .ok (.lstore_n 3, 1) := by decide +kernel
theorem dX6_lots_68 : decode cX6_lots 68 = .ok (.lload_n 3, 1) := by decide +kernel
theorem dX6_lots_69 : decode cX6_lots 69 = .ok (.ldc2_w 258, 3) := by decide +kernel
theorem dX6_lots_72 : decode cX6_lots 72 = .ok (.ldiv, 1) := by decide +kernel
theorem dX6_lots_73 : decode cX6_lots 73 = .ok (.ldc2_w 258, 3) := by decide +kernel
theorem dX6_lots_76 : decode cX6_lots 76 = .ok (.lrem, 1) := by decide +kernel
theorem dX6_lots_77 : decode cX6_lots 77 = .ok (.l2i, 1) := by decide +kernel
theorem dX6_lots_78 : decode cX6_lots 78 = .ok (.istore 6, 2) := by decide +kernel
theorem dX6_lots_80 : decode cX6_lots 80 = .ok (.lload_n 3, 1) := by decide +kernel
theorem dX6_lots_81 : decode cX6_lots 81 = .ok (.aload_n 0, 1) := by decide +kernel
theorem dX6_lots_82 : decode cX6_lots 82 = .ok (.getfield 66, 3) := by decide +kernel
theorem dX6_lots_85 : decode cX6_lots 85 = .ok (.i2l, 1) := by decide +kernel
theorem dX6_lots_86 : decode cX6_lots 86 = .ok (.lrem, 1) := by decide +kernel
theorem dX6_lots_87 : decode cX6_lots 87 = .ok (.l2i, 1) := by decide +kernel
theorem dX6_lots_88 : decode cX6_lots 88 = .ok (.istore 7, 2) := by decide +kernel
theorem dX6_lots_90 : decode cX6_lots 90 = .ok (.aload_n 0, 1) := by decide +kernel
theorem dX6_lots_91 : decode cX6_lots 91 = .ok (.invokevirtual 179, 3) := by decide +kernel
theorem dX6_lots_94 : decode cX6_lots 94 = .ok (.iload 6, 2) := by decide +kernel
theorem dX6_lots_96 : decode cX6_lots 96 = .ok (.iconst 2, 1) := by decide +kernel
theorem dX6_lots_97 : decode cX6_lots 97 = .ok (.if_icmp .ge 12, 3) := by decide +kernel
theorem dX6_lots_100 : decode cX6_lots 100 = .ok (.aload_n 0, 1) := by decide +kernel
theorem dX6_lots_101 : decode cX6_lots 101 = .ok (.iload 7, 2) := by decide +kernel
theorem dX6_lots_103 : decode cX6_lots 103 = .ok (.invokevirtual 182, 3) := by decide +kernel
theorem dX6_lots_106 : decode cX6_lots 106 = .ok (.goto 57, 3) := by decide +kernel
theorem dX6_lots_109 : decode cX6_lots 109 = .ok (.iload 6, 2) := by decide +kernel
theorem dX6_lots_111 : decode cX6_lots 111 = .ok (.bipush 6, 2) := by decide +kernel
theorem dX6_lots_113 : decode cX6_lots 113 = .ok (.if_icmp .ge 10, 3) := by decide +kernel
theorem dX6_lots_116 : decode cX6_lots 116 = .ok (.aload_n 0, 1) := by decide +kernel
theorem dX6_lots_117 : decode cX6_lots 117 = .ok (.invokevirtual 186, 3) := by decide +kernel
theorem dX6_lots_120 : decode cX6_lots 120 = .ok (.goto 43, 3) := by decide +kernel
theorem dX6_lots_123 : decode cX6_lots 123 = .ok (.iload 6, 2) := by decide +kernel
theorem dX6_lots_125 : decode cX6_lots 125 = .ok (.bipush 6, 2) := by decide +kernel
theorem dX6_lots_127 : decode cX6_lots 127 = .ok (.if_icmp .ne 22, 3) := by decide +kernel
theorem dX6_lots_130 : decode cX6_lots 130 = .ok (.aload_n 0, 1) := by decide +kernel
theorem dX6_lots_131 : decode cX6_lots 131 = .ok (.iload 7, 2) := by decide +kernel
theorem dX6_lots_133 : decode cX6_lots 133 = .ok (.lload_n 3, 1) := by decide +kernel
theorem dX6_lots_134 : decode cX6_lots 134 = .ok (.ldc2_w 260, 3) := by decide +kernel
theorem dX6_lots_137 : decode cX6_lots 137 = .ok (.ldiv, 1) := by decide +kernel
theorem dX6_lots_138 : decode cX6_lots 138 = .ok (.ldc2_w 262, 3) := by decide +kernel
theorem dX6_lots_141 : decode cX6_lots 141 = .ok (.lrem, 1) := by decide +kernel
theorem dX6_lots_142 : decode cX6_lots 142 = .ok (.l2i, 1) := by decide +kernel
theorem dX6_lots_143 : decode cX6_lots 143 = .ok (.invokevirtual 189, 3) := by decide +kernel
theorem dX6_lots_146 : decode cX6_lots 146 = .ok (.goto 17, 3) := by decide +kernel
theorem dX6_lots_149 : decode cX6_lots 149 = .ok (.aload_n 0, 1) := by decide +kernel
theorem dX6_lots_150 : decode cX6_lots 150 = .ok (.getfield 38, 3) := by decide +kernel
theorem dX6_lots_153 : decode cX6_lots 153 = .ok (.iconst 3, 1) := by decide +kernel
theorem dX6_lots_154 : decode cX6_lots 154 = .ok (.iconst 1, 1) := by decide +kernel
theorem dX6_lots_155 : decode cX6_lots 155 = .ok (.aload_n 0, 1) := by decide +kernel
theorem dX6_lots_156 : decode cX6_lots 156 = .ok (.getfield 38, 3) := by decide +kernel
theorem dX6_lots_159 : decode cX6_lots 159 = .ok (.iconst 3, 1) := by decide +kernel
theorem dX6_lots_160 : decode cX6_lots 160 = .ok (.iaload, 1) := by decide +kernel
theorem dX6_lots_161 : decode cX6_lots 161 = .ok (.isub, 1) := by decide +kernel
theorem dX6_lots_162 : decode cX6_lots 162 = .ok (.iastore, 1) := by decide +kernel
theorem dX6_lots_163 : decode cX6_lots 163 = .ok (.iinc 5 1, 3) := by decide +kernel
theorem dX6_lots_166 : decode cX6_lots 166 = .ok (.goto (-114), 3) := by decide +kernel
theorem dX6_lots_169 : decode cX6_lots 169 = .ok (.aload_n 0, 1) := by decide +kernel
theorem dX6_lots_170 : decode cX6_lots 170 = .ok (.invokevirtual 163, 3) := by decide +kernel
theorem dX6_lots_173 : decode cX6_lots 173 = .ok (.invokestatic 166, 3) := by decide +kernel
theorem dX6_lots_176 : decode cX6_lots 176 = .ok (.ireturn, 1) := by decide +kernel
theorem dX6_asked_0 : decode cX6_asked 0 = .ok (.aload_n 0, 1) := by decide +kernel
theorem dX6_asked_1 : decode cX6_asked 1 = .ok (.getfield 63, 3) := by decide +kernel
theorem dX6_asked_4 : decode cX6_asked 4 = .ok (.ireturn, 1) := by decide +kernel
theorem dX6_upper_0 : decode cX6_upper 0 = .ok (.aload_n 0, 1) := by decide +kernel
theorem dX6_upper_1 : decode cX6_upper 1 = .ok (.getfield 233, 3) := by decide +kernel
theorem dX6_upper_4 : decode cX6_upper 4 = .ok (.lreturn, 1) := by decide +kernel
theorem dX6_lower_0 : decode cX6_lower 0 = .ok (.aload_n 0, 1) := by decide +kernel
theorem dX6_lower_1 : decode cX6_lower 1 = .ok (.getfield 25, 3) := by decide +kernel
theorem dX6_lower_4 : decode cX6_lower 4 = .ok (.lreturn, 1) := by decide +kernel
theorem dX6_thereOf_0 : decode cX6_thereOf 0 = .ok (.iconst 0, 1) := by decide +kernel
theorem dX6_thereOf_1 : decode cX6_thereOf 1 = .ok (.istore_n 1, 1) := by decide +kernel
theorem dX6_thereOf_2 : decode cX6_thereOf 2 = .ok (.aload_n 0, 1) := by decide +kernel
theorem dX6_thereOf_3 : decode cX6_thereOf 3 = .ok (.astore_n 2, 1) := by decide +kernel
theorem dX6_thereOf_4 : decode cX6_thereOf 4 = .ok (.aload_n 2, 1) := by decide +kernel
theorem dX6_thereOf_5 : decode cX6_thereOf 5 = .ok (.arraylength, 1) := by decide +kernel
theorem dX6_thereOf_6 : decode cX6_thereOf 6 = .ok (.istore_n 3, 1) := by decide +kernel
theorem dX6_thereOf_7 : decode cX6_thereOf 7 = .ok (.iconst 0, 1) := by decide +kernel
theorem dX6_thereOf_8 : decode cX6_thereOf 8 = .ok (.istore 4, 2) := by decide +kernel
theorem dX6_thereOf_10 : decode cX6_thereOf 10 = .ok (.iload 4, 2) := by decide +kernel
theorem dX6_thereOf_12 : decode cX6_thereOf 12 = .ok (.iload_n 3, 1) := by decide +kernel
theorem dX6_thereOf_13 : decode cX6_thereOf 13 = .ok (.if_icmp .ge 28, 3) := by decide +kernel
theorem dX6_thereOf_16 : decode cX6_thereOf 16 = .ok (.aload_n 2, 1) := by decide +kernel
theorem dX6_thereOf_17 : decode cX6_thereOf 17 = .ok (.iload 4, 2) := by decide +kernel
theorem dX6_thereOf_19 : decode cX6_thereOf 19 = .ok (.iaload, 1) := by decide +kernel
theorem dX6_thereOf_20 : decode cX6_thereOf 20 = .ok (.istore 5, 2) := by decide +kernel
theorem dX6_thereOf_22 : decode cX6_thereOf 22 = .ok (.iload_n 1, 1) := by decide +kernel
theorem dX6_thereOf_23 : decode cX6_thereOf 23 = .ok (.iload 5, 2) := by decide +kernel
theorem dX6_thereOf_25 : decode cX6_thereOf 25 = .ok (.ifCond .ge 7, 3) := by decide +kernel
theorem dX6_thereOf_28 : decode cX6_thereOf 28 = .ok (.iconst 0, 1) := by decide +kernel
theorem dX6_thereOf_29 : decode cX6_thereOf 29 = .ok (.goto 4, 3) := by decide +kernel
theorem dX6_thereOf_32 : decode cX6_thereOf 32 = .ok (.iconst 1, 1) := by decide +kernel
theorem dX6_thereOf_33 : decode cX6_thereOf 33 = .ok (.iadd, 1) := by decide +kernel
theorem dX6_thereOf_34 : decode cX6_thereOf 34 = .ok (.istore_n 1, 1) := by decide +kernel
theorem dX6_thereOf_35 : decode cX6_thereOf 35 = .ok (.iinc 4 1, 3) := by decide +kernel
theorem dX6_thereOf_38 : decode cX6_thereOf 38 = .ok (.goto (-28), 3) := by decide +kernel
theorem dX6_thereOf_41 : decode cX6_thereOf 41 = .ok (.iload_n 1, 1) := by decide +kernel
theorem dX6_thereOf_42 : decode cX6_thereOf 42 = .ok (.ireturn, 1) := by decide +kernel
theorem dX6_kindMany_0 : decode cX6_kindMany 0 = .ok (.iconst 0, 1) := by decide +kernel
theorem dX6_kindMany_1 : decode cX6_kindMany 1 = .ok (.istore_n 2, 1) := by decide +kernel
theorem dX6_kindMany_2 : decode cX6_kindMany 2 = .ok (.iconst 0, 1) := by decide +kernel
theorem dX6_kindMany_3 : decode cX6_kindMany 3 = .ok (.istore_n 3, 1) := by decide +kernel
theorem dX6_kindMany_4 : decode cX6_kindMany 4 = .ok (.iload_n 3, 1) := by decide +kernel
theorem dX6_kindMany_5 : decode cX6_kindMany 5 = .ok (.aload_n 0, 1) := by decide +kernel
theorem dX6_kindMany_6 : decode cX6_kindMany 6 = .ok (.getfield 66, 3) := by decide +kernel
theorem dX6_kindMany_9 : decode cX6_kindMany 9 = .ok (.if_icmp .ge 30, 3) := by decide +kernel
theorem dX6_kindMany_12 : decode cX6_kindMany 12 = .ok (.iload_n 2, 1) := by decide +kernel
theorem dX6_kindMany_13 : decode cX6_kindMany 13 = .ok (.aload_n 0, 1) := by decide +kernel
theorem dX6_kindMany_14 : decode cX6_kindMany 14 = .ok (.getfield 32, 3) := by decide +kernel
theorem dX6_kindMany_17 : decode cX6_kindMany 17 = .ok (.iload_n 3, 1) := by decide +kernel
theorem dX6_kindMany_18 : decode cX6_kindMany 18 = .ok (.iaload, 1) := by decide +kernel
theorem dX6_kindMany_19 : decode cX6_kindMany 19 = .ok (.iload_n 1, 1) := by decide +kernel
theorem dX6_kindMany_20 : decode cX6_kindMany 20 = .ok (.invokestatic 156, 3) := by decide +kernel
theorem dX6_kindMany_23 : decode cX6_kindMany 23 = .ok (.ifCond .eq 7, 3) := by decide +kernel
theorem dX6_kindMany_26 : decode cX6_kindMany 26 = .ok (.iconst 1, 1) := by decide +kernel
theorem dX6_kindMany_27 : decode cX6_kindMany 27 = .ok (.goto 4, 3) := by decide +kernel
theorem dX6_kindMany_30 : decode cX6_kindMany 30 = .ok (.iconst 0, 1) := by decide +kernel
theorem dX6_kindMany_31 : decode cX6_kindMany 31 = .ok (.iadd, 1) := by decide +kernel
theorem dX6_kindMany_32 : decode cX6_kindMany 32 = .ok (.istore_n 2, 1) := by decide +kernel
theorem dX6_kindMany_33 : decode cX6_kindMany 33 = .ok (.iinc 3 1, 3) := by decide +kernel
theorem dX6_kindMany_36 : decode cX6_kindMany 36 = .ok (.goto (-32), 3) := by decide +kernel
theorem dX6_kindMany_39 : decode cX6_kindMany 39 = .ok (.iload_n 2, 1) := by decide +kernel
theorem dX6_kindMany_40 : decode cX6_kindMany 40 = .ok (.ireturn, 1) := by decide +kernel
theorem dX6_count_0 : decode cX6_count 0 = .ok (.iload_n 1, 1) := by decide +kernel
theorem dX6_count_1 : decode cX6_count 1 = .ok (.tableswitch 162 0 13 #[71, 76, 83, 90, 95, 102, 109, 114, 121, 127, 133, 141, 149, 157], 71) := by decide +kernel
theorem dX6_count_72 : decode cX6_count 72 = .ok (.aload_n 0, 1) := by decide +kernel
theorem dX6_count_73 : decode cX6_count 73 = .ok (.getfield 66, 3) := by decide +kernel
theorem dX6_count_76 : decode cX6_count 76 = .ok (.ireturn, 1) := by decide +kernel
theorem dX6_count_77 : decode cX6_count 77 = .ok (.aload_n 0, 1) := by decide +kernel
theorem dX6_count_78 : decode cX6_count 78 = .ok (.getfield 38, 3) := by decide +kernel
theorem dX6_count_81 : decode cX6_count 81 = .ok (.iconst 0, 1) := by decide +kernel
theorem dX6_count_82 : decode cX6_count 82 = .ok (.iaload, 1) := by decide +kernel
theorem dX6_count_83 : decode cX6_count 83 = .ok (.ireturn, 1) := by decide +kernel
theorem dX6_count_84 : decode cX6_count 84 = .ok (.aload_n 0, 1) := by decide +kernel
theorem dX6_count_85 : decode cX6_count 85 = .ok (.getfield 38, 3) := by decide +kernel
theorem dX6_count_88 : decode cX6_count 88 = .ok (.iconst 1, 1) := by decide +kernel
theorem dX6_count_89 : decode cX6_count 89 = .ok (.iaload, 1) := by decide +kernel
theorem dX6_count_90 : decode cX6_count 90 = .ok (.ireturn, 1) := by decide +kernel
theorem dX6_count_91 : decode cX6_count 91 = .ok (.aload_n 0, 1) := by decide +kernel
theorem dX6_count_92 : decode cX6_count 92 = .ok (.getfield 134, 3) := by decide +kernel
theorem dX6_count_95 : decode cX6_count 95 = .ok (.ireturn, 1) := by decide +kernel
theorem dX6_count_96 : decode cX6_count 96 = .ok (.aload_n 0, 1) := by decide +kernel
theorem dX6_count_97 : decode cX6_count 97 = .ok (.getfield 38, 3) := by decide +kernel
theorem dX6_count_100 : decode cX6_count 100 = .ok (.iconst 2, 1) := by decide +kernel
theorem dX6_count_101 : decode cX6_count 101 = .ok (.iaload, 1) := by decide +kernel
theorem dX6_count_102 : decode cX6_count 102 = .ok (.ireturn, 1) := by decide +kernel
theorem dX6_count_103 : decode cX6_count 103 = .ok (.aload_n 0, 1) := by decide +kernel
theorem dX6_count_104 : decode cX6_count 104 = .ok (.getfield 38, 3) := by decide +kernel
theorem dX6_count_107 : decode cX6_count 107 = .ok (.iconst 3, 1) := by decide +kernel
theorem dX6_count_108 : decode cX6_count 108 = .ok (.iaload, 1) := by decide +kernel
theorem dX6_count_109 : decode cX6_count 109 = .ok (.ireturn, 1) := by decide +kernel
theorem dX6_count_110 : decode cX6_count 110 = .ok (.aload_n 0, 1) := by decide +kernel
theorem dX6_count_111 : decode cX6_count 111 = .ok (.invokevirtual 163, 3) := by decide +kernel
theorem dX6_count_114 : decode cX6_count 114 = .ok (.ireturn, 1) := by decide +kernel
theorem dX6_count_115 : decode cX6_count 115 = .ok (.aload_n 0, 1) := by decide +kernel
theorem dX6_count_116 : decode cX6_count 116 = .ok (.getfield 38, 3) := by decide +kernel
theorem dX6_count_119 : decode cX6_count 119 = .ok (.iconst 4, 1) := by decide +kernel
theorem dX6_count_120 : decode cX6_count 120 = .ok (.iaload, 1) := by decide +kernel
theorem dX6_count_121 : decode cX6_count 121 = .ok (.ireturn, 1) := by decide +kernel
theorem dX6_count_122 : decode cX6_count 122 = .ok (.aload_n 0, 1) := by decide +kernel
theorem dX6_count_123 : decode cX6_count 123 = .ok (.iconst 1, 1) := by decide +kernel
theorem dX6_count_124 : decode cX6_count 124 = .ok (.invokevirtual 264, 3) := by decide +kernel
theorem dX6_count_127 : decode cX6_count 127 = .ok (.ireturn, 1) := by decide +kernel
theorem dX6_count_128 : decode cX6_count 128 = .ok (.aload_n 0, 1) := by decide +kernel
theorem dX6_count_129 : decode cX6_count 129 = .ok (.iconst 2, 1) := by decide +kernel
theorem dX6_count_130 : decode cX6_count 130 = .ok (.invokevirtual 264, 3) := by decide +kernel
theorem dX6_count_133 : decode cX6_count 133 = .ok (.ireturn, 1) := by decide +kernel
theorem dX6_count_134 : decode cX6_count 134 = .ok (.aload_n 0, 1) := by decide +kernel
theorem dX6_count_135 : decode cX6_count 135 = .ok (.getfield 7, 3) := by decide +kernel
theorem dX6_count_138 : decode cX6_count 138 = .ok (.invokestatic 267, 3) := by decide +kernel
theorem dX6_count_141 : decode cX6_count 141 = .ok (.ireturn, 1) := by decide +kernel
theorem dX6_count_142 : decode cX6_count 142 = .ok (.aload_n 0, 1) := by decide +kernel
theorem dX6_count_143 : decode cX6_count 143 = .ok (.getfield 16, 3) := by decide +kernel
theorem dX6_count_146 : decode cX6_count 146 = .ok (.invokestatic 267, 3) := by decide +kernel
theorem dX6_count_149 : decode cX6_count 149 = .ok (.ireturn, 1) := by decide +kernel
theorem dX6_count_150 : decode cX6_count 150 = .ok (.aload_n 0, 1) := by decide +kernel
theorem dX6_count_151 : decode cX6_count 151 = .ok (.getfield 50, 3) := by decide +kernel
theorem dX6_count_154 : decode cX6_count 154 = .ok (.invokestatic 267, 3) := by decide +kernel
theorem dX6_count_157 : decode cX6_count 157 = .ok (.ireturn, 1) := by decide +kernel
theorem dX6_count_158 : decode cX6_count 158 = .ok (.aload_n 0, 1) := by decide +kernel
theorem dX6_count_159 : decode cX6_count 159 = .ok (.getfield 131, 3) := by decide +kernel
theorem dX6_count_162 : decode cX6_count 162 = .ok (.ireturn, 1) := by decide +kernel
theorem dX6_count_163 : decode cX6_count 163 = .ok (.iconst (-1), 1) := by decide +kernel
theorem dX6_count_164 : decode cX6_count 164 = .ok (.ireturn, 1) := by decide +kernel
theorem dX6_finding_0 : decode cX6_finding 0 = .ok (.aload_n 0, 1) := by decide +kernel
theorem dX6_finding_1 : decode cX6_finding 1 = .ok (.getfield 59, 3) := by decide +kernel
theorem dX6_finding_4 : decode cX6_finding 4 = .ok (.ireturn, 1) := by decide +kernel
theorem dX6_findings_0 : decode cX6_findings 0 = .ok (.iload_n 1, 1) := by decide +kernel
theorem dX6_findings_1 : decode cX6_findings 1 = .ok (.iconst 1, 1) := by decide +kernel
theorem dX6_findings_2 : decode cX6_findings 2 = .ok (.iconst 5, 1) := by decide +kernel
theorem dX6_findings_3 : decode cX6_findings 3 = .ok (.invokestatic 69, 3) := by decide +kernel
theorem dX6_findings_6 : decode cX6_findings 6 = .ok (.ifCond .eq 12, 3) := by decide +kernel
theorem dX6_findings_9 : decode cX6_findings 9 = .ok (.aload_n 0, 1) := by decide +kernel
theorem dX6_findings_10 : decode cX6_findings 10 = .ok (.getfield 22, 3) := by decide +kernel
theorem dX6_findings_13 : decode cX6_findings 13 = .ok (.iload_n 1, 1) := by decide +kernel
theorem dX6_findings_14 : decode cX6_findings 14 = .ok (.iaload, 1) := by decide +kernel
theorem dX6_findings_15 : decode cX6_findings 15 = .ok (.goto 4, 3) := by decide +kernel
theorem dX6_findings_18 : decode cX6_findings 18 = .ok (.iconst (-1), 1) := by decide +kernel
theorem dX6_findings_19 : decode cX6_findings 19 = .ok (.ireturn, 1) := by decide +kernel
theorem dX6_digest_0 : decode cX6_digest 0 = .ok (.ldc2_w 271, 3) := by decide +kernel
theorem dX6_digest_3 : decode cX6_digest 3 = .ok (.lstore_n 1, 1) := by decide +kernel
theorem dX6_digest_4 : decode cX6_digest 4 = .ok (.iconst 0, 1) := by decide +kernel
theorem dX6_digest_5 : decode cX6_digest 5 = .ok (.istore_n 3, 1) := by decide +kernel
theorem dX6_digest_6 : decode cX6_digest 6 = .ok (.iload_n 3, 1) := by decide +kernel
theorem dX6_digest_7 : decode cX6_digest 7 = .ok (.bipush 14, 2) := by decide +kernel
theorem dX6_digest_9 : decode cX6_digest 9 = .ok (.if_icmp .ge 22, 3) := by decide +kernel
theorem dX6_digest_12 : decode cX6_digest 12 = .ok (.ldc2_w 273, 3) := by decide +kernel
theorem dX6_digest_15 : decode cX6_digest 15 = .ok (.lload_n 1, 1) := by decide +kernel
theorem dX6_digest_16 : decode cX6_digest 16 = .ok (.lmul, 1) := by decide +kernel
theorem dX6_digest_17 : decode cX6_digest 17 = .ok (.aload_n 0, 1) := by decide +kernel
theorem dX6_digest_18 : decode cX6_digest 18 = .ok (.iload_n 3, 1) := by decide +kernel
theorem dX6_digest_19 : decode cX6_digest 19 = .ok (.invokevirtual 275, 3) := by decide +kernel
theorem dX6_digest_22 : decode cX6_digest 22 = .ok (.i2l, 1) := by decide +kernel
theorem dX6_digest_23 : decode cX6_digest 23 = .ok (.ladd, 1) := by decide +kernel
theorem dX6_digest_24 : decode cX6_digest 24 = .ok (.lstore_n 1, 1) := by decide +kernel
theorem dX6_digest_25 : decode cX6_digest 25 = .ok (.iinc 3 1, 3) := by decide +kernel
theorem dX6_digest_28 : decode cX6_digest 28 = .ok (.goto (-22), 3) := by decide +kernel
theorem dX6_digest_31 : decode cX6_digest 31 = .ok (.iconst 0, 1) := by decide +kernel
theorem dX6_digest_32 : decode cX6_digest 32 = .ok (.istore_n 3, 1) := by decide +kernel
theorem dX6_digest_33 : decode cX6_digest 33 = .ok (.iload_n 3, 1) := by decide +kernel
theorem dX6_digest_34 : decode cX6_digest 34 = .ok (.aload_n 0, 1) := by decide +kernel
theorem dX6_digest_35 : decode cX6_digest 35 = .ok (.getfield 66, 3) := by decide +kernel
theorem dX6_digest_38 : decode cX6_digest 38 = .ok (.if_icmp .ge 40, 3) := by decide +kernel
theorem dX6_digest_41 : decode cX6_digest 41 = .ok (.iconst 0, 1) := by decide +kernel
theorem dX6_digest_42 : decode cX6_digest 42 = .ok (.istore 4, 2) := by decide +kernel
theorem dX6_digest_44 : decode cX6_digest 44 = .ok (.iload 4, 2) := by decide +kernel
theorem dX6_digest_46 : decode cX6_digest 46 = .ok (.bipush 6, 2) := by decide +kernel
theorem dX6_digest_48 : decode cX6_digest 48 = .ok (.if_icmp .ge 24, 3) := by decide +kernel
theorem dX6_digest_51 : decode cX6_digest 51 = .ok (.ldc2_w 273, 3) := by decide +kernel
theorem dX6_digest_54 : decode cX6_digest 54 = .ok (.lload_n 1, 1) := by decide +kernel
theorem dX6_digest_55 : decode cX6_digest 55 = .ok (.lmul, 1) := by decide +kernel
theorem dX6_digest_56 : decode cX6_digest 56 = .ok (.aload_n 0, 1) := by decide +kernel
theorem dX6_digest_57 : decode cX6_digest 57 = .ok (.iload_n 3, 1) := by decide +kernel
theorem dX6_digest_58 : decode cX6_digest 58 = .ok (.iload 4, 2) := by decide +kernel
theorem dX6_digest_60 : decode cX6_digest 60 = .ok (.invokevirtual 153, 3) := by decide +kernel
theorem dX6_digest_63 : decode cX6_digest 63 = .ok (.i2l, 1) := by decide +kernel
theorem dX6_digest_64 : decode cX6_digest 64 = .ok (.ladd, 1) := by decide +kernel
theorem dX6_digest_65 : decode cX6_digest 65 = .ok (.lstore_n 1, 1) := by decide +kernel
theorem dX6_digest_66 : decode cX6_digest 66 = .ok (.iinc 4 1, 3) := by decide +kernel
theorem dX6_digest_69 : decode cX6_digest 69 = .ok (.goto (-25), 3) := by decide +kernel
theorem dX6_digest_72 : decode cX6_digest 72 = .ok (.iinc 3 1, 3) := by decide +kernel
theorem dX6_digest_75 : decode cX6_digest 75 = .ok (.goto (-42), 3) := by decide +kernel
theorem dX6_digest_78 : decode cX6_digest 78 = .ok (.iconst 0, 1) := by decide +kernel
theorem dX6_digest_79 : decode cX6_digest 79 = .ok (.istore_n 3, 1) := by decide +kernel
theorem dX6_digest_80 : decode cX6_digest 80 = .ok (.iload_n 3, 1) := by decide +kernel
theorem dX6_digest_81 : decode cX6_digest 81 = .ok (.iconst 3, 1) := by decide +kernel
theorem dX6_digest_82 : decode cX6_digest 82 = .ok (.if_icmp .ge 23, 3) := by decide +kernel
theorem dX6_digest_85 : decode cX6_digest 85 = .ok (.ldc2_w 273, 3) := by decide +kernel
theorem dX6_digest_88 : decode cX6_digest 88 = .ok (.lload_n 1, 1) := by decide +kernel
theorem dX6_digest_89 : decode cX6_digest 89 = .ok (.lmul, 1) := by decide +kernel
theorem dX6_digest_90 : decode cX6_digest 90 = .ok (.aload_n 0, 1) := by decide +kernel
theorem dX6_digest_91 : decode cX6_digest 91 = .ok (.getfield 50, 3) := by decide +kernel
theorem dX6_digest_94 : decode cX6_digest 94 = .ok (.iload_n 3, 1) := by decide +kernel
theorem dX6_digest_95 : decode cX6_digest 95 = .ok (.iaload, 1) := by decide +kernel
theorem dX6_digest_96 : decode cX6_digest 96 = .ok (.i2l, 1) := by decide +kernel
theorem dX6_digest_97 : decode cX6_digest 97 = .ok (.ladd, 1) := by decide +kernel
theorem dX6_digest_98 : decode cX6_digest 98 = .ok (.lstore_n 1, 1) := by decide +kernel
theorem dX6_digest_99 : decode cX6_digest 99 = .ok (.iinc 3 1, 3) := by decide +kernel
theorem dX6_digest_102 : decode cX6_digest 102 = .ok (.goto (-22), 3) := by decide +kernel
theorem dX6_digest_105 : decode cX6_digest 105 = .ok (.iconst 0, 1) := by decide +kernel
theorem dX6_digest_106 : decode cX6_digest 106 = .ok (.istore_n 3, 1) := by decide +kernel
theorem dX6_digest_107 : decode cX6_digest 107 = .ok (.iload_n 3, 1) := by decide +kernel
theorem dX6_digest_108 : decode cX6_digest 108 = .ok (.bipush 6, 2) := by decide +kernel
theorem dX6_digest_110 : decode cX6_digest 110 = .ok (.if_icmp .ge 63, 3) := by decide +kernel
theorem dX6_digest_113 : decode cX6_digest 113 = .ok (.ldc2_w 273, 3) := by decide +kernel
theorem dX6_digest_116 : decode cX6_digest 116 = .ok (.lload_n 1, 1) := by decide +kernel
theorem dX6_digest_117 : decode cX6_digest 117 = .ok (.lmul, 1) := by decide +kernel
theorem dX6_digest_118 : decode cX6_digest 118 = .ok (.aload_n 0, 1) := by decide +kernel
theorem dX6_digest_119 : decode cX6_digest 119 = .ok (.getfield 7, 3) := by decide +kernel
theorem dX6_digest_122 : decode cX6_digest 122 = .ok (.iload_n 3, 1) := by decide +kernel
theorem dX6_digest_123 : decode cX6_digest 123 = .ok (.iaload, 1) := by decide +kernel
theorem dX6_digest_124 : decode cX6_digest 124 = .ok (.i2l, 1) := by decide +kernel
theorem dX6_digest_125 : decode cX6_digest 125 = .ok (.ladd, 1) := by decide +kernel
theorem dX6_digest_126 : decode cX6_digest 126 = .ok (.lstore_n 1, 1) := by decide +kernel
theorem dX6_digest_127 : decode cX6_digest 127 = .ok (.iconst 0, 1) := by decide +kernel
theorem dX6_digest_128 : decode cX6_digest 128 = .ok (.istore 4, 2) := by decide +kernel
theorem dX6_digest_130 : decode cX6_digest 130 = .ok (.iload 4, 2) := by decide +kernel
theorem dX6_digest_132 : decode cX6_digest 132 = .ok (.aload_n 0, 1) := by decide +kernel
theorem dX6_digest_133 : decode cX6_digest 133 = .ok (.getfield 7, 3) := by decide +kernel
theorem dX6_digest_136 : decode cX6_digest 136 = .ok (.iload_n 3, 1) := by decide +kernel
theorem dX6_digest_137 : decode cX6_digest 137 = .ok (.iaload, 1) := by decide +kernel
theorem dX6_digest_138 : decode cX6_digest 138 = .ok (.if_icmp .ge 29, 3) := by decide +kernel
theorem dX6_digest_141 : decode cX6_digest 141 = .ok (.ldc2_w 273, 3) := by decide +kernel
theorem dX6_digest_144 : decode cX6_digest 144 = .ok (.lload_n 1, 1) := by decide +kernel
theorem dX6_digest_145 : decode cX6_digest 145 = .ok (.lmul, 1) := by decide +kernel
theorem dX6_digest_146 : decode cX6_digest 146 = .ok (.aload_n 0, 1) := by decide +kernel
theorem dX6_digest_147 : decode cX6_digest 147 = .ok (.getfield 13, 3) := by decide +kernel
theorem dX6_digest_150 : decode cX6_digest 150 = .ok (.bipush 40, 2) := by decide +kernel
theorem dX6_digest_152 : decode cX6_digest 152 = .ok (.iload_n 3, 1) := by decide +kernel
theorem dX6_digest_153 : decode cX6_digest 153 = .ok (.imul, 1) := by decide +kernel
theorem dX6_digest_154 : decode cX6_digest 154 = .ok (.iload 4, 2) := by decide +kernel
theorem dX6_digest_156 : decode cX6_digest 156 = .ok (.iadd, 1) := by decide +kernel
theorem dX6_digest_157 : decode cX6_digest 157 = .ok (.iaload, 1) := by decide +kernel
theorem dX6_digest_158 : decode cX6_digest 158 = .ok (.i2l, 1) := by decide +kernel
theorem dX6_digest_159 : decode cX6_digest 159 = .ok (.ladd, 1) := by decide +kernel
theorem dX6_digest_160 : decode cX6_digest 160 = .ok (.lstore_n 1, 1) := by decide +kernel
theorem dX6_digest_161 : decode cX6_digest 161 = .ok (.iinc 4 1, 3) := by decide +kernel
theorem dX6_digest_164 : decode cX6_digest 164 = .ok (.goto (-34), 3) := by decide +kernel
theorem dX6_digest_167 : decode cX6_digest 167 = .ok (.iinc 3 1, 3) := by decide +kernel
theorem dX6_digest_170 : decode cX6_digest 170 = .ok (.goto (-63), 3) := by decide +kernel
theorem dX6_digest_173 : decode cX6_digest 173 = .ok (.iconst 0, 1) := by decide +kernel
theorem dX6_digest_174 : decode cX6_digest 174 = .ok (.istore_n 3, 1) := by decide +kernel
theorem dX6_digest_175 : decode cX6_digest 175 = .ok (.iload_n 3, 1) := by decide +kernel
theorem dX6_digest_176 : decode cX6_digest 176 = .ok (.iconst 4, 1) := by decide +kernel
theorem dX6_digest_177 : decode cX6_digest 177 = .ok (.if_icmp .ge 63, 3) := by decide +kernel
theorem dX6_digest_180 : decode cX6_digest 180 = .ok (.ldc2_w 273, 3) := by decide +kernel
theorem dX6_digest_183 : decode cX6_digest 183 = .ok (.lload_n 1, 1) := by decide +kernel
theorem dX6_digest_184 : decode cX6_digest 184 = .ok (.lmul, 1) := by decide +kernel
theorem dX6_digest_185 : decode cX6_digest 185 = .ok (.aload_n 0, 1) := by decide +kernel
theorem dX6_digest_186 : decode cX6_digest 186 = .ok (.getfield 16, 3) := by decide +kernel
theorem dX6_digest_189 : decode cX6_digest 189 = .ok (.iload_n 3, 1) := by decide +kernel
theorem dX6_digest_190 : decode cX6_digest 190 = .ok (.iaload, 1) := by decide +kernel
theorem dX6_digest_191 : decode cX6_digest 191 = .ok (.i2l, 1) := by decide +kernel
theorem dX6_digest_192 : decode cX6_digest 192 = .ok (.ladd, 1) := by decide +kernel
theorem dX6_digest_193 : decode cX6_digest 193 = .ok (.lstore_n 1, 1) := by decide +kernel
theorem dX6_digest_194 : decode cX6_digest 194 = .ok (.iconst 0, 1) := by decide +kernel
theorem dX6_digest_195 : decode cX6_digest 195 = .ok (.istore 4, 2) := by decide +kernel
theorem dX6_digest_197 : decode cX6_digest 197 = .ok (.iload 4, 2) := by decide +kernel
theorem dX6_digest_199 : decode cX6_digest 199 = .ok (.aload_n 0, 1) := by decide +kernel
theorem dX6_digest_200 : decode cX6_digest 200 = .ok (.getfield 16, 3) := by decide +kernel
theorem dX6_digest_203 : decode cX6_digest 203 = .ok (.iload_n 3, 1) := by decide +kernel
theorem dX6_digest_204 : decode cX6_digest 204 = .ok (.iaload, 1) := by decide +kernel
theorem dX6_digest_205 : decode cX6_digest 205 = .ok (.if_icmp .ge 29, 3) := by decide +kernel
theorem dX6_digest_208 : decode cX6_digest 208 = .ok (.ldc2_w 273, 3) := by decide +kernel
theorem dX6_digest_211 : decode cX6_digest 211 = .ok (.lload_n 1, 1) := by decide +kernel
theorem dX6_digest_212 : decode cX6_digest 212 = .ok (.lmul, 1) := by decide +kernel
theorem dX6_digest_213 : decode cX6_digest 213 = .ok (.aload_n 0, 1) := by decide +kernel
theorem dX6_digest_214 : decode cX6_digest 214 = .ok (.getfield 19, 3) := by decide +kernel
theorem dX6_digest_217 : decode cX6_digest 217 = .ok (.bipush 60, 2) := by decide +kernel
theorem dX6_digest_219 : decode cX6_digest 219 = .ok (.iload_n 3, 1) := by decide +kernel
theorem dX6_digest_220 : decode cX6_digest 220 = .ok (.imul, 1) := by decide +kernel
theorem dX6_digest_221 : decode cX6_digest 221 = .ok (.iload 4, 2) := by decide +kernel
theorem dX6_digest_223 : decode cX6_digest 223 = .ok (.iadd, 1) := by decide +kernel
theorem dX6_digest_224 : decode cX6_digest 224 = .ok (.iaload, 1) := by decide +kernel
theorem dX6_digest_225 : decode cX6_digest 225 = .ok (.i2l, 1) := by decide +kernel
theorem dX6_digest_226 : decode cX6_digest 226 = .ok (.ladd, 1) := by decide +kernel
theorem dX6_digest_227 : decode cX6_digest 227 = .ok (.lstore_n 1, 1) := by decide +kernel
theorem dX6_digest_228 : decode cX6_digest 228 = .ok (.iinc 4 1, 3) := by decide +kernel
theorem dX6_digest_231 : decode cX6_digest 231 = .ok (.goto (-34), 3) := by decide +kernel
theorem dX6_digest_234 : decode cX6_digest 234 = .ok (.iinc 3 1, 3) := by decide +kernel
theorem dX6_digest_237 : decode cX6_digest 237 = .ok (.goto (-62), 3) := by decide +kernel
theorem dX6_digest_240 : decode cX6_digest 240 = .ok (.lload_n 1, 1) := by decide +kernel
theorem dX6_digest_241 : decode cX6_digest 241 = .ok (.lreturn, 1) := by decide +kernel
