theorem dX7_init_0 : decode cX7_init 0 = .ok (.aload_n 0, 1) := by decide +kernel
theorem dX7_init_1 : decode cX7_init 1 = .ok (.invokespecial 1, 3) := by decide +kernel
theorem dX7_init_4 : decode cX7_init 4 = .ok (.aload_n 0, 1) := by decide +kernel
theorem dX7_init_5 : decode cX7_init 5 = .ok (.bipush 8, 2) := by decide +kernel
theorem dX7_init_7 : decode cX7_init 7 = .ok (.newarray .int, 2) := by decide +kernel
theorem dX7_init_9 : decode cX7_init 9 = .ok (.putfield 7, 3) := by decide +kernel
theorem dX7_init_12 : decode cX7_init 12 = .ok (.aload_n 0, 1) := by decide +kernel
theorem dX7_init_13 : decode cX7_init 13 = .ok (.bipush 64, 2) := by decide +kernel
theorem dX7_init_15 : decode cX7_init 15 = .ok (.newarray .int, 2) := by decide +kernel
theorem dX7_init_17 : decode cX7_init 17 = .ok (.putfield 13, 3) := by decide +kernel
theorem dX7_init_20 : decode cX7_init 20 = .ok (.aload_n 0, 1) := by decide +kernel
theorem dX7_init_21 : decode cX7_init 21 = .ok (.bipush 8, 2) := by decide +kernel
theorem dX7_init_23 : decode cX7_init 23 = .ok (.newarray .int, 2) := by decide +kernel
theorem dX7_init_25 : decode cX7_init 25 = .ok (.putfield 16, 3) := by decide +kernel
theorem dX7_init_28 : decode cX7_init 28 = .ok (.aload_n 0, 1) := by decide +kernel
theorem dX7_init_29 : decode cX7_init 29 = .ok (.iconst 4, 1) := by decide +kernel
theorem dX7_init_30 : decode cX7_init 30 = .ok (.newarray .int, 2) := by decide +kernel
theorem dX7_init_32 : decode cX7_init 32 = .ok (.putfield 19, 3) := by decide +kernel
theorem dX7_init_35 : decode cX7_init 35 = .ok (.aload_n 0, 1) := by decide +kernel
theorem dX7_init_36 : decode cX7_init 36 = .ok (.iconst 4, 1) := by decide +kernel
theorem dX7_init_37 : decode cX7_init 37 = .ok (.newarray .int, 2) := by decide +kernel
theorem dX7_init_39 : decode cX7_init 39 = .ok (.putfield 22, 3) := by decide +kernel
theorem dX7_init_42 : decode cX7_init 42 = .ok (.aload_n 0, 1) := by decide +kernel
theorem dX7_init_43 : decode cX7_init 43 = .ok (.bipush 56, 2) := by decide +kernel
theorem dX7_init_45 : decode cX7_init 45 = .ok (.newarray .int, 2) := by decide +kernel
theorem dX7_init_47 : decode cX7_init 47 = .ok (.putfield 25, 3) := by decide +kernel
theorem dX7_init_50 : decode cX7_init 50 = .ok (.aload_n 0, 1) := by decide +kernel
theorem dX7_init_51 : decode cX7_init 51 = .ok (.bipush 56, 2) := by decide +kernel
theorem dX7_init_53 : decode cX7_init 53 = .ok (.newarray .int, 2) := by decide +kernel
theorem dX7_init_55 : decode cX7_init 55 = .ok (.putfield 28, 3) := by decide +kernel
theorem dX7_init_58 : decode cX7_init 58 = .ok (.aload_n 0, 1) := by decide +kernel
theorem dX7_init_59 : decode cX7_init 59 = .ok (.iconst 4, 1) := by decide +kernel
theorem dX7_init_60 : decode cX7_init 60 = .ok (.newarray .int, 2) := by decide +kernel
theorem dX7_init_62 : decode cX7_init 62 = .ok (.putfield 31, 3) := by decide +kernel
theorem dX7_init_65 : decode cX7_init 65 = .ok (.aload_n 0, 1) := by decide +kernel
theorem dX7_init_66 : decode cX7_init 66 = .ok (.iconst 4, 1) := by decide +kernel
theorem dX7_init_67 : decode cX7_init 67 = .ok (.newarray .int, 2) := by decide +kernel
theorem dX7_init_69 : decode cX7_init 69 = .ok (.putfield 34, 3) := by decide +kernel
theorem dX7_init_72 : decode cX7_init 72 = .ok (.aload_n 0, 1) := by decide +kernel
theorem dX7_init_73 : decode cX7_init 73 = .ok (.bipush 16, 2) := by decide +kernel
theorem dX7_init_75 : decode cX7_init 75 = .ok (.newarray .int, 2) := by decide +kernel
theorem dX7_init_77 : decode cX7_init 77 = .ok (.putfield 37, 3) := by decide +kernel
theorem dX7_init_80 : decode cX7_init 80 = .ok (.aload_n 0, 1) := by decide +kernel
theorem dX7_init_81 : decode cX7_init 81 = .ok (.bipush 16, 2) := by decide +kernel
theorem dX7_init_83 : decode cX7_init 83 = .ok (.newarray .long, 2) := by decide +kernel
theorem dX7_init_85 : decode cX7_init 85 = .ok (.putfield 40, 3) := by decide +kernel
theorem dX7_init_88 : decode cX7_init 88 = .ok (.aload_n 0, 1) := by decide +kernel
theorem dX7_init_89 : decode cX7_init 89 = .ok (.bipush 16, 2) := by decide +kernel
theorem dX7_init_91 : decode cX7_init 91 = .ok (.newarray .long, 2) := by decide +kernel
theorem dX7_init_93 : decode cX7_init 93 = .ok (.putfield 44, 3) := by decide +kernel
theorem dX7_init_96 : decode cX7_init 96 = .ok (.aload_n 0, 1) := by decide +kernel
theorem dX7_init_97 : decode cX7_init 97 = .ok (.bipush 16, 2) := by decide +kernel
theorem dX7_init_99 : decode cX7_init 99 = .ok (.newarray .int, 2) := by decide +kernel
theorem dX7_init_101 : decode cX7_init 101 = .ok (.putfield 47, 3) := by decide +kernel
theorem dX7_init_104 : decode cX7_init 104 = .ok (.aload_n 0, 1) := by decide +kernel
theorem dX7_init_105 : decode cX7_init 105 = .ok (.sipush 256, 3) := by decide +kernel
theorem dX7_init_108 : decode cX7_init 108 = .ok (.newarray .int, 2) := by decide +kernel
theorem dX7_init_110 : decode cX7_init 110 = .ok (.putfield 50, 3) := by decide +kernel
theorem dX7_init_113 : decode cX7_init 113 = .ok (.aload_n 0, 1) := by decide +kernel
theorem dX7_init_114 : decode cX7_init 114 = .ok (.sipush 128, 3) := by decide +kernel
theorem dX7_init_117 : decode cX7_init 117 = .ok (.newarray .int, 2) := by decide +kernel
theorem dX7_init_119 : decode cX7_init 119 = .ok (.putfield 53, 3) := by decide +kernel
theorem dX7_init_122 : decode cX7_init 122 = .ok (.aload_n 0, 1) := by decide +kernel
theorem dX7_init_123 : decode cX7_init 123 = .ok (.bipush 32, 2) := by decide +kernel
theorem dX7_init_125 : decode cX7_init 125 = .ok (.newarray .int, 2) := by decide +kernel
theorem dX7_init_127 : decode cX7_init 127 = .ok (.putfield 56, 3) := by decide +kernel
theorem dX7_init_130 : decode cX7_init 130 = .ok (.aload_n 0, 1) := by decide +kernel
theorem dX7_init_131 : decode cX7_init 131 = .ok (.sipush 1280, 3) := by decide +kernel
theorem dX7_init_134 : decode cX7_init 134 = .ok (.newarray .int, 2) := by decide +kernel
theorem dX7_init_136 : decode cX7_init 136 = .ok (.putfield 59, 3) := by decide +kernel
theorem dX7_init_139 : decode cX7_init 139 = .ok (.aload_n 0, 1) := by decide +kernel
theorem dX7_init_140 : decode cX7_init 140 = .ok (.bipush 28, 2) := by decide +kernel
theorem dX7_init_142 : decode cX7_init 142 = .ok (.newarray .long, 2) := by decide +kernel
theorem dX7_init_144 : decode cX7_init 144 = .ok (.putfield 62, 3) := by decide +kernel
theorem dX7_init_147 : decode cX7_init 147 = .ok (.aload_n 0, 1) := by decide +kernel
theorem dX7_init_148 : decode cX7_init 148 = .ok (.bipush 8, 2) := by decide +kernel
theorem dX7_init_150 : decode cX7_init 150 = .ok (.newarray .int, 2) := by decide +kernel
theorem dX7_init_152 : decode cX7_init 152 = .ok (.putfield 65, 3) := by decide +kernel
theorem dX7_init_155 : decode cX7_init 155 = .ok (.aload_n 0, 1) := by decide +kernel
theorem dX7_init_156 : decode cX7_init 156 = .ok (.sipush 18009, 3) := by decide +kernel
theorem dX7_init_159 : decode cX7_init 159 = .ok (.newarray .int, 2) := by decide +kernel
theorem dX7_init_161 : decode cX7_init 161 = .ok (.putfield 68, 3) := by decide +kernel
theorem dX7_init_164 : decode cX7_init 164 = .ok (.aload_n 0, 1) := by decide +kernel
theorem dX7_init_165 : decode cX7_init 165 = .ok (.bipush 8, 2) := by decide +kernel
theorem dX7_init_167 : decode cX7_init 167 = .ok (.newarray .int, 2) := by decide +kernel
theorem dX7_init_169 : decode cX7_init 169 = .ok (.putfield 71, 3) := by decide +kernel
theorem dX7_init_172 : decode cX7_init 172 = .ok (.aload_n 0, 1) := by decide +kernel
theorem dX7_init_173 : decode cX7_init 173 = .ok (.bipush 8, 2) := by decide +kernel
theorem dX7_init_175 : decode cX7_init 175 = .ok (.newarray .int, 2) := by decide +kernel
theorem dX7_init_177 : decode cX7_init 177 = .ok (.putfield 74, 3) := by decide +kernel
theorem dX7_init_180 : decode cX7_init 180 = .ok (.aload_n 0, 1) := by decide +kernel
theorem dX7_init_181 : decode cX7_init 181 = .ok (.sipush 2001, 3) := by decide +kernel
theorem dX7_init_184 : decode cX7_init 184 = .ok (.newarray .int, 2) := by decide +kernel
theorem dX7_init_186 : decode cX7_init 186 = .ok (.putfield 77, 3) := by decide +kernel
theorem dX7_init_189 : decode cX7_init 189 = .ok (.aload_n 0, 1) := by decide +kernel
theorem dX7_init_190 : decode cX7_init 190 = .ok (.bipush 8, 2) := by decide +kernel
theorem dX7_init_192 : decode cX7_init 192 = .ok (.newarray .int, 2) := by decide +kernel
theorem dX7_init_194 : decode cX7_init 194 = .ok (.putfield 80, 3) := by decide +kernel
theorem dX7_init_197 : decode cX7_init 197 = .ok (.aload_n 0, 1) := by decide +kernel
theorem dX7_init_198 : decode cX7_init 198 = .ok (.bipush 8, 2) := by decide +kernel
theorem dX7_init_200 : decode cX7_init 200 = .ok (.newarray .int, 2) := by decide +kernel
theorem dX7_init_202 : decode cX7_init 202 = .ok (.putfield 83, 3) := by decide +kernel
theorem dX7_init_205 : decode cX7_init 205 = .ok (.aload_n 0, 1) := by decide +kernel
theorem dX7_init_206 : decode cX7_init 206 = .ok (.iconst 3, 1) := by decide +kernel
theorem dX7_init_207 : decode cX7_init 207 = .ok (.newarray .boolean, 2) := by decide +kernel
theorem dX7_init_209 : decode cX7_init 209 = .ok (.putfield 86, 3) := by decide +kernel
theorem dX7_init_212 : decode cX7_init 212 = .ok (.aload_n 0, 1) := by decide +kernel
theorem dX7_init_213 : decode cX7_init 213 = .ok (.getfield 16, 3) := by decide +kernel
theorem dX7_init_216 : decode cX7_init 216 = .ok (.iconst 0, 1) := by decide +kernel
theorem dX7_init_217 : decode cX7_init 217 = .ok (.iconst 1, 1) := by decide +kernel
theorem dX7_init_218 : decode cX7_init 218 = .ok (.iastore, 1) := by decide +kernel
theorem dX7_init_219 : decode cX7_init 219 = .ok (.aload_n 0, 1) := by decide +kernel
theorem dX7_init_220 : decode cX7_init 220 = .ok (.getfield 16, 3) := by decide +kernel
theorem dX7_init_223 : decode cX7_init 223 = .ok (.iconst 1, 1) := by decide +kernel
theorem dX7_init_224 : decode cX7_init 224 = .ok (.iconst 1, 1) := by decide +kernel
theorem dX7_init_225 : decode cX7_init 225 = .ok (.iastore, 1) := by decide +kernel
theorem dX7_init_226 : decode cX7_init 226 = .ok (.aload_n 0, 1) := by decide +kernel
theorem dX7_init_227 : decode cX7_init 227 = .ok (.getfield 31, 3) := by decide +kernel
theorem dX7_init_230 : decode cX7_init 230 = .ok (.iconst 0, 1) := by decide +kernel
theorem dX7_init_231 : decode cX7_init 231 = .ok (.iconst 1, 1) := by decide +kernel
theorem dX7_init_232 : decode cX7_init 232 = .ok (.iastore, 1) := by decide +kernel
theorem dX7_init_233 : decode cX7_init 233 = .ok (.return_, 1) := by decide +kernel
theorem dX7_in_0 : decode cX7_in 0 = .ok (.iload_n 0, 1) := by decide +kernel
theorem dX7_in_1 : decode cX7_in 1 = .ok (.iload_n 1, 1) := by decide +kernel
theorem dX7_in_2 : decode cX7_in 2 = .ok (.if_icmp .lt 12, 3) := by decide +kernel
theorem dX7_in_5 : decode cX7_in 5 = .ok (.iload_n 0, 1) := by decide +kernel
theorem dX7_in_6 : decode cX7_in 6 = .ok (.iload_n 2, 1) := by decide +kernel
theorem dX7_in_7 : decode cX7_in 7 = .ok (.if_icmp .gt 7, 3) := by decide +kernel
theorem dX7_in_10 : decode cX7_in 10 = .ok (.iconst 1, 1) := by decide +kernel
theorem dX7_in_11 : decode cX7_in 11 = .ok (.goto 4, 3) := by decide +kernel
theorem dX7_in_14 : decode cX7_in 14 = .ok (.iconst 0, 1) := by decide +kernel
theorem dX7_in_15 : decode cX7_in 15 = .ok (.ireturn, 1) := by decide +kernel
theorem dX7_move_0 : decode cX7_move 0 = .ok (.iconst 0, 1) := by decide +kernel
theorem dX7_move_1 : decode cX7_move 1 = .ok (.istore 4, 2) := by decide +kernel
theorem dX7_move_3 : decode cX7_move 3 = .ok (.iload 4, 2) := by decide +kernel
theorem dX7_move_5 : decode cX7_move 5 = .ok (.iload_n 1, 1) := by decide +kernel
theorem dX7_move_6 : decode cX7_move 6 = .ok (.if_icmp .ge 25, 3) := by decide +kernel
theorem dX7_move_9 : decode cX7_move 9 = .ok (.aload_n 0, 1) := by decide +kernel
theorem dX7_move_10 : decode cX7_move 10 = .ok (.iload_n 1, 1) := by decide +kernel
theorem dX7_move_11 : decode cX7_move 11 = .ok (.iload_n 3, 1) := by decide +kernel
theorem dX7_move_12 : decode cX7_move 12 = .ok (.imul, 1) := by decide +kernel
theorem dX7_move_13 : decode cX7_move 13 = .ok (.iload 4, 2) := by decide +kernel
theorem dX7_move_15 : decode cX7_move 15 = .ok (.iadd, 1) := by decide +kernel
theorem dX7_move_16 : decode cX7_move 16 = .ok (.aload_n 0, 1) := by decide +kernel
theorem dX7_move_17 : decode cX7_move 17 = .ok (.iload_n 1, 1) := by decide +kernel
theorem dX7_move_18 : decode cX7_move 18 = .ok (.iload_n 2, 1) := by decide +kernel
theorem dX7_move_19 : decode cX7_move 19 = .ok (.imul, 1) := by decide +kernel
theorem dX7_move_20 : decode cX7_move 20 = .ok (.iload 4, 2) := by decide +kernel
theorem dX7_move_22 : decode cX7_move 22 = .ok (.iadd, 1) := by decide +kernel
theorem dX7_move_23 : decode cX7_move 23 = .ok (.iaload, 1) := by decide +kernel
theorem dX7_move_24 : decode cX7_move 24 = .ok (.iastore, 1) := by decide +kernel
theorem dX7_move_25 : decode cX7_move 25 = .ok (.iinc 4 1, 3) := by decide +kernel
theorem dX7_move_28 : decode cX7_move 28 = .ok (.goto (-25), 3) := by decide +kernel
theorem dX7_move_31 : decode cX7_move 31 = .ok (.return_, 1) := by decide +kernel
theorem dX7_copy_0 : decode cX7_copy 0 = .ok (.aload_n 0, 1) := by decide +kernel
theorem dX7_copy_1 : decode cX7_copy 1 = .ok (.getfield 7, 3) := by decide +kernel
theorem dX7_copy_4 : decode cX7_copy 4 = .ok (.iconst 2, 1) := by decide +kernel
theorem dX7_copy_5 : decode cX7_copy 5 = .ok (.iload_n 1, 1) := by decide +kernel
theorem dX7_copy_6 : decode cX7_copy 6 = .ok (.iload_n 2, 1) := by decide +kernel
theorem dX7_copy_7 : decode cX7_copy 7 = .ok (.invokestatic 94, 3) := by decide +kernel
theorem dX7_copy_10 : decode cX7_copy 10 = .ok (.aload_n 0, 1) := by decide +kernel
theorem dX7_copy_11 : decode cX7_copy 11 = .ok (.getfield 13, 3) := by decide +kernel
theorem dX7_copy_14 : decode cX7_copy 14 = .ok (.bipush 16, 2) := by decide +kernel
theorem dX7_copy_16 : decode cX7_copy 16 = .ok (.iload_n 1, 1) := by decide +kernel
theorem dX7_copy_17 : decode cX7_copy 17 = .ok (.iload_n 2, 1) := by decide +kernel
theorem dX7_copy_18 : decode cX7_copy 18 = .ok (.invokestatic 94, 3) := by decide +kernel
theorem dX7_copy_21 : decode cX7_copy 21 = .ok (.aload_n 0, 1) := by decide +kernel
theorem dX7_copy_22 : decode cX7_copy 22 = .ok (.getfield 16, 3) := by decide +kernel
theorem dX7_copy_25 : decode cX7_copy 25 = .ok (.iconst 2, 1) := by decide +kernel
theorem dX7_copy_26 : decode cX7_copy 26 = .ok (.iload_n 1, 1) := by decide +kernel
theorem dX7_copy_27 : decode cX7_copy 27 = .ok (.iload_n 2, 1) := by decide +kernel
theorem dX7_copy_28 : decode cX7_copy 28 = .ok (.invokestatic 94, 3) := by decide +kernel
theorem dX7_copy_31 : decode cX7_copy 31 = .ok (.aload_n 0, 1) := by decide +kernel
theorem dX7_copy_32 : decode cX7_copy 32 = .ok (.getfield 19, 3) := by decide +kernel
theorem dX7_copy_35 : decode cX7_copy 35 = .ok (.iconst 1, 1) := by decide +kernel
theorem dX7_copy_36 : decode cX7_copy 36 = .ok (.iload_n 1, 1) := by decide +kernel
theorem dX7_copy_37 : decode cX7_copy 37 = .ok (.iload_n 2, 1) := by decide +kernel
theorem dX7_copy_38 : decode cX7_copy 38 = .ok (.invokestatic 94, 3) := by decide +kernel
theorem dX7_copy_41 : decode cX7_copy 41 = .ok (.aload_n 0, 1) := by decide +kernel
theorem dX7_copy_42 : decode cX7_copy 42 = .ok (.getfield 22, 3) := by decide +kernel
theorem dX7_copy_45 : decode cX7_copy 45 = .ok (.iconst 1, 1) := by decide +kernel
theorem dX7_copy_46 : decode cX7_copy 46 = .ok (.iload_n 1, 1) := by decide +kernel
theorem dX7_copy_47 : decode cX7_copy 47 = .ok (.iload_n 2, 1) := by decide +kernel
theorem dX7_copy_48 : decode cX7_copy 48 = .ok (.invokestatic 94, 3) := by decide +kernel
theorem dX7_copy_51 : decode cX7_copy 51 = .ok (.aload_n 0, 1) := by decide +kernel
theorem dX7_copy_52 : decode cX7_copy 52 = .ok (.getfield 25, 3) := by decide +kernel
theorem dX7_copy_55 : decode cX7_copy 55 = .ok (.bipush 14, 2) := by decide +kernel
theorem dX7_copy_57 : decode cX7_copy 57 = .ok (.iload_n 1, 1) := by decide +kernel
theorem dX7_copy_58 : decode cX7_copy 58 = .ok (.iload_n 2, 1) := by decide +kernel
theorem dX7_copy_59 : decode cX7_copy 59 = .ok (.invokestatic 94, 3) := by decide +kernel
theorem dX7_copy_62 : decode cX7_copy 62 = .ok (.aload_n 0, 1) := by decide +kernel
theorem dX7_copy_63 : decode cX7_copy 63 = .ok (.getfield 28, 3) := by decide +kernel
theorem dX7_copy_66 : decode cX7_copy 66 = .ok (.bipush 14, 2) := by decide +kernel
theorem dX7_copy_68 : decode cX7_copy 68 = .ok (.iload_n 1, 1) := by decide +kernel
theorem dX7_copy_69 : decode cX7_copy 69 = .ok (.iload_n 2, 1) := by decide +kernel
theorem dX7_copy_70 : decode cX7_copy 70 = .ok (.invokestatic 94, 3) := by decide +kernel
theorem dX7_copy_73 : decode cX7_copy 73 = .ok (.aload_n 0, 1) := by decide +kernel
theorem dX7_copy_74 : decode cX7_copy 74 = .ok (.getfield 31, 3) := by decide +kernel
theorem dX7_copy_77 : decode cX7_copy 77 = .ok (.iconst 1, 1) := by decide +kernel
theorem dX7_copy_78 : decode cX7_copy 78 = .ok (.iload_n 1, 1) := by decide +kernel
theorem dX7_copy_79 : decode cX7_copy 79 = .ok (.iload_n 2, 1) := by decide +kernel
theorem dX7_copy_80 : decode cX7_copy 80 = .ok (.invokestatic 94, 3) := by decide +kernel
theorem dX7_copy_83 : decode cX7_copy 83 = .ok (.aload_n 0, 1) := by decide +kernel
theorem dX7_copy_84 : decode cX7_copy 84 = .ok (.getfield 34, 3) := by decide +kernel
theorem dX7_copy_87 : decode cX7_copy 87 = .ok (.iconst 1, 1) := by decide +kernel
theorem dX7_copy_88 : decode cX7_copy 88 = .ok (.iload_n 1, 1) := by decide +kernel
theorem dX7_copy_89 : decode cX7_copy 89 = .ok (.iload_n 2, 1) := by decide +kernel
theorem dX7_copy_90 : decode cX7_copy 90 = .ok (.invokestatic 94, 3) := by decide +kernel
theorem dX7_copy_93 : decode cX7_copy 93 = .ok (.aload_n 0, 1) := by decide +kernel
theorem dX7_copy_94 : decode cX7_copy 94 = .ok (.getfield 37, 3) := by decide +kernel
theorem dX7_copy_97 : decode cX7_copy 97 = .ok (.iconst 4, 1) := by decide +kernel
theorem dX7_copy_98 : decode cX7_copy 98 = .ok (.iload_n 1, 1) := by decide +kernel
theorem dX7_copy_99 : decode cX7_copy 99 = .ok (.iload_n 2, 1) := by decide +kernel
theorem dX7_copy_100 : decode cX7_copy 100 = .ok (.invokestatic 94, 3) := by decide +kernel
theorem dX7_copy_103 : decode cX7_copy 103 = .ok (.aload_n 0, 1) := by decide +kernel
theorem dX7_copy_104 : decode cX7_copy 104 = .ok (.getfield 47, 3) := by decide +kernel
theorem dX7_copy_107 : decode cX7_copy 107 = .ok (.iconst 4, 1) := by decide +kernel
theorem dX7_copy_108 : decode cX7_copy 108 = .ok (.iload_n 1, 1) := by decide +kernel
theorem dX7_copy_109 : decode cX7_copy 109 = .ok (.iload_n 2, 1) := by decide +kernel
theorem dX7_copy_110 : decode cX7_copy 110 = .ok (.invokestatic 94, 3) := by decide +kernel
theorem dX7_copy_113 : decode cX7_copy 113 = .ok (.aload_n 0, 1) := by decide +kernel
theorem dX7_copy_114 : decode cX7_copy 114 = .ok (.getfield 50, 3) := by decide +kernel
theorem dX7_copy_117 : decode cX7_copy 117 = .ok (.bipush 64, 2) := by decide +kernel
theorem dX7_copy_119 : decode cX7_copy 119 = .ok (.iload_n 1, 1) := by decide +kernel
theorem dX7_copy_120 : decode cX7_copy 120 = .ok (.iload_n 2, 1) := by decide +kernel
theorem dX7_copy_121 : decode cX7_copy 121 = .ok (.invokestatic 94, 3) := by decide +kernel
theorem dX7_copy_124 : decode cX7_copy 124 = .ok (.aload_n 0, 1) := by decide +kernel
theorem dX7_copy_125 : decode cX7_copy 125 = .ok (.getfield 53, 3) := by decide +kernel
theorem dX7_copy_128 : decode cX7_copy 128 = .ok (.bipush 32, 2) := by decide +kernel
theorem dX7_copy_130 : decode cX7_copy 130 = .ok (.iload_n 1, 1) := by decide +kernel
theorem dX7_copy_131 : decode cX7_copy 131 = .ok (.iload_n 2, 1) := by decide +kernel
theorem dX7_copy_132 : decode cX7_copy 132 = .ok (.invokestatic 94, 3) := by decide +kernel
theorem dX7_copy_135 : decode cX7_copy 135 = .ok (.aload_n 0, 1) := by decide +kernel
theorem dX7_copy_136 : decode cX7_copy 136 = .ok (.getfield 56, 3) := by decide +kernel
theorem dX7_copy_139 : decode cX7_copy 139 = .ok (.bipush 8, 2) := by decide +kernel
theorem dX7_copy_141 : decode cX7_copy 141 = .ok (.iload_n 1, 1) := by decide +kernel
theorem dX7_copy_142 : decode cX7_copy 142 = .ok (.iload_n 2, 1) := by decide +kernel
theorem dX7_copy_143 : decode cX7_copy 143 = .ok (.invokestatic 94, 3) := by decide +kernel
theorem dX7_copy_146 : decode cX7_copy 146 = .ok (.aload_n 0, 1) := by decide +kernel
theorem dX7_copy_147 : decode cX7_copy 147 = .ok (.getfield 59, 3) := by decide +kernel
theorem dX7_copy_150 : decode cX7_copy 150 = .ok (.sipush 320, 3) := by decide +kernel
theorem dX7_copy_153 : decode cX7_copy 153 = .ok (.iload_n 1, 1) := by decide +kernel
theorem dX7_copy_154 : decode cX7_copy 154 = .ok (.iload_n 2, 1) := by decide +kernel
theorem dX7_copy_155 : decode cX7_copy 155 = .ok (.invokestatic 94, 3) := by decide +kernel
theorem dX7_copy_158 : decode cX7_copy 158 = .ok (.iconst 0, 1) := by decide +kernel
theorem dX7_copy_159 : decode cX7_copy 159 = .ok (.istore_n 3, 1) := by decide +kernel
theorem dX7_copy_160 : decode cX7_copy 160 = .ok (.iload_n 3, 1) := by decide +kernel
theorem dX7_copy_161 : decode cX7_copy 161 = .ok (.iconst 4, 1) := by decide +kernel
theorem dX7_copy_162 : decode cX7_copy 162 = .ok (.if_icmp .ge 49, 3) := by decide +kernel
theorem dX7_copy_165 : decode cX7_copy 165 = .ok (.aload_n 0, 1) := by decide +kernel
theorem dX7_copy_166 : decode cX7_copy 166 = .ok (.getfield 40, 3) := by decide +kernel
theorem dX7_copy_169 : decode cX7_copy 169 = .ok (.iconst 4, 1) := by decide +kernel
theorem dX7_copy_170 : decode cX7_copy 170 = .ok (.iload_n 2, 1) := by decide +kernel
theorem dX7_copy_171 : decode cX7_copy 171 = .ok (.imul, 1) := by decide +kernel
theorem dX7_copy_172 : decode cX7_copy 172 = .ok (.iload_n 3, 1) := by decide +kernel
theorem dX7_copy_173 : decode cX7_copy 173 = .ok (.iadd, 1) := by decide +kernel
theorem dX7_copy_174 : decode cX7_copy 174 = .ok (.aload_n 0, 1) := by decide +kernel
theorem dX7_copy_175 : decode cX7_copy 175 = .ok (.getfield 40, 3) := by decide +kernel
theorem dX7_copy_178 : decode cX7_copy 178 = .ok (.iconst 4, 1) := by decide +kernel
theorem dX7_copy_179 : decode cX7_copy 179 = .ok (.iload_n 1, 1) := by decide +kernel
theorem dX7_copy_180 : decode cX7_copy 180 = .ok (.imul, 1) := by decide +kernel
theorem dX7_copy_181 : decode cX7_copy 181 = .ok (.iload_n 3, 1) := by decide +kernel
theorem dX7_copy_182 : decode cX7_copy 182 = .ok (.iadd, 1) := by decide +kernel
theorem dX7_copy_183 : decode cX7_copy 183 = .ok (.laload, 1) := by decide +kernel
theorem dX7_copy_184 : decode cX7_copy 184 = .ok (.lastore, 1) := by decide +kernel
theorem dX7_copy_185 : decode cX7_copy 185 = .ok (.aload_n 0, 1) := by decide +kernel
theorem dX7_copy_186 : decode cX7_copy 186 = .ok (.getfield 44, 3) := by decide +kernel
theorem dX7_copy_189 : decode cX7_copy 189 = .ok (.iconst 4, 1) := by decide +kernel
theorem dX7_copy_190 : decode cX7_copy 190 = .ok (.iload_n 2, 1) := by decide +kernel
theorem dX7_copy_191 : decode cX7_copy 191 = .ok (.imul, 1) := by decide +kernel
theorem dX7_copy_192 : decode cX7_copy 192 = .ok (.iload_n 3, 1) := by decide +kernel
theorem dX7_copy_193 : decode cX7_copy 193 = .ok (.iadd, 1) := by decide +kernel
theorem dX7_copy_194 : decode cX7_copy 194 = .ok (.aload_n 0, 1) := by decide +kernel
theorem dX7_copy_195 : decode cX7_copy 195 = .ok (.getfield 44, 3) := by decide +kernel
theorem dX7_copy_198 : decode cX7_copy 198 = .ok (.iconst 4, 1) := by decide +kernel
theorem dX7_copy_199 : decode cX7_copy 199 = .ok (.iload_n 1, 1) := by decide +kernel
theorem dX7_copy_200 : decode cX7_copy 200 = .ok (.imul, 1) := by decide +kernel
theorem dX7_copy_201 : decode cX7_copy 201 = .ok (.iload_n 3, 1) := by decide +kernel
theorem dX7_copy_202 : decode cX7_copy 202 = .ok (.iadd, 1) := by decide +kernel
theorem dX7_copy_203 : decode cX7_copy 203 = .ok (.laload, 1) := by decide +kernel
theorem dX7_copy_204 : decode cX7_copy 204 = .ok (.lastore, 1) := by decide +kernel
theorem dX7_copy_205 : decode cX7_copy 205 = .ok (.iinc 3 1, 3) := by decide +kernel
theorem dX7_copy_208 : decode cX7_copy 208 = .ok (.goto (-48), 3) := by decide +kernel
theorem dX7_copy_211 : decode cX7_copy 211 = .ok (.return_, 1) := by decide +kernel
theorem dX7_isCoin_0 : decode cX7_isCoin 0 = .ok (.iload_n 1, 1) := by decide +kernel
theorem dX7_isCoin_1 : decode cX7_isCoin 1 = .ok (.iconst 0, 1) := by decide +kernel
theorem dX7_isCoin_2 : decode cX7_isCoin 2 = .ok (.iconst 1, 1) := by decide +kernel
theorem dX7_isCoin_3 : decode cX7_isCoin 3 = .ok (.invokestatic 98, 3) := by decide +kernel
theorem dX7_isCoin_6 : decode cX7_isCoin 6 = .ok (.ifCond .eq 23, 3) := by decide +kernel
theorem dX7_isCoin_9 : decode cX7_isCoin 9 = .ok (.iload_n 2, 1) := by decide +kernel
theorem dX7_isCoin_10 : decode cX7_isCoin 10 = .ok (.iconst 0, 1) := by decide +kernel
theorem dX7_isCoin_11 : decode cX7_isCoin 11 = .ok (.aload_n 0, 1) := by decide +kernel
theorem dX7_isCoin_12 : decode cX7_isCoin 12 = .ok (.getfield 7, 3) := by decide +kernel
theorem dX7_isCoin_15 : decode cX7_isCoin 15 = .ok (.iload_n 1, 1) := by decide +kernel
theorem dX7_isCoin_16 : decode cX7_isCoin 16 = .ok (.iaload, 1) := by decide +kernel
theorem dX7_isCoin_17 : decode cX7_isCoin 17 = .ok (.iconst 1, 1) := by decide +kernel
theorem dX7_isCoin_18 : decode cX7_isCoin 18 = .ok (.isub, 1) := by decide +kernel
theorem dX7_isCoin_19 : decode cX7_isCoin 19 = .ok (.invokestatic 98, 3) := by decide +kernel
theorem dX7_isCoin_22 : decode cX7_isCoin 22 = .ok (.ifCond .eq 7, 3) := by decide +kernel
theorem dX7_isCoin_25 : decode cX7_isCoin 25 = .ok (.iconst 1, 1) := by decide +kernel
theorem dX7_isCoin_26 : decode cX7_isCoin 26 = .ok (.goto 4, 3) := by decide +kernel
theorem dX7_isCoin_29 : decode cX7_isCoin 29 = .ok (.iconst 0, 1) := by decide +kernel
theorem dX7_isCoin_30 : decode cX7_isCoin 30 = .ok (.ireturn, 1) := by decide +kernel
theorem dX7_coin_0 : decode cX7_coin 0 = .ok (.aload_n 0, 1) := by decide +kernel
theorem dX7_coin_1 : decode cX7_coin 1 = .ok (.iconst 0, 1) := by decide +kernel
theorem dX7_coin_2 : decode cX7_coin 2 = .ok (.putfield 90, 3) := by decide +kernel
theorem dX7_coin_5 : decode cX7_coin 5 = .ok (.iload_n 1, 1) := by decide +kernel
theorem dX7_coin_6 : decode cX7_coin 6 = .ok (.iconst 0, 1) := by decide +kernel
theorem dX7_coin_7 : decode cX7_coin 7 = .ok (.iconst 1, 1) := by decide +kernel
theorem dX7_coin_8 : decode cX7_coin 8 = .ok (.invokestatic 98, 3) := by decide +kernel
theorem dX7_coin_11 : decode cX7_coin 11 = .ok (.ifCond .eq 25, 3) := by decide +kernel
theorem dX7_coin_14 : decode cX7_coin 14 = .ok (.aload_n 0, 1) := by decide +kernel
theorem dX7_coin_15 : decode cX7_coin 15 = .ok (.getfield 7, 3) := by decide +kernel
theorem dX7_coin_18 : decode cX7_coin 18 = .ok (.iload_n 1, 1) := by decide +kernel
theorem dX7_coin_19 : decode cX7_coin 19 = .ok (.iaload, 1) := by decide +kernel
theorem dX7_coin_20 : decode cX7_coin 20 = .ok (.bipush 8, 2) := by decide +kernel
theorem dX7_coin_22 : decode cX7_coin 22 = .ok (.if_icmp .eq 14, 3) := by decide +kernel
theorem dX7_coin_25 : decode cX7_coin 25 = .ok (.iload_n 2, 1) := by decide +kernel
theorem dX7_coin_26 : decode cX7_coin 26 = .ok (.iconst 1, 1) := by decide +kernel
theorem dX7_coin_27 : decode cX7_coin 27 = .ok (.sipush 1000, 3) := by decide +kernel
theorem dX7_coin_30 : decode cX7_coin 30 = .ok (.invokestatic 98, 3) := by decide +kernel
theorem dX7_coin_33 : decode cX7_coin 33 = .ok (.ifCond .ne 5, 3) := by decide +kernel
theorem dX7_coin_36 : decode cX7_coin 36 = .ok (.iconst (-1), 1) := by decide +kernel
theorem dX7_coin_37 : decode cX7_coin 37 = .ok (.ireturn, 1) := by decide +kernel
theorem dX7_coin_38 : decode cX7_coin 38 = .ok (.iconst 0, 1) := by decide +kernel
theorem dX7_coin_39 : decode cX7_coin 39 = .ok (.istore_n 3, 1) := by decide +kernel
theorem dX7_coin_40 : decode cX7_coin 40 = .ok (.iload_n 3, 1) := by decide +kernel
theorem dX7_coin_41 : decode cX7_coin 41 = .ok (.aload_n 0, 1) := by decide +kernel
theorem dX7_coin_42 : decode cX7_coin 42 = .ok (.getfield 7, 3) := by decide +kernel
theorem dX7_coin_45 : decode cX7_coin 45 = .ok (.iload_n 1, 1) := by decide +kernel
theorem dX7_coin_46 : decode cX7_coin 46 = .ok (.iaload, 1) := by decide +kernel
theorem dX7_coin_47 : decode cX7_coin 47 = .ok (.if_icmp .ge 26, 3) := by decide +kernel
theorem dX7_coin_50 : decode cX7_coin 50 = .ok (.aload_n 0, 1) := by decide +kernel
theorem dX7_coin_51 : decode cX7_coin 51 = .ok (.getfield 13, 3) := by decide +kernel
theorem dX7_coin_54 : decode cX7_coin 54 = .ok (.bipush 8, 2) := by decide +kernel
theorem dX7_coin_56 : decode cX7_coin 56 = .ok (.iload_n 1, 1) := by decide +kernel
theorem dX7_coin_57 : decode cX7_coin 57 = .ok (.imul, 1) := by decide +kernel
theorem dX7_coin_58 : decode cX7_coin 58 = .ok (.iload_n 3, 1) := by decide +kernel
theorem dX7_coin_59 : decode cX7_coin 59 = .ok (.iadd, 1) := by decide +kernel
theorem dX7_coin_60 : decode cX7_coin 60 = .ok (.iaload, 1) := by decide +kernel
theorem dX7_coin_61 : decode cX7_coin 61 = .ok (.iload_n 2, 1) := by decide +kernel
theorem dX7_coin_62 : decode cX7_coin 62 = .ok (.if_icmp .ne 5, 3) := by decide +kernel
theorem dX7_coin_65 : decode cX7_coin 65 = .ok (.iconst (-1), 1) := by decide +kernel
theorem dX7_coin_66 : decode cX7_coin 66 = .ok (.ireturn, 1) := by decide +kernel
theorem dX7_coin_67 : decode cX7_coin 67 = .ok (.iinc 3 1, 3) := by decide +kernel
theorem dX7_coin_70 : decode cX7_coin 70 = .ok (.goto (-30), 3) := by decide +kernel
theorem dX7_coin_73 : decode cX7_coin 73 = .ok (.aload_n 0, 1) := by decide +kernel
theorem dX7_coin_74 : decode cX7_coin 74 = .ok (.getfield 13, 3) := by decide +kernel
theorem dX7_coin_77 : decode cX7_coin 77 = .ok (.bipush 8, 2) := by decide +kernel
theorem dX7_coin_79 : decode cX7_coin 79 = .ok (.iload_n 1, 1) := by decide +kernel
theorem dX7_coin_80 : decode cX7_coin 80 = .ok (.imul, 1) := by decide +kernel
theorem dX7_coin_81 : decode cX7_coin 81 = .ok (.aload_n 0, 1) := by decide +kernel
theorem dX7_coin_82 : decode cX7_coin 82 = .ok (.getfield 7, 3) := by decide +kernel
theorem dX7_coin_85 : decode cX7_coin 85 = .ok (.iload_n 1, 1) := by decide +kernel
theorem dX7_coin_86 : decode cX7_coin 86 = .ok (.iaload, 1) := by decide +kernel
theorem dX7_coin_87 : decode cX7_coin 87 = .ok (.iadd, 1) := by decide +kernel
theorem dX7_coin_88 : decode cX7_coin 88 = .ok (.iload_n 2, 1) := by decide +kernel
theorem dX7_coin_89 : decode cX7_coin 89 = .ok (.iastore, 1) := by decide +kernel
theorem dX7_coin_90 : decode cX7_coin 90 = .ok (.aload_n 0, 1) := by decide +kernel
theorem dX7_coin_91 : decode cX7_coin 91 = .ok (.getfield 7, 3) := by decide +kernel
theorem dX7_coin_94 : decode cX7_coin 94 = .ok (.iload_n 1, 1) := by decide +kernel
theorem dX7_coin_95 : decode cX7_coin 95 = .ok (.dup2, 1) := by decide +kernel
theorem dX7_coin_96 : decode cX7_coin 96 = .ok (.iaload, 1) := by decide +kernel
theorem dX7_coin_97 : decode cX7_coin 97 = .ok (.iconst 1, 1) := by decide +kernel
theorem dX7_coin_98 : decode cX7_coin 98 = .ok (.iadd, 1) := by decide +kernel
theorem dX7_coin_99 : decode cX7_coin 99 = .ok (.iastore, 1) := by decide +kernel
theorem dX7_coin_100 : decode cX7_coin 100 = .ok (.aload_n 0, 1) := by decide +kernel
theorem dX7_coin_101 : decode cX7_coin 101 = .ok (.getfield 7, 3) := by decide +kernel
theorem dX7_coin_104 : decode cX7_coin 104 = .ok (.iload_n 1, 1) := by decide +kernel
theorem dX7_coin_105 : decode cX7_coin 105 = .ok (.iaload, 1) := by decide +kernel
theorem dX7_coin_106 : decode cX7_coin 106 = .ok (.iconst 1, 1) := by decide +kernel
theorem dX7_coin_107 : decode cX7_coin 107 = .ok (.isub, 1) := by decide +kernel
theorem dX7_coin_108 : decode cX7_coin 108 = .ok (.ireturn, 1) := by decide +kernel
theorem dX7_rate_0 : decode cX7_rate 0 = .ok (.aload_n 0, 1) := by decide +kernel
theorem dX7_rate_1 : decode cX7_rate 1 = .ok (.iconst 0, 1) := by decide +kernel
theorem dX7_rate_2 : decode cX7_rate 2 = .ok (.putfield 90, 3) := by decide +kernel
theorem dX7_rate_5 : decode cX7_rate 5 = .ok (.iload_n 1, 1) := by decide +kernel
theorem dX7_rate_6 : decode cX7_rate 6 = .ok (.iconst 1, 1) := by decide +kernel
theorem dX7_rate_7 : decode cX7_rate 7 = .ok (.bipush 100, 2) := by decide +kernel
theorem dX7_rate_9 : decode cX7_rate 9 = .ok (.invokestatic 98, 3) := by decide +kernel
theorem dX7_rate_12 : decode cX7_rate 12 = .ok (.ifCond .eq 22, 3) := by decide +kernel
theorem dX7_rate_15 : decode cX7_rate 15 = .ok (.iload_n 2, 1) := by decide +kernel
theorem dX7_rate_16 : decode cX7_rate 16 = .ok (.iconst 1, 1) := by decide +kernel
theorem dX7_rate_17 : decode cX7_rate 17 = .ok (.bipush 100, 2) := by decide +kernel
theorem dX7_rate_19 : decode cX7_rate 19 = .ok (.invokestatic 98, 3) := by decide +kernel
theorem dX7_rate_22 : decode cX7_rate 22 = .ok (.ifCond .eq 12, 3) := by decide +kernel
theorem dX7_rate_25 : decode cX7_rate 25 = .ok (.aload_n 0, 1) := by decide +kernel
theorem dX7_rate_26 : decode cX7_rate 26 = .ok (.getfield 19, 3) := by decide +kernel
theorem dX7_rate_29 : decode cX7_rate 29 = .ok (.iconst 0, 1) := by decide +kernel
theorem dX7_rate_30 : decode cX7_rate 30 = .ok (.iaload, 1) := by decide +kernel
theorem dX7_rate_31 : decode cX7_rate 31 = .ok (.ifCond .le 5, 3) := by decide +kernel
theorem dX7_rate_34 : decode cX7_rate 34 = .ok (.iconst 0, 1) := by decide +kernel
theorem dX7_rate_35 : decode cX7_rate 35 = .ok (.ireturn, 1) := by decide +kernel
theorem dX7_rate_36 : decode cX7_rate 36 = .ok (.aload_n 0, 1) := by decide +kernel
theorem dX7_rate_37 : decode cX7_rate 37 = .ok (.getfield 16, 3) := by decide +kernel
theorem dX7_rate_40 : decode cX7_rate 40 = .ok (.iconst 0, 1) := by decide +kernel
theorem dX7_rate_41 : decode cX7_rate 41 = .ok (.iload_n 1, 1) := by decide +kernel
theorem dX7_rate_42 : decode cX7_rate 42 = .ok (.iastore, 1) := by decide +kernel
theorem dX7_rate_43 : decode cX7_rate 43 = .ok (.aload_n 0, 1) := by decide +kernel
theorem dX7_rate_44 : decode cX7_rate 44 = .ok (.getfield 16, 3) := by decide +kernel
theorem dX7_rate_47 : decode cX7_rate 47 = .ok (.iconst 1, 1) := by decide +kernel
theorem dX7_rate_48 : decode cX7_rate 48 = .ok (.iload_n 2, 1) := by decide +kernel
theorem dX7_rate_49 : decode cX7_rate 49 = .ok (.iastore, 1) := by decide +kernel
theorem dX7_rate_50 : decode cX7_rate 50 = .ok (.iconst 1, 1) := by decide +kernel
theorem dX7_rate_51 : decode cX7_rate 51 = .ok (.ireturn, 1) := by decide +kernel
theorem dX7_isGood_0 : decode cX7_isGood 0 = .ok (.iload_n 1, 1) := by decide +kernel
theorem dX7_isGood_1 : decode cX7_isGood 1 = .ok (.iconst 0, 1) := by decide +kernel
theorem dX7_isGood_2 : decode cX7_isGood 2 = .ok (.aload_n 0, 1) := by decide +kernel
theorem dX7_isGood_3 : decode cX7_isGood 3 = .ok (.getfield 22, 3) := by decide +kernel
theorem dX7_isGood_6 : decode cX7_isGood 6 = .ok (.iconst 0, 1) := by decide +kernel
theorem dX7_isGood_7 : decode cX7_isGood 7 = .ok (.iaload, 1) := by decide +kernel
theorem dX7_isGood_8 : decode cX7_isGood 8 = .ok (.iconst 1, 1) := by decide +kernel
theorem dX7_isGood_9 : decode cX7_isGood 9 = .ok (.isub, 1) := by decide +kernel
theorem dX7_isGood_10 : decode cX7_isGood 10 = .ok (.invokestatic 98, 3) := by decide +kernel
theorem dX7_isGood_13 : decode cX7_isGood 13 = .ok (.ireturn, 1) := by decide +kernel
theorem dX7_good_0 : decode cX7_good 0 = .ok (.aload_n 0, 1) := by decide +kernel
theorem dX7_good_1 : decode cX7_good 1 = .ok (.iconst 0, 1) := by decide +kernel
theorem dX7_good_2 : decode cX7_good 2 = .ok (.putfield 90, 3) := by decide +kernel
theorem dX7_good_5 : decode cX7_good 5 = .ok (.aload_n 0, 1) := by decide +kernel
theorem dX7_good_6 : decode cX7_good 6 = .ok (.getfield 22, 3) := by decide +kernel
theorem dX7_good_9 : decode cX7_good 9 = .ok (.iconst 0, 1) := by decide +kernel
theorem dX7_good_10 : decode cX7_good 10 = .ok (.iaload, 1) := by decide +kernel
theorem dX7_good_11 : decode cX7_good 11 = .ok (.bipush 14, 2) := by decide +kernel
theorem dX7_good_13 : decode cX7_good 13 = .ok (.if_icmp .eq 24, 3) := by decide +kernel
theorem dX7_good_16 : decode cX7_good 16 = .ok (.iload_n 1, 1) := by decide +kernel
theorem dX7_good_17 : decode cX7_good 17 = .ok (.iconst 1, 1) := by decide +kernel
theorem dX7_good_18 : decode cX7_good 18 = .ok (.sipush 10000, 3) := by decide +kernel
theorem dX7_good_21 : decode cX7_good 21 = .ok (.invokestatic 98, 3) := by decide +kernel
theorem dX7_good_24 : decode cX7_good 24 = .ok (.ifCond .eq 13, 3) := by decide +kernel
theorem dX7_good_27 : decode cX7_good 27 = .ok (.iload_n 2, 1) := by decide +kernel
theorem dX7_good_28 : decode cX7_good 28 = .ok (.iconst 0, 1) := by decide +kernel
theorem dX7_good_29 : decode cX7_good 29 = .ok (.bipush 100, 2) := by decide +kernel
theorem dX7_good_31 : decode cX7_good 31 = .ok (.invokestatic 98, 3) := by decide +kernel
theorem dX7_good_34 : decode cX7_good 34 = .ok (.ifCond .ne 5, 3) := by decide +kernel
theorem dX7_good_37 : decode cX7_good 37 = .ok (.iconst (-1), 1) := by decide +kernel
theorem dX7_good_38 : decode cX7_good 38 = .ok (.ireturn, 1) := by decide +kernel
theorem dX7_good_39 : decode cX7_good 39 = .ok (.aload_n 0, 1) := by decide +kernel
theorem dX7_good_40 : decode cX7_good 40 = .ok (.getfield 25, 3) := by decide +kernel
theorem dX7_good_43 : decode cX7_good 43 = .ok (.aload_n 0, 1) := by decide +kernel
theorem dX7_good_44 : decode cX7_good 44 = .ok (.getfield 22, 3) := by decide +kernel
theorem dX7_good_47 : decode cX7_good 47 = .ok (.iconst 0, 1) := by decide +kernel
theorem dX7_good_48 : decode cX7_good 48 = .ok (.iaload, 1) := by decide +kernel
theorem dX7_good_49 : decode cX7_good 49 = .ok (.iload_n 1, 1) := by decide +kernel
theorem dX7_good_50 : decode cX7_good 50 = .ok (.iastore, 1) := by decide +kernel
theorem dX7_good_51 : decode cX7_good 51 = .ok (.aload_n 0, 1) := by decide +kernel
theorem dX7_good_52 : decode cX7_good 52 = .ok (.getfield 28, 3) := by decide +kernel
theorem dX7_good_55 : decode cX7_good 55 = .ok (.aload_n 0, 1) := by decide +kernel
theorem dX7_good_56 : decode cX7_good 56 = .ok (.getfield 22, 3) := by decide +kernel
theorem dX7_good_59 : decode cX7_good 59 = .ok (.iconst 0, 1) := by decide +kernel
theorem dX7_good_60 : decode cX7_good 60 = .ok (.iaload, 1) := by decide +kernel
theorem dX7_good_61 : decode cX7_good 61 = .ok (.iload_n 2, 1) := by decide +kernel
theorem dX7_good_62 : decode cX7_good 62 = .ok (.iastore, 1) := by decide +kernel
theorem dX7_good_63 : decode cX7_good 63 = .ok (.aload_n 0, 1) := by decide +kernel
theorem dX7_good_64 : decode cX7_good 64 = .ok (.getfield 22, 3) := by decide +kernel
theorem dX7_good_67 : decode cX7_good 67 = .ok (.iconst 0, 1) := by decide +kernel
theorem dX7_good_68 : decode cX7_good 68 = .ok (.dup2, 1) := by decide +kernel
theorem dX7_good_69 : decode cX7_good 69 = .ok (.iaload, 1) := by decide +kernel
theorem dX7_good_70 : decode cX7_good 70 = .ok (.iconst 1, 1) := by decide +kernel
theorem dX7_good_71 : decode cX7_good 71 = .ok (.iadd, 1) := by decide +kernel
theorem dX7_good_72 : decode cX7_good 72 = .ok (.iastore, 1) := by decide +kernel
theorem dX7_good_73 : decode cX7_good 73 = .ok (.aload_n 0, 1) := by decide +kernel
theorem dX7_good_74 : decode cX7_good 74 = .ok (.getfield 22, 3) := by decide +kernel
theorem dX7_good_77 : decode cX7_good 77 = .ok (.iconst 0, 1) := by decide +kernel
theorem dX7_good_78 : decode cX7_good 78 = .ok (.iaload, 1) := by decide +kernel
theorem dX7_good_79 : decode cX7_good 79 = .ok (.iconst 1, 1) := by decide +kernel
theorem dX7_good_80 : decode cX7_good 80 = .ok (.isub, 1) := by decide +kernel
theorem dX7_good_81 : decode cX7_good 81 = .ok (.ireturn, 1) := by decide +kernel
theorem dX7_sold_0 : decode cX7_sold 0 = .ok (.aload_n 0, 1) := by decide +kernel
theorem dX7_sold_1 : decode cX7_sold 1 = .ok (.iconst 0, 1) := by decide +kernel
theorem dX7_sold_2 : decode cX7_sold 2 = .ok (.putfield 90, 3) := by decide +kernel
theorem dX7_sold_5 : decode cX7_sold 5 = .ok (.aload_n 0, 1) := by decide +kernel
theorem dX7_sold_6 : decode cX7_sold 6 = .ok (.iload_n 1, 1) := by decide +kernel
theorem dX7_sold_7 : decode cX7_sold 7 = .ok (.invokevirtual 102, 3) := by decide +kernel
theorem dX7_sold_10 : decode cX7_sold 10 = .ok (.ifCond .eq 13, 3) := by decide +kernel
theorem dX7_sold_13 : decode cX7_sold 13 = .ok (.iload_n 2, 1) := by decide +kernel
theorem dX7_sold_14 : decode cX7_sold 14 = .ok (.iconst 0, 1) := by decide +kernel
theorem dX7_sold_15 : decode cX7_sold 15 = .ok (.bipush 100, 2) := by decide +kernel
theorem dX7_sold_17 : decode cX7_sold 17 = .ok (.invokestatic 98, 3) := by decide +kernel
theorem dX7_sold_20 : decode cX7_sold 20 = .ok (.ifCond .ne 5, 3) := by decide +kernel
theorem dX7_sold_23 : decode cX7_sold 23 = .ok (.iconst 0, 1) := by decide +kernel
theorem dX7_sold_24 : decode cX7_sold 24 = .ok (.ireturn, 1) := by decide +kernel
theorem dX7_sold_25 : decode cX7_sold 25 = .ok (.aload_n 0, 1) := by decide +kernel
theorem dX7_sold_26 : decode cX7_sold 26 = .ok (.getfield 28, 3) := by decide +kernel
theorem dX7_sold_29 : decode cX7_sold 29 = .ok (.iload_n 1, 1) := by decide +kernel
theorem dX7_sold_30 : decode cX7_sold 30 = .ok (.iload_n 2, 1) := by decide +kernel
theorem dX7_sold_31 : decode cX7_sold 31 = .ok (.iastore, 1) := by decide +kernel
theorem dX7_sold_32 : decode cX7_sold 32 = .ok (.iconst 1, 1) := by decide +kernel
theorem dX7_sold_33 : decode cX7_sold 33 = .ok (.ireturn, 1) := by decide +kernel
theorem dX7_step_0 : decode cX7_step 0 = .ok (.aload_n 0, 1) := by decide +kernel
theorem dX7_step_1 : decode cX7_step 1 = .ok (.iconst 0, 1) := by decide +kernel
theorem dX7_step_2 : decode cX7_step 2 = .ok (.putfield 90, 3) := by decide +kernel
theorem dX7_step_5 : decode cX7_step 5 = .ok (.iload_n 1, 1) := by decide +kernel
theorem dX7_step_6 : decode cX7_step 6 = .ok (.iconst 1, 1) := by decide +kernel
theorem dX7_step_7 : decode cX7_step 7 = .ok (.bipush 100, 2) := by decide +kernel
theorem dX7_step_9 : decode cX7_step 9 = .ok (.invokestatic 98, 3) := by decide +kernel
theorem dX7_step_12 : decode cX7_step 12 = .ok (.ifCond .ne 5, 3) := by decide +kernel
theorem dX7_step_15 : decode cX7_step 15 = .ok (.iconst 0, 1) := by decide +kernel
theorem dX7_step_16 : decode cX7_step 16 = .ok (.ireturn, 1) := by decide +kernel
theorem dX7_step_17 : decode cX7_step 17 = .ok (.aload_n 0, 1) := by decide +kernel
theorem dX7_step_18 : decode cX7_step 18 = .ok (.getfield 31, 3) := by decide +kernel
theorem dX7_step_21 : decode cX7_step 21 = .ok (.iconst 0, 1) := by decide +kernel
theorem dX7_step_22 : decode cX7_step 22 = .ok (.iload_n 1, 1) := by decide +kernel
theorem dX7_step_23 : decode cX7_step 23 = .ok (.iastore, 1) := by decide +kernel
theorem dX7_step_24 : decode cX7_step 24 = .ok (.iconst 1, 1) := by decide +kernel
theorem dX7_step_25 : decode cX7_step 25 = .ok (.ireturn, 1) := by decide +kernel
theorem dX7_priceOf_0 : decode cX7_priceOf 0 = .ok (.aload_n 0, 1) := by decide +kernel
theorem dX7_priceOf_1 : decode cX7_priceOf 1 = .ok (.getfield 25, 3) := by decide +kernel
theorem dX7_priceOf_4 : decode cX7_priceOf 4 = .ok (.iload_n 1, 1) := by decide +kernel
theorem dX7_priceOf_5 : decode cX7_priceOf 5 = .ok (.iaload, 1) := by decide +kernel
theorem dX7_priceOf_6 : decode cX7_priceOf 6 = .ok (.aload_n 0, 1) := by decide +kernel
theorem dX7_priceOf_7 : decode cX7_priceOf 7 = .ok (.getfield 16, 3) := by decide +kernel
theorem dX7_priceOf_10 : decode cX7_priceOf 10 = .ok (.iconst 0, 1) := by decide +kernel
theorem dX7_priceOf_11 : decode cX7_priceOf 11 = .ok (.iaload, 1) := by decide +kernel
theorem dX7_priceOf_12 : decode cX7_priceOf 12 = .ok (.imul, 1) := by decide +kernel
theorem dX7_priceOf_13 : decode cX7_priceOf 13 = .ok (.istore_n 3, 1) := by decide +kernel
theorem dX7_priceOf_14 : decode cX7_priceOf 14 = .ok (.aload_n 0, 1) := by decide +kernel
theorem dX7_priceOf_15 : decode cX7_priceOf 15 = .ok (.getfield 16, 3) := by decide +kernel
theorem dX7_priceOf_18 : decode cX7_priceOf 18 = .ok (.iconst 1, 1) := by decide +kernel
theorem dX7_priceOf_19 : decode cX7_priceOf 19 = .ok (.iaload, 1) := by decide +kernel
theorem dX7_priceOf_20 : decode cX7_priceOf 20 = .ok (.aload_n 0, 1) := by decide +kernel
theorem dX7_priceOf_21 : decode cX7_priceOf 21 = .ok (.getfield 31, 3) := by decide +kernel
theorem dX7_priceOf_24 : decode cX7_priceOf 24 = .ok (.iconst 0, 1) := by decide +kernel
theorem dX7_priceOf_25 : decode cX7_priceOf 25 = .ok (.iaload, 1) := by decide +kernel
theorem dX7_priceOf_26 : decode cX7_priceOf 26 = .ok (.imul, 1) := by decide +kernel
theorem dX7_priceOf_27 : decode cX7_priceOf 27 = .ok (.istore 4, 2) := by decide +kernel
theorem dX7_priceOf_29 : decode cX7_priceOf 29 = .ok (.iload_n 3, 1) := by decide +kernel
theorem dX7_priceOf_30 : decode cX7_priceOf 30 = .ok (.iload 4, 2) := by decide +kernel
theorem dX7_priceOf_32 : decode cX7_priceOf 32 = .ok (.idiv, 1) := by decide +kernel
theorem dX7_priceOf_33 : decode cX7_priceOf 33 = .ok (.istore 5, 2) := by decide +kernel
theorem dX7_priceOf_35 : decode cX7_priceOf 35 = .ok (.iload_n 3, 1) := by decide +kernel
theorem dX7_priceOf_36 : decode cX7_priceOf 36 = .ok (.iload 4, 2) := by decide +kernel
theorem dX7_priceOf_38 : decode cX7_priceOf 38 = .ok (.irem, 1) := by decide +kernel
theorem dX7_priceOf_39 : decode cX7_priceOf 39 = .ok (.istore 6, 2) := by decide +kernel
theorem dX7_priceOf_41 : decode cX7_priceOf 41 = .ok (.iload 6, 2) := by decide +kernel
theorem dX7_priceOf_43 : decode cX7_priceOf 43 = .ok (.ifCond .le 10, 3) := by decide +kernel
theorem dX7_priceOf_46 : decode cX7_priceOf 46 = .ok (.iload 5, 2) := by decide +kernel
theorem dX7_priceOf_48 : decode cX7_priceOf 48 = .ok (.iconst 1, 1) := by decide +kernel
theorem dX7_priceOf_49 : decode cX7_priceOf 49 = .ok (.iadd, 1) := by decide +kernel
theorem dX7_priceOf_50 : decode cX7_priceOf 50 = .ok (.goto 5, 3) := by decide +kernel
theorem dX7_priceOf_53 : decode cX7_priceOf 53 = .ok (.iload 5, 2) := by decide +kernel
theorem dX7_priceOf_55 : decode cX7_priceOf 55 = .ok (.istore 7, 2) := by decide +kernel
theorem dX7_priceOf_57 : decode cX7_priceOf 57 = .ok (.iload_n 2, 1) := by decide +kernel
theorem dX7_priceOf_58 : decode cX7_priceOf 58 = .ok (.ifCond .eq 8, 3) := by decide +kernel
theorem dX7_priceOf_61 : decode cX7_priceOf 61 = .ok (.iload_n 2, 1) := by decide +kernel
theorem dX7_priceOf_62 : decode cX7_priceOf 62 = .ok (.iconst 1, 1) := by decide +kernel
theorem dX7_priceOf_63 : decode cX7_priceOf 63 = .ok (.if_icmp .ne 22, 3) := by decide +kernel
theorem dX7_priceOf_66 : decode cX7_priceOf 66 = .ok (.aload_n 0, 1) := by decide +kernel
theorem dX7_priceOf_67 : decode cX7_priceOf 67 = .ok (.getfield 31, 3) := by decide +kernel
theorem dX7_priceOf_70 : decode cX7_priceOf 70 = .ok (.iconst 0, 1) := by decide +kernel
theorem dX7_priceOf_71 : decode cX7_priceOf 71 = .ok (.iaload, 1) := by decide +kernel
theorem dX7_priceOf_72 : decode cX7_priceOf 72 = .ok (.iload_n 2, 1) := by decide +kernel
theorem dX7_priceOf_73 : decode cX7_priceOf 73 = .ok (.ifCond .ne 8, 3) := by decide +kernel
theorem dX7_priceOf_76 : decode cX7_priceOf 76 = .ok (.iload 5, 2) := by decide +kernel
theorem dX7_priceOf_78 : decode cX7_priceOf 78 = .ok (.goto 5, 3) := by decide +kernel
theorem dX7_priceOf_81 : decode cX7_priceOf 81 = .ok (.iload 7, 2) := by decide +kernel
theorem dX7_priceOf_83 : decode cX7_priceOf 83 = .ok (.imul, 1) := by decide +kernel
theorem dX7_priceOf_84 : decode cX7_priceOf 84 = .ok (.ireturn, 1) := by decide +kernel
theorem dX7_priceOf_85 : decode cX7_priceOf 85 = .ok (.iconst 2, 1) := by decide +kernel
theorem dX7_priceOf_86 : decode cX7_priceOf 86 = .ok (.iload 6, 2) := by decide +kernel
theorem dX7_priceOf_88 : decode cX7_priceOf 88 = .ok (.imul, 1) := by decide +kernel
theorem dX7_priceOf_89 : decode cX7_priceOf 89 = .ok (.iload 4, 2) := by decide +kernel
theorem dX7_priceOf_91 : decode cX7_priceOf 91 = .ok (.if_icmp .gt 25, 3) := by decide +kernel
theorem dX7_priceOf_94 : decode cX7_priceOf 94 = .ok (.iconst 2, 1) := by decide +kernel
theorem dX7_priceOf_95 : decode cX7_priceOf 95 = .ok (.iload 6, 2) := by decide +kernel
theorem dX7_priceOf_97 : decode cX7_priceOf 97 = .ok (.imul, 1) := by decide +kernel
theorem dX7_priceOf_98 : decode cX7_priceOf 98 = .ok (.iload 4, 2) := by decide +kernel
theorem dX7_priceOf_100 : decode cX7_priceOf 100 = .ok (.if_icmp .ne 20, 3) := by decide +kernel
theorem dX7_priceOf_103 : decode cX7_priceOf 103 = .ok (.iload_n 2, 1) := by decide +kernel
theorem dX7_priceOf_104 : decode cX7_priceOf 104 = .ok (.iconst 2, 1) := by decide +kernel
theorem dX7_priceOf_105 : decode cX7_priceOf 105 = .ok (.if_icmp .eq 11, 3) := by decide +kernel
theorem dX7_priceOf_108 : decode cX7_priceOf 108 = .ok (.iload 5, 2) := by decide +kernel
theorem dX7_priceOf_110 : decode cX7_priceOf 110 = .ok (.iconst 2, 1) := by decide +kernel
theorem dX7_priceOf_111 : decode cX7_priceOf 111 = .ok (.irem, 1) := by decide +kernel
theorem dX7_priceOf_112 : decode cX7_priceOf 112 = .ok (.iconst 1, 1) := by decide +kernel
theorem dX7_priceOf_113 : decode cX7_priceOf 113 = .ok (.if_icmp .ne 7, 3) := by decide +kernel
theorem dX7_priceOf_116 : decode cX7_priceOf 116 = .ok (.iconst 1, 1) := by decide +kernel
theorem dX7_priceOf_117 : decode cX7_priceOf 117 = .ok (.goto 4, 3) := by decide +kernel
theorem dX7_priceOf_120 : decode cX7_priceOf 120 = .ok (.iconst 0, 1) := by decide +kernel
theorem dX7_priceOf_121 : decode cX7_priceOf 121 = .ok (.istore 8, 2) := by decide +kernel
theorem dX7_priceOf_123 : decode cX7_priceOf 123 = .ok (.aload_n 0, 1) := by decide +kernel
theorem dX7_priceOf_124 : decode cX7_priceOf 124 = .ok (.getfield 31, 3) := by decide +kernel
theorem dX7_priceOf_127 : decode cX7_priceOf 127 = .ok (.iconst 0, 1) := by decide +kernel
theorem dX7_priceOf_128 : decode cX7_priceOf 128 = .ok (.iaload, 1) := by decide +kernel
theorem dX7_priceOf_129 : decode cX7_priceOf 129 = .ok (.iload 8, 2) := by decide +kernel
theorem dX7_priceOf_131 : decode cX7_priceOf 131 = .ok (.ifCond .eq 8, 3) := by decide +kernel
theorem dX7_priceOf_134 : decode cX7_priceOf 134 = .ok (.iload 7, 2) := by decide +kernel
theorem dX7_priceOf_136 : decode cX7_priceOf 136 = .ok (.goto 5, 3) := by decide +kernel
theorem dX7_priceOf_139 : decode cX7_priceOf 139 = .ok (.iload 5, 2) := by decide +kernel
theorem dX7_priceOf_141 : decode cX7_priceOf 141 = .ok (.imul, 1) := by decide +kernel
theorem dX7_priceOf_142 : decode cX7_priceOf 142 = .ok (.ireturn, 1) := by decide +kernel
theorem dX7_price_0 : decode cX7_price 0 = .ok (.aload_n 0, 1) := by decide +kernel
theorem dX7_price_1 : decode cX7_price 1 = .ok (.iconst 0, 1) := by decide +kernel
theorem dX7_price_2 : decode cX7_price 2 = .ok (.putfield 90, 3) := by decide +kernel
theorem dX7_price_5 : decode cX7_price 5 = .ok (.aload_n 0, 1) := by decide +kernel
theorem dX7_price_6 : decode cX7_price 6 = .ok (.iload_n 1, 1) := by decide +kernel
theorem dX7_price_7 : decode cX7_price 7 = .ok (.invokevirtual 102, 3) := by decide +kernel
theorem dX7_price_10 : decode cX7_price 10 = .ok (.ifCond .eq 21, 3) := by decide +kernel
theorem dX7_price_13 : decode cX7_price 13 = .ok (.iload_n 2, 1) := by decide +kernel
theorem dX7_price_14 : decode cX7_price 14 = .ok (.iconst 0, 1) := by decide +kernel
theorem dX7_price_15 : decode cX7_price 15 = .ok (.iconst 3, 1) := by decide +kernel
theorem dX7_price_16 : decode cX7_price 16 = .ok (.invokestatic 98, 3) := by decide +kernel
theorem dX7_price_19 : decode cX7_price 19 = .ok (.ifCond .eq 12, 3) := by decide +kernel
theorem dX7_price_22 : decode cX7_price 22 = .ok (.aload_n 0, 1) := by decide +kernel
theorem dX7_price_23 : decode cX7_price 23 = .ok (.iload_n 1, 1) := by decide +kernel
theorem dX7_price_24 : decode cX7_price 24 = .ok (.iload_n 2, 1) := by decide +kernel
theorem dX7_price_25 : decode cX7_price 25 = .ok (.invokevirtual 106, 3) := by decide +kernel
theorem dX7_price_28 : decode cX7_price 28 = .ok (.goto 4, 3) := by decide +kernel
theorem dX7_price_31 : decode cX7_price 31 = .ok (.iconst (-1), 1) := by decide +kernel
theorem dX7_price_32 : decode cX7_price 32 = .ok (.ireturn, 1) := by decide +kernel
theorem dX7_gainOf_0 : decode cX7_gainOf 0 = .ok (.aload_n 0, 1) := by decide +kernel
theorem dX7_gainOf_1 : decode cX7_gainOf 1 = .ok (.iload_n 1, 1) := by decide +kernel
theorem dX7_gainOf_2 : decode cX7_gainOf 2 = .ok (.iload_n 2, 1) := by decide +kernel
theorem dX7_gainOf_3 : decode cX7_gainOf 3 = .ok (.invokevirtual 106, 3) := by decide +kernel
theorem dX7_gainOf_6 : decode cX7_gainOf 6 = .ok (.i2l, 1) := by decide +kernel
theorem dX7_gainOf_7 : decode cX7_gainOf 7 = .ok (.aload_n 0, 1) := by decide +kernel
theorem dX7_gainOf_8 : decode cX7_gainOf 8 = .ok (.getfield 16, 3) := by decide +kernel
theorem dX7_gainOf_11 : decode cX7_gainOf 11 = .ok (.iconst 1, 1) := by decide +kernel
theorem dX7_gainOf_12 : decode cX7_gainOf 12 = .ok (.iaload, 1) := by decide +kernel
theorem dX7_gainOf_13 : decode cX7_gainOf 13 = .ok (.i2l, 1) := by decide +kernel
theorem dX7_gainOf_14 : decode cX7_gainOf 14 = .ok (.lmul, 1) := by decide +kernel
theorem dX7_gainOf_15 : decode cX7_gainOf 15 = .ok (.aload_n 0, 1) := by decide +kernel
theorem dX7_gainOf_16 : decode cX7_gainOf 16 = .ok (.getfield 25, 3) := by decide +kernel
theorem dX7_gainOf_19 : decode cX7_gainOf 19 = .ok (.iload_n 1, 1) := by decide +kernel
theorem dX7_gainOf_20 : decode cX7_gainOf 20 = .ok (.iaload, 1) := by decide +kernel
theorem dX7_gainOf_21 : decode cX7_gainOf 21 = .ok (.i2l, 1) := by decide +kernel
theorem dX7_gainOf_22 : decode cX7_gainOf 22 = .ok (.aload_n 0, 1) := by decide +kernel
theorem dX7_gainOf_23 : decode cX7_gainOf 23 = .ok (.getfield 16, 3) := by decide +kernel
theorem dX7_gainOf_26 : decode cX7_gainOf 26 = .ok (.iconst 0, 1) := by decide +kernel
theorem dX7_gainOf_27 : decode cX7_gainOf 27 = .ok (.iaload, 1) := by decide +kernel
theorem dX7_gainOf_28 : decode cX7_gainOf 28 = .ok (.i2l, 1) := by decide +kernel
theorem dX7_gainOf_29 : decode cX7_gainOf 29 = .ok (.lmul, 1) := by decide +kernel
theorem dX7_gainOf_30 : decode cX7_gainOf 30 = .ok (.lsub, 1) := by decide +kernel
theorem dX7_gainOf_31 : decode cX7_gainOf 31 = .ok (.aload_n 0, 1) := by decide +kernel
theorem dX7_gainOf_32 : decode cX7_gainOf 32 = .ok (.getfield 28, 3) := by decide +kernel
theorem dX7_gainOf_35 : decode cX7_gainOf 35 = .ok (.iload_n 1, 1) := by decide +kernel
theorem dX7_gainOf_36 : decode cX7_gainOf 36 = .ok (.iaload, 1) := by decide +kernel
theorem dX7_gainOf_37 : decode cX7_gainOf 37 = .ok (.i2l, 1) := by decide +kernel
theorem dX7_gainOf_38 : decode cX7_gainOf 38 = .ok (.lmul, 1) := by decide +kernel
theorem dX7_gainOf_39 : decode cX7_gainOf 39 = .ok (.lreturn, 1) := by decide +kernel
theorem dX7_gain_0 : decode cX7_gain 0 = .ok (.aload_n 0, 1) := by decide +kernel
theorem dX7_gain_1 : decode cX7_gain 1 = .ok (.iconst 0, 1) := by decide +kernel
theorem dX7_gain_2 : decode cX7_gain 2 = .ok (.putfield 90, 3) := by decide +kernel
theorem dX7_gain_5 : decode cX7_gain 5 = .ok (.lconst 0, 1) := by decide +kernel
theorem dX7_gain_6 : decode cX7_gain 6 = .ok (.lstore_n 2, 1) := by decide +kernel
theorem dX7_gain_7 : decode cX7_gain 7 = .ok (.iconst 0, 1) := by decide +kernel
theorem dX7_gain_8 : decode cX7_gain 8 = .ok (.istore 4, 2) := by decide +kernel
theorem dX7_gain_10 : decode cX7_gain 10 = .ok (.iload 4, 2) := by decide +kernel
theorem dX7_gain_12 : decode cX7_gain 12 = .ok (.aload_n 0, 1) := by decide +kernel
theorem dX7_gain_13 : decode cX7_gain 13 = .ok (.getfield 22, 3) := by decide +kernel
theorem dX7_gain_16 : decode cX7_gain 16 = .ok (.iconst 0, 1) := by decide +kernel
theorem dX7_gain_17 : decode cX7_gain 17 = .ok (.iaload, 1) := by decide +kernel
theorem dX7_gain_18 : decode cX7_gain 18 = .ok (.if_icmp .ge 28, 3) := by decide +kernel
theorem dX7_gain_21 : decode cX7_gain 21 = .ok (.iload_n 1, 1) := by decide +kernel
theorem dX7_gain_22 : decode cX7_gain 22 = .ok (.iconst 0, 1) := by decide +kernel
theorem dX7_gain_23 : decode cX7_gain 23 = .ok (.iconst 3, 1) := by decide +kernel
theorem dX7_gain_24 : decode cX7_gain 24 = .ok (.invokestatic 98, 3) := by decide +kernel
theorem dX7_gain_27 : decode cX7_gain 27 = .ok (.ifCond .eq 19, 3) := by decide +kernel
theorem dX7_gain_30 : decode cX7_gain 30 = .ok (.lload_n 2, 1) := by decide +kernel
theorem dX7_gain_31 : decode cX7_gain 31 = .ok (.aload_n 0, 1) := by decide +kernel
theorem dX7_gain_32 : decode cX7_gain 32 = .ok (.iload 4, 2) := by decide +kernel
theorem dX7_gain_34 : decode cX7_gain 34 = .ok (.iload_n 1, 1) := by decide +kernel
theorem dX7_gain_35 : decode cX7_gain 35 = .ok (.invokevirtual 110, 3) := by decide +kernel
theorem dX7_gain_38 : decode cX7_gain 38 = .ok (.ladd, 1) := by decide +kernel
theorem dX7_gain_39 : decode cX7_gain 39 = .ok (.lstore_n 2, 1) := by decide +kernel
theorem dX7_gain_40 : decode cX7_gain 40 = .ok (.iinc 4 1, 3) := by decide +kernel
theorem dX7_gain_43 : decode cX7_gain 43 = .ok (.goto (-33), 3) := by decide +kernel
theorem dX7_gain_46 : decode cX7_gain 46 = .ok (.lload_n 2, 1) := by decide +kernel
theorem dX7_gain_47 : decode cX7_gain 47 = .ok (.lreturn, 1) := by decide +kernel
theorem dX7_fairest_0 : decode cX7_fairest 0 = .ok (.aload_n 0, 1) := by decide +kernel
theorem dX7_fairest_1 : decode cX7_fairest 1 = .ok (.iconst 0, 1) := by decide +kernel
theorem dX7_fairest_2 : decode cX7_fairest 2 = .ok (.putfield 90, 3) := by decide +kernel
theorem dX7_fairest_5 : decode cX7_fairest 5 = .ok (.iconst 0, 1) := by decide +kernel
theorem dX7_fairest_6 : decode cX7_fairest 6 = .ok (.istore_n 1, 1) := by decide +kernel
theorem dX7_fairest_7 : decode cX7_fairest 7 = .ok (.iload_n 1, 1) := by decide +kernel
theorem dX7_fairest_8 : decode cX7_fairest 8 = .ok (.aload_n 0, 1) := by decide +kernel
theorem dX7_fairest_9 : decode cX7_fairest 9 = .ok (.getfield 22, 3) := by decide +kernel
theorem dX7_fairest_12 : decode cX7_fairest 12 = .ok (.iconst 0, 1) := by decide +kernel
theorem dX7_fairest_13 : decode cX7_fairest 13 = .ok (.iaload, 1) := by decide +kernel
theorem dX7_fairest_14 : decode cX7_fairest 14 = .ok (.if_icmp .ge 39, 3) := by decide +kernel
theorem dX7_fairest_17 : decode cX7_fairest 17 = .ok (.aload_n 0, 1) := by decide +kernel
theorem dX7_fairest_18 : decode cX7_fairest 18 = .ok (.getfield 62, 3) := by decide +kernel
theorem dX7_fairest_21 : decode cX7_fairest 21 = .ok (.iconst 2, 1) := by decide +kernel
theorem dX7_fairest_22 : decode cX7_fairest 22 = .ok (.iload_n 1, 1) := by decide +kernel
theorem dX7_fairest_23 : decode cX7_fairest 23 = .ok (.imul, 1) := by decide +kernel
theorem dX7_fairest_24 : decode cX7_fairest 24 = .ok (.aload_n 0, 1) := by decide +kernel
theorem dX7_fairest_25 : decode cX7_fairest 25 = .ok (.iload_n 1, 1) := by decide +kernel
theorem dX7_fairest_26 : decode cX7_fairest 26 = .ok (.iconst 0, 1) := by decide +kernel
theorem dX7_fairest_27 : decode cX7_fairest 27 = .ok (.invokevirtual 110, 3) := by decide +kernel
theorem dX7_fairest_30 : decode cX7_fairest 30 = .ok (.lastore, 1) := by decide +kernel
theorem dX7_fairest_31 : decode cX7_fairest 31 = .ok (.aload_n 0, 1) := by decide +kernel
theorem dX7_fairest_32 : decode cX7_fairest 32 = .ok (.getfield 62, 3) := by decide +kernel
theorem dX7_fairest_35 : decode cX7_fairest 35 = .ok (.iconst 2, 1) := by decide +kernel
theorem dX7_fairest_36 : decode cX7_fairest 36 = .ok (.iload_n 1, 1) := by decide +kernel
theorem dX7_fairest_37 : decode cX7_fairest 37 = .ok (.imul, 1) := by decide +kernel
theorem dX7_fairest_38 : decode cX7_fairest 38 = .ok (.iconst 1, 1) := by decide +kernel
theorem dX7_fairest_39 : decode cX7_fairest 39 = .ok (.iadd, 1) := by decide +kernel
theorem dX7_fairest_40 : decode cX7_fairest 40 = .ok (.aload_n 0, 1) := by decide +kernel
theorem dX7_fairest_41 : decode cX7_fairest 41 = .ok (.iload_n 1, 1) := by decide +kernel
theorem dX7_fairest_42 : decode cX7_fairest 42 = .ok (.iconst 1, 1) := by decide +kernel
theorem dX7_fairest_43 : decode cX7_fairest 43 = .ok (.invokevirtual 110, 3) := by decide +kernel
theorem dX7_fairest_46 : decode cX7_fairest 46 = .ok (.lastore, 1) := by decide +kernel
theorem dX7_fairest_47 : decode cX7_fairest 47 = .ok (.iinc 1 1, 3) := by decide +kernel
theorem dX7_fairest_50 : decode cX7_fairest 50 = .ok (.goto (-43), 3) := by decide +kernel
theorem dX7_fairest_53 : decode cX7_fairest 53 = .ok (.iconst 0, 1) := by decide +kernel
theorem dX7_fairest_54 : decode cX7_fairest 54 = .ok (.istore_n 1, 1) := by decide +kernel
theorem dX7_fairest_55 : decode cX7_fairest 55 = .ok (.ldc2_w 114, 3) := by decide +kernel
theorem dX7_fairest_58 : decode cX7_fairest 58 = .ok (.lstore_n 2, 1) := by decide +kernel
theorem dX7_fairest_59 : decode cX7_fairest 59 = .ok (.iconst 0, 1) := by decide +kernel
theorem dX7_fairest_60 : decode cX7_fairest 60 = .ok (.istore 4, 2) := by decide +kernel
theorem dX7_fairest_62 : decode cX7_fairest 62 = .ok (.iload 4, 2) := by decide +kernel
theorem dX7_fairest_64 : decode cX7_fairest 64 = .ok (.iconst 1, 1) := by decide +kernel
theorem dX7_fairest_65 : decode cX7_fairest 65 = .ok (.aload_n 0, 1) := by decide +kernel
theorem dX7_fairest_66 : decode cX7_fairest 66 = .ok (.getfield 22, 3) := by decide +kernel
theorem dX7_fairest_69 : decode cX7_fairest 69 = .ok (.iconst 0, 1) := by decide +kernel
theorem dX7_fairest_70 : decode cX7_fairest 70 = .ok (.iaload, 1) := by decide +kernel
theorem dX7_fairest_71 : decode cX7_fairest 71 = .ok (.ishl, 1) := by decide +kernel
theorem dX7_fairest_72 : decode cX7_fairest 72 = .ok (.if_icmp .ge 90, 3) := by decide +kernel
theorem dX7_fairest_75 : decode cX7_fairest 75 = .ok (.lconst 0, 1) := by decide +kernel
theorem dX7_fairest_76 : decode cX7_fairest 76 = .ok (.lstore 5, 2) := by decide +kernel
theorem dX7_fairest_78 : decode cX7_fairest 78 = .ok (.iconst 0, 1) := by decide +kernel
theorem dX7_fairest_79 : decode cX7_fairest 79 = .ok (.istore 7, 2) := by decide +kernel
theorem dX7_fairest_81 : decode cX7_fairest 81 = .ok (.iload 7, 2) := by decide +kernel
theorem dX7_fairest_83 : decode cX7_fairest 83 = .ok (.aload_n 0, 1) := by decide +kernel
theorem dX7_fairest_84 : decode cX7_fairest 84 = .ok (.getfield 22, 3) := by decide +kernel
theorem dX7_fairest_87 : decode cX7_fairest 87 = .ok (.iconst 0, 1) := by decide +kernel
theorem dX7_fairest_88 : decode cX7_fairest 88 = .ok (.iaload, 1) := by decide +kernel
theorem dX7_fairest_89 : decode cX7_fairest 89 = .ok (.if_icmp .ge 31, 3) := by decide +kernel
theorem dX7_fairest_92 : decode cX7_fairest 92 = .ok (.lload 5, 2) := by decide +kernel
theorem dX7_fairest_94 : decode cX7_fairest 94 = .ok (.aload_n 0, 1) := by decide +kernel
theorem dX7_fairest_95 : decode cX7_fairest 95 = .ok (.getfield 62, 3) := by decide +kernel
theorem dX7_fairest_98 : decode cX7_fairest 98 = .ok (.iconst 2, 1) := by decide +kernel
theorem dX7_fairest_99 : decode cX7_fairest 99 = .ok (.iload 7, 2) := by decide +kernel
theorem dX7_fairest_101 : decode cX7_fairest 101 = .ok (.imul, 1) := by decide +kernel
theorem dX7_fairest_102 : decode cX7_fairest 102 = .ok (.iload 4, 2) := by decide +kernel
theorem dX7_fairest_104 : decode cX7_fairest 104 = .ok (.iload 7, 2) := by decide +kernel
theorem dX7_fairest_106 : decode cX7_fairest 106 = .ok (.ishr, 1) := by decide +kernel
theorem dX7_fairest_107 : decode cX7_fairest 107 = .ok (.iconst 1, 1) := by decide +kernel
theorem dX7_fairest_108 : decode cX7_fairest 108 = .ok (.iand, 1) := by decide +kernel
theorem dX7_fairest_109 : decode cX7_fairest 109 = .ok (.iadd, 1) := by decide +kernel
theorem dX7_fairest_110 : decode cX7_fairest 110 = .ok (.laload, 1) := by decide +kernel
theorem dX7_fairest_111 : decode cX7_fairest 111 = .ok (.ladd, 1) := by decide +kernel
theorem dX7_fairest_112 : decode cX7_fairest 112 = .ok (.lstore 5, 2) := by decide +kernel
theorem dX7_fairest_114 : decode cX7_fairest 114 = .ok (.iinc 7 1, 3) := by decide +kernel
theorem dX7_fairest_117 : decode cX7_fairest 117 = .ok (.goto (-36), 3) := by decide +kernel
theorem dX7_fairest_120 : decode cX7_fairest 120 = .ok (.lload 5, 2) := by decide +kernel
theorem dX7_fairest_122 : decode cX7_fairest 122 = .ok (.lconst 0, 1) := by decide +kernel
theorem dX7_fairest_123 : decode cX7_fairest 123 = .ok (.lcmp, 1) := by decide +kernel
theorem dX7_fairest_124 : decode cX7_fairest 124 = .ok (.ifCond .ge 9, 3) := by decide +kernel
theorem dX7_fairest_127 : decode cX7_fairest 127 = .ok (.lload 5, 2) := by decide +kernel
theorem dX7_fairest_129 : decode cX7_fairest 129 = .ok (.lneg, 1) := by decide +kernel
theorem dX7_fairest_130 : decode cX7_fairest 130 = .ok (.goto 5, 3) := by decide +kernel
theorem dX7_fairest_133 : decode cX7_fairest 133 = .ok (.lload 5, 2) := by decide +kernel
theorem dX7_fairest_135 : decode cX7_fairest 135 = .ok (.lstore 5, 2) := by decide +kernel
theorem dX7_fairest_137 : decode cX7_fairest 137 = .ok (.lload_n 2, 1) := by decide +kernel
theorem dX7_fairest_138 : decode cX7_fairest 138 = .ok (.lconst 0, 1) := by decide +kernel
theorem dX7_fairest_139 : decode cX7_fairest 139 = .ok (.lcmp, 1) := by decide +kernel
theorem dX7_fairest_140 : decode cX7_fairest 140 = .ok (.ifCond .lt 10, 3) := by decide +kernel
theorem dX7_fairest_143 : decode cX7_fairest 143 = .ok (.lload 5, 2) := by decide +kernel
theorem dX7_fairest_145 : decode cX7_fairest 145 = .ok (.lload_n 2, 1) := by decide +kernel
theorem dX7_fairest_146 : decode cX7_fairest 146 = .ok (.lcmp, 1) := by decide +kernel
theorem dX7_fairest_147 : decode cX7_fairest 147 = .ok (.ifCond .ge 9, 3) := by decide +kernel
theorem dX7_fairest_150 : decode cX7_fairest 150 = .ok (.lload 5, 2) := by decide +kernel
theorem dX7_fairest_152 : decode cX7_fairest 152 = .ok (.lstore_n 2, 1) := by decide +kernel
theorem dX7_fairest_153 : decode cX7_fairest 153 = .ok (.iload 4, 2) := by decide +kernel
theorem dX7_fairest_155 : decode cX7_fairest 155 = .ok (.istore_n 1, 1) := by decide +kernel
theorem dX7_fairest_156 : decode cX7_fairest 156 = .ok (.iinc 4 1, 3) := by decide +kernel
theorem dX7_fairest_159 : decode cX7_fairest 159 = .ok (.goto (-97), 3) := by decide +kernel
theorem dX7_fairest_162 : decode cX7_fairest 162 = .ok (.iload_n 1, 1) := by decide +kernel
theorem dX7_fairest_163 : decode cX7_fairest 163 = .ok (.ireturn, 1) := by decide +kernel
theorem dX7_gains_0 : decode cX7_gains 0 = .ok (.aload_n 0, 1) := by decide +kernel
theorem dX7_gains_1 : decode cX7_gains 1 = .ok (.iconst 0, 1) := by decide +kernel
theorem dX7_gains_2 : decode cX7_gains 2 = .ok (.putfield 90, 3) := by decide +kernel
theorem dX7_gains_5 : decode cX7_gains 5 = .ok (.lconst 0, 1) := by decide +kernel
theorem dX7_gains_6 : decode cX7_gains 6 = .ok (.lstore_n 2, 1) := by decide +kernel
theorem dX7_gains_7 : decode cX7_gains 7 = .ok (.iconst 0, 1) := by decide +kernel
theorem dX7_gains_8 : decode cX7_gains 8 = .ok (.istore 4, 2) := by decide +kernel
theorem dX7_gains_10 : decode cX7_gains 10 = .ok (.iload 4, 2) := by decide +kernel
theorem dX7_gains_12 : decode cX7_gains 12 = .ok (.aload_n 0, 1) := by decide +kernel
theorem dX7_gains_13 : decode cX7_gains 13 = .ok (.getfield 22, 3) := by decide +kernel
theorem dX7_gains_16 : decode cX7_gains 16 = .ok (.iconst 0, 1) := by decide +kernel
theorem dX7_gains_17 : decode cX7_gains 17 = .ok (.iaload, 1) := by decide +kernel
theorem dX7_gains_18 : decode cX7_gains 18 = .ok (.if_icmp .ge 24, 3) := by decide +kernel
theorem dX7_gains_21 : decode cX7_gains 21 = .ok (.lload_n 2, 1) := by decide +kernel
theorem dX7_gains_22 : decode cX7_gains 22 = .ok (.aload_n 0, 1) := by decide +kernel
theorem dX7_gains_23 : decode cX7_gains 23 = .ok (.iload 4, 2) := by decide +kernel
theorem dX7_gains_25 : decode cX7_gains 25 = .ok (.iload_n 1, 1) := by decide +kernel
theorem dX7_gains_26 : decode cX7_gains 26 = .ok (.iload 4, 2) := by decide +kernel
theorem dX7_gains_28 : decode cX7_gains 28 = .ok (.ishr, 1) := by decide +kernel
theorem dX7_gains_29 : decode cX7_gains 29 = .ok (.iconst 1, 1) := by decide +kernel
theorem dX7_gains_30 : decode cX7_gains 30 = .ok (.iand, 1) := by decide +kernel
theorem dX7_gains_31 : decode cX7_gains 31 = .ok (.invokevirtual 110, 3) := by decide +kernel
theorem dX7_gains_34 : decode cX7_gains 34 = .ok (.ladd, 1) := by decide +kernel
theorem dX7_gains_35 : decode cX7_gains 35 = .ok (.lstore_n 2, 1) := by decide +kernel
theorem dX7_gains_36 : decode cX7_gains 36 = .ok (.iinc 4 1, 3) := by decide +kernel
theorem dX7_gains_39 : decode cX7_gains 39 = .ok (.goto (-29), 3) := by decide +kernel
theorem dX7_gains_42 : decode cX7_gains 42 = .ok (.lload_n 2, 1) := by decide +kernel
theorem dX7_gains_43 : decode cX7_gains 43 = .ok (.lreturn, 1) := by decide +kernel
theorem dX7_sortCoins_0 : decode cX7_sortCoins 0 = .ok (.iconst 0, 1) := by decide +kernel
theorem dX7_sortCoins_1 : decode cX7_sortCoins 1 = .ok (.istore_n 2, 1) := by decide +kernel
theorem dX7_sortCoins_2 : decode cX7_sortCoins 2 = .ok (.iload_n 2, 1) := by decide +kernel
theorem dX7_sortCoins_3 : decode cX7_sortCoins 3 = .ok (.aload_n 0, 1) := by decide +kernel
theorem dX7_sortCoins_4 : decode cX7_sortCoins 4 = .ok (.getfield 7, 3) := by decide +kernel
theorem dX7_sortCoins_7 : decode cX7_sortCoins 7 = .ok (.iload_n 1, 1) := by decide +kernel
theorem dX7_sortCoins_8 : decode cX7_sortCoins 8 = .ok (.iaload, 1) := by decide +kernel
theorem dX7_sortCoins_9 : decode cX7_sortCoins 9 = .ok (.if_icmp .ge 74, 3) := by decide +kernel
theorem dX7_sortCoins_12 : decode cX7_sortCoins 12 = .ok (.iload_n 2, 1) := by decide +kernel
theorem dX7_sortCoins_13 : decode cX7_sortCoins 13 = .ok (.istore_n 3, 1) := by decide +kernel
theorem dX7_sortCoins_14 : decode cX7_sortCoins 14 = .ok (.iload_n 3, 1) := by decide +kernel
theorem dX7_sortCoins_15 : decode cX7_sortCoins 15 = .ok (.ifCond .le 55, 3) := by decide +kernel
theorem dX7_sortCoins_18 : decode cX7_sortCoins 18 = .ok (.aload_n 0, 1) := by decide +kernel
theorem dX7_sortCoins_19 : decode cX7_sortCoins 19 = .ok (.getfield 13, 3) := by decide +kernel
theorem dX7_sortCoins_22 : decode cX7_sortCoins 22 = .ok (.bipush 8, 2) := by decide +kernel
theorem dX7_sortCoins_24 : decode cX7_sortCoins 24 = .ok (.iload_n 1, 1) := by decide +kernel
theorem dX7_sortCoins_25 : decode cX7_sortCoins 25 = .ok (.imul, 1) := by decide +kernel
theorem dX7_sortCoins_26 : decode cX7_sortCoins 26 = .ok (.aload_n 0, 1) := by decide +kernel
theorem dX7_sortCoins_27 : decode cX7_sortCoins 27 = .ok (.getfield 65, 3) := by decide +kernel
theorem dX7_sortCoins_30 : decode cX7_sortCoins 30 = .ok (.iload_n 3, 1) := by decide +kernel
theorem dX7_sortCoins_31 : decode cX7_sortCoins 31 = .ok (.iconst 1, 1) := by decide +kernel
theorem dX7_sortCoins_32 : decode cX7_sortCoins 32 = .ok (.isub, 1) := by decide +kernel
theorem dX7_sortCoins_33 : decode cX7_sortCoins 33 = .ok (.iaload, 1) := by decide +kernel
theorem dX7_sortCoins_34 : decode cX7_sortCoins 34 = .ok (.iadd, 1) := by decide +kernel
theorem dX7_sortCoins_35 : decode cX7_sortCoins 35 = .ok (.iaload, 1) := by decide +kernel
theorem dX7_sortCoins_36 : decode cX7_sortCoins 36 = .ok (.aload_n 0, 1) := by decide +kernel
theorem dX7_sortCoins_37 : decode cX7_sortCoins 37 = .ok (.getfield 13, 3) := by decide +kernel
theorem dX7_sortCoins_40 : decode cX7_sortCoins 40 = .ok (.bipush 8, 2) := by decide +kernel
theorem dX7_sortCoins_42 : decode cX7_sortCoins 42 = .ok (.iload_n 1, 1) := by decide +kernel
theorem dX7_sortCoins_43 : decode cX7_sortCoins 43 = .ok (.imul, 1) := by decide +kernel
theorem dX7_sortCoins_44 : decode cX7_sortCoins 44 = .ok (.iload_n 2, 1) := by decide +kernel
theorem dX7_sortCoins_45 : decode cX7_sortCoins 45 = .ok (.iadd, 1) := by decide +kernel
theorem dX7_sortCoins_46 : decode cX7_sortCoins 46 = .ok (.iaload, 1) := by decide +kernel
theorem dX7_sortCoins_47 : decode cX7_sortCoins 47 = .ok (.if_icmp .ge 23, 3) := by decide +kernel
theorem dX7_sortCoins_50 : decode cX7_sortCoins 50 = .ok (.aload_n 0, 1) := by decide +kernel
theorem dX7_sortCoins_51 : decode cX7_sortCoins 51 = .ok (.getfield 65, 3) := by decide +kernel
theorem dX7_sortCoins_54 : decode cX7_sortCoins 54 = .ok (.iload_n 3, 1) := by decide +kernel
theorem dX7_sortCoins_55 : decode cX7_sortCoins 55 = .ok (.aload_n 0, 1) := by decide +kernel
theorem dX7_sortCoins_56 : decode cX7_sortCoins 56 = .ok (.getfield 65, 3) := by decide +kernel
theorem dX7_sortCoins_59 : decode cX7_sortCoins 59 = .ok (.iload_n 3, 1) := by decide +kernel
theorem dX7_sortCoins_60 : decode cX7_sortCoins 60 = .ok (.iconst 1, 1) := by decide +kernel
theorem dX7_sortCoins_61 : decode cX7_sortCoins 61 = .ok (.isub, 1) := by decide +kernel
theorem dX7_sortCoins_62 : decode cX7_sortCoins 62 = .ok (.iaload, 1) := by decide +kernel
theorem dX7_sortCoins_63 : decode cX7_sortCoins 63 = .ok (.iastore, 1) := by decide +kernel
theorem dX7_sortCoins_64 : decode cX7_sortCoins 64 = .ok (.iinc 3 (-1), 3) := by decide +kernel
theorem dX7_sortCoins_67 : decode cX7_sortCoins 67 = .ok (.goto (-53), 3) := by decide +kernel
theorem dX7_sortCoins_70 : decode cX7_sortCoins 70 = .ok (.aload_n 0, 1) := by decide +kernel
theorem dX7_sortCoins_71 : decode cX7_sortCoins 71 = .ok (.getfield 65, 3) := by decide +kernel
theorem dX7_sortCoins_74 : decode cX7_sortCoins 74 = .ok (.iload_n 3, 1) := by decide +kernel
theorem dX7_sortCoins_75 : decode cX7_sortCoins 75 = .ok (.iload_n 2, 1) := by decide +kernel
theorem dX7_sortCoins_76 : decode cX7_sortCoins 76 = .ok (.iastore, 1) := by decide +kernel
theorem dX7_sortCoins_77 : decode cX7_sortCoins 77 = .ok (.iinc 2 1, 3) := by decide +kernel
theorem dX7_sortCoins_80 : decode cX7_sortCoins 80 = .ok (.goto (-78), 3) := by decide +kernel
theorem dX7_sortCoins_83 : decode cX7_sortCoins 83 = .ok (.return_, 1) := by decide +kernel
theorem dX7_find_0 : decode cX7_find 0 = .ok (.aload_n 0, 1) := by decide +kernel
theorem dX7_find_1 : decode cX7_find 1 = .ok (.iload_n 1, 1) := by decide +kernel
theorem dX7_find_2 : decode cX7_find 2 = .ok (.invokevirtual 116, 3) := by decide +kernel
theorem dX7_find_5 : decode cX7_find 5 = .ok (.aload_n 0, 1) := by decide +kernel
theorem dX7_find_6 : decode cX7_find 6 = .ok (.getfield 7, 3) := by decide +kernel
theorem dX7_find_9 : decode cX7_find 9 = .ok (.iload_n 1, 1) := by decide +kernel
theorem dX7_find_10 : decode cX7_find 10 = .ok (.iaload, 1) := by decide +kernel
theorem dX7_find_11 : decode cX7_find 11 = .ok (.istore_n 3, 1) := by decide +kernel
theorem dX7_find_12 : decode cX7_find 12 = .ok (.iconst 0, 1) := by decide +kernel
theorem dX7_find_13 : decode cX7_find 13 = .ok (.istore 4, 2) := by decide +kernel
theorem dX7_find_15 : decode cX7_find 15 = .ok (.iload 4, 2) := by decide +kernel
theorem dX7_find_17 : decode cX7_find 17 = .ok (.iload_n 2, 1) := by decide +kernel
theorem dX7_find_18 : decode cX7_find 18 = .ok (.if_icmp .gt 33, 3) := by decide +kernel
theorem dX7_find_21 : decode cX7_find 21 = .ok (.aload_n 0, 1) := by decide +kernel
theorem dX7_find_22 : decode cX7_find 22 = .ok (.getfield 68, 3) := by decide +kernel
theorem dX7_find_25 : decode cX7_find 25 = .ok (.sipush 2001, 3) := by decide +kernel
theorem dX7_find_28 : decode cX7_find 28 = .ok (.iload_n 3, 1) := by decide +kernel
theorem dX7_find_29 : decode cX7_find 29 = .ok (.imul, 1) := by decide +kernel
theorem dX7_find_30 : decode cX7_find 30 = .ok (.iload 4, 2) := by decide +kernel
theorem dX7_find_32 : decode cX7_find 32 = .ok (.iadd, 1) := by decide +kernel
theorem dX7_find_33 : decode cX7_find 33 = .ok (.iload 4, 2) := by decide +kernel
theorem dX7_find_35 : decode cX7_find 35 = .ok (.ifCond .ne 7, 3) := by decide +kernel
theorem dX7_find_38 : decode cX7_find 38 = .ok (.iconst 0, 1) := by decide +kernel
theorem dX7_find_39 : decode cX7_find 39 = .ok (.goto 5, 3) := by decide +kernel
theorem dX7_find_42 : decode cX7_find 42 = .ok (.ldc 120, 2) := by decide +kernel
theorem dX7_find_44 : decode cX7_find 44 = .ok (.iastore, 1) := by decide +kernel
theorem dX7_find_45 : decode cX7_find 45 = .ok (.iinc 4 1, 3) := by decide +kernel
theorem dX7_find_48 : decode cX7_find 48 = .ok (.goto (-33), 3) := by decide +kernel
theorem dX7_find_51 : decode cX7_find 51 = .ok (.iload_n 3, 1) := by decide +kernel
theorem dX7_find_52 : decode cX7_find 52 = .ok (.iconst 1, 1) := by decide +kernel
theorem dX7_find_53 : decode cX7_find 53 = .ok (.isub, 1) := by decide +kernel
theorem dX7_find_54 : decode cX7_find 54 = .ok (.istore 4, 2) := by decide +kernel
theorem dX7_find_56 : decode cX7_find 56 = .ok (.iload 4, 2) := by decide +kernel
theorem dX7_find_58 : decode cX7_find 58 = .ok (.ifCond .lt 215, 3) := by decide +kernel
theorem dX7_find_61 : decode cX7_find 61 = .ok (.aload_n 0, 1) := by decide +kernel
theorem dX7_find_62 : decode cX7_find 62 = .ok (.getfield 13, 3) := by decide +kernel
theorem dX7_find_65 : decode cX7_find 65 = .ok (.bipush 8, 2) := by decide +kernel
theorem dX7_find_67 : decode cX7_find 67 = .ok (.iload_n 1, 1) := by decide +kernel
theorem dX7_find_68 : decode cX7_find 68 = .ok (.imul, 1) := by decide +kernel
theorem dX7_find_69 : decode cX7_find 69 = .ok (.aload_n 0, 1) := by decide +kernel
theorem dX7_find_70 : decode cX7_find 70 = .ok (.getfield 65, 3) := by decide +kernel
theorem dX7_find_73 : decode cX7_find 73 = .ok (.iload 4, 2) := by decide +kernel
theorem dX7_find_75 : decode cX7_find 75 = .ok (.iaload, 1) := by decide +kernel
theorem dX7_find_76 : decode cX7_find 76 = .ok (.iadd, 1) := by decide +kernel
theorem dX7_find_77 : decode cX7_find 77 = .ok (.iaload, 1) := by decide +kernel
theorem dX7_find_78 : decode cX7_find 78 = .ok (.istore 5, 2) := by decide +kernel
theorem dX7_find_80 : decode cX7_find 80 = .ok (.iconst 0, 1) := by decide +kernel
theorem dX7_find_81 : decode cX7_find 81 = .ok (.istore 6, 2) := by decide +kernel
theorem dX7_find_83 : decode cX7_find 83 = .ok (.iload 6, 2) := by decide +kernel
theorem dX7_find_85 : decode cX7_find 85 = .ok (.iload_n 2, 1) := by decide +kernel
theorem dX7_find_86 : decode cX7_find 86 = .ok (.if_icmp .gt 181, 3) := by decide +kernel
theorem dX7_find_89 : decode cX7_find 89 = .ok (.aload_n 0, 1) := by decide +kernel
theorem dX7_find_90 : decode cX7_find 90 = .ok (.getfield 74, 3) := by decide +kernel
theorem dX7_find_93 : decode cX7_find 93 = .ok (.aload_n 0, 1) := by decide +kernel
theorem dX7_find_94 : decode cX7_find 94 = .ok (.getfield 65, 3) := by decide +kernel
theorem dX7_find_97 : decode cX7_find 97 = .ok (.iload 4, 2) := by decide +kernel
theorem dX7_find_99 : decode cX7_find 99 = .ok (.iaload, 1) := by decide +kernel
theorem dX7_find_100 : decode cX7_find 100 = .ok (.iaload, 1) := by decide +kernel
theorem dX7_find_101 : decode cX7_find 101 = .ok (.sipush 2000, 3) := by decide +kernel
theorem dX7_find_104 : decode cX7_find 104 = .ok (.if_icmp .ne 32, 3) := by decide +kernel
theorem dX7_find_107 : decode cX7_find 107 = .ok (.iload 6, 2) := by decide +kernel
theorem dX7_find_109 : decode cX7_find 109 = .ok (.iload 5, 2) := by decide +kernel
theorem dX7_find_111 : decode cX7_find 111 = .ok (.if_icmp .lt 25, 3) := by decide +kernel
theorem dX7_find_114 : decode cX7_find 114 = .ok (.aload_n 0, 1) := by decide +kernel
theorem dX7_find_115 : decode cX7_find 115 = .ok (.getfield 68, 3) := by decide +kernel
theorem dX7_find_118 : decode cX7_find 118 = .ok (.sipush 2001, 3) := by decide +kernel
theorem dX7_find_121 : decode cX7_find 121 = .ok (.iload 4, 2) := by decide +kernel
theorem dX7_find_123 : decode cX7_find 123 = .ok (.imul, 1) := by decide +kernel
theorem dX7_find_124 : decode cX7_find 124 = .ok (.iload 6, 2) := by decide +kernel
theorem dX7_find_126 : decode cX7_find 126 = .ok (.iadd, 1) := by decide +kernel
theorem dX7_find_127 : decode cX7_find 127 = .ok (.iload 5, 2) := by decide +kernel
theorem dX7_find_129 : decode cX7_find 129 = .ok (.isub, 1) := by decide +kernel
theorem dX7_find_130 : decode cX7_find 130 = .ok (.iaload, 1) := by decide +kernel
theorem dX7_find_131 : decode cX7_find 131 = .ok (.iconst 1, 1) := by decide +kernel
theorem dX7_find_132 : decode cX7_find 132 = .ok (.iadd, 1) := by decide +kernel
theorem dX7_find_133 : decode cX7_find 133 = .ok (.goto 5, 3) := by decide +kernel
theorem dX7_find_136 : decode cX7_find 136 = .ok (.ldc 120, 2) := by decide +kernel
theorem dX7_find_138 : decode cX7_find 138 = .ok (.istore 7, 2) := by decide +kernel
theorem dX7_find_140 : decode cX7_find 140 = .ok (.aload_n 0, 1) := by decide +kernel
theorem dX7_find_141 : decode cX7_find 141 = .ok (.getfield 74, 3) := by decide +kernel
theorem dX7_find_144 : decode cX7_find 144 = .ok (.aload_n 0, 1) := by decide +kernel
theorem dX7_find_145 : decode cX7_find 145 = .ok (.getfield 65, 3) := by decide +kernel
theorem dX7_find_148 : decode cX7_find 148 = .ok (.iload 4, 2) := by decide +kernel
theorem dX7_find_150 : decode cX7_find 150 = .ok (.iaload, 1) := by decide +kernel
theorem dX7_find_151 : decode cX7_find 151 = .ok (.iaload, 1) := by decide +kernel
theorem dX7_find_152 : decode cX7_find 152 = .ok (.sipush 2000, 3) := by decide +kernel
theorem dX7_find_155 : decode cX7_find 155 = .ok (.if_icmp .ne 7, 3) := by decide +kernel
theorem dX7_find_158 : decode cX7_find 158 = .ok (.iconst 0, 1) := by decide +kernel
theorem dX7_find_159 : decode cX7_find 159 = .ok (.goto 15, 3) := by decide +kernel
theorem dX7_find_162 : decode cX7_find 162 = .ok (.aload_n 0, 1) := by decide +kernel
theorem dX7_find_163 : decode cX7_find 163 = .ok (.getfield 74, 3) := by decide +kernel
theorem dX7_find_166 : decode cX7_find 166 = .ok (.aload_n 0, 1) := by decide +kernel
theorem dX7_find_167 : decode cX7_find 167 = .ok (.getfield 65, 3) := by decide +kernel
theorem dX7_find_170 : decode cX7_find 170 = .ok (.iload 4, 2) := by decide +kernel
theorem dX7_find_172 : decode cX7_find 172 = .ok (.iaload, 1) := by decide +kernel
theorem dX7_find_173 : decode cX7_find 173 = .ok (.iaload, 1) := by decide +kernel
theorem dX7_find_174 : decode cX7_find 174 = .ok (.istore 8, 2) := by decide +kernel
theorem dX7_find_176 : decode cX7_find 176 = .ok (.iconst 0, 1) := by decide +kernel
theorem dX7_find_177 : decode cX7_find 177 = .ok (.istore 9, 2) := by decide +kernel
theorem dX7_find_179 : decode cX7_find 179 = .ok (.iload 9, 2) := by decide +kernel
theorem dX7_find_181 : decode cX7_find 181 = .ok (.iload 8, 2) := by decide +kernel
theorem dX7_find_183 : decode cX7_find 183 = .ok (.if_icmp .gt 62, 3) := by decide +kernel
theorem dX7_find_186 : decode cX7_find 186 = .ok (.iload 9, 2) := by decide +kernel
theorem dX7_find_188 : decode cX7_find 188 = .ok (.iload 5, 2) := by decide +kernel
theorem dX7_find_190 : decode cX7_find 190 = .ok (.imul, 1) := by decide +kernel
theorem dX7_find_191 : decode cX7_find 191 = .ok (.iload 6, 2) := by decide +kernel
theorem dX7_find_193 : decode cX7_find 193 = .ok (.if_icmp .gt 52, 3) := by decide +kernel
theorem dX7_find_196 : decode cX7_find 196 = .ok (.iload 9, 2) := by decide +kernel
theorem dX7_find_198 : decode cX7_find 198 = .ok (.aload_n 0, 1) := by decide +kernel
theorem dX7_find_199 : decode cX7_find 199 = .ok (.getfield 68, 3) := by decide +kernel
theorem dX7_find_202 : decode cX7_find 202 = .ok (.sipush 2001, 3) := by decide +kernel
theorem dX7_find_205 : decode cX7_find 205 = .ok (.iload 4, 2) := by decide +kernel
theorem dX7_find_207 : decode cX7_find 207 = .ok (.iconst 1, 1) := by decide +kernel
theorem dX7_find_208 : decode cX7_find 208 = .ok (.iadd, 1) := by decide +kernel
theorem dX7_find_209 : decode cX7_find 209 = .ok (.imul, 1) := by decide +kernel
theorem dX7_find_210 : decode cX7_find 210 = .ok (.iload 6, 2) := by decide +kernel
theorem dX7_find_212 : decode cX7_find 212 = .ok (.iadd, 1) := by decide +kernel
theorem dX7_find_213 : decode cX7_find 213 = .ok (.iload 9, 2) := by decide +kernel
theorem dX7_find_215 : decode cX7_find 215 = .ok (.iload 5, 2) := by decide +kernel
theorem dX7_find_217 : decode cX7_find 217 = .ok (.imul, 1) := by decide +kernel
theorem dX7_find_218 : decode cX7_find 218 = .ok (.isub, 1) := by decide +kernel
theorem dX7_find_219 : decode cX7_find 219 = .ok (.iaload, 1) := by decide +kernel
theorem dX7_find_220 : decode cX7_find 220 = .ok (.iadd, 1) := by decide +kernel
theorem dX7_find_221 : decode cX7_find 221 = .ok (.istore 10, 2) := by decide +kernel
theorem dX7_find_223 : decode cX7_find 223 = .ok (.iload 10, 2) := by decide +kernel
theorem dX7_find_225 : decode cX7_find 225 = .ok (.iload 7, 2) := by decide +kernel
theorem dX7_find_227 : decode cX7_find 227 = .ok (.if_icmp .ge 8, 3) := by decide +kernel
theorem dX7_find_230 : decode cX7_find 230 = .ok (.iload 10, 2) := by decide +kernel
theorem dX7_find_232 : decode cX7_find 232 = .ok (.goto 5, 3) := by decide +kernel
theorem dX7_find_235 : decode cX7_find 235 = .ok (.iload 7, 2) := by decide +kernel
theorem dX7_find_237 : decode cX7_find 237 = .ok (.istore 7, 2) := by decide +kernel
theorem dX7_find_239 : decode cX7_find 239 = .ok (.iinc 9 1, 3) := by decide +kernel
theorem dX7_find_242 : decode cX7_find 242 = .ok (.goto (-63), 3) := by decide +kernel
theorem dX7_find_245 : decode cX7_find 245 = .ok (.aload_n 0, 1) := by decide +kernel
theorem dX7_find_246 : decode cX7_find 246 = .ok (.getfield 68, 3) := by decide +kernel
theorem dX7_find_249 : decode cX7_find 249 = .ok (.sipush 2001, 3) := by decide +kernel
theorem dX7_find_252 : decode cX7_find 252 = .ok (.iload 4, 2) := by decide +kernel
theorem dX7_find_254 : decode cX7_find 254 = .ok (.imul, 1) := by decide +kernel
theorem dX7_find_255 : decode cX7_find 255 = .ok (.iload 6, 2) := by decide +kernel
theorem dX7_find_257 : decode cX7_find 257 = .ok (.iadd, 1) := by decide +kernel
theorem dX7_find_258 : decode cX7_find 258 = .ok (.iload 7, 2) := by decide +kernel
theorem dX7_find_260 : decode cX7_find 260 = .ok (.iastore, 1) := by decide +kernel
theorem dX7_find_261 : decode cX7_find 261 = .ok (.iinc 6 1, 3) := by decide +kernel
theorem dX7_find_264 : decode cX7_find 264 = .ok (.goto (-181), 3) := by decide +kernel
theorem dX7_find_267 : decode cX7_find 267 = .ok (.iinc 4 (-1), 3) := by decide +kernel
theorem dX7_find_270 : decode cX7_find 270 = .ok (.goto (-214), 3) := by decide +kernel
theorem dX7_find_273 : decode cX7_find 273 = .ok (.aload_n 0, 1) := by decide +kernel
theorem dX7_find_274 : decode cX7_find 274 = .ok (.getfield 68, 3) := by decide +kernel
theorem dX7_find_277 : decode cX7_find 277 = .ok (.iload_n 2, 1) := by decide +kernel
theorem dX7_find_278 : decode cX7_find 278 = .ok (.iaload, 1) := by decide +kernel
theorem dX7_find_279 : decode cX7_find 279 = .ok (.ldc 120, 2) := by decide +kernel
theorem dX7_find_281 : decode cX7_find 281 = .ok (.if_icmp .lt 5, 3) := by decide +kernel
theorem dX7_find_284 : decode cX7_find 284 = .ok (.iconst (-1), 1) := by decide +kernel
theorem dX7_find_285 : decode cX7_find 285 = .ok (.ireturn, 1) := by decide +kernel
theorem dX7_find_286 : decode cX7_find 286 = .ok (.iload_n 2, 1) := by decide +kernel
theorem dX7_find_287 : decode cX7_find 287 = .ok (.istore 4, 2) := by decide +kernel
theorem dX7_find_289 : decode cX7_find 289 = .ok (.iconst 0, 1) := by decide +kernel
theorem dX7_find_290 : decode cX7_find 290 = .ok (.istore 5, 2) := by decide +kernel
theorem dX7_find_292 : decode cX7_find 292 = .ok (.iload 5, 2) := by decide +kernel
theorem dX7_find_294 : decode cX7_find 294 = .ok (.iload_n 3, 1) := by decide +kernel
theorem dX7_find_295 : decode cX7_find 295 = .ok (.if_icmp .ge 142, 3) := by decide +kernel
theorem dX7_find_298 : decode cX7_find 298 = .ok (.aload_n 0, 1) := by decide +kernel
theorem dX7_find_299 : decode cX7_find 299 = .ok (.getfield 13, 3) := by decide +kernel
theorem dX7_find_302 : decode cX7_find 302 = .ok (.bipush 8, 2) := by decide +kernel
theorem dX7_find_304 : decode cX7_find 304 = .ok (.iload_n 1, 1) := by decide +kernel
theorem dX7_find_305 : decode cX7_find 305 = .ok (.imul, 1) := by decide +kernel
theorem dX7_find_306 : decode cX7_find 306 = .ok (.aload_n 0, 1) := by decide +kernel
theorem dX7_find_307 : decode cX7_find 307 = .ok (.getfield 65, 3) := by decide +kernel
theorem dX7_find_310 : decode cX7_find 310 = .ok (.iload 5, 2) := by decide +kernel
theorem dX7_find_312 : decode cX7_find 312 = .ok (.iaload, 1) := by decide +kernel
theorem dX7_find_313 : decode cX7_find 313 = .ok (.iadd, 1) := by decide +kernel
theorem dX7_find_314 : decode cX7_find 314 = .ok (.iaload, 1) := by decide +kernel
theorem dX7_find_315 : decode cX7_find 315 = .ok (.istore 6, 2) := by decide +kernel
theorem dX7_find_317 : decode cX7_find 317 = .ok (.iload 4, 2) := by decide +kernel
theorem dX7_find_319 : decode cX7_find 319 = .ok (.iload 6, 2) := by decide +kernel
theorem dX7_find_321 : decode cX7_find 321 = .ok (.idiv, 1) := by decide +kernel
theorem dX7_find_322 : decode cX7_find 322 = .ok (.aload_n 0, 1) := by decide +kernel
theorem dX7_find_323 : decode cX7_find 323 = .ok (.getfield 74, 3) := by decide +kernel
theorem dX7_find_326 : decode cX7_find 326 = .ok (.aload_n 0, 1) := by decide +kernel
theorem dX7_find_327 : decode cX7_find 327 = .ok (.getfield 65, 3) := by decide +kernel
theorem dX7_find_330 : decode cX7_find 330 = .ok (.iload 5, 2) := by decide +kernel
theorem dX7_find_332 : decode cX7_find 332 = .ok (.iaload, 1) := by decide +kernel
theorem dX7_find_333 : decode cX7_find 333 = .ok (.iaload, 1) := by decide +kernel
theorem dX7_find_334 : decode cX7_find 334 = .ok (.if_icmp .ge 11, 3) := by decide +kernel
theorem dX7_find_337 : decode cX7_find 337 = .ok (.iload 4, 2) := by decide +kernel
theorem dX7_find_339 : decode cX7_find 339 = .ok (.iload 6, 2) := by decide +kernel
theorem dX7_find_341 : decode cX7_find 341 = .ok (.idiv, 1) := by decide +kernel
theorem dX7_find_342 : decode cX7_find 342 = .ok (.goto 15, 3) := by decide +kernel
theorem dX7_find_345 : decode cX7_find 345 = .ok (.aload_n 0, 1) := by decide +kernel
theorem dX7_find_346 : decode cX7_find 346 = .ok (.getfield 74, 3) := by decide +kernel
theorem dX7_find_349 : decode cX7_find 349 = .ok (.aload_n 0, 1) := by decide +kernel
theorem dX7_find_350 : decode cX7_find 350 = .ok (.getfield 65, 3) := by decide +kernel
theorem dX7_find_353 : decode cX7_find 353 = .ok (.iload 5, 2) := by decide +kernel
theorem dX7_find_355 : decode cX7_find 355 = .ok (.iaload, 1) := by decide +kernel
theorem dX7_find_356 : decode cX7_find 356 = .ok (.iaload, 1) := by decide +kernel
theorem dX7_find_357 : decode cX7_find 357 = .ok (.istore 7, 2) := by decide +kernel
theorem dX7_find_359 : decode cX7_find 359 = .ok (.iload 7, 2) := by decide +kernel
theorem dX7_find_361 : decode cX7_find 361 = .ok (.aload_n 0, 1) := by decide +kernel
theorem dX7_find_362 : decode cX7_find 362 = .ok (.getfield 68, 3) := by decide +kernel
theorem dX7_find_365 : decode cX7_find 365 = .ok (.sipush 2001, 3) := by decide +kernel
theorem dX7_find_368 : decode cX7_find 368 = .ok (.iload 5, 2) := by decide +kernel
theorem dX7_find_370 : decode cX7_find 370 = .ok (.iconst 1, 1) := by decide +kernel
theorem dX7_find_371 : decode cX7_find 371 = .ok (.iadd, 1) := by decide +kernel
theorem dX7_find_372 : decode cX7_find 372 = .ok (.imul, 1) := by decide +kernel
theorem dX7_find_373 : decode cX7_find 373 = .ok (.iload 4, 2) := by decide +kernel
theorem dX7_find_375 : decode cX7_find 375 = .ok (.iadd, 1) := by decide +kernel
theorem dX7_find_376 : decode cX7_find 376 = .ok (.iload 7, 2) := by decide +kernel
theorem dX7_find_378 : decode cX7_find 378 = .ok (.iload 6, 2) := by decide +kernel
theorem dX7_find_380 : decode cX7_find 380 = .ok (.imul, 1) := by decide +kernel
theorem dX7_find_381 : decode cX7_find 381 = .ok (.isub, 1) := by decide +kernel
theorem dX7_find_382 : decode cX7_find 382 = .ok (.iaload, 1) := by decide +kernel
theorem dX7_find_383 : decode cX7_find 383 = .ok (.iadd, 1) := by decide +kernel
theorem dX7_find_384 : decode cX7_find 384 = .ok (.aload_n 0, 1) := by decide +kernel
theorem dX7_find_385 : decode cX7_find 385 = .ok (.getfield 68, 3) := by decide +kernel
theorem dX7_find_388 : decode cX7_find 388 = .ok (.sipush 2001, 3) := by decide +kernel
theorem dX7_find_391 : decode cX7_find 391 = .ok (.iload 5, 2) := by decide +kernel
theorem dX7_find_393 : decode cX7_find 393 = .ok (.imul, 1) := by decide +kernel
theorem dX7_find_394 : decode cX7_find 394 = .ok (.iload 4, 2) := by decide +kernel
theorem dX7_find_396 : decode cX7_find 396 = .ok (.iadd, 1) := by decide +kernel
theorem dX7_find_397 : decode cX7_find 397 = .ok (.iaload, 1) := by decide +kernel
theorem dX7_find_398 : decode cX7_find 398 = .ok (.if_icmp .eq 9, 3) := by decide +kernel
theorem dX7_find_401 : decode cX7_find 401 = .ok (.iinc 7 (-1), 3) := by decide +kernel
theorem dX7_find_404 : decode cX7_find 404 = .ok (.goto (-45), 3) := by decide +kernel
theorem dX7_find_407 : decode cX7_find 407 = .ok (.aload_n 0, 1) := by decide +kernel
theorem dX7_find_408 : decode cX7_find 408 = .ok (.getfield 71, 3) := by decide +kernel
theorem dX7_find_411 : decode cX7_find 411 = .ok (.aload_n 0, 1) := by decide +kernel
theorem dX7_find_412 : decode cX7_find 412 = .ok (.getfield 65, 3) := by decide +kernel
theorem dX7_find_415 : decode cX7_find 415 = .ok (.iload 5, 2) := by decide +kernel
theorem dX7_find_417 : decode cX7_find 417 = .ok (.iaload, 1) := by decide +kernel
theorem dX7_find_418 : decode cX7_find 418 = .ok (.iload 7, 2) := by decide +kernel
theorem dX7_find_420 : decode cX7_find 420 = .ok (.iastore, 1) := by decide +kernel
theorem dX7_find_421 : decode cX7_find 421 = .ok (.iload 4, 2) := by decide +kernel
theorem dX7_find_423 : decode cX7_find 423 = .ok (.iload 7, 2) := by decide +kernel
theorem dX7_find_425 : decode cX7_find 425 = .ok (.iload 6, 2) := by decide +kernel
theorem dX7_find_427 : decode cX7_find 427 = .ok (.imul, 1) := by decide +kernel
theorem dX7_find_428 : decode cX7_find 428 = .ok (.isub, 1) := by decide +kernel
theorem dX7_find_429 : decode cX7_find 429 = .ok (.istore 4, 2) := by decide +kernel
theorem dX7_find_431 : decode cX7_find 431 = .ok (.iinc 5 1, 3) := by decide +kernel
theorem dX7_find_434 : decode cX7_find 434 = .ok (.goto (-142), 3) := by decide +kernel
theorem dX7_find_437 : decode cX7_find 437 = .ok (.aload_n 0, 1) := by decide +kernel
theorem dX7_find_438 : decode cX7_find 438 = .ok (.getfield 68, 3) := by decide +kernel
theorem dX7_find_441 : decode cX7_find 441 = .ok (.iload_n 2, 1) := by decide +kernel
theorem dX7_find_442 : decode cX7_find 442 = .ok (.iaload, 1) := by decide +kernel
theorem dX7_find_443 : decode cX7_find 443 = .ok (.ireturn, 1) := by decide +kernel
theorem dX7_noBounds_0 : decode cX7_noBounds 0 = .ok (.iconst 0, 1) := by decide +kernel
theorem dX7_noBounds_1 : decode cX7_noBounds 1 = .ok (.istore_n 1, 1) := by decide +kernel
theorem dX7_noBounds_2 : decode cX7_noBounds 2 = .ok (.iload_n 1, 1) := by decide +kernel
theorem dX7_noBounds_3 : decode cX7_noBounds 3 = .ok (.bipush 8, 2) := by decide +kernel
theorem dX7_noBounds_5 : decode cX7_noBounds 5 = .ok (.if_icmp .ge 18, 3) := by decide +kernel
theorem dX7_noBounds_8 : decode cX7_noBounds 8 = .ok (.aload_n 0, 1) := by decide +kernel
theorem dX7_noBounds_9 : decode cX7_noBounds 9 = .ok (.getfield 74, 3) := by decide +kernel
theorem dX7_noBounds_12 : decode cX7_noBounds 12 = .ok (.iload_n 1, 1) := by decide +kernel
theorem dX7_noBounds_13 : decode cX7_noBounds 13 = .ok (.sipush 2000, 3) := by decide +kernel
theorem dX7_noBounds_16 : decode cX7_noBounds 16 = .ok (.iastore, 1) := by decide +kernel
theorem dX7_noBounds_17 : decode cX7_noBounds 17 = .ok (.iinc 1 1, 3) := by decide +kernel
theorem dX7_noBounds_20 : decode cX7_noBounds 20 = .ok (.goto (-18), 3) := by decide +kernel
theorem dX7_noBounds_23 : decode cX7_noBounds 23 = .ok (.return_, 1) := by decide +kernel
theorem dX7_fewest_0 : decode cX7_fewest 0 = .ok (.aload_n 0, 1) := by decide +kernel
theorem dX7_fewest_1 : decode cX7_fewest 1 = .ok (.iconst 0, 1) := by decide +kernel
theorem dX7_fewest_2 : decode cX7_fewest 2 = .ok (.putfield 90, 3) := by decide +kernel
theorem dX7_fewest_5 : decode cX7_fewest 5 = .ok (.iload_n 1, 1) := by decide +kernel
theorem dX7_fewest_6 : decode cX7_fewest 6 = .ok (.iconst 0, 1) := by decide +kernel
theorem dX7_fewest_7 : decode cX7_fewest 7 = .ok (.iconst 1, 1) := by decide +kernel
theorem dX7_fewest_8 : decode cX7_fewest 8 = .ok (.invokestatic 98, 3) := by decide +kernel
theorem dX7_fewest_11 : decode cX7_fewest 11 = .ok (.ifCond .eq 28, 3) := by decide +kernel
theorem dX7_fewest_14 : decode cX7_fewest 14 = .ok (.iload_n 2, 1) := by decide +kernel
theorem dX7_fewest_15 : decode cX7_fewest 15 = .ok (.iconst 0, 1) := by decide +kernel
theorem dX7_fewest_16 : decode cX7_fewest 16 = .ok (.sipush 2000, 3) := by decide +kernel
theorem dX7_fewest_19 : decode cX7_fewest 19 = .ok (.invokestatic 98, 3) := by decide +kernel
theorem dX7_fewest_22 : decode cX7_fewest 22 = .ok (.ifCond .eq 17, 3) := by decide +kernel
theorem dX7_fewest_25 : decode cX7_fewest 25 = .ok (.iload_n 3, 1) := by decide +kernel
theorem dX7_fewest_26 : decode cX7_fewest 26 = .ok (.iconst (-1), 1) := by decide +kernel
theorem dX7_fewest_27 : decode cX7_fewest 27 = .ok (.if_icmp .eq 14, 3) := by decide +kernel
theorem dX7_fewest_30 : decode cX7_fewest 30 = .ok (.aload_n 0, 1) := by decide +kernel
theorem dX7_fewest_31 : decode cX7_fewest 31 = .ok (.iload_n 1, 1) := by decide +kernel
theorem dX7_fewest_32 : decode cX7_fewest 32 = .ok (.iload_n 3, 1) := by decide +kernel
theorem dX7_fewest_33 : decode cX7_fewest 33 = .ok (.invokevirtual 121, 3) := by decide +kernel
theorem dX7_fewest_36 : decode cX7_fewest 36 = .ok (.ifCond .ne 5, 3) := by decide +kernel
theorem dX7_fewest_39 : decode cX7_fewest 39 = .ok (.iconst (-1), 1) := by decide +kernel
theorem dX7_fewest_40 : decode cX7_fewest 40 = .ok (.ireturn, 1) := by decide +kernel
theorem dX7_fewest_41 : decode cX7_fewest 41 = .ok (.aload_n 0, 1) := by decide +kernel
theorem dX7_fewest_42 : decode cX7_fewest 42 = .ok (.invokevirtual 125, 3) := by decide +kernel
theorem dX7_fewest_45 : decode cX7_fewest 45 = .ok (.aload_n 0, 1) := by decide +kernel
theorem dX7_fewest_46 : decode cX7_fewest 46 = .ok (.iload_n 1, 1) := by decide +kernel
theorem dX7_fewest_47 : decode cX7_fewest 47 = .ok (.iload_n 2, 1) := by decide +kernel
theorem dX7_fewest_48 : decode cX7_fewest 48 = .ok (.invokevirtual 128, 3) := by decide +kernel
theorem dX7_fewest_51 : decode cX7_fewest 51 = .ok (.istore 4, 2) := by decide +kernel
theorem dX7_fewest_53 : decode cX7_fewest 53 = .ok (.iload 4, 2) := by decide +kernel
theorem dX7_fewest_55 : decode cX7_fewest 55 = .ok (.iconst (-1), 1) := by decide +kernel
theorem dX7_fewest_56 : decode cX7_fewest 56 = .ok (.if_icmp .eq 8, 3) := by decide +kernel
theorem dX7_fewest_59 : decode cX7_fewest 59 = .ok (.iload_n 3, 1) := by decide +kernel
theorem dX7_fewest_60 : decode cX7_fewest 60 = .ok (.iconst (-1), 1) := by decide +kernel
theorem dX7_fewest_61 : decode cX7_fewest 61 = .ok (.if_icmp .ne 8, 3) := by decide +kernel
theorem dX7_fewest_64 : decode cX7_fewest 64 = .ok (.iload 4, 2) := by decide +kernel
theorem dX7_fewest_66 : decode cX7_fewest 66 = .ok (.goto 9, 3) := by decide +kernel
theorem dX7_fewest_69 : decode cX7_fewest 69 = .ok (.aload_n 0, 1) := by decide +kernel
theorem dX7_fewest_70 : decode cX7_fewest 70 = .ok (.getfield 71, 3) := by decide +kernel
theorem dX7_fewest_73 : decode cX7_fewest 73 = .ok (.iload_n 3, 1) := by decide +kernel
theorem dX7_fewest_74 : decode cX7_fewest 74 = .ok (.iaload, 1) := by decide +kernel
theorem dX7_fewest_75 : decode cX7_fewest 75 = .ok (.ireturn, 1) := by decide +kernel
theorem dX7_greedyOf_0 : decode cX7_greedyOf 0 = .ok (.iload_n 2, 1) := by decide +kernel
theorem dX7_greedyOf_1 : decode cX7_greedyOf 1 = .ok (.istore_n 3, 1) := by decide +kernel
theorem dX7_greedyOf_2 : decode cX7_greedyOf 2 = .ok (.iconst 0, 1) := by decide +kernel
theorem dX7_greedyOf_3 : decode cX7_greedyOf 3 = .ok (.istore 4, 2) := by decide +kernel
theorem dX7_greedyOf_5 : decode cX7_greedyOf 5 = .ok (.iconst 0, 1) := by decide +kernel
theorem dX7_greedyOf_6 : decode cX7_greedyOf 6 = .ok (.istore 5, 2) := by decide +kernel
theorem dX7_greedyOf_8 : decode cX7_greedyOf 8 = .ok (.iload 5, 2) := by decide +kernel
theorem dX7_greedyOf_10 : decode cX7_greedyOf 10 = .ok (.aload_n 0, 1) := by decide +kernel
theorem dX7_greedyOf_11 : decode cX7_greedyOf 11 = .ok (.getfield 7, 3) := by decide +kernel
theorem dX7_greedyOf_14 : decode cX7_greedyOf 14 = .ok (.iload_n 1, 1) := by decide +kernel
theorem dX7_greedyOf_15 : decode cX7_greedyOf 15 = .ok (.iaload, 1) := by decide +kernel
theorem dX7_greedyOf_16 : decode cX7_greedyOf 16 = .ok (.if_icmp .ge 42, 3) := by decide +kernel
theorem dX7_greedyOf_19 : decode cX7_greedyOf 19 = .ok (.aload_n 0, 1) := by decide +kernel
theorem dX7_greedyOf_20 : decode cX7_greedyOf 20 = .ok (.getfield 13, 3) := by decide +kernel
theorem dX7_greedyOf_23 : decode cX7_greedyOf 23 = .ok (.bipush 8, 2) := by decide +kernel
theorem dX7_greedyOf_25 : decode cX7_greedyOf 25 = .ok (.iload_n 1, 1) := by decide +kernel
theorem dX7_greedyOf_26 : decode cX7_greedyOf 26 = .ok (.imul, 1) := by decide +kernel
theorem dX7_greedyOf_27 : decode cX7_greedyOf 27 = .ok (.aload_n 0, 1) := by decide +kernel
theorem dX7_greedyOf_28 : decode cX7_greedyOf 28 = .ok (.getfield 65, 3) := by decide +kernel
theorem dX7_greedyOf_31 : decode cX7_greedyOf 31 = .ok (.iload 5, 2) := by decide +kernel
theorem dX7_greedyOf_33 : decode cX7_greedyOf 33 = .ok (.iaload, 1) := by decide +kernel
theorem dX7_greedyOf_34 : decode cX7_greedyOf 34 = .ok (.iadd, 1) := by decide +kernel
theorem dX7_greedyOf_35 : decode cX7_greedyOf 35 = .ok (.iaload, 1) := by decide +kernel
theorem dX7_greedyOf_36 : decode cX7_greedyOf 36 = .ok (.istore 6, 2) := by decide +kernel
theorem dX7_greedyOf_38 : decode cX7_greedyOf 38 = .ok (.iload 4, 2) := by decide +kernel
theorem dX7_greedyOf_40 : decode cX7_greedyOf 40 = .ok (.iload_n 3, 1) := by decide +kernel
theorem dX7_greedyOf_41 : decode cX7_greedyOf 41 = .ok (.iload 6, 2) := by decide +kernel
theorem dX7_greedyOf_43 : decode cX7_greedyOf 43 = .ok (.idiv, 1) := by decide +kernel
theorem dX7_greedyOf_44 : decode cX7_greedyOf 44 = .ok (.iadd, 1) := by decide +kernel
theorem dX7_greedyOf_45 : decode cX7_greedyOf 45 = .ok (.istore 4, 2) := by decide +kernel
theorem dX7_greedyOf_47 : decode cX7_greedyOf 47 = .ok (.iload_n 3, 1) := by decide +kernel
theorem dX7_greedyOf_48 : decode cX7_greedyOf 48 = .ok (.iload 6, 2) := by decide +kernel
theorem dX7_greedyOf_50 : decode cX7_greedyOf 50 = .ok (.irem, 1) := by decide +kernel
theorem dX7_greedyOf_51 : decode cX7_greedyOf 51 = .ok (.istore_n 3, 1) := by decide +kernel
theorem dX7_greedyOf_52 : decode cX7_greedyOf 52 = .ok (.iinc 5 1, 3) := by decide +kernel
theorem dX7_greedyOf_55 : decode cX7_greedyOf 55 = .ok (.goto (-47), 3) := by decide +kernel
theorem dX7_greedyOf_58 : decode cX7_greedyOf 58 = .ok (.iload_n 3, 1) := by decide +kernel
theorem dX7_greedyOf_59 : decode cX7_greedyOf 59 = .ok (.ifCond .ne 8, 3) := by decide +kernel
theorem dX7_greedyOf_62 : decode cX7_greedyOf 62 = .ok (.iload 4, 2) := by decide +kernel
theorem dX7_greedyOf_64 : decode cX7_greedyOf 64 = .ok (.goto 4, 3) := by decide +kernel
theorem dX7_greedyOf_67 : decode cX7_greedyOf 67 = .ok (.iconst (-1), 1) := by decide +kernel
theorem dX7_greedyOf_68 : decode cX7_greedyOf 68 = .ok (.ireturn, 1) := by decide +kernel
theorem dX7_greedy_0 : decode cX7_greedy 0 = .ok (.aload_n 0, 1) := by decide +kernel
theorem dX7_greedy_1 : decode cX7_greedy 1 = .ok (.iconst 0, 1) := by decide +kernel
theorem dX7_greedy_2 : decode cX7_greedy 2 = .ok (.putfield 90, 3) := by decide +kernel
theorem dX7_greedy_5 : decode cX7_greedy 5 = .ok (.iload_n 1, 1) := by decide +kernel
theorem dX7_greedy_6 : decode cX7_greedy 6 = .ok (.iconst 0, 1) := by decide +kernel
theorem dX7_greedy_7 : decode cX7_greedy 7 = .ok (.iconst 1, 1) := by decide +kernel
theorem dX7_greedy_8 : decode cX7_greedy 8 = .ok (.invokestatic 98, 3) := by decide +kernel
theorem dX7_greedy_11 : decode cX7_greedy 11 = .ok (.ifCond .eq 14, 3) := by decide +kernel
theorem dX7_greedy_14 : decode cX7_greedy 14 = .ok (.iload_n 2, 1) := by decide +kernel
theorem dX7_greedy_15 : decode cX7_greedy 15 = .ok (.iconst 0, 1) := by decide +kernel
theorem dX7_greedy_16 : decode cX7_greedy 16 = .ok (.sipush 2000, 3) := by decide +kernel
theorem dX7_greedy_19 : decode cX7_greedy 19 = .ok (.invokestatic 98, 3) := by decide +kernel
theorem dX7_greedy_22 : decode cX7_greedy 22 = .ok (.ifCond .ne 5, 3) := by decide +kernel
theorem dX7_greedy_25 : decode cX7_greedy 25 = .ok (.iconst (-1), 1) := by decide +kernel
theorem dX7_greedy_26 : decode cX7_greedy 26 = .ok (.ireturn, 1) := by decide +kernel
theorem dX7_greedy_27 : decode cX7_greedy 27 = .ok (.aload_n 0, 1) := by decide +kernel
theorem dX7_greedy_28 : decode cX7_greedy 28 = .ok (.iload_n 1, 1) := by decide +kernel
theorem dX7_greedy_29 : decode cX7_greedy 29 = .ok (.invokevirtual 116, 3) := by decide +kernel
theorem dX7_greedy_32 : decode cX7_greedy 32 = .ok (.aload_n 0, 1) := by decide +kernel
theorem dX7_greedy_33 : decode cX7_greedy 33 = .ok (.iload_n 1, 1) := by decide +kernel
theorem dX7_greedy_34 : decode cX7_greedy 34 = .ok (.iload_n 2, 1) := by decide +kernel
theorem dX7_greedy_35 : decode cX7_greedy 35 = .ok (.invokevirtual 131, 3) := by decide +kernel
theorem dX7_greedy_38 : decode cX7_greedy 38 = .ok (.ireturn, 1) := by decide +kernel
theorem dX7_odd_0 : decode cX7_odd 0 = .ok (.aload_n 0, 1) := by decide +kernel
theorem dX7_odd_1 : decode cX7_odd 1 = .ok (.iconst 0, 1) := by decide +kernel
theorem dX7_odd_2 : decode cX7_odd 2 = .ok (.putfield 90, 3) := by decide +kernel
theorem dX7_odd_5 : decode cX7_odd 5 = .ok (.iload_n 1, 1) := by decide +kernel
theorem dX7_odd_6 : decode cX7_odd 6 = .ok (.iconst 0, 1) := by decide +kernel
theorem dX7_odd_7 : decode cX7_odd 7 = .ok (.iconst 1, 1) := by decide +kernel
theorem dX7_odd_8 : decode cX7_odd 8 = .ok (.invokestatic 98, 3) := by decide +kernel
theorem dX7_odd_11 : decode cX7_odd 11 = .ok (.ifCond .ne 5, 3) := by decide +kernel
theorem dX7_odd_14 : decode cX7_odd 14 = .ok (.iconst (-1), 1) := by decide +kernel
theorem dX7_odd_15 : decode cX7_odd 15 = .ok (.ireturn, 1) := by decide +kernel
theorem dX7_odd_16 : decode cX7_odd 16 = .ok (.aload_n 0, 1) := by decide +kernel
theorem dX7_odd_17 : decode cX7_odd 17 = .ok (.iload_n 1, 1) := by decide +kernel
theorem dX7_odd_18 : decode cX7_odd 18 = .ok (.invokevirtual 116, 3) := by decide +kernel
theorem dX7_odd_21 : decode cX7_odd 21 = .ok (.aload_n 0, 1) := by decide +kernel
theorem dX7_odd_22 : decode cX7_odd 22 = .ok (.getfield 77, 3) := by decide +kernel
theorem dX7_odd_25 : decode cX7_odd 25 = .ok (.iconst 0, 1) := by decide +kernel
theorem dX7_odd_26 : decode cX7_odd 26 = .ok (.iconst 0, 1) := by decide +kernel
theorem dX7_odd_27 : decode cX7_odd 27 = .ok (.iastore, 1) := by decide +kernel
theorem dX7_odd_28 : decode cX7_odd 28 = .ok (.iconst 1, 1) := by decide +kernel
theorem dX7_odd_29 : decode cX7_odd 29 = .ok (.istore_n 2, 1) := by decide +kernel
theorem dX7_odd_30 : decode cX7_odd 30 = .ok (.iload_n 2, 1) := by decide +kernel
theorem dX7_odd_31 : decode cX7_odd 31 = .ok (.sipush 2000, 3) := by decide +kernel
theorem dX7_odd_34 : decode cX7_odd 34 = .ok (.if_icmp .gt 126, 3) := by decide +kernel
theorem dX7_odd_37 : decode cX7_odd 37 = .ok (.aload_n 0, 1) := by decide +kernel
theorem dX7_odd_38 : decode cX7_odd 38 = .ok (.getfield 77, 3) := by decide +kernel
theorem dX7_odd_41 : decode cX7_odd 41 = .ok (.iload_n 2, 1) := by decide +kernel
theorem dX7_odd_42 : decode cX7_odd 42 = .ok (.ldc 120, 2) := by decide +kernel
theorem dX7_odd_44 : decode cX7_odd 44 = .ok (.iastore, 1) := by decide +kernel
theorem dX7_odd_45 : decode cX7_odd 45 = .ok (.iconst 0, 1) := by decide +kernel
theorem dX7_odd_46 : decode cX7_odd 46 = .ok (.istore_n 3, 1) := by decide +kernel
theorem dX7_odd_47 : decode cX7_odd 47 = .ok (.iload_n 3, 1) := by decide +kernel
theorem dX7_odd_48 : decode cX7_odd 48 = .ok (.aload_n 0, 1) := by decide +kernel
theorem dX7_odd_49 : decode cX7_odd 49 = .ok (.getfield 7, 3) := by decide +kernel
theorem dX7_odd_52 : decode cX7_odd 52 = .ok (.iload_n 1, 1) := by decide +kernel
theorem dX7_odd_53 : decode cX7_odd 53 = .ok (.iaload, 1) := by decide +kernel
theorem dX7_odd_54 : decode cX7_odd 54 = .ok (.if_icmp .ge 65, 3) := by decide +kernel
theorem dX7_odd_57 : decode cX7_odd 57 = .ok (.aload_n 0, 1) := by decide +kernel
theorem dX7_odd_58 : decode cX7_odd 58 = .ok (.getfield 13, 3) := by decide +kernel
theorem dX7_odd_61 : decode cX7_odd 61 = .ok (.bipush 8, 2) := by decide +kernel
theorem dX7_odd_63 : decode cX7_odd 63 = .ok (.iload_n 1, 1) := by decide +kernel
theorem dX7_odd_64 : decode cX7_odd 64 = .ok (.imul, 1) := by decide +kernel
theorem dX7_odd_65 : decode cX7_odd 65 = .ok (.iload_n 3, 1) := by decide +kernel
theorem dX7_odd_66 : decode cX7_odd 66 = .ok (.iadd, 1) := by decide +kernel
theorem dX7_odd_67 : decode cX7_odd 67 = .ok (.iaload, 1) := by decide +kernel
theorem dX7_odd_68 : decode cX7_odd 68 = .ok (.istore 4, 2) := by decide +kernel
theorem dX7_odd_70 : decode cX7_odd 70 = .ok (.iload 4, 2) := by decide +kernel
theorem dX7_odd_72 : decode cX7_odd 72 = .ok (.iload_n 2, 1) := by decide +kernel
theorem dX7_odd_73 : decode cX7_odd 73 = .ok (.if_icmp .gt 40, 3) := by decide +kernel
theorem dX7_odd_76 : decode cX7_odd 76 = .ok (.aload_n 0, 1) := by decide +kernel
theorem dX7_odd_77 : decode cX7_odd 77 = .ok (.getfield 77, 3) := by decide +kernel
theorem dX7_odd_80 : decode cX7_odd 80 = .ok (.iload_n 2, 1) := by decide +kernel
theorem dX7_odd_81 : decode cX7_odd 81 = .ok (.iload 4, 2) := by decide +kernel
theorem dX7_odd_83 : decode cX7_odd 83 = .ok (.isub, 1) := by decide +kernel
theorem dX7_odd_84 : decode cX7_odd 84 = .ok (.iaload, 1) := by decide +kernel
theorem dX7_odd_85 : decode cX7_odd 85 = .ok (.iconst 1, 1) := by decide +kernel
theorem dX7_odd_86 : decode cX7_odd 86 = .ok (.iadd, 1) := by decide +kernel
theorem dX7_odd_87 : decode cX7_odd 87 = .ok (.aload_n 0, 1) := by decide +kernel
theorem dX7_odd_88 : decode cX7_odd 88 = .ok (.getfield 77, 3) := by decide +kernel
theorem dX7_odd_91 : decode cX7_odd 91 = .ok (.iload_n 2, 1) := by decide +kernel
theorem dX7_odd_92 : decode cX7_odd 92 = .ok (.iaload, 1) := by decide +kernel
theorem dX7_odd_93 : decode cX7_odd 93 = .ok (.if_icmp .ge 20, 3) := by decide +kernel
theorem dX7_odd_96 : decode cX7_odd 96 = .ok (.aload_n 0, 1) := by decide +kernel
theorem dX7_odd_97 : decode cX7_odd 97 = .ok (.getfield 77, 3) := by decide +kernel
theorem dX7_odd_100 : decode cX7_odd 100 = .ok (.iload_n 2, 1) := by decide +kernel
theorem dX7_odd_101 : decode cX7_odd 101 = .ok (.aload_n 0, 1) := by decide +kernel
theorem dX7_odd_102 : decode cX7_odd 102 = .ok (.getfield 77, 3) := by decide +kernel
theorem dX7_odd_105 : decode cX7_odd 105 = .ok (.iload_n 2, 1) := by decide +kernel
theorem dX7_odd_106 : decode cX7_odd 106 = .ok (.iload 4, 2) := by decide +kernel
theorem dX7_odd_108 : decode cX7_odd 108 = .ok (.isub, 1) := by decide +kernel
theorem dX7_odd_109 : decode cX7_odd 109 = .ok (.iaload, 1) := by decide +kernel
theorem dX7_odd_110 : decode cX7_odd 110 = .ok (.iconst 1, 1) := by decide +kernel
theorem dX7_odd_111 : decode cX7_odd 111 = .ok (.iadd, 1) := by decide +kernel
theorem dX7_odd_112 : decode cX7_odd 112 = .ok (.iastore, 1) := by decide +kernel
theorem dX7_odd_113 : decode cX7_odd 113 = .ok (.iinc 3 1, 3) := by decide +kernel
theorem dX7_odd_116 : decode cX7_odd 116 = .ok (.goto (-69), 3) := by decide +kernel
theorem dX7_odd_119 : decode cX7_odd 119 = .ok (.aload_n 0, 1) := by decide +kernel
theorem dX7_odd_120 : decode cX7_odd 120 = .ok (.getfield 77, 3) := by decide +kernel
theorem dX7_odd_123 : decode cX7_odd 123 = .ok (.iload_n 2, 1) := by decide +kernel
theorem dX7_odd_124 : decode cX7_odd 124 = .ok (.iaload, 1) := by decide +kernel
theorem dX7_odd_125 : decode cX7_odd 125 = .ok (.ldc 120, 2) := by decide +kernel
theorem dX7_odd_127 : decode cX7_odd 127 = .ok (.if_icmp .ge 27, 3) := by decide +kernel
theorem dX7_odd_130 : decode cX7_odd 130 = .ok (.aload_n 0, 1) := by decide +kernel
theorem dX7_odd_131 : decode cX7_odd 131 = .ok (.iload_n 1, 1) := by decide +kernel
theorem dX7_odd_132 : decode cX7_odd 132 = .ok (.iload_n 2, 1) := by decide +kernel
theorem dX7_odd_133 : decode cX7_odd 133 = .ok (.invokevirtual 131, 3) := by decide +kernel
theorem dX7_odd_136 : decode cX7_odd 136 = .ok (.istore_n 3, 1) := by decide +kernel
theorem dX7_odd_137 : decode cX7_odd 137 = .ok (.iload_n 3, 1) := by decide +kernel
theorem dX7_odd_138 : decode cX7_odd 138 = .ok (.iconst (-1), 1) := by decide +kernel
theorem dX7_odd_139 : decode cX7_odd 139 = .ok (.if_icmp .eq 13, 3) := by decide +kernel
theorem dX7_odd_142 : decode cX7_odd 142 = .ok (.iload_n 3, 1) := by decide +kernel
theorem dX7_odd_143 : decode cX7_odd 143 = .ok (.aload_n 0, 1) := by decide +kernel
theorem dX7_odd_144 : decode cX7_odd 144 = .ok (.getfield 77, 3) := by decide +kernel
theorem dX7_odd_147 : decode cX7_odd 147 = .ok (.iload_n 2, 1) := by decide +kernel
theorem dX7_odd_148 : decode cX7_odd 148 = .ok (.iaload, 1) := by decide +kernel
theorem dX7_odd_149 : decode cX7_odd 149 = .ok (.if_icmp .le 5, 3) := by decide +kernel
theorem dX7_odd_152 : decode cX7_odd 152 = .ok (.iload_n 2, 1) := by decide +kernel
theorem dX7_odd_153 : decode cX7_odd 153 = .ok (.ireturn, 1) := by decide +kernel
theorem dX7_odd_154 : decode cX7_odd 154 = .ok (.iinc 2 1, 3) := by decide +kernel
theorem dX7_odd_157 : decode cX7_odd 157 = .ok (.goto (-127), 3) := by decide +kernel
theorem dX7_odd_160 : decode cX7_odd 160 = .ok (.iconst (-1), 1) := by decide +kernel
theorem dX7_odd_161 : decode cX7_odd 161 = .ok (.ireturn, 1) := by decide +kernel
theorem dX7_isTill_0 : decode cX7_isTill 0 = .ok (.iload_n 1, 1) := by decide +kernel
theorem dX7_isTill_1 : decode cX7_isTill 1 = .ok (.iconst 0, 1) := by decide +kernel
theorem dX7_isTill_2 : decode cX7_isTill 2 = .ok (.aload_n 0, 1) := by decide +kernel
theorem dX7_isTill_3 : decode cX7_isTill 3 = .ok (.getfield 34, 3) := by decide +kernel
theorem dX7_isTill_6 : decode cX7_isTill 6 = .ok (.iconst 0, 1) := by decide +kernel
theorem dX7_isTill_7 : decode cX7_isTill 7 = .ok (.iaload, 1) := by decide +kernel
theorem dX7_isTill_8 : decode cX7_isTill 8 = .ok (.iconst 1, 1) := by decide +kernel
theorem dX7_isTill_9 : decode cX7_isTill 9 = .ok (.isub, 1) := by decide +kernel
theorem dX7_isTill_10 : decode cX7_isTill 10 = .ok (.invokestatic 98, 3) := by decide +kernel
theorem dX7_isTill_13 : decode cX7_isTill 13 = .ok (.ireturn, 1) := by decide +kernel
theorem dX7_cell_0 : decode cX7_cell 0 = .ok (.bipush 8, 2) := by decide +kernel
theorem dX7_cell_2 : decode cX7_cell 2 = .ok (.iconst 2, 1) := by decide +kernel
theorem dX7_cell_3 : decode cX7_cell 3 = .ok (.iload_n 0, 1) := by decide +kernel
theorem dX7_cell_4 : decode cX7_cell 4 = .ok (.imul, 1) := by decide +kernel
theorem dX7_cell_5 : decode cX7_cell 5 = .ok (.iload_n 1, 1) := by decide +kernel
theorem dX7_cell_6 : decode cX7_cell 6 = .ok (.iadd, 1) := by decide +kernel
theorem dX7_cell_7 : decode cX7_cell 7 = .ok (.imul, 1) := by decide +kernel
theorem dX7_cell_8 : decode cX7_cell 8 = .ok (.iload_n 2, 1) := by decide +kernel
theorem dX7_cell_9 : decode cX7_cell 9 = .ok (.iadd, 1) := by decide +kernel
theorem dX7_cell_10 : decode cX7_cell 10 = .ok (.ireturn, 1) := by decide +kernel
theorem dX7_till_0 : decode cX7_till 0 = .ok (.aload_n 0, 1) := by decide +kernel
theorem dX7_till_1 : decode cX7_till 1 = .ok (.iconst 0, 1) := by decide +kernel
theorem dX7_till_2 : decode cX7_till 2 = .ok (.putfield 90, 3) := by decide +kernel
theorem dX7_till_5 : decode cX7_till 5 = .ok (.aload_n 0, 1) := by decide +kernel
theorem dX7_till_6 : decode cX7_till 6 = .ok (.getfield 34, 3) := by decide +kernel
theorem dX7_till_9 : decode cX7_till 9 = .ok (.iconst 0, 1) := by decide +kernel
theorem dX7_till_10 : decode cX7_till 10 = .ok (.iaload, 1) := by decide +kernel
theorem dX7_till_11 : decode cX7_till 11 = .ok (.iconst 4, 1) := by decide +kernel
theorem dX7_till_12 : decode cX7_till 12 = .ok (.if_icmp .ne 5, 3) := by decide +kernel
theorem dX7_till_15 : decode cX7_till 15 = .ok (.iconst (-1), 1) := by decide +kernel
theorem dX7_till_16 : decode cX7_till 16 = .ok (.ireturn, 1) := by decide +kernel
theorem dX7_till_17 : decode cX7_till 17 = .ok (.aload_n 0, 1) := by decide +kernel
theorem dX7_till_18 : decode cX7_till 18 = .ok (.getfield 34, 3) := by decide +kernel
theorem dX7_till_21 : decode cX7_till 21 = .ok (.iconst 0, 1) := by decide +kernel
theorem dX7_till_22 : decode cX7_till 22 = .ok (.iaload, 1) := by decide +kernel
theorem dX7_till_23 : decode cX7_till 23 = .ok (.istore_n 1, 1) := by decide +kernel
theorem dX7_till_24 : decode cX7_till 24 = .ok (.aload_n 0, 1) := by decide +kernel
theorem dX7_till_25 : decode cX7_till 25 = .ok (.getfield 34, 3) := by decide +kernel
theorem dX7_till_28 : decode cX7_till 28 = .ok (.iconst 0, 1) := by decide +kernel
theorem dX7_till_29 : decode cX7_till 29 = .ok (.dup2, 1) := by decide +kernel
theorem dX7_till_30 : decode cX7_till 30 = .ok (.iaload, 1) := by decide +kernel
theorem dX7_till_31 : decode cX7_till 31 = .ok (.iconst 1, 1) := by decide +kernel
theorem dX7_till_32 : decode cX7_till 32 = .ok (.iadd, 1) := by decide +kernel
theorem dX7_till_33 : decode cX7_till 33 = .ok (.iastore, 1) := by decide +kernel
theorem dX7_till_34 : decode cX7_till 34 = .ok (.aload_n 0, 1) := by decide +kernel
theorem dX7_till_35 : decode cX7_till 35 = .ok (.getfield 37, 3) := by decide +kernel
theorem dX7_till_38 : decode cX7_till 38 = .ok (.iload_n 1, 1) := by decide +kernel
theorem dX7_till_39 : decode cX7_till 39 = .ok (.iconst 0, 1) := by decide +kernel
theorem dX7_till_40 : decode cX7_till 40 = .ok (.iastore, 1) := by decide +kernel
theorem dX7_till_41 : decode cX7_till 41 = .ok (.aload_n 0, 1) := by decide +kernel
theorem dX7_till_42 : decode cX7_till 42 = .ok (.getfield 40, 3) := by decide +kernel
theorem dX7_till_45 : decode cX7_till 45 = .ok (.iload_n 1, 1) := by decide +kernel
theorem dX7_till_46 : decode cX7_till 46 = .ok (.lconst 0, 1) := by decide +kernel
theorem dX7_till_47 : decode cX7_till 47 = .ok (.lastore, 1) := by decide +kernel
theorem dX7_till_48 : decode cX7_till 48 = .ok (.aload_n 0, 1) := by decide +kernel
theorem dX7_till_49 : decode cX7_till 49 = .ok (.getfield 44, 3) := by decide +kernel
theorem dX7_till_52 : decode cX7_till 52 = .ok (.iload_n 1, 1) := by decide +kernel
theorem dX7_till_53 : decode cX7_till 53 = .ok (.lconst 0, 1) := by decide +kernel
theorem dX7_till_54 : decode cX7_till 54 = .ok (.lastore, 1) := by decide +kernel
theorem dX7_till_55 : decode cX7_till 55 = .ok (.aload_n 0, 1) := by decide +kernel
theorem dX7_till_56 : decode cX7_till 56 = .ok (.getfield 47, 3) := by decide +kernel
theorem dX7_till_59 : decode cX7_till 59 = .ok (.iload_n 1, 1) := by decide +kernel
theorem dX7_till_60 : decode cX7_till 60 = .ok (.iconst 0, 1) := by decide +kernel
theorem dX7_till_61 : decode cX7_till 61 = .ok (.iastore, 1) := by decide +kernel
theorem dX7_till_62 : decode cX7_till 62 = .ok (.iconst 0, 1) := by decide +kernel
theorem dX7_till_63 : decode cX7_till 63 = .ok (.istore_n 2, 1) := by decide +kernel
theorem dX7_till_64 : decode cX7_till 64 = .ok (.iload_n 2, 1) := by decide +kernel
theorem dX7_till_65 : decode cX7_till 65 = .ok (.bipush 8, 2) := by decide +kernel
theorem dX7_till_67 : decode cX7_till 67 = .ok (.if_icmp .ge 45, 3) := by decide +kernel
theorem dX7_till_70 : decode cX7_till 70 = .ok (.aload_n 0, 1) := by decide +kernel
theorem dX7_till_71 : decode cX7_till 71 = .ok (.getfield 50, 3) := by decide +kernel
theorem dX7_till_74 : decode cX7_till 74 = .ok (.iload_n 1, 1) := by decide +kernel
theorem dX7_till_75 : decode cX7_till 75 = .ok (.iconst 0, 1) := by decide +kernel
theorem dX7_till_76 : decode cX7_till 76 = .ok (.iload_n 2, 1) := by decide +kernel
theorem dX7_till_77 : decode cX7_till 77 = .ok (.invokestatic 134, 3) := by decide +kernel
theorem dX7_till_80 : decode cX7_till 80 = .ok (.iconst 0, 1) := by decide +kernel
theorem dX7_till_81 : decode cX7_till 81 = .ok (.iastore, 1) := by decide +kernel
theorem dX7_till_82 : decode cX7_till 82 = .ok (.aload_n 0, 1) := by decide +kernel
theorem dX7_till_83 : decode cX7_till 83 = .ok (.getfield 50, 3) := by decide +kernel
theorem dX7_till_86 : decode cX7_till 86 = .ok (.iload_n 1, 1) := by decide +kernel
theorem dX7_till_87 : decode cX7_till 87 = .ok (.iconst 1, 1) := by decide +kernel
theorem dX7_till_88 : decode cX7_till 88 = .ok (.iload_n 2, 1) := by decide +kernel
theorem dX7_till_89 : decode cX7_till 89 = .ok (.invokestatic 134, 3) := by decide +kernel
theorem dX7_till_92 : decode cX7_till 92 = .ok (.iconst 0, 1) := by decide +kernel
theorem dX7_till_93 : decode cX7_till 93 = .ok (.iastore, 1) := by decide +kernel
theorem dX7_till_94 : decode cX7_till 94 = .ok (.aload_n 0, 1) := by decide +kernel
theorem dX7_till_95 : decode cX7_till 95 = .ok (.getfield 53, 3) := by decide +kernel
theorem dX7_till_98 : decode cX7_till 98 = .ok (.bipush 8, 2) := by decide +kernel
theorem dX7_till_100 : decode cX7_till 100 = .ok (.iload_n 1, 1) := by decide +kernel
theorem dX7_till_101 : decode cX7_till 101 = .ok (.imul, 1) := by decide +kernel
theorem dX7_till_102 : decode cX7_till 102 = .ok (.iload_n 2, 1) := by decide +kernel
theorem dX7_till_103 : decode cX7_till 103 = .ok (.iadd, 1) := by decide +kernel
theorem dX7_till_104 : decode cX7_till 104 = .ok (.iconst 0, 1) := by decide +kernel
theorem dX7_till_105 : decode cX7_till 105 = .ok (.iastore, 1) := by decide +kernel
theorem dX7_till_106 : decode cX7_till 106 = .ok (.iinc 2 1, 3) := by decide +kernel
theorem dX7_till_109 : decode cX7_till 109 = .ok (.goto (-45), 3) := by decide +kernel
theorem dX7_till_112 : decode cX7_till 112 = .ok (.iload_n 1, 1) := by decide +kernel
theorem dX7_till_113 : decode cX7_till 113 = .ok (.ireturn, 1) := by decide +kernel
theorem dX7_put_0 : decode cX7_put 0 = .ok (.aload_n 0, 1) := by decide +kernel
theorem dX7_put_1 : decode cX7_put 1 = .ok (.iconst 0, 1) := by decide +kernel
theorem dX7_put_2 : decode cX7_put 2 = .ok (.putfield 90, 3) := by decide +kernel
theorem dX7_put_5 : decode cX7_put 5 = .ok (.aload_n 0, 1) := by decide +kernel
theorem dX7_put_6 : decode cX7_put 6 = .ok (.iload_n 1, 1) := by decide +kernel
theorem dX7_put_7 : decode cX7_put 7 = .ok (.invokevirtual 138, 3) := by decide +kernel
theorem dX7_put_10 : decode cX7_put 10 = .ok (.ifCond .eq 12, 3) := by decide +kernel
theorem dX7_put_13 : decode cX7_put 13 = .ok (.aload_n 0, 1) := by decide +kernel
theorem dX7_put_14 : decode cX7_put 14 = .ok (.iload_n 2, 1) := by decide +kernel
theorem dX7_put_15 : decode cX7_put 15 = .ok (.iload_n 3, 1) := by decide +kernel
theorem dX7_put_16 : decode cX7_put 16 = .ok (.invokevirtual 121, 3) := by decide +kernel
theorem dX7_put_19 : decode cX7_put 19 = .ok (.ifCond .ne 5, 3) := by decide +kernel
theorem dX7_put_22 : decode cX7_put 22 = .ok (.iconst (-1), 1) := by decide +kernel
theorem dX7_put_23 : decode cX7_put 23 = .ok (.ireturn, 1) := by decide +kernel
theorem dX7_put_24 : decode cX7_put 24 = .ok (.iload_n 1, 1) := by decide +kernel
theorem dX7_put_25 : decode cX7_put 25 = .ok (.iload_n 2, 1) := by decide +kernel
theorem dX7_put_26 : decode cX7_put 26 = .ok (.iload_n 3, 1) := by decide +kernel
theorem dX7_put_27 : decode cX7_put 27 = .ok (.invokestatic 134, 3) := by decide +kernel
theorem dX7_put_30 : decode cX7_put 30 = .ok (.istore 5, 2) := by decide +kernel
theorem dX7_put_32 : decode cX7_put 32 = .ok (.iload 4, 2) := by decide +kernel
theorem dX7_put_34 : decode cX7_put 34 = .ok (.aload_n 0, 1) := by decide +kernel
theorem dX7_put_35 : decode cX7_put 35 = .ok (.getfield 50, 3) := by decide +kernel
theorem dX7_put_38 : decode cX7_put 38 = .ok (.iload 5, 2) := by decide +kernel
theorem dX7_put_40 : decode cX7_put 40 = .ok (.iaload, 1) := by decide +kernel
theorem dX7_put_41 : decode cX7_put 41 = .ok (.ineg, 1) := by decide +kernel
theorem dX7_put_42 : decode cX7_put 42 = .ok (.sipush 1000, 3) := by decide +kernel
theorem dX7_put_45 : decode cX7_put 45 = .ok (.aload_n 0, 1) := by decide +kernel
theorem dX7_put_46 : decode cX7_put 46 = .ok (.getfield 50, 3) := by decide +kernel
theorem dX7_put_49 : decode cX7_put 49 = .ok (.iload 5, 2) := by decide +kernel
theorem dX7_put_51 : decode cX7_put 51 = .ok (.iaload, 1) := by decide +kernel
theorem dX7_put_52 : decode cX7_put 52 = .ok (.isub, 1) := by decide +kernel
theorem dX7_put_53 : decode cX7_put 53 = .ok (.invokestatic 98, 3) := by decide +kernel
theorem dX7_put_56 : decode cX7_put 56 = .ok (.ifCond .ne 5, 3) := by decide +kernel
theorem dX7_put_59 : decode cX7_put 59 = .ok (.iconst (-1), 1) := by decide +kernel
theorem dX7_put_60 : decode cX7_put 60 = .ok (.ireturn, 1) := by decide +kernel
theorem dX7_put_61 : decode cX7_put 61 = .ok (.aload_n 0, 1) := by decide +kernel
theorem dX7_put_62 : decode cX7_put 62 = .ok (.getfield 50, 3) := by decide +kernel
theorem dX7_put_65 : decode cX7_put 65 = .ok (.iload 5, 2) := by decide +kernel
theorem dX7_put_67 : decode cX7_put 67 = .ok (.dup2, 1) := by decide +kernel
theorem dX7_put_68 : decode cX7_put 68 = .ok (.iaload, 1) := by decide +kernel
theorem dX7_put_69 : decode cX7_put 69 = .ok (.iload 4, 2) := by decide +kernel
theorem dX7_put_71 : decode cX7_put 71 = .ok (.iadd, 1) := by decide +kernel
theorem dX7_put_72 : decode cX7_put 72 = .ok (.iastore, 1) := by decide +kernel
theorem dX7_put_73 : decode cX7_put 73 = .ok (.aload_n 0, 1) := by decide +kernel
theorem dX7_put_74 : decode cX7_put 74 = .ok (.getfield 50, 3) := by decide +kernel
theorem dX7_put_77 : decode cX7_put 77 = .ok (.iload 5, 2) := by decide +kernel
theorem dX7_put_79 : decode cX7_put 79 = .ok (.iaload, 1) := by decide +kernel
theorem dX7_put_80 : decode cX7_put 80 = .ok (.ireturn, 1) := by decide +kernel
theorem dX7_over_0 : decode cX7_over 0 = .ok (.iload 4, 2) := by decide +kernel
theorem dX7_over_2 : decode cX7_over 2 = .ok (.aload_n 0, 1) := by decide +kernel
theorem dX7_over_3 : decode cX7_over 3 = .ok (.getfield 13, 3) := by decide +kernel
theorem dX7_over_6 : decode cX7_over 6 = .ok (.bipush 8, 2) := by decide +kernel
theorem dX7_over_8 : decode cX7_over 8 = .ok (.iload_n 2, 1) := by decide +kernel
theorem dX7_over_9 : decode cX7_over 9 = .ok (.imul, 1) := by decide +kernel
theorem dX7_over_10 : decode cX7_over 10 = .ok (.iload_n 3, 1) := by decide +kernel
theorem dX7_over_11 : decode cX7_over 11 = .ok (.iadd, 1) := by decide +kernel
theorem dX7_over_12 : decode cX7_over 12 = .ok (.iaload, 1) := by decide +kernel
theorem dX7_over_13 : decode cX7_over 13 = .ok (.imul, 1) := by decide +kernel
theorem dX7_over_14 : decode cX7_over 14 = .ok (.aload_n 0, 1) := by decide +kernel
theorem dX7_over_15 : decode cX7_over 15 = .ok (.getfield 16, 3) := by decide +kernel
theorem dX7_over_18 : decode cX7_over 18 = .ok (.iload_n 2, 1) := by decide +kernel
theorem dX7_over_19 : decode cX7_over 19 = .ok (.iaload, 1) := by decide +kernel
theorem dX7_over_20 : decode cX7_over 20 = .ok (.imul, 1) := by decide +kernel
theorem dX7_over_21 : decode cX7_over 21 = .ok (.iload_n 1, 1) := by decide +kernel
theorem dX7_over_22 : decode cX7_over 22 = .ok (.aload_n 0, 1) := by decide +kernel
theorem dX7_over_23 : decode cX7_over 23 = .ok (.getfield 16, 3) := by decide +kernel
theorem dX7_over_26 : decode cX7_over 26 = .ok (.iconst 1, 1) := by decide +kernel
theorem dX7_over_27 : decode cX7_over 27 = .ok (.iaload, 1) := by decide +kernel
theorem dX7_over_28 : decode cX7_over 28 = .ok (.imul, 1) := by decide +kernel
theorem dX7_over_29 : decode cX7_over 29 = .ok (.isub, 1) := by decide +kernel
theorem dX7_over_30 : decode cX7_over 30 = .ok (.ireturn, 1) := by decide +kernel
theorem dX7_isSale_0 : decode cX7_isSale 0 = .ok (.aload_n 0, 1) := by decide +kernel
theorem dX7_isSale_1 : decode cX7_isSale 1 = .ok (.iload_n 1, 1) := by decide +kernel
theorem dX7_isSale_2 : decode cX7_isSale 2 = .ok (.invokevirtual 138, 3) := by decide +kernel
theorem dX7_isSale_5 : decode cX7_isSale 5 = .ok (.ifCond .eq 39, 3) := by decide +kernel
theorem dX7_isSale_8 : decode cX7_isSale 8 = .ok (.iload_n 2, 1) := by decide +kernel
theorem dX7_isSale_9 : decode cX7_isSale 9 = .ok (.iconst 1, 1) := by decide +kernel
theorem dX7_isSale_10 : decode cX7_isSale 10 = .ok (.sipush 2000, 3) := by decide +kernel
theorem dX7_isSale_13 : decode cX7_isSale 13 = .ok (.invokestatic 98, 3) := by decide +kernel
theorem dX7_isSale_16 : decode cX7_isSale 16 = .ok (.ifCond .eq 28, 3) := by decide +kernel
theorem dX7_isSale_19 : decode cX7_isSale 19 = .ok (.aload_n 0, 1) := by decide +kernel
theorem dX7_isSale_20 : decode cX7_isSale 20 = .ok (.iload_n 3, 1) := by decide +kernel
theorem dX7_isSale_21 : decode cX7_isSale 21 = .ok (.iload 4, 2) := by decide +kernel
theorem dX7_isSale_23 : decode cX7_isSale 23 = .ok (.invokevirtual 121, 3) := by decide +kernel
theorem dX7_isSale_26 : decode cX7_isSale 26 = .ok (.ifCond .eq 18, 3) := by decide +kernel
theorem dX7_isSale_29 : decode cX7_isSale 29 = .ok (.iload 5, 2) := by decide +kernel
theorem dX7_isSale_31 : decode cX7_isSale 31 = .ok (.iconst 1, 1) := by decide +kernel
theorem dX7_isSale_32 : decode cX7_isSale 32 = .ok (.bipush 50, 2) := by decide +kernel
theorem dX7_isSale_34 : decode cX7_isSale 34 = .ok (.invokestatic 98, 3) := by decide +kernel
theorem dX7_isSale_37 : decode cX7_isSale 37 = .ok (.ifCond .eq 7, 3) := by decide +kernel
theorem dX7_isSale_40 : decode cX7_isSale 40 = .ok (.iconst 1, 1) := by decide +kernel
theorem dX7_isSale_41 : decode cX7_isSale 41 = .ok (.goto 4, 3) := by decide +kernel
theorem dX7_isSale_44 : decode cX7_isSale 44 = .ok (.iconst 0, 1) := by decide +kernel
theorem dX7_isSale_45 : decode cX7_isSale 45 = .ok (.ireturn, 1) := by decide +kernel
theorem dX7_sale_0 : decode cX7_sale 0 = .ok (.aload_n 0, 1) := by decide +kernel
theorem dX7_sale_1 : decode cX7_sale 1 = .ok (.iconst 0, 1) := by decide +kernel
theorem dX7_sale_2 : decode cX7_sale 2 = .ok (.putfield 90, 3) := by decide +kernel
theorem dX7_sale_5 : decode cX7_sale 5 = .ok (.aload_n 0, 1) := by decide +kernel
theorem dX7_sale_6 : decode cX7_sale 6 = .ok (.iload_n 1, 1) := by decide +kernel
theorem dX7_sale_7 : decode cX7_sale 7 = .ok (.iload_n 2, 1) := by decide +kernel
theorem dX7_sale_8 : decode cX7_sale 8 = .ok (.iload_n 3, 1) := by decide +kernel
theorem dX7_sale_9 : decode cX7_sale 9 = .ok (.iload 4, 2) := by decide +kernel
theorem dX7_sale_11 : decode cX7_sale 11 = .ok (.iload 5, 2) := by decide +kernel
theorem dX7_sale_13 : decode cX7_sale 13 = .ok (.invokevirtual 141, 3) := by decide +kernel
theorem dX7_sale_16 : decode cX7_sale 16 = .ok (.ifCond .ne 5, 3) := by decide +kernel
theorem dX7_sale_19 : decode cX7_sale 19 = .ok (.iconst (-1), 1) := by decide +kernel
theorem dX7_sale_20 : decode cX7_sale 20 = .ok (.ireturn, 1) := by decide +kernel
theorem dX7_sale_21 : decode cX7_sale 21 = .ok (.aload_n 0, 1) := by decide +kernel
theorem dX7_sale_22 : decode cX7_sale 22 = .ok (.iload_n 2, 1) := by decide +kernel
theorem dX7_sale_23 : decode cX7_sale 23 = .ok (.iload_n 3, 1) := by decide +kernel
theorem dX7_sale_24 : decode cX7_sale 24 = .ok (.iload 4, 2) := by decide +kernel
theorem dX7_sale_26 : decode cX7_sale 26 = .ok (.iload 5, 2) := by decide +kernel
theorem dX7_sale_28 : decode cX7_sale 28 = .ok (.invokevirtual 145, 3) := by decide +kernel
theorem dX7_sale_31 : decode cX7_sale 31 = .ok (.istore 6, 2) := by decide +kernel
theorem dX7_sale_33 : decode cX7_sale 33 = .ok (.iload_n 1, 1) := by decide +kernel
theorem dX7_sale_34 : decode cX7_sale 34 = .ok (.iload_n 3, 1) := by decide +kernel
theorem dX7_sale_35 : decode cX7_sale 35 = .ok (.iload 4, 2) := by decide +kernel
theorem dX7_sale_37 : decode cX7_sale 37 = .ok (.invokestatic 134, 3) := by decide +kernel
theorem dX7_sale_40 : decode cX7_sale 40 = .ok (.istore 7, 2) := by decide +kernel
theorem dX7_sale_42 : decode cX7_sale 42 = .ok (.iload 6, 2) := by decide +kernel
theorem dX7_sale_44 : decode cX7_sale 44 = .ok (.aload_n 0, 1) := by decide +kernel
theorem dX7_sale_45 : decode cX7_sale 45 = .ok (.getfield 16, 3) := by decide +kernel
theorem dX7_sale_48 : decode cX7_sale 48 = .ok (.iconst 1, 1) := by decide +kernel
theorem dX7_sale_49 : decode cX7_sale 49 = .ok (.iaload, 1) := by decide +kernel
theorem dX7_sale_50 : decode cX7_sale 50 = .ok (.idiv, 1) := by decide +kernel
theorem dX7_sale_51 : decode cX7_sale 51 = .ok (.istore 8, 2) := by decide +kernel
theorem dX7_sale_53 : decode cX7_sale 53 = .ok (.iload 6, 2) := by decide +kernel
theorem dX7_sale_55 : decode cX7_sale 55 = .ok (.ifCond .lt 27, 3) := by decide +kernel
theorem dX7_sale_58 : decode cX7_sale 58 = .ok (.iload 8, 2) := by decide +kernel
theorem dX7_sale_60 : decode cX7_sale 60 = .ok (.sipush 2000, 3) := by decide +kernel
theorem dX7_sale_63 : decode cX7_sale 63 = .ok (.if_icmp .gt 19, 3) := by decide +kernel
theorem dX7_sale_66 : decode cX7_sale 66 = .ok (.aload_n 0, 1) := by decide +kernel
theorem dX7_sale_67 : decode cX7_sale 67 = .ok (.getfield 50, 3) := by decide +kernel
theorem dX7_sale_70 : decode cX7_sale 70 = .ok (.iload 7, 2) := by decide +kernel
theorem dX7_sale_72 : decode cX7_sale 72 = .ok (.iaload, 1) := by decide +kernel
theorem dX7_sale_73 : decode cX7_sale 73 = .ok (.iload 5, 2) := by decide +kernel
theorem dX7_sale_75 : decode cX7_sale 75 = .ok (.iadd, 1) := by decide +kernel
theorem dX7_sale_76 : decode cX7_sale 76 = .ok (.sipush 1000, 3) := by decide +kernel
theorem dX7_sale_79 : decode cX7_sale 79 = .ok (.if_icmp .le 5, 3) := by decide +kernel
theorem dX7_sale_82 : decode cX7_sale 82 = .ok (.iconst (-1), 1) := by decide +kernel
theorem dX7_sale_83 : decode cX7_sale 83 = .ok (.ireturn, 1) := by decide +kernel
theorem dX7_sale_84 : decode cX7_sale 84 = .ok (.iconst 0, 1) := by decide +kernel
theorem dX7_sale_85 : decode cX7_sale 85 = .ok (.istore 9, 2) := by decide +kernel
theorem dX7_sale_87 : decode cX7_sale 87 = .ok (.iload 9, 2) := by decide +kernel
theorem dX7_sale_89 : decode cX7_sale 89 = .ok (.bipush 8, 2) := by decide +kernel
theorem dX7_sale_91 : decode cX7_sale 91 = .ok (.if_icmp .ge 47, 3) := by decide +kernel
theorem dX7_sale_94 : decode cX7_sale 94 = .ok (.aload_n 0, 1) := by decide +kernel
theorem dX7_sale_95 : decode cX7_sale 95 = .ok (.getfield 74, 3) := by decide +kernel
theorem dX7_sale_98 : decode cX7_sale 98 = .ok (.iload 9, 2) := by decide +kernel
theorem dX7_sale_100 : decode cX7_sale 100 = .ok (.aload_n 0, 1) := by decide +kernel
theorem dX7_sale_101 : decode cX7_sale 101 = .ok (.getfield 50, 3) := by decide +kernel
theorem dX7_sale_104 : decode cX7_sale 104 = .ok (.iload_n 1, 1) := by decide +kernel
theorem dX7_sale_105 : decode cX7_sale 105 = .ok (.iconst 1, 1) := by decide +kernel
theorem dX7_sale_106 : decode cX7_sale 106 = .ok (.iload 9, 2) := by decide +kernel
theorem dX7_sale_108 : decode cX7_sale 108 = .ok (.invokestatic 134, 3) := by decide +kernel
theorem dX7_sale_111 : decode cX7_sale 111 = .ok (.iaload, 1) := by decide +kernel
theorem dX7_sale_112 : decode cX7_sale 112 = .ok (.iload_n 3, 1) := by decide +kernel
theorem dX7_sale_113 : decode cX7_sale 113 = .ok (.iconst 1, 1) := by decide +kernel
theorem dX7_sale_114 : decode cX7_sale 114 = .ok (.if_icmp .ne 15, 3) := by decide +kernel
theorem dX7_sale_117 : decode cX7_sale 117 = .ok (.iload 9, 2) := by decide +kernel
theorem dX7_sale_119 : decode cX7_sale 119 = .ok (.iload 4, 2) := by decide +kernel
theorem dX7_sale_121 : decode cX7_sale 121 = .ok (.if_icmp .ne 8, 3) := by decide +kernel
theorem dX7_sale_124 : decode cX7_sale 124 = .ok (.iload 5, 2) := by decide +kernel
theorem dX7_sale_126 : decode cX7_sale 126 = .ok (.goto 4, 3) := by decide +kernel
theorem dX7_sale_129 : decode cX7_sale 129 = .ok (.iconst 0, 1) := by decide +kernel
theorem dX7_sale_130 : decode cX7_sale 130 = .ok (.iadd, 1) := by decide +kernel
theorem dX7_sale_131 : decode cX7_sale 131 = .ok (.iastore, 1) := by decide +kernel
theorem dX7_sale_132 : decode cX7_sale 132 = .ok (.iinc 9 1, 3) := by decide +kernel
theorem dX7_sale_135 : decode cX7_sale 135 = .ok (.goto (-48), 3) := by decide +kernel
theorem dX7_sale_138 : decode cX7_sale 138 = .ok (.aload_n 0, 1) := by decide +kernel
theorem dX7_sale_139 : decode cX7_sale 139 = .ok (.iconst 1, 1) := by decide +kernel
theorem dX7_sale_140 : decode cX7_sale 140 = .ok (.iload 8, 2) := by decide +kernel
theorem dX7_sale_142 : decode cX7_sale 142 = .ok (.invokevirtual 128, 3) := by decide +kernel
theorem dX7_sale_145 : decode cX7_sale 145 = .ok (.iconst (-1), 1) := by decide +kernel
theorem dX7_sale_146 : decode cX7_sale 146 = .ok (.if_icmp .ne 5, 3) := by decide +kernel
theorem dX7_sale_149 : decode cX7_sale 149 = .ok (.iconst (-1), 1) := by decide +kernel
theorem dX7_sale_150 : decode cX7_sale 150 = .ok (.ireturn, 1) := by decide +kernel
theorem dX7_sale_151 : decode cX7_sale 151 = .ok (.aload_n 0, 1) := by decide +kernel
theorem dX7_sale_152 : decode cX7_sale 152 = .ok (.getfield 50, 3) := by decide +kernel
theorem dX7_sale_155 : decode cX7_sale 155 = .ok (.iload 7, 2) := by decide +kernel
theorem dX7_sale_157 : decode cX7_sale 157 = .ok (.dup2, 1) := by decide +kernel
theorem dX7_sale_158 : decode cX7_sale 158 = .ok (.iaload, 1) := by decide +kernel
theorem dX7_sale_159 : decode cX7_sale 159 = .ok (.iload 5, 2) := by decide +kernel
theorem dX7_sale_161 : decode cX7_sale 161 = .ok (.iadd, 1) := by decide +kernel
theorem dX7_sale_162 : decode cX7_sale 162 = .ok (.iastore, 1) := by decide +kernel
theorem dX7_sale_163 : decode cX7_sale 163 = .ok (.iconst 0, 1) := by decide +kernel
theorem dX7_sale_164 : decode cX7_sale 164 = .ok (.istore 9, 2) := by decide +kernel
theorem dX7_sale_166 : decode cX7_sale 166 = .ok (.iload 9, 2) := by decide +kernel
theorem dX7_sale_168 : decode cX7_sale 168 = .ok (.bipush 8, 2) := by decide +kernel
theorem dX7_sale_170 : decode cX7_sale 170 = .ok (.if_icmp .ge 64, 3) := by decide +kernel
theorem dX7_sale_173 : decode cX7_sale 173 = .ok (.iload 9, 2) := by decide +kernel
theorem dX7_sale_175 : decode cX7_sale 175 = .ok (.aload_n 0, 1) := by decide +kernel
theorem dX7_sale_176 : decode cX7_sale 176 = .ok (.getfield 7, 3) := by decide +kernel
theorem dX7_sale_179 : decode cX7_sale 179 = .ok (.iconst 1, 1) := by decide +kernel
theorem dX7_sale_180 : decode cX7_sale 180 = .ok (.iaload, 1) := by decide +kernel
theorem dX7_sale_181 : decode cX7_sale 181 = .ok (.if_icmp .ge 13, 3) := by decide +kernel
theorem dX7_sale_184 : decode cX7_sale 184 = .ok (.aload_n 0, 1) := by decide +kernel
theorem dX7_sale_185 : decode cX7_sale 185 = .ok (.getfield 71, 3) := by decide +kernel
theorem dX7_sale_188 : decode cX7_sale 188 = .ok (.iload 9, 2) := by decide +kernel
theorem dX7_sale_190 : decode cX7_sale 190 = .ok (.iaload, 1) := by decide +kernel
theorem dX7_sale_191 : decode cX7_sale 191 = .ok (.goto 4, 3) := by decide +kernel
theorem dX7_sale_194 : decode cX7_sale 194 = .ok (.iconst 0, 1) := by decide +kernel
theorem dX7_sale_195 : decode cX7_sale 195 = .ok (.istore 10, 2) := by decide +kernel
theorem dX7_sale_197 : decode cX7_sale 197 = .ok (.aload_n 0, 1) := by decide +kernel
theorem dX7_sale_198 : decode cX7_sale 198 = .ok (.getfield 50, 3) := by decide +kernel
theorem dX7_sale_201 : decode cX7_sale 201 = .ok (.iload_n 1, 1) := by decide +kernel
theorem dX7_sale_202 : decode cX7_sale 202 = .ok (.iconst 1, 1) := by decide +kernel
theorem dX7_sale_203 : decode cX7_sale 203 = .ok (.iload 9, 2) := by decide +kernel
theorem dX7_sale_205 : decode cX7_sale 205 = .ok (.invokestatic 134, 3) := by decide +kernel
theorem dX7_sale_208 : decode cX7_sale 208 = .ok (.dup2, 1) := by decide +kernel
theorem dX7_sale_209 : decode cX7_sale 209 = .ok (.iaload, 1) := by decide +kernel
theorem dX7_sale_210 : decode cX7_sale 210 = .ok (.iload 10, 2) := by decide +kernel
theorem dX7_sale_212 : decode cX7_sale 212 = .ok (.isub, 1) := by decide +kernel
theorem dX7_sale_213 : decode cX7_sale 213 = .ok (.iastore, 1) := by decide +kernel
theorem dX7_sale_214 : decode cX7_sale 214 = .ok (.aload_n 0, 1) := by decide +kernel
theorem dX7_sale_215 : decode cX7_sale 215 = .ok (.getfield 53, 3) := by decide +kernel
theorem dX7_sale_218 : decode cX7_sale 218 = .ok (.bipush 8, 2) := by decide +kernel
theorem dX7_sale_220 : decode cX7_sale 220 = .ok (.iload_n 1, 1) := by decide +kernel
theorem dX7_sale_221 : decode cX7_sale 221 = .ok (.imul, 1) := by decide +kernel
theorem dX7_sale_222 : decode cX7_sale 222 = .ok (.iload 9, 2) := by decide +kernel
theorem dX7_sale_224 : decode cX7_sale 224 = .ok (.iadd, 1) := by decide +kernel
theorem dX7_sale_225 : decode cX7_sale 225 = .ok (.iload 10, 2) := by decide +kernel
theorem dX7_sale_227 : decode cX7_sale 227 = .ok (.iastore, 1) := by decide +kernel
theorem dX7_sale_228 : decode cX7_sale 228 = .ok (.iinc 9 1, 3) := by decide +kernel
theorem dX7_sale_231 : decode cX7_sale 231 = .ok (.goto (-65), 3) := by decide +kernel
theorem dX7_sale_234 : decode cX7_sale 234 = .ok (.aload_n 0, 1) := by decide +kernel
theorem dX7_sale_235 : decode cX7_sale 235 = .ok (.getfield 19, 3) := by decide +kernel
theorem dX7_sale_238 : decode cX7_sale 238 = .ok (.iconst 0, 1) := by decide +kernel
theorem dX7_sale_239 : decode cX7_sale 239 = .ok (.dup2, 1) := by decide +kernel
theorem dX7_sale_240 : decode cX7_sale 240 = .ok (.iaload, 1) := by decide +kernel
theorem dX7_sale_241 : decode cX7_sale 241 = .ok (.iconst 1, 1) := by decide +kernel
theorem dX7_sale_242 : decode cX7_sale 242 = .ok (.iadd, 1) := by decide +kernel
theorem dX7_sale_243 : decode cX7_sale 243 = .ok (.iastore, 1) := by decide +kernel
theorem dX7_sale_244 : decode cX7_sale 244 = .ok (.aload_n 0, 1) := by decide +kernel
theorem dX7_sale_245 : decode cX7_sale 245 = .ok (.getfield 37, 3) := by decide +kernel
theorem dX7_sale_248 : decode cX7_sale 248 = .ok (.iload_n 1, 1) := by decide +kernel
theorem dX7_sale_249 : decode cX7_sale 249 = .ok (.dup2, 1) := by decide +kernel
theorem dX7_sale_250 : decode cX7_sale 250 = .ok (.iaload, 1) := by decide +kernel
theorem dX7_sale_251 : decode cX7_sale 251 = .ok (.iconst 1, 1) := by decide +kernel
theorem dX7_sale_252 : decode cX7_sale 252 = .ok (.iadd, 1) := by decide +kernel
theorem dX7_sale_253 : decode cX7_sale 253 = .ok (.iastore, 1) := by decide +kernel
theorem dX7_sale_254 : decode cX7_sale 254 = .ok (.aload_n 0, 1) := by decide +kernel
theorem dX7_sale_255 : decode cX7_sale 255 = .ok (.getfield 40, 3) := by decide +kernel
theorem dX7_sale_258 : decode cX7_sale 258 = .ok (.iload_n 1, 1) := by decide +kernel
theorem dX7_sale_259 : decode cX7_sale 259 = .ok (.dup2, 1) := by decide +kernel
theorem dX7_sale_260 : decode cX7_sale 260 = .ok (.laload, 1) := by decide +kernel
theorem dX7_sale_261 : decode cX7_sale 261 = .ok (.iload 6, 2) := by decide +kernel
theorem dX7_sale_263 : decode cX7_sale 263 = .ok (.aload_n 0, 1) := by decide +kernel
theorem dX7_sale_264 : decode cX7_sale 264 = .ok (.getfield 16, 3) := by decide +kernel
theorem dX7_sale_267 : decode cX7_sale 267 = .ok (.iconst 1, 1) := by decide +kernel
theorem dX7_sale_268 : decode cX7_sale 268 = .ok (.iaload, 1) := by decide +kernel
theorem dX7_sale_269 : decode cX7_sale 269 = .ok (.irem, 1) := by decide +kernel
theorem dX7_sale_270 : decode cX7_sale 270 = .ok (.i2l, 1) := by decide +kernel
theorem dX7_sale_271 : decode cX7_sale 271 = .ok (.ladd, 1) := by decide +kernel
theorem dX7_sale_272 : decode cX7_sale 272 = .ok (.lastore, 1) := by decide +kernel
theorem dX7_sale_273 : decode cX7_sale 273 = .ok (.aload_n 0, 1) := by decide +kernel
theorem dX7_sale_274 : decode cX7_sale 274 = .ok (.getfield 44, 3) := by decide +kernel
theorem dX7_sale_277 : decode cX7_sale 277 = .ok (.iload_n 1, 1) := by decide +kernel
theorem dX7_sale_278 : decode cX7_sale 278 = .ok (.dup2, 1) := by decide +kernel
theorem dX7_sale_279 : decode cX7_sale 279 = .ok (.laload, 1) := by decide +kernel
theorem dX7_sale_280 : decode cX7_sale 280 = .ok (.iload_n 2, 1) := by decide +kernel
theorem dX7_sale_281 : decode cX7_sale 281 = .ok (.aload_n 0, 1) := by decide +kernel
theorem dX7_sale_282 : decode cX7_sale 282 = .ok (.getfield 16, 3) := by decide +kernel
theorem dX7_sale_285 : decode cX7_sale 285 = .ok (.iconst 1, 1) := by decide +kernel
theorem dX7_sale_286 : decode cX7_sale 286 = .ok (.iaload, 1) := by decide +kernel
theorem dX7_sale_287 : decode cX7_sale 287 = .ok (.imul, 1) := by decide +kernel
theorem dX7_sale_288 : decode cX7_sale 288 = .ok (.i2l, 1) := by decide +kernel
theorem dX7_sale_289 : decode cX7_sale 289 = .ok (.ladd, 1) := by decide +kernel
theorem dX7_sale_290 : decode cX7_sale 290 = .ok (.lastore, 1) := by decide +kernel
theorem dX7_sale_291 : decode cX7_sale 291 = .ok (.iload 8, 2) := by decide +kernel
theorem dX7_sale_293 : decode cX7_sale 293 = .ok (.ireturn, 1) := by decide +kernel
theorem dX7_given_0 : decode cX7_given 0 = .ok (.aload_n 0, 1) := by decide +kernel
theorem dX7_given_1 : decode cX7_given 1 = .ok (.iconst 0, 1) := by decide +kernel
theorem dX7_given_2 : decode cX7_given 2 = .ok (.putfield 90, 3) := by decide +kernel
theorem dX7_given_5 : decode cX7_given 5 = .ok (.aload_n 0, 1) := by decide +kernel
theorem dX7_given_6 : decode cX7_given 6 = .ok (.iload_n 1, 1) := by decide +kernel
theorem dX7_given_7 : decode cX7_given 7 = .ok (.invokevirtual 138, 3) := by decide +kernel
theorem dX7_given_10 : decode cX7_given 10 = .ok (.ifCond .eq 35, 3) := by decide +kernel
theorem dX7_given_13 : decode cX7_given 13 = .ok (.aload_n 0, 1) := by decide +kernel
theorem dX7_given_14 : decode cX7_given 14 = .ok (.iconst 1, 1) := by decide +kernel
theorem dX7_given_15 : decode cX7_given 15 = .ok (.iload_n 2, 1) := by decide +kernel
theorem dX7_given_16 : decode cX7_given 16 = .ok (.invokevirtual 121, 3) := by decide +kernel
theorem dX7_given_19 : decode cX7_given 19 = .ok (.ifCond .eq 26, 3) := by decide +kernel
theorem dX7_given_22 : decode cX7_given 22 = .ok (.aload_n 0, 1) := by decide +kernel
theorem dX7_given_23 : decode cX7_given 23 = .ok (.getfield 37, 3) := by decide +kernel
theorem dX7_given_26 : decode cX7_given 26 = .ok (.iload_n 1, 1) := by decide +kernel
theorem dX7_given_27 : decode cX7_given 27 = .ok (.iaload, 1) := by decide +kernel
theorem dX7_given_28 : decode cX7_given 28 = .ok (.ifCond .le 17, 3) := by decide +kernel
theorem dX7_given_31 : decode cX7_given 31 = .ok (.aload_n 0, 1) := by decide +kernel
theorem dX7_given_32 : decode cX7_given 32 = .ok (.getfield 53, 3) := by decide +kernel
theorem dX7_given_35 : decode cX7_given 35 = .ok (.bipush 8, 2) := by decide +kernel
theorem dX7_given_37 : decode cX7_given 37 = .ok (.iload_n 1, 1) := by decide +kernel
theorem dX7_given_38 : decode cX7_given 38 = .ok (.imul, 1) := by decide +kernel
theorem dX7_given_39 : decode cX7_given 39 = .ok (.iload_n 2, 1) := by decide +kernel
theorem dX7_given_40 : decode cX7_given 40 = .ok (.iadd, 1) := by decide +kernel
theorem dX7_given_41 : decode cX7_given 41 = .ok (.iaload, 1) := by decide +kernel
theorem dX7_given_42 : decode cX7_given 42 = .ok (.goto 4, 3) := by decide +kernel
theorem dX7_given_45 : decode cX7_given 45 = .ok (.iconst (-1), 1) := by decide +kernel
theorem dX7_given_46 : decode cX7_given 46 = .ok (.ireturn, 1) := by decide +kernel
theorem dX7_parts_0 : decode cX7_parts 0 = .ok (.lconst 0, 1) := by decide +kernel
theorem dX7_parts_1 : decode cX7_parts 1 = .ok (.lstore_n 3, 1) := by decide +kernel
theorem dX7_parts_2 : decode cX7_parts 2 = .ok (.iconst 0, 1) := by decide +kernel
theorem dX7_parts_3 : decode cX7_parts 3 = .ok (.istore 5, 2) := by decide +kernel
theorem dX7_parts_5 : decode cX7_parts 5 = .ok (.iload 5, 2) := by decide +kernel
theorem dX7_parts_7 : decode cX7_parts 7 = .ok (.aload_n 0, 1) := by decide +kernel
theorem dX7_parts_8 : decode cX7_parts 8 = .ok (.getfield 7, 3) := by decide +kernel
theorem dX7_parts_11 : decode cX7_parts 11 = .ok (.iload_n 2, 1) := by decide +kernel
theorem dX7_parts_12 : decode cX7_parts 12 = .ok (.iaload, 1) := by decide +kernel
theorem dX7_parts_13 : decode cX7_parts 13 = .ok (.if_icmp .ge 47, 3) := by decide +kernel
theorem dX7_parts_16 : decode cX7_parts 16 = .ok (.lload_n 3, 1) := by decide +kernel
theorem dX7_parts_17 : decode cX7_parts 17 = .ok (.aload_n 0, 1) := by decide +kernel
theorem dX7_parts_18 : decode cX7_parts 18 = .ok (.getfield 50, 3) := by decide +kernel
theorem dX7_parts_21 : decode cX7_parts 21 = .ok (.iload_n 1, 1) := by decide +kernel
theorem dX7_parts_22 : decode cX7_parts 22 = .ok (.iload_n 2, 1) := by decide +kernel
theorem dX7_parts_23 : decode cX7_parts 23 = .ok (.iload 5, 2) := by decide +kernel
theorem dX7_parts_25 : decode cX7_parts 25 = .ok (.invokestatic 134, 3) := by decide +kernel
theorem dX7_parts_28 : decode cX7_parts 28 = .ok (.iaload, 1) := by decide +kernel
theorem dX7_parts_29 : decode cX7_parts 29 = .ok (.i2l, 1) := by decide +kernel
theorem dX7_parts_30 : decode cX7_parts 30 = .ok (.aload_n 0, 1) := by decide +kernel
theorem dX7_parts_31 : decode cX7_parts 31 = .ok (.getfield 13, 3) := by decide +kernel
theorem dX7_parts_34 : decode cX7_parts 34 = .ok (.bipush 8, 2) := by decide +kernel
theorem dX7_parts_36 : decode cX7_parts 36 = .ok (.iload_n 2, 1) := by decide +kernel
theorem dX7_parts_37 : decode cX7_parts 37 = .ok (.imul, 1) := by decide +kernel
theorem dX7_parts_38 : decode cX7_parts 38 = .ok (.iload 5, 2) := by decide +kernel
theorem dX7_parts_40 : decode cX7_parts 40 = .ok (.iadd, 1) := by decide +kernel
theorem dX7_parts_41 : decode cX7_parts 41 = .ok (.iaload, 1) := by decide +kernel
theorem dX7_parts_42 : decode cX7_parts 42 = .ok (.i2l, 1) := by decide +kernel
theorem dX7_parts_43 : decode cX7_parts 43 = .ok (.lmul, 1) := by decide +kernel
theorem dX7_parts_44 : decode cX7_parts 44 = .ok (.aload_n 0, 1) := by decide +kernel
theorem dX7_parts_45 : decode cX7_parts 45 = .ok (.getfield 16, 3) := by decide +kernel
theorem dX7_parts_48 : decode cX7_parts 48 = .ok (.iload_n 2, 1) := by decide +kernel
theorem dX7_parts_49 : decode cX7_parts 49 = .ok (.iaload, 1) := by decide +kernel
theorem dX7_parts_50 : decode cX7_parts 50 = .ok (.i2l, 1) := by decide +kernel
theorem dX7_parts_51 : decode cX7_parts 51 = .ok (.lmul, 1) := by decide +kernel
theorem dX7_parts_52 : decode cX7_parts 52 = .ok (.ladd, 1) := by decide +kernel
theorem dX7_parts_53 : decode cX7_parts 53 = .ok (.lstore_n 3, 1) := by decide +kernel
theorem dX7_parts_54 : decode cX7_parts 54 = .ok (.iinc 5 1, 3) := by decide +kernel
theorem dX7_parts_57 : decode cX7_parts 57 = .ok (.goto (-52), 3) := by decide +kernel
theorem dX7_parts_60 : decode cX7_parts 60 = .ok (.lload_n 3, 1) := by decide +kernel
theorem dX7_parts_61 : decode cX7_parts 61 = .ok (.lreturn, 1) := by decide +kernel
theorem dX7_tell_0 : decode cX7_tell 0 = .ok (.aload_n 0, 1) := by decide +kernel
theorem dX7_tell_1 : decode cX7_tell 1 = .ok (.iconst 0, 1) := by decide +kernel
theorem dX7_tell_2 : decode cX7_tell 2 = .ok (.putfield 90, 3) := by decide +kernel
theorem dX7_tell_5 : decode cX7_tell 5 = .ok (.aload_n 0, 1) := by decide +kernel
theorem dX7_tell_6 : decode cX7_tell 6 = .ok (.iload_n 1, 1) := by decide +kernel
theorem dX7_tell_7 : decode cX7_tell 7 = .ok (.invokevirtual 138, 3) := by decide +kernel
theorem dX7_tell_10 : decode cX7_tell 10 = .ok (.ifCond .ne 7, 3) := by decide +kernel
theorem dX7_tell_13 : decode cX7_tell 13 = .ok (.ldc2_w 114, 3) := by decide +kernel
theorem dX7_tell_16 : decode cX7_tell 16 = .ok (.lreturn, 1) := by decide +kernel
theorem dX7_tell_17 : decode cX7_tell 17 = .ok (.iload_n 2, 1) := by decide +kernel
theorem dX7_tell_18 : decode cX7_tell 18 = .ok (.tableswitch 89 0 5 #[38, 46, 53, 67, 74, 81], 38) := by decide +kernel
theorem dX7_tell_56 : decode cX7_tell 56 = .ok (.aload_n 0, 1) := by decide +kernel
theorem dX7_tell_57 : decode cX7_tell 57 = .ok (.getfield 37, 3) := by decide +kernel
theorem dX7_tell_60 : decode cX7_tell 60 = .ok (.iload_n 1, 1) := by decide +kernel
theorem dX7_tell_61 : decode cX7_tell 61 = .ok (.iaload, 1) := by decide +kernel
theorem dX7_tell_62 : decode cX7_tell 62 = .ok (.i2l, 1) := by decide +kernel
theorem dX7_tell_63 : decode cX7_tell 63 = .ok (.lreturn, 1) := by decide +kernel
theorem dX7_tell_64 : decode cX7_tell 64 = .ok (.aload_n 0, 1) := by decide +kernel
theorem dX7_tell_65 : decode cX7_tell 65 = .ok (.getfield 40, 3) := by decide +kernel
theorem dX7_tell_68 : decode cX7_tell 68 = .ok (.iload_n 1, 1) := by decide +kernel
theorem dX7_tell_69 : decode cX7_tell 69 = .ok (.laload, 1) := by decide +kernel
theorem dX7_tell_70 : decode cX7_tell 70 = .ok (.lreturn, 1) := by decide +kernel
theorem dX7_tell_71 : decode cX7_tell 71 = .ok (.aload_n 0, 1) := by decide +kernel
theorem dX7_tell_72 : decode cX7_tell 72 = .ok (.iload_n 1, 1) := by decide +kernel
theorem dX7_tell_73 : decode cX7_tell 73 = .ok (.iconst 0, 1) := by decide +kernel
theorem dX7_tell_74 : decode cX7_tell 74 = .ok (.invokevirtual 149, 3) := by decide +kernel
theorem dX7_tell_77 : decode cX7_tell 77 = .ok (.aload_n 0, 1) := by decide +kernel
theorem dX7_tell_78 : decode cX7_tell 78 = .ok (.iload_n 1, 1) := by decide +kernel
theorem dX7_tell_79 : decode cX7_tell 79 = .ok (.iconst 1, 1) := by decide +kernel
theorem dX7_tell_80 : decode cX7_tell 80 = .ok (.invokevirtual 149, 3) := by decide +kernel
theorem dX7_tell_83 : decode cX7_tell 83 = .ok (.ladd, 1) := by decide +kernel
theorem dX7_tell_84 : decode cX7_tell 84 = .ok (.lreturn, 1) := by decide +kernel
theorem dX7_tell_85 : decode cX7_tell 85 = .ok (.aload_n 0, 1) := by decide +kernel
theorem dX7_tell_86 : decode cX7_tell 86 = .ok (.iload_n 1, 1) := by decide +kernel
theorem dX7_tell_87 : decode cX7_tell 87 = .ok (.iconst 0, 1) := by decide +kernel
theorem dX7_tell_88 : decode cX7_tell 88 = .ok (.invokevirtual 149, 3) := by decide +kernel
theorem dX7_tell_91 : decode cX7_tell 91 = .ok (.lreturn, 1) := by decide +kernel
theorem dX7_tell_92 : decode cX7_tell 92 = .ok (.aload_n 0, 1) := by decide +kernel
theorem dX7_tell_93 : decode cX7_tell 93 = .ok (.getfield 44, 3) := by decide +kernel
theorem dX7_tell_96 : decode cX7_tell 96 = .ok (.iload_n 1, 1) := by decide +kernel
theorem dX7_tell_97 : decode cX7_tell 97 = .ok (.laload, 1) := by decide +kernel
theorem dX7_tell_98 : decode cX7_tell 98 = .ok (.lreturn, 1) := by decide +kernel
theorem dX7_tell_99 : decode cX7_tell 99 = .ok (.aload_n 0, 1) := by decide +kernel
theorem dX7_tell_100 : decode cX7_tell 100 = .ok (.getfield 47, 3) := by decide +kernel
theorem dX7_tell_103 : decode cX7_tell 103 = .ok (.iload_n 1, 1) := by decide +kernel
theorem dX7_tell_104 : decode cX7_tell 104 = .ok (.iaload, 1) := by decide +kernel
theorem dX7_tell_105 : decode cX7_tell 105 = .ok (.i2l, 1) := by decide +kernel
theorem dX7_tell_106 : decode cX7_tell 106 = .ok (.lreturn, 1) := by decide +kernel
theorem dX7_tell_107 : decode cX7_tell 107 = .ok (.ldc2_w 114, 3) := by decide +kernel
theorem dX7_tell_110 : decode cX7_tell 110 = .ok (.lreturn, 1) := by decide +kernel
theorem dX7_has_0 : decode cX7_has 0 = .ok (.aload_n 0, 1) := by decide +kernel
theorem dX7_has_1 : decode cX7_has 1 = .ok (.iconst 0, 1) := by decide +kernel
theorem dX7_has_2 : decode cX7_has 2 = .ok (.putfield 90, 3) := by decide +kernel
theorem dX7_has_5 : decode cX7_has 5 = .ok (.aload_n 0, 1) := by decide +kernel
theorem dX7_has_6 : decode cX7_has 6 = .ok (.iload_n 1, 1) := by decide +kernel
theorem dX7_has_7 : decode cX7_has 7 = .ok (.invokevirtual 138, 3) := by decide +kernel
theorem dX7_has_10 : decode cX7_has 10 = .ok (.ifCond .eq 26, 3) := by decide +kernel
theorem dX7_has_13 : decode cX7_has 13 = .ok (.aload_n 0, 1) := by decide +kernel
theorem dX7_has_14 : decode cX7_has 14 = .ok (.iload_n 2, 1) := by decide +kernel
theorem dX7_has_15 : decode cX7_has 15 = .ok (.iload_n 3, 1) := by decide +kernel
theorem dX7_has_16 : decode cX7_has 16 = .ok (.invokevirtual 121, 3) := by decide +kernel
theorem dX7_has_19 : decode cX7_has 19 = .ok (.ifCond .eq 17, 3) := by decide +kernel
theorem dX7_has_22 : decode cX7_has 22 = .ok (.aload_n 0, 1) := by decide +kernel
theorem dX7_has_23 : decode cX7_has 23 = .ok (.getfield 50, 3) := by decide +kernel
theorem dX7_has_26 : decode cX7_has 26 = .ok (.iload_n 1, 1) := by decide +kernel
theorem dX7_has_27 : decode cX7_has 27 = .ok (.iload_n 2, 1) := by decide +kernel
theorem dX7_has_28 : decode cX7_has 28 = .ok (.iload_n 3, 1) := by decide +kernel
theorem dX7_has_29 : decode cX7_has 29 = .ok (.invokestatic 134, 3) := by decide +kernel
theorem dX7_has_32 : decode cX7_has 32 = .ok (.iaload, 1) := by decide +kernel
theorem dX7_has_33 : decode cX7_has 33 = .ok (.goto 4, 3) := by decide +kernel
theorem dX7_has_36 : decode cX7_has 36 = .ok (.iconst (-1), 1) := by decide +kernel
theorem dX7_has_37 : decode cX7_has 37 = .ok (.ireturn, 1) := by decide +kernel
theorem dX7_draw_0 : decode cX7_draw 0 = .ok (.aload_n 0, 1) := by decide +kernel
theorem dX7_draw_1 : decode cX7_draw 1 = .ok (.iconst 0, 1) := by decide +kernel
theorem dX7_draw_2 : decode cX7_draw 2 = .ok (.putfield 90, 3) := by decide +kernel
theorem dX7_draw_5 : decode cX7_draw 5 = .ok (.aload_n 0, 1) := by decide +kernel
theorem dX7_draw_6 : decode cX7_draw 6 = .ok (.iload_n 1, 1) := by decide +kernel
theorem dX7_draw_7 : decode cX7_draw 7 = .ok (.invokevirtual 138, 3) := by decide +kernel
theorem dX7_draw_10 : decode cX7_draw 10 = .ok (.ifCond .ne 7, 3) := by decide +kernel
theorem dX7_draw_13 : decode cX7_draw 13 = .ok (.ldc2_w 114, 3) := by decide +kernel
theorem dX7_draw_16 : decode cX7_draw 16 = .ok (.lreturn, 1) := by decide +kernel
theorem dX7_draw_17 : decode cX7_draw 17 = .ok (.aload_n 0, 1) := by decide +kernel
theorem dX7_draw_18 : decode cX7_draw 18 = .ok (.iload_n 1, 1) := by decide +kernel
theorem dX7_draw_19 : decode cX7_draw 19 = .ok (.iconst 0, 1) := by decide +kernel
theorem dX7_draw_20 : decode cX7_draw 20 = .ok (.invokevirtual 149, 3) := by decide +kernel
theorem dX7_draw_23 : decode cX7_draw 23 = .ok (.lstore_n 2, 1) := by decide +kernel
theorem dX7_draw_24 : decode cX7_draw 24 = .ok (.iconst 0, 1) := by decide +kernel
theorem dX7_draw_25 : decode cX7_draw 25 = .ok (.istore 4, 2) := by decide +kernel
theorem dX7_draw_27 : decode cX7_draw 27 = .ok (.iload 4, 2) := by decide +kernel
theorem dX7_draw_29 : decode cX7_draw 29 = .ok (.bipush 8, 2) := by decide +kernel
theorem dX7_draw_31 : decode cX7_draw 31 = .ok (.if_icmp .ge 44, 3) := by decide +kernel
theorem dX7_draw_34 : decode cX7_draw 34 = .ok (.aload_n 0, 1) := by decide +kernel
theorem dX7_draw_35 : decode cX7_draw 35 = .ok (.getfield 56, 3) := by decide +kernel
theorem dX7_draw_38 : decode cX7_draw 38 = .ok (.iload 4, 2) := by decide +kernel
theorem dX7_draw_40 : decode cX7_draw 40 = .ok (.dup2, 1) := by decide +kernel
theorem dX7_draw_41 : decode cX7_draw 41 = .ok (.iaload, 1) := by decide +kernel
theorem dX7_draw_42 : decode cX7_draw 42 = .ok (.aload_n 0, 1) := by decide +kernel
theorem dX7_draw_43 : decode cX7_draw 43 = .ok (.getfield 50, 3) := by decide +kernel
theorem dX7_draw_46 : decode cX7_draw 46 = .ok (.iload_n 1, 1) := by decide +kernel
theorem dX7_draw_47 : decode cX7_draw 47 = .ok (.iconst 0, 1) := by decide +kernel
theorem dX7_draw_48 : decode cX7_draw 48 = .ok (.iload 4, 2) := by decide +kernel
theorem dX7_draw_50 : decode cX7_draw 50 = .ok (.invokestatic 134, 3) := by decide +kernel
theorem dX7_draw_53 : decode cX7_draw 53 = .ok (.iaload, 1) := by decide +kernel
theorem dX7_draw_54 : decode cX7_draw 54 = .ok (.iadd, 1) := by decide +kernel
theorem dX7_draw_55 : decode cX7_draw 55 = .ok (.iastore, 1) := by decide +kernel
theorem dX7_draw_56 : decode cX7_draw 56 = .ok (.aload_n 0, 1) := by decide +kernel
theorem dX7_draw_57 : decode cX7_draw 57 = .ok (.getfield 50, 3) := by decide +kernel
theorem dX7_draw_60 : decode cX7_draw 60 = .ok (.iload_n 1, 1) := by decide +kernel
theorem dX7_draw_61 : decode cX7_draw 61 = .ok (.iconst 0, 1) := by decide +kernel
theorem dX7_draw_62 : decode cX7_draw 62 = .ok (.iload 4, 2) := by decide +kernel
theorem dX7_draw_64 : decode cX7_draw 64 = .ok (.invokestatic 134, 3) := by decide +kernel
theorem dX7_draw_67 : decode cX7_draw 67 = .ok (.iconst 0, 1) := by decide +kernel
theorem dX7_draw_68 : decode cX7_draw 68 = .ok (.iastore, 1) := by decide +kernel
theorem dX7_draw_69 : decode cX7_draw 69 = .ok (.iinc 4 1, 3) := by decide +kernel
theorem dX7_draw_72 : decode cX7_draw 72 = .ok (.goto (-45), 3) := by decide +kernel
theorem dX7_draw_75 : decode cX7_draw 75 = .ok (.lload_n 2, 1) := by decide +kernel
theorem dX7_draw_76 : decode cX7_draw 76 = .ok (.lreturn, 1) := by decide +kernel
theorem dX7_drawn_0 : decode cX7_drawn 0 = .ok (.aload_n 0, 1) := by decide +kernel
theorem dX7_drawn_1 : decode cX7_drawn 1 = .ok (.iconst 0, 1) := by decide +kernel
theorem dX7_drawn_2 : decode cX7_drawn 2 = .ok (.putfield 90, 3) := by decide +kernel
theorem dX7_drawn_5 : decode cX7_drawn 5 = .ok (.aload_n 0, 1) := by decide +kernel
theorem dX7_drawn_6 : decode cX7_drawn 6 = .ok (.iconst 0, 1) := by decide +kernel
theorem dX7_drawn_7 : decode cX7_drawn 7 = .ok (.iload_n 1, 1) := by decide +kernel
theorem dX7_drawn_8 : decode cX7_drawn 8 = .ok (.invokevirtual 121, 3) := by decide +kernel
theorem dX7_drawn_11 : decode cX7_drawn 11 = .ok (.ifCond .eq 12, 3) := by decide +kernel
theorem dX7_drawn_14 : decode cX7_drawn 14 = .ok (.aload_n 0, 1) := by decide +kernel
theorem dX7_drawn_15 : decode cX7_drawn 15 = .ok (.getfield 56, 3) := by decide +kernel
theorem dX7_drawn_18 : decode cX7_drawn 18 = .ok (.iload_n 1, 1) := by decide +kernel
theorem dX7_drawn_19 : decode cX7_drawn 19 = .ok (.iaload, 1) := by decide +kernel
theorem dX7_drawn_20 : decode cX7_drawn 20 = .ok (.goto 4, 3) := by decide +kernel
theorem dX7_drawn_23 : decode cX7_drawn 23 = .ok (.iconst (-1), 1) := by decide +kernel
theorem dX7_drawn_24 : decode cX7_drawn 24 = .ok (.ireturn, 1) := by decide +kernel
theorem dX7_expect_0 : decode cX7_expect 0 = .ok (.aload_n 0, 1) := by decide +kernel
theorem dX7_expect_1 : decode cX7_expect 1 = .ok (.iconst 0, 1) := by decide +kernel
theorem dX7_expect_2 : decode cX7_expect 2 = .ok (.putfield 90, 3) := by decide +kernel
theorem dX7_expect_5 : decode cX7_expect 5 = .ok (.aload_n 0, 1) := by decide +kernel
theorem dX7_expect_6 : decode cX7_expect 6 = .ok (.iload_n 1, 1) := by decide +kernel
theorem dX7_expect_7 : decode cX7_expect 7 = .ok (.iload_n 2, 1) := by decide +kernel
theorem dX7_expect_8 : decode cX7_expect 8 = .ok (.iload_n 3, 1) := by decide +kernel
theorem dX7_expect_9 : decode cX7_expect 9 = .ok (.iload 4, 2) := by decide +kernel
theorem dX7_expect_11 : decode cX7_expect 11 = .ok (.iload 5, 2) := by decide +kernel
theorem dX7_expect_13 : decode cX7_expect 13 = .ok (.invokevirtual 141, 3) := by decide +kernel
theorem dX7_expect_16 : decode cX7_expect 16 = .ok (.ifCond .eq 14, 3) := by decide +kernel
theorem dX7_expect_19 : decode cX7_expect 19 = .ok (.aload_n 0, 1) := by decide +kernel
theorem dX7_expect_20 : decode cX7_expect 20 = .ok (.getfield 47, 3) := by decide +kernel
theorem dX7_expect_23 : decode cX7_expect 23 = .ok (.iload_n 1, 1) := by decide +kernel
theorem dX7_expect_24 : decode cX7_expect 24 = .ok (.iaload, 1) := by decide +kernel
theorem dX7_expect_25 : decode cX7_expect 25 = .ok (.bipush 20, 2) := by decide +kernel
theorem dX7_expect_27 : decode cX7_expect 27 = .ok (.if_icmp .ne 5, 3) := by decide +kernel
theorem dX7_expect_30 : decode cX7_expect 30 = .ok (.iconst (-1), 1) := by decide +kernel
theorem dX7_expect_31 : decode cX7_expect 31 = .ok (.ireturn, 1) := by decide +kernel
theorem dX7_expect_32 : decode cX7_expect 32 = .ok (.iconst 4, 1) := by decide +kernel
theorem dX7_expect_33 : decode cX7_expect 33 = .ok (.bipush 20, 2) := by decide +kernel
theorem dX7_expect_35 : decode cX7_expect 35 = .ok (.iload_n 1, 1) := by decide +kernel
theorem dX7_expect_36 : decode cX7_expect 36 = .ok (.imul, 1) := by decide +kernel
theorem dX7_expect_37 : decode cX7_expect 37 = .ok (.aload_n 0, 1) := by decide +kernel
theorem dX7_expect_38 : decode cX7_expect 38 = .ok (.getfield 47, 3) := by decide +kernel
theorem dX7_expect_41 : decode cX7_expect 41 = .ok (.iload_n 1, 1) := by decide +kernel
theorem dX7_expect_42 : decode cX7_expect 42 = .ok (.iaload, 1) := by decide +kernel
theorem dX7_expect_43 : decode cX7_expect 43 = .ok (.iadd, 1) := by decide +kernel
theorem dX7_expect_44 : decode cX7_expect 44 = .ok (.imul, 1) := by decide +kernel
theorem dX7_expect_45 : decode cX7_expect 45 = .ok (.istore 6, 2) := by decide +kernel
theorem dX7_expect_47 : decode cX7_expect 47 = .ok (.aload_n 0, 1) := by decide +kernel
theorem dX7_expect_48 : decode cX7_expect 48 = .ok (.getfield 59, 3) := by decide +kernel
theorem dX7_expect_51 : decode cX7_expect 51 = .ok (.iload 6, 2) := by decide +kernel
theorem dX7_expect_53 : decode cX7_expect 53 = .ok (.iload_n 2, 1) := by decide +kernel
theorem dX7_expect_54 : decode cX7_expect 54 = .ok (.iastore, 1) := by decide +kernel
theorem dX7_expect_55 : decode cX7_expect 55 = .ok (.aload_n 0, 1) := by decide +kernel
theorem dX7_expect_56 : decode cX7_expect 56 = .ok (.getfield 59, 3) := by decide +kernel
theorem dX7_expect_59 : decode cX7_expect 59 = .ok (.iload 6, 2) := by decide +kernel
theorem dX7_expect_61 : decode cX7_expect 61 = .ok (.iconst 1, 1) := by decide +kernel
theorem dX7_expect_62 : decode cX7_expect 62 = .ok (.iadd, 1) := by decide +kernel
theorem dX7_expect_63 : decode cX7_expect 63 = .ok (.iload_n 3, 1) := by decide +kernel
theorem dX7_expect_64 : decode cX7_expect 64 = .ok (.iastore, 1) := by decide +kernel
theorem dX7_expect_65 : decode cX7_expect 65 = .ok (.aload_n 0, 1) := by decide +kernel
theorem dX7_expect_66 : decode cX7_expect 66 = .ok (.getfield 59, 3) := by decide +kernel
theorem dX7_expect_69 : decode cX7_expect 69 = .ok (.iload 6, 2) := by decide +kernel
theorem dX7_expect_71 : decode cX7_expect 71 = .ok (.iconst 2, 1) := by decide +kernel
theorem dX7_expect_72 : decode cX7_expect 72 = .ok (.iadd, 1) := by decide +kernel
theorem dX7_expect_73 : decode cX7_expect 73 = .ok (.iload 4, 2) := by decide +kernel
theorem dX7_expect_75 : decode cX7_expect 75 = .ok (.iastore, 1) := by decide +kernel
theorem dX7_expect_76 : decode cX7_expect 76 = .ok (.aload_n 0, 1) := by decide +kernel
theorem dX7_expect_77 : decode cX7_expect 77 = .ok (.getfield 59, 3) := by decide +kernel
theorem dX7_expect_80 : decode cX7_expect 80 = .ok (.iload 6, 2) := by decide +kernel
theorem dX7_expect_82 : decode cX7_expect 82 = .ok (.iconst 3, 1) := by decide +kernel
theorem dX7_expect_83 : decode cX7_expect 83 = .ok (.iadd, 1) := by decide +kernel
theorem dX7_expect_84 : decode cX7_expect 84 = .ok (.iload 5, 2) := by decide +kernel
theorem dX7_expect_86 : decode cX7_expect 86 = .ok (.iastore, 1) := by decide +kernel
theorem dX7_expect_87 : decode cX7_expect 87 = .ok (.aload_n 0, 1) := by decide +kernel
theorem dX7_expect_88 : decode cX7_expect 88 = .ok (.getfield 47, 3) := by decide +kernel
theorem dX7_expect_91 : decode cX7_expect 91 = .ok (.iload_n 1, 1) := by decide +kernel
theorem dX7_expect_92 : decode cX7_expect 92 = .ok (.dup2, 1) := by decide +kernel
theorem dX7_expect_93 : decode cX7_expect 93 = .ok (.iaload, 1) := by decide +kernel
theorem dX7_expect_94 : decode cX7_expect 94 = .ok (.iconst 1, 1) := by decide +kernel
theorem dX7_expect_95 : decode cX7_expect 95 = .ok (.iadd, 1) := by decide +kernel
theorem dX7_expect_96 : decode cX7_expect 96 = .ok (.iastore, 1) := by decide +kernel
theorem dX7_expect_97 : decode cX7_expect 97 = .ok (.aload_n 0, 1) := by decide +kernel
theorem dX7_expect_98 : decode cX7_expect 98 = .ok (.getfield 47, 3) := by decide +kernel
theorem dX7_expect_101 : decode cX7_expect 101 = .ok (.iload_n 1, 1) := by decide +kernel
theorem dX7_expect_102 : decode cX7_expect 102 = .ok (.iaload, 1) := by decide +kernel
theorem dX7_expect_103 : decode cX7_expect 103 = .ok (.ireturn, 1) := by decide +kernel
theorem dX7_forget_0 : decode cX7_forget 0 = .ok (.aload_n 0, 1) := by decide +kernel
theorem dX7_forget_1 : decode cX7_forget 1 = .ok (.iconst 0, 1) := by decide +kernel
theorem dX7_forget_2 : decode cX7_forget 2 = .ok (.putfield 90, 3) := by decide +kernel
theorem dX7_forget_5 : decode cX7_forget 5 = .ok (.aload_n 0, 1) := by decide +kernel
theorem dX7_forget_6 : decode cX7_forget 6 = .ok (.iload_n 1, 1) := by decide +kernel
theorem dX7_forget_7 : decode cX7_forget 7 = .ok (.invokevirtual 138, 3) := by decide +kernel
theorem dX7_forget_10 : decode cX7_forget 10 = .ok (.ifCond .ne 5, 3) := by decide +kernel
theorem dX7_forget_13 : decode cX7_forget 13 = .ok (.iconst 0, 1) := by decide +kernel
theorem dX7_forget_14 : decode cX7_forget 14 = .ok (.ireturn, 1) := by decide +kernel
theorem dX7_forget_15 : decode cX7_forget 15 = .ok (.aload_n 0, 1) := by decide +kernel
theorem dX7_forget_16 : decode cX7_forget 16 = .ok (.getfield 47, 3) := by decide +kernel
theorem dX7_forget_19 : decode cX7_forget 19 = .ok (.iload_n 1, 1) := by decide +kernel
theorem dX7_forget_20 : decode cX7_forget 20 = .ok (.iconst 0, 1) := by decide +kernel
theorem dX7_forget_21 : decode cX7_forget 21 = .ok (.iastore, 1) := by decide +kernel
theorem dX7_forget_22 : decode cX7_forget 22 = .ok (.iconst 1, 1) := by decide +kernel
theorem dX7_forget_23 : decode cX7_forget 23 = .ok (.ireturn, 1) := by decide +kernel
theorem dX7_findWanted_0 : decode cX7_findWanted 0 = .ok (.iconst 0, 1) := by decide +kernel
theorem dX7_findWanted_1 : decode cX7_findWanted 1 = .ok (.istore_n 2, 1) := by decide +kernel
theorem dX7_findWanted_2 : decode cX7_findWanted 2 = .ok (.iload_n 2, 1) := by decide +kernel
theorem dX7_findWanted_3 : decode cX7_findWanted 3 = .ok (.bipush 8, 2) := by decide +kernel
theorem dX7_findWanted_5 : decode cX7_findWanted 5 = .ok (.if_icmp .ge 23, 3) := by decide +kernel
theorem dX7_findWanted_8 : decode cX7_findWanted 8 = .ok (.aload_n 0, 1) := by decide +kernel
theorem dX7_findWanted_9 : decode cX7_findWanted 9 = .ok (.getfield 80, 3) := by decide +kernel
theorem dX7_findWanted_12 : decode cX7_findWanted 12 = .ok (.iload_n 2, 1) := by decide +kernel
theorem dX7_findWanted_13 : decode cX7_findWanted 13 = .ok (.iconst 0, 1) := by decide +kernel
theorem dX7_findWanted_14 : decode cX7_findWanted 14 = .ok (.iastore, 1) := by decide +kernel
theorem dX7_findWanted_15 : decode cX7_findWanted 15 = .ok (.aload_n 0, 1) := by decide +kernel
theorem dX7_findWanted_16 : decode cX7_findWanted 16 = .ok (.getfield 83, 3) := by decide +kernel
theorem dX7_findWanted_19 : decode cX7_findWanted 19 = .ok (.iload_n 2, 1) := by decide +kernel
theorem dX7_findWanted_20 : decode cX7_findWanted 20 = .ok (.iconst 0, 1) := by decide +kernel
theorem dX7_findWanted_21 : decode cX7_findWanted 21 = .ok (.iastore, 1) := by decide +kernel
theorem dX7_findWanted_22 : decode cX7_findWanted 22 = .ok (.iinc 2 1, 3) := by decide +kernel
theorem dX7_findWanted_25 : decode cX7_findWanted 25 = .ok (.goto (-23), 3) := by decide +kernel
theorem dX7_findWanted_28 : decode cX7_findWanted 28 = .ok (.iconst 0, 1) := by decide +kernel
theorem dX7_findWanted_29 : decode cX7_findWanted 29 = .ok (.istore_n 2, 1) := by decide +kernel
theorem dX7_findWanted_30 : decode cX7_findWanted 30 = .ok (.iload_n 2, 1) := by decide +kernel
theorem dX7_findWanted_31 : decode cX7_findWanted 31 = .ok (.aload_n 0, 1) := by decide +kernel
theorem dX7_findWanted_32 : decode cX7_findWanted 32 = .ok (.getfield 47, 3) := by decide +kernel
theorem dX7_findWanted_35 : decode cX7_findWanted 35 = .ok (.iload_n 1, 1) := by decide +kernel
theorem dX7_findWanted_36 : decode cX7_findWanted 36 = .ok (.iaload, 1) := by decide +kernel
theorem dX7_findWanted_37 : decode cX7_findWanted 37 = .ok (.if_icmp .ge 223, 3) := by decide +kernel
theorem dX7_findWanted_40 : decode cX7_findWanted 40 = .ok (.iconst 4, 1) := by decide +kernel
theorem dX7_findWanted_41 : decode cX7_findWanted 41 = .ok (.bipush 20, 2) := by decide +kernel
theorem dX7_findWanted_43 : decode cX7_findWanted 43 = .ok (.iload_n 1, 1) := by decide +kernel
theorem dX7_findWanted_44 : decode cX7_findWanted 44 = .ok (.imul, 1) := by decide +kernel
theorem dX7_findWanted_45 : decode cX7_findWanted 45 = .ok (.iload_n 2, 1) := by decide +kernel
theorem dX7_findWanted_46 : decode cX7_findWanted 46 = .ok (.iadd, 1) := by decide +kernel
theorem dX7_findWanted_47 : decode cX7_findWanted 47 = .ok (.imul, 1) := by decide +kernel
theorem dX7_findWanted_48 : decode cX7_findWanted 48 = .ok (.istore_n 3, 1) := by decide +kernel
theorem dX7_findWanted_49 : decode cX7_findWanted 49 = .ok (.aload_n 0, 1) := by decide +kernel
theorem dX7_findWanted_50 : decode cX7_findWanted 50 = .ok (.aload_n 0, 1) := by decide +kernel
theorem dX7_findWanted_51 : decode cX7_findWanted 51 = .ok (.getfield 59, 3) := by decide +kernel
theorem dX7_findWanted_54 : decode cX7_findWanted 54 = .ok (.iload_n 3, 1) := by decide +kernel
theorem dX7_findWanted_55 : decode cX7_findWanted 55 = .ok (.iaload, 1) := by decide +kernel
theorem dX7_findWanted_56 : decode cX7_findWanted 56 = .ok (.aload_n 0, 1) := by decide +kernel
theorem dX7_findWanted_57 : decode cX7_findWanted 57 = .ok (.getfield 59, 3) := by decide +kernel
theorem dX7_findWanted_60 : decode cX7_findWanted 60 = .ok (.iload_n 3, 1) := by decide +kernel
theorem dX7_findWanted_61 : decode cX7_findWanted 61 = .ok (.iconst 1, 1) := by decide +kernel
theorem dX7_findWanted_62 : decode cX7_findWanted 62 = .ok (.iadd, 1) := by decide +kernel
theorem dX7_findWanted_63 : decode cX7_findWanted 63 = .ok (.iaload, 1) := by decide +kernel
theorem dX7_findWanted_64 : decode cX7_findWanted 64 = .ok (.aload_n 0, 1) := by decide +kernel
theorem dX7_findWanted_65 : decode cX7_findWanted 65 = .ok (.getfield 59, 3) := by decide +kernel
theorem dX7_findWanted_68 : decode cX7_findWanted 68 = .ok (.iload_n 3, 1) := by decide +kernel
theorem dX7_findWanted_69 : decode cX7_findWanted 69 = .ok (.iconst 2, 1) := by decide +kernel
theorem dX7_findWanted_70 : decode cX7_findWanted 70 = .ok (.iadd, 1) := by decide +kernel
theorem dX7_findWanted_71 : decode cX7_findWanted 71 = .ok (.iaload, 1) := by decide +kernel
theorem dX7_findWanted_72 : decode cX7_findWanted 72 = .ok (.aload_n 0, 1) := by decide +kernel
theorem dX7_findWanted_73 : decode cX7_findWanted 73 = .ok (.getfield 59, 3) := by decide +kernel
theorem dX7_findWanted_76 : decode cX7_findWanted 76 = .ok (.iload_n 3, 1) := by decide +kernel
theorem dX7_findWanted_77 : decode cX7_findWanted 77 = .ok (.iconst 3, 1) := by decide +kernel
theorem dX7_findWanted_78 : decode cX7_findWanted 78 = .ok (.iadd, 1) := by decide +kernel
theorem dX7_findWanted_79 : decode cX7_findWanted 79 = .ok (.iaload, 1) := by decide +kernel
theorem dX7_findWanted_80 : decode cX7_findWanted 80 = .ok (.invokevirtual 145, 3) := by decide +kernel
theorem dX7_findWanted_83 : decode cX7_findWanted 83 = .ok (.istore 4, 2) := by decide +kernel
theorem dX7_findWanted_85 : decode cX7_findWanted 85 = .ok (.iload 4, 2) := by decide +kernel
theorem dX7_findWanted_87 : decode cX7_findWanted 87 = .ok (.aload_n 0, 1) := by decide +kernel
theorem dX7_findWanted_88 : decode cX7_findWanted 88 = .ok (.getfield 16, 3) := by decide +kernel
theorem dX7_findWanted_91 : decode cX7_findWanted 91 = .ok (.iconst 1, 1) := by decide +kernel
theorem dX7_findWanted_92 : decode cX7_findWanted 92 = .ok (.iaload, 1) := by decide +kernel
theorem dX7_findWanted_93 : decode cX7_findWanted 93 = .ok (.idiv, 1) := by decide +kernel
theorem dX7_findWanted_94 : decode cX7_findWanted 94 = .ok (.istore 5, 2) := by decide +kernel
theorem dX7_findWanted_96 : decode cX7_findWanted 96 = .ok (.iload 4, 2) := by decide +kernel
theorem dX7_findWanted_98 : decode cX7_findWanted 98 = .ok (.ifCond .lt 11, 3) := by decide +kernel
theorem dX7_findWanted_101 : decode cX7_findWanted 101 = .ok (.iload 5, 2) := by decide +kernel
theorem dX7_findWanted_103 : decode cX7_findWanted 103 = .ok (.sipush 2000, 3) := by decide +kernel
theorem dX7_findWanted_106 : decode cX7_findWanted 106 = .ok (.if_icmp .le 5, 3) := by decide +kernel
theorem dX7_findWanted_109 : decode cX7_findWanted 109 = .ok (.iconst 0, 1) := by decide +kernel
theorem dX7_findWanted_110 : decode cX7_findWanted 110 = .ok (.ireturn, 1) := by decide +kernel
theorem dX7_findWanted_111 : decode cX7_findWanted 111 = .ok (.aload_n 0, 1) := by decide +kernel
theorem dX7_findWanted_112 : decode cX7_findWanted 112 = .ok (.invokevirtual 125, 3) := by decide +kernel
theorem dX7_findWanted_115 : decode cX7_findWanted 115 = .ok (.aload_n 0, 1) := by decide +kernel
theorem dX7_findWanted_116 : decode cX7_findWanted 116 = .ok (.iconst 1, 1) := by decide +kernel
theorem dX7_findWanted_117 : decode cX7_findWanted 117 = .ok (.iload 5, 2) := by decide +kernel
theorem dX7_findWanted_119 : decode cX7_findWanted 119 = .ok (.invokevirtual 128, 3) := by decide +kernel
theorem dX7_findWanted_122 : decode cX7_findWanted 122 = .ok (.iconst (-1), 1) := by decide +kernel
theorem dX7_findWanted_123 : decode cX7_findWanted 123 = .ok (.if_icmp .ne 5, 3) := by decide +kernel
theorem dX7_findWanted_126 : decode cX7_findWanted 126 = .ok (.iconst 0, 1) := by decide +kernel
theorem dX7_findWanted_127 : decode cX7_findWanted 127 = .ok (.ireturn, 1) := by decide +kernel
theorem dX7_findWanted_128 : decode cX7_findWanted 128 = .ok (.aload_n 0, 1) := by decide +kernel
theorem dX7_findWanted_129 : decode cX7_findWanted 129 = .ok (.getfield 59, 3) := by decide +kernel
theorem dX7_findWanted_132 : decode cX7_findWanted 132 = .ok (.iload_n 3, 1) := by decide +kernel
theorem dX7_findWanted_133 : decode cX7_findWanted 133 = .ok (.iconst 1, 1) := by decide +kernel
theorem dX7_findWanted_134 : decode cX7_findWanted 134 = .ok (.iadd, 1) := by decide +kernel
theorem dX7_findWanted_135 : decode cX7_findWanted 135 = .ok (.iaload, 1) := by decide +kernel
theorem dX7_findWanted_136 : decode cX7_findWanted 136 = .ok (.iconst 1, 1) := by decide +kernel
theorem dX7_findWanted_137 : decode cX7_findWanted 137 = .ok (.if_icmp .ne 27, 3) := by decide +kernel
theorem dX7_findWanted_140 : decode cX7_findWanted 140 = .ok (.aload_n 0, 1) := by decide +kernel
theorem dX7_findWanted_141 : decode cX7_findWanted 141 = .ok (.getfield 80, 3) := by decide +kernel
theorem dX7_findWanted_144 : decode cX7_findWanted 144 = .ok (.aload_n 0, 1) := by decide +kernel
theorem dX7_findWanted_145 : decode cX7_findWanted 145 = .ok (.getfield 59, 3) := by decide +kernel
theorem dX7_findWanted_148 : decode cX7_findWanted 148 = .ok (.iload_n 3, 1) := by decide +kernel
theorem dX7_findWanted_149 : decode cX7_findWanted 149 = .ok (.iconst 2, 1) := by decide +kernel
theorem dX7_findWanted_150 : decode cX7_findWanted 150 = .ok (.iadd, 1) := by decide +kernel
theorem dX7_findWanted_151 : decode cX7_findWanted 151 = .ok (.iaload, 1) := by decide +kernel
theorem dX7_findWanted_152 : decode cX7_findWanted 152 = .ok (.dup2, 1) := by decide +kernel
theorem dX7_findWanted_153 : decode cX7_findWanted 153 = .ok (.iaload, 1) := by decide +kernel
theorem dX7_findWanted_154 : decode cX7_findWanted 154 = .ok (.aload_n 0, 1) := by decide +kernel
theorem dX7_findWanted_155 : decode cX7_findWanted 155 = .ok (.getfield 59, 3) := by decide +kernel
theorem dX7_findWanted_158 : decode cX7_findWanted 158 = .ok (.iload_n 3, 1) := by decide +kernel
theorem dX7_findWanted_159 : decode cX7_findWanted 159 = .ok (.iconst 3, 1) := by decide +kernel
theorem dX7_findWanted_160 : decode cX7_findWanted 160 = .ok (.iadd, 1) := by decide +kernel
theorem dX7_findWanted_161 : decode cX7_findWanted 161 = .ok (.iaload, 1) := by decide +kernel
theorem dX7_findWanted_162 : decode cX7_findWanted 162 = .ok (.iadd, 1) := by decide +kernel
theorem dX7_findWanted_163 : decode cX7_findWanted 163 = .ok (.iastore, 1) := by decide +kernel
theorem dX7_findWanted_164 : decode cX7_findWanted 164 = .ok (.iconst 0, 1) := by decide +kernel
theorem dX7_findWanted_165 : decode cX7_findWanted 165 = .ok (.istore 6, 2) := by decide +kernel
theorem dX7_findWanted_167 : decode cX7_findWanted 167 = .ok (.iload 6, 2) := by decide +kernel
theorem dX7_findWanted_169 : decode cX7_findWanted 169 = .ok (.aload_n 0, 1) := by decide +kernel
theorem dX7_findWanted_170 : decode cX7_findWanted 170 = .ok (.getfield 7, 3) := by decide +kernel
theorem dX7_findWanted_173 : decode cX7_findWanted 173 = .ok (.iconst 1, 1) := by decide +kernel
theorem dX7_findWanted_174 : decode cX7_findWanted 174 = .ok (.iaload, 1) := by decide +kernel
theorem dX7_findWanted_175 : decode cX7_findWanted 175 = .ok (.if_icmp .ge 79, 3) := by decide +kernel
theorem dX7_findWanted_178 : decode cX7_findWanted 178 = .ok (.aload_n 0, 1) := by decide +kernel
theorem dX7_findWanted_179 : decode cX7_findWanted 179 = .ok (.getfield 71, 3) := by decide +kernel
theorem dX7_findWanted_182 : decode cX7_findWanted 182 = .ok (.iload 6, 2) := by decide +kernel
theorem dX7_findWanted_184 : decode cX7_findWanted 184 = .ok (.iaload, 1) := by decide +kernel
theorem dX7_findWanted_185 : decode cX7_findWanted 185 = .ok (.aload_n 0, 1) := by decide +kernel
theorem dX7_findWanted_186 : decode cX7_findWanted 186 = .ok (.getfield 80, 3) := by decide +kernel
theorem dX7_findWanted_189 : decode cX7_findWanted 189 = .ok (.iload 6, 2) := by decide +kernel
theorem dX7_findWanted_191 : decode cX7_findWanted 191 = .ok (.iaload, 1) := by decide +kernel
theorem dX7_findWanted_192 : decode cX7_findWanted 192 = .ok (.if_icmp .le 21, 3) := by decide +kernel
theorem dX7_findWanted_195 : decode cX7_findWanted 195 = .ok (.aload_n 0, 1) := by decide +kernel
theorem dX7_findWanted_196 : decode cX7_findWanted 196 = .ok (.getfield 71, 3) := by decide +kernel
theorem dX7_findWanted_199 : decode cX7_findWanted 199 = .ok (.iload 6, 2) := by decide +kernel
theorem dX7_findWanted_201 : decode cX7_findWanted 201 = .ok (.iaload, 1) := by decide +kernel
theorem dX7_findWanted_202 : decode cX7_findWanted 202 = .ok (.aload_n 0, 1) := by decide +kernel
theorem dX7_findWanted_203 : decode cX7_findWanted 203 = .ok (.getfield 80, 3) := by decide +kernel
theorem dX7_findWanted_206 : decode cX7_findWanted 206 = .ok (.iload 6, 2) := by decide +kernel
theorem dX7_findWanted_208 : decode cX7_findWanted 208 = .ok (.iaload, 1) := by decide +kernel
theorem dX7_findWanted_209 : decode cX7_findWanted 209 = .ok (.isub, 1) := by decide +kernel
theorem dX7_findWanted_210 : decode cX7_findWanted 210 = .ok (.goto 4, 3) := by decide +kernel
theorem dX7_findWanted_213 : decode cX7_findWanted 213 = .ok (.iconst 0, 1) := by decide +kernel
theorem dX7_findWanted_214 : decode cX7_findWanted 214 = .ok (.istore 7, 2) := by decide +kernel
theorem dX7_findWanted_216 : decode cX7_findWanted 216 = .ok (.aload_n 0, 1) := by decide +kernel
theorem dX7_findWanted_217 : decode cX7_findWanted 217 = .ok (.getfield 83, 3) := by decide +kernel
theorem dX7_findWanted_220 : decode cX7_findWanted 220 = .ok (.iload 6, 2) := by decide +kernel
theorem dX7_findWanted_222 : decode cX7_findWanted 222 = .ok (.dup2, 1) := by decide +kernel
theorem dX7_findWanted_223 : decode cX7_findWanted 223 = .ok (.iaload, 1) := by decide +kernel
theorem dX7_findWanted_224 : decode cX7_findWanted 224 = .ok (.iload 7, 2) := by decide +kernel
theorem dX7_findWanted_226 : decode cX7_findWanted 226 = .ok (.iadd, 1) := by decide +kernel
theorem dX7_findWanted_227 : decode cX7_findWanted 227 = .ok (.iastore, 1) := by decide +kernel
theorem dX7_findWanted_228 : decode cX7_findWanted 228 = .ok (.aload_n 0, 1) := by decide +kernel
theorem dX7_findWanted_229 : decode cX7_findWanted 229 = .ok (.getfield 80, 3) := by decide +kernel
theorem dX7_findWanted_232 : decode cX7_findWanted 232 = .ok (.iload 6, 2) := by decide +kernel
theorem dX7_findWanted_234 : decode cX7_findWanted 234 = .ok (.dup2, 1) := by decide +kernel
theorem dX7_findWanted_235 : decode cX7_findWanted 235 = .ok (.iaload, 1) := by decide +kernel
theorem dX7_findWanted_236 : decode cX7_findWanted 236 = .ok (.iload 7, 2) := by decide +kernel
theorem dX7_findWanted_238 : decode cX7_findWanted 238 = .ok (.aload_n 0, 1) := by decide +kernel
theorem dX7_findWanted_239 : decode cX7_findWanted 239 = .ok (.getfield 71, 3) := by decide +kernel
theorem dX7_findWanted_242 : decode cX7_findWanted 242 = .ok (.iload 6, 2) := by decide +kernel
theorem dX7_findWanted_244 : decode cX7_findWanted 244 = .ok (.iaload, 1) := by decide +kernel
theorem dX7_findWanted_245 : decode cX7_findWanted 245 = .ok (.isub, 1) := by decide +kernel
theorem dX7_findWanted_246 : decode cX7_findWanted 246 = .ok (.iadd, 1) := by decide +kernel
theorem dX7_findWanted_247 : decode cX7_findWanted 247 = .ok (.iastore, 1) := by decide +kernel
theorem dX7_findWanted_248 : decode cX7_findWanted 248 = .ok (.iinc 6 1, 3) := by decide +kernel
theorem dX7_findWanted_251 : decode cX7_findWanted 251 = .ok (.goto (-84), 3) := by decide +kernel
theorem dX7_findWanted_254 : decode cX7_findWanted 254 = .ok (.iinc 2 1, 3) := by decide +kernel
theorem dX7_findWanted_257 : decode cX7_findWanted 257 = .ok (.goto (-227), 3) := by decide +kernel
theorem dX7_findWanted_260 : decode cX7_findWanted 260 = .ok (.iconst 1, 1) := by decide +kernel
theorem dX7_findWanted_261 : decode cX7_findWanted 261 = .ok (.ireturn, 1) := by decide +kernel
theorem dX7_wanted_0 : decode cX7_wanted 0 = .ok (.aload_n 0, 1) := by decide +kernel
theorem dX7_wanted_1 : decode cX7_wanted 1 = .ok (.iconst 0, 1) := by decide +kernel
theorem dX7_wanted_2 : decode cX7_wanted 2 = .ok (.putfield 90, 3) := by decide +kernel
theorem dX7_wanted_5 : decode cX7_wanted 5 = .ok (.aload_n 0, 1) := by decide +kernel
theorem dX7_wanted_6 : decode cX7_wanted 6 = .ok (.iload_n 1, 1) := by decide +kernel
theorem dX7_wanted_7 : decode cX7_wanted 7 = .ok (.invokevirtual 138, 3) := by decide +kernel
theorem dX7_wanted_10 : decode cX7_wanted 10 = .ok (.ifCond .eq 29, 3) := by decide +kernel
theorem dX7_wanted_13 : decode cX7_wanted 13 = .ok (.aload_n 0, 1) := by decide +kernel
theorem dX7_wanted_14 : decode cX7_wanted 14 = .ok (.iconst 1, 1) := by decide +kernel
theorem dX7_wanted_15 : decode cX7_wanted 15 = .ok (.iload_n 2, 1) := by decide +kernel
theorem dX7_wanted_16 : decode cX7_wanted 16 = .ok (.invokevirtual 121, 3) := by decide +kernel
theorem dX7_wanted_19 : decode cX7_wanted 19 = .ok (.ifCond .eq 20, 3) := by decide +kernel
theorem dX7_wanted_22 : decode cX7_wanted 22 = .ok (.aload_n 0, 1) := by decide +kernel
theorem dX7_wanted_23 : decode cX7_wanted 23 = .ok (.iload_n 1, 1) := by decide +kernel
theorem dX7_wanted_24 : decode cX7_wanted 24 = .ok (.invokevirtual 152, 3) := by decide +kernel
theorem dX7_wanted_27 : decode cX7_wanted 27 = .ok (.ifCond .eq 12, 3) := by decide +kernel
theorem dX7_wanted_30 : decode cX7_wanted 30 = .ok (.aload_n 0, 1) := by decide +kernel
theorem dX7_wanted_31 : decode cX7_wanted 31 = .ok (.getfield 83, 3) := by decide +kernel
theorem dX7_wanted_34 : decode cX7_wanted 34 = .ok (.iload_n 2, 1) := by decide +kernel
theorem dX7_wanted_35 : decode cX7_wanted 35 = .ok (.iaload, 1) := by decide +kernel
theorem dX7_wanted_36 : decode cX7_wanted 36 = .ok (.goto 4, 3) := by decide +kernel
theorem dX7_wanted_39 : decode cX7_wanted 39 = .ok (.iconst (-1), 1) := by decide +kernel
theorem dX7_wanted_40 : decode cX7_wanted 40 = .ok (.ireturn, 1) := by decide +kernel
theorem dX7_about_0 : decode cX7_about 0 = .ok (.aload_n 0, 1) := by decide +kernel
theorem dX7_about_1 : decode cX7_about 1 = .ok (.iconst 0, 1) := by decide +kernel
theorem dX7_about_2 : decode cX7_about 2 = .ok (.putfield 90, 3) := by decide +kernel
theorem dX7_about_5 : decode cX7_about 5 = .ok (.iload_n 1, 1) := by decide +kernel
theorem dX7_about_6 : decode cX7_about 6 = .ok (.iconst 0, 1) := by decide +kernel
theorem dX7_about_7 : decode cX7_about 7 = .ok (.iconst 1, 1) := by decide +kernel
theorem dX7_about_8 : decode cX7_about 8 = .ok (.invokestatic 98, 3) := by decide +kernel
theorem dX7_about_11 : decode cX7_about 11 = .ok (.ifCond .eq 53, 3) := by decide +kernel
theorem dX7_about_14 : decode cX7_about 14 = .ok (.iload_n 2, 1) := by decide +kernel
theorem dX7_about_15 : decode cX7_about 15 = .ok (.ifCond .ne 12, 3) := by decide +kernel
theorem dX7_about_18 : decode cX7_about 18 = .ok (.aload_n 0, 1) := by decide +kernel
theorem dX7_about_19 : decode cX7_about 19 = .ok (.getfield 7, 3) := by decide +kernel
theorem dX7_about_22 : decode cX7_about 22 = .ok (.iload_n 1, 1) := by decide +kernel
theorem dX7_about_23 : decode cX7_about 23 = .ok (.iaload, 1) := by decide +kernel
theorem dX7_about_24 : decode cX7_about 24 = .ok (.goto 39, 3) := by decide +kernel
theorem dX7_about_27 : decode cX7_about 27 = .ok (.iload_n 2, 1) := by decide +kernel
theorem dX7_about_28 : decode cX7_about 28 = .ok (.bipush 10, 2) := by decide +kernel
theorem dX7_about_30 : decode cX7_about 30 = .ok (.bipush 9, 2) := by decide +kernel
theorem dX7_about_32 : decode cX7_about 32 = .ok (.aload_n 0, 1) := by decide +kernel
theorem dX7_about_33 : decode cX7_about 33 = .ok (.getfield 7, 3) := by decide +kernel
theorem dX7_about_36 : decode cX7_about 36 = .ok (.iload_n 1, 1) := by decide +kernel
theorem dX7_about_37 : decode cX7_about 37 = .ok (.iaload, 1) := by decide +kernel
theorem dX7_about_38 : decode cX7_about 38 = .ok (.iadd, 1) := by decide +kernel
theorem dX7_about_39 : decode cX7_about 39 = .ok (.invokestatic 98, 3) := by decide +kernel
theorem dX7_about_42 : decode cX7_about 42 = .ok (.ifCond .eq 20, 3) := by decide +kernel
theorem dX7_about_45 : decode cX7_about 45 = .ok (.aload_n 0, 1) := by decide +kernel
theorem dX7_about_46 : decode cX7_about 46 = .ok (.getfield 13, 3) := by decide +kernel
theorem dX7_about_49 : decode cX7_about 49 = .ok (.bipush 8, 2) := by decide +kernel
theorem dX7_about_51 : decode cX7_about 51 = .ok (.iload_n 1, 1) := by decide +kernel
theorem dX7_about_52 : decode cX7_about 52 = .ok (.imul, 1) := by decide +kernel
theorem dX7_about_53 : decode cX7_about 53 = .ok (.iload_n 2, 1) := by decide +kernel
theorem dX7_about_54 : decode cX7_about 54 = .ok (.iadd, 1) := by decide +kernel
theorem dX7_about_55 : decode cX7_about 55 = .ok (.bipush 10, 2) := by decide +kernel
theorem dX7_about_57 : decode cX7_about 57 = .ok (.isub, 1) := by decide +kernel
theorem dX7_about_58 : decode cX7_about 58 = .ok (.iaload, 1) := by decide +kernel
theorem dX7_about_59 : decode cX7_about 59 = .ok (.goto 4, 3) := by decide +kernel
theorem dX7_about_62 : decode cX7_about 62 = .ok (.iconst (-1), 1) := by decide +kernel
theorem dX7_about_63 : decode cX7_about 63 = .ok (.ireturn, 1) := by decide +kernel
theorem dX7_about_64 : decode cX7_about 64 = .ok (.iload_n 1, 1) := by decide +kernel
theorem dX7_about_65 : decode cX7_about 65 = .ok (.iconst 2, 1) := by decide +kernel
theorem dX7_about_66 : decode cX7_about 66 = .ok (.if_icmp .eq 5, 3) := by decide +kernel
theorem dX7_about_69 : decode cX7_about 69 = .ok (.iconst (-1), 1) := by decide +kernel
theorem dX7_about_70 : decode cX7_about 70 = .ok (.ireturn, 1) := by decide +kernel
theorem dX7_about_71 : decode cX7_about 71 = .ok (.iload_n 2, 1) := by decide +kernel
theorem dX7_about_72 : decode cX7_about 72 = .ok (.tableswitch 71 0 4 #[36, 43, 50, 57, 64], 36) := by decide +kernel
theorem dX7_about_108 : decode cX7_about 108 = .ok (.aload_n 0, 1) := by decide +kernel
theorem dX7_about_109 : decode cX7_about 109 = .ok (.getfield 22, 3) := by decide +kernel
theorem dX7_about_112 : decode cX7_about 112 = .ok (.iconst 0, 1) := by decide +kernel
theorem dX7_about_113 : decode cX7_about 113 = .ok (.iaload, 1) := by decide +kernel
theorem dX7_about_114 : decode cX7_about 114 = .ok (.ireturn, 1) := by decide +kernel
theorem dX7_about_115 : decode cX7_about 115 = .ok (.aload_n 0, 1) := by decide +kernel
theorem dX7_about_116 : decode cX7_about 116 = .ok (.getfield 34, 3) := by decide +kernel
theorem dX7_about_119 : decode cX7_about 119 = .ok (.iconst 0, 1) := by decide +kernel
theorem dX7_about_120 : decode cX7_about 120 = .ok (.iaload, 1) := by decide +kernel
theorem dX7_about_121 : decode cX7_about 121 = .ok (.ireturn, 1) := by decide +kernel
theorem dX7_about_122 : decode cX7_about 122 = .ok (.aload_n 0, 1) := by decide +kernel
theorem dX7_about_123 : decode cX7_about 123 = .ok (.getfield 16, 3) := by decide +kernel
theorem dX7_about_126 : decode cX7_about 126 = .ok (.iconst 0, 1) := by decide +kernel
theorem dX7_about_127 : decode cX7_about 127 = .ok (.iaload, 1) := by decide +kernel
theorem dX7_about_128 : decode cX7_about 128 = .ok (.ireturn, 1) := by decide +kernel
theorem dX7_about_129 : decode cX7_about 129 = .ok (.aload_n 0, 1) := by decide +kernel
theorem dX7_about_130 : decode cX7_about 130 = .ok (.getfield 16, 3) := by decide +kernel
theorem dX7_about_133 : decode cX7_about 133 = .ok (.iconst 1, 1) := by decide +kernel
theorem dX7_about_134 : decode cX7_about 134 = .ok (.iaload, 1) := by decide +kernel
theorem dX7_about_135 : decode cX7_about 135 = .ok (.ireturn, 1) := by decide +kernel
theorem dX7_about_136 : decode cX7_about 136 = .ok (.aload_n 0, 1) := by decide +kernel
theorem dX7_about_137 : decode cX7_about 137 = .ok (.getfield 31, 3) := by decide +kernel
theorem dX7_about_140 : decode cX7_about 140 = .ok (.iconst 0, 1) := by decide +kernel
theorem dX7_about_141 : decode cX7_about 141 = .ok (.iaload, 1) := by decide +kernel
theorem dX7_about_142 : decode cX7_about 142 = .ok (.ireturn, 1) := by decide +kernel
theorem dX7_about_143 : decode cX7_about 143 = .ok (.iload_n 2, 1) := by decide +kernel
theorem dX7_about_144 : decode cX7_about 144 = .ok (.bipush 10, 2) := by decide +kernel
theorem dX7_about_146 : decode cX7_about 146 = .ok (.bipush 9, 2) := by decide +kernel
theorem dX7_about_148 : decode cX7_about 148 = .ok (.aload_n 0, 1) := by decide +kernel
theorem dX7_about_149 : decode cX7_about 149 = .ok (.getfield 22, 3) := by decide +kernel
theorem dX7_about_152 : decode cX7_about 152 = .ok (.iconst 0, 1) := by decide +kernel
theorem dX7_about_153 : decode cX7_about 153 = .ok (.iaload, 1) := by decide +kernel
theorem dX7_about_154 : decode cX7_about 154 = .ok (.iadd, 1) := by decide +kernel
theorem dX7_about_155 : decode cX7_about 155 = .ok (.invokestatic 98, 3) := by decide +kernel
theorem dX7_about_158 : decode cX7_about 158 = .ok (.ifCond .eq 15, 3) := by decide +kernel
theorem dX7_about_161 : decode cX7_about 161 = .ok (.aload_n 0, 1) := by decide +kernel
theorem dX7_about_162 : decode cX7_about 162 = .ok (.getfield 25, 3) := by decide +kernel
theorem dX7_about_165 : decode cX7_about 165 = .ok (.iload_n 2, 1) := by decide +kernel
theorem dX7_about_166 : decode cX7_about 166 = .ok (.bipush 10, 2) := by decide +kernel
theorem dX7_about_168 : decode cX7_about 168 = .ok (.isub, 1) := by decide +kernel
theorem dX7_about_169 : decode cX7_about 169 = .ok (.iaload, 1) := by decide +kernel
theorem dX7_about_170 : decode cX7_about 170 = .ok (.goto 34, 3) := by decide +kernel
theorem dX7_about_173 : decode cX7_about 173 = .ok (.iload_n 2, 1) := by decide +kernel
theorem dX7_about_174 : decode cX7_about 174 = .ok (.bipush 30, 2) := by decide +kernel
theorem dX7_about_176 : decode cX7_about 176 = .ok (.bipush 29, 2) := by decide +kernel
theorem dX7_about_178 : decode cX7_about 178 = .ok (.aload_n 0, 1) := by decide +kernel
theorem dX7_about_179 : decode cX7_about 179 = .ok (.getfield 22, 3) := by decide +kernel
theorem dX7_about_182 : decode cX7_about 182 = .ok (.iconst 0, 1) := by decide +kernel
theorem dX7_about_183 : decode cX7_about 183 = .ok (.iaload, 1) := by decide +kernel
theorem dX7_about_184 : decode cX7_about 184 = .ok (.iadd, 1) := by decide +kernel
theorem dX7_about_185 : decode cX7_about 185 = .ok (.invokestatic 98, 3) := by decide +kernel
theorem dX7_about_188 : decode cX7_about 188 = .ok (.ifCond .eq 15, 3) := by decide +kernel
theorem dX7_about_191 : decode cX7_about 191 = .ok (.aload_n 0, 1) := by decide +kernel
theorem dX7_about_192 : decode cX7_about 192 = .ok (.getfield 28, 3) := by decide +kernel
theorem dX7_about_195 : decode cX7_about 195 = .ok (.iload_n 2, 1) := by decide +kernel
theorem dX7_about_196 : decode cX7_about 196 = .ok (.bipush 30, 2) := by decide +kernel
theorem dX7_about_198 : decode cX7_about 198 = .ok (.isub, 1) := by decide +kernel
theorem dX7_about_199 : decode cX7_about 199 = .ok (.iaload, 1) := by decide +kernel
theorem dX7_about_200 : decode cX7_about 200 = .ok (.goto 4, 3) := by decide +kernel
theorem dX7_about_203 : decode cX7_about 203 = .ok (.iconst (-1), 1) := by decide +kernel
theorem dX7_about_204 : decode cX7_about 204 = .ok (.ireturn, 1) := by decide +kernel
theorem dX7_image_0 : decode cX7_image 0 = .ok (.aload_n 0, 1) := by decide +kernel
theorem dX7_image_1 : decode cX7_image 1 = .ok (.iconst 0, 1) := by decide +kernel
theorem dX7_image_2 : decode cX7_image 2 = .ok (.putfield 90, 3) := by decide +kernel
theorem dX7_image_5 : decode cX7_image 5 = .ok (.iload_n 1, 1) := by decide +kernel
theorem dX7_image_6 : decode cX7_image 6 = .ok (.iconst 0, 1) := by decide +kernel
theorem dX7_image_7 : decode cX7_image 7 = .ok (.iconst 2, 1) := by decide +kernel
theorem dX7_image_8 : decode cX7_image 8 = .ok (.invokestatic 98, 3) := by decide +kernel
theorem dX7_image_11 : decode cX7_image 11 = .ok (.ifCond .ne 5, 3) := by decide +kernel
theorem dX7_image_14 : decode cX7_image 14 = .ok (.iconst 0, 1) := by decide +kernel
theorem dX7_image_15 : decode cX7_image 15 = .ok (.ireturn, 1) := by decide +kernel
theorem dX7_image_16 : decode cX7_image 16 = .ok (.aload_n 0, 1) := by decide +kernel
theorem dX7_image_17 : decode cX7_image 17 = .ok (.iconst 0, 1) := by decide +kernel
theorem dX7_image_18 : decode cX7_image 18 = .ok (.iload_n 1, 1) := by decide +kernel
theorem dX7_image_19 : decode cX7_image 19 = .ok (.iconst 1, 1) := by decide +kernel
theorem dX7_image_20 : decode cX7_image 20 = .ok (.iadd, 1) := by decide +kernel
theorem dX7_image_21 : decode cX7_image 21 = .ok (.invokevirtual 155, 3) := by decide +kernel
theorem dX7_image_24 : decode cX7_image 24 = .ok (.aload_n 0, 1) := by decide +kernel
theorem dX7_image_25 : decode cX7_image 25 = .ok (.getfield 86, 3) := by decide +kernel
theorem dX7_image_28 : decode cX7_image 28 = .ok (.iload_n 1, 1) := by decide +kernel
theorem dX7_image_29 : decode cX7_image 29 = .ok (.iconst 1, 1) := by decide +kernel
theorem dX7_image_30 : decode cX7_image 30 = .ok (.bastore, 1) := by decide +kernel
theorem dX7_image_31 : decode cX7_image 31 = .ok (.iconst 1, 1) := by decide +kernel
theorem dX7_image_32 : decode cX7_image 32 = .ok (.ireturn, 1) := by decide +kernel
theorem dX7_again_0 : decode cX7_again 0 = .ok (.aload_n 0, 1) := by decide +kernel
theorem dX7_again_1 : decode cX7_again 1 = .ok (.iconst 0, 1) := by decide +kernel
theorem dX7_again_2 : decode cX7_again 2 = .ok (.putfield 90, 3) := by decide +kernel
theorem dX7_again_5 : decode cX7_again 5 = .ok (.iload_n 1, 1) := by decide +kernel
theorem dX7_again_6 : decode cX7_again 6 = .ok (.iconst 0, 1) := by decide +kernel
theorem dX7_again_7 : decode cX7_again 7 = .ok (.iconst 2, 1) := by decide +kernel
theorem dX7_again_8 : decode cX7_again 8 = .ok (.invokestatic 98, 3) := by decide +kernel
theorem dX7_again_11 : decode cX7_again 11 = .ok (.ifCond .eq 12, 3) := by decide +kernel
theorem dX7_again_14 : decode cX7_again 14 = .ok (.aload_n 0, 1) := by decide +kernel
theorem dX7_again_15 : decode cX7_again 15 = .ok (.getfield 86, 3) := by decide +kernel
theorem dX7_again_18 : decode cX7_again 18 = .ok (.iload_n 1, 1) := by decide +kernel
theorem dX7_again_19 : decode cX7_again 19 = .ok (.baload, 1) := by decide +kernel
theorem dX7_again_20 : decode cX7_again 20 = .ok (.ifCond .ne 5, 3) := by decide +kernel
theorem dX7_again_23 : decode cX7_again 23 = .ok (.iconst 0, 1) := by decide +kernel
theorem dX7_again_24 : decode cX7_again 24 = .ok (.ireturn, 1) := by decide +kernel
theorem dX7_again_25 : decode cX7_again 25 = .ok (.aload_n 0, 1) := by decide +kernel
theorem dX7_again_26 : decode cX7_again 26 = .ok (.iload_n 1, 1) := by decide +kernel
theorem dX7_again_27 : decode cX7_again 27 = .ok (.iconst 1, 1) := by decide +kernel
theorem dX7_again_28 : decode cX7_again 28 = .ok (.iadd, 1) := by decide +kernel
theorem dX7_again_29 : decode cX7_again 29 = .ok (.iconst 0, 1) := by decide +kernel
theorem dX7_again_30 : decode cX7_again 30 = .ok (.invokevirtual 155, 3) := by decide +kernel
theorem dX7_again_33 : decode cX7_again 33 = .ok (.iconst 1, 1) := by decide +kernel
theorem dX7_again_34 : decode cX7_again 34 = .ok (.ireturn, 1) := by decide +kernel
