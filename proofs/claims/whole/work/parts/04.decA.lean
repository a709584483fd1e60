theorem dX0_init_0 : decode cX0_init 0 = .ok (.aload_n 0, 1) := by decide +kernel
theorem dX0_init_1 : decode cX0_init 1 = .ok (.invokespecial 3, 3) := by decide +kernel
theorem dX0_init_4 : decode cX0_init 4 = .ok (.aload_n 0, 1) := by decide +kernel
theorem dX0_init_5 : decode cX0_init 5 = .ok (.bipush 8, 2) := by decide +kernel
theorem dX0_init_7 : decode cX0_init 7 = .ok (.newarray .int, 2) := by decide +kernel
theorem dX0_init_9 : decode cX0_init 9 = .ok (.putfield 9, 3) := by decide +kernel
theorem dX0_init_12 : decode cX0_init 12 = .ok (.aload_n 0, 1) := by decide +kernel
theorem dX0_init_13 : decode cX0_init 13 = .ok (.bipush 9, 2) := by decide +kernel
theorem dX0_init_15 : decode cX0_init 15 = .ok (.sipush 2001, 3) := by decide +kernel
theorem dX0_init_18 : decode cX0_init 18 = .ok (.multianewarray 15 2, 4) := by decide +kernel
theorem dX0_init_22 : decode cX0_init 22 = .ok (.putfield 17, 3) := by decide +kernel
theorem dX0_init_25 : decode cX0_init 25 = .ok (.aload_n 0, 1) := by decide +kernel
theorem dX0_init_26 : decode cX0_init 26 = .ok (.sipush 2001, 3) := by decide +kernel
theorem dX0_init_29 : decode cX0_init 29 = .ok (.newarray .int, 2) := by decide +kernel
theorem dX0_init_31 : decode cX0_init 31 = .ok (.putfield 20, 3) := by decide +kernel
theorem dX0_init_34 : decode cX0_init 34 = .ok (.aload_n 0, 1) := by decide +kernel
theorem dX0_init_35 : decode cX0_init 35 = .ok (.sipush 2001, 3) := by decide +kernel
theorem dX0_init_38 : decode cX0_init 38 = .ok (.newarray .int, 2) := by decide +kernel
theorem dX0_init_40 : decode cX0_init 40 = .ok (.putfield 23, 3) := by decide +kernel
theorem dX0_init_43 : decode cX0_init 43 = .ok (.return_, 1) := by decide +kernel
theorem dX0_make_0 : decode cX0_make 0 = .ok (.iload_n 3, 1) := by decide +kernel
theorem dX0_make_1 : decode cX0_make 1 = .ok (.invokestatic 26, 3) := by decide +kernel
theorem dX0_make_4 : decode cX0_make 4 = .ok (.ifCond .ne 5, 3) := by decide +kernel
theorem dX0_make_7 : decode cX0_make 7 = .ok (.iconst 0, 1) := by decide +kernel
theorem dX0_make_8 : decode cX0_make 8 = .ok (.ireturn, 1) := by decide +kernel
theorem dX0_make_9 : decode cX0_make 9 = .ok (.aload_n 0, 1) := by decide +kernel
theorem dX0_make_10 : decode cX0_make 10 = .ok (.getfield 17, 3) := by decide +kernel
theorem dX0_make_13 : decode cX0_make 13 = .ok (.iconst 0, 1) := by decide +kernel
theorem dX0_make_14 : decode cX0_make 14 = .ok (.aaload, 1) := by decide +kernel
theorem dX0_make_15 : decode cX0_make 15 = .ok (.iconst (-1), 1) := by decide +kernel
theorem dX0_make_16 : decode cX0_make 16 = .ok (.invokestatic 30, 3) := by decide +kernel
theorem dX0_make_19 : decode cX0_make 19 = .ok (.aload_n 0, 1) := by decide +kernel
theorem dX0_make_20 : decode cX0_make 20 = .ok (.getfield 17, 3) := by decide +kernel
theorem dX0_make_23 : decode cX0_make 23 = .ok (.iconst 0, 1) := by decide +kernel
theorem dX0_make_24 : decode cX0_make 24 = .ok (.aaload, 1) := by decide +kernel
theorem dX0_make_25 : decode cX0_make 25 = .ok (.iconst 0, 1) := by decide +kernel
theorem dX0_make_26 : decode cX0_make 26 = .ok (.iconst 0, 1) := by decide +kernel
theorem dX0_make_27 : decode cX0_make 27 = .ok (.iastore, 1) := by decide +kernel
theorem dX0_make_28 : decode cX0_make 28 = .ok (.aload_n 1, 1) := by decide +kernel
theorem dX0_make_29 : decode cX0_make 29 = .ok (.getfield 36, 3) := by decide +kernel
theorem dX0_make_32 : decode cX0_make 32 = .ok (.istore 4, 2) := by decide +kernel
theorem dX0_make_34 : decode cX0_make 34 = .ok (.iconst 0, 1) := by decide +kernel
theorem dX0_make_35 : decode cX0_make 35 = .ok (.istore 5, 2) := by decide +kernel
theorem dX0_make_37 : decode cX0_make 37 = .ok (.iload 5, 2) := by decide +kernel
theorem dX0_make_39 : decode cX0_make 39 = .ok (.iload 4, 2) := by decide +kernel
theorem dX0_make_41 : decode cX0_make 41 = .ok (.if_icmp .ge 41, 3) := by decide +kernel
theorem dX0_make_44 : decode cX0_make 44 = .ok (.aload_n 1, 1) := by decide +kernel
theorem dX0_make_45 : decode cX0_make 45 = .ok (.getfield 42, 3) := by decide +kernel
theorem dX0_make_48 : decode cX0_make 48 = .ok (.iload 4, 2) := by decide +kernel
theorem dX0_make_50 : decode cX0_make 50 = .ok (.iconst 1, 1) := by decide +kernel
theorem dX0_make_51 : decode cX0_make 51 = .ok (.isub, 1) := by decide +kernel
theorem dX0_make_52 : decode cX0_make 52 = .ok (.iload 5, 2) := by decide +kernel
theorem dX0_make_54 : decode cX0_make 54 = .ok (.isub, 1) := by decide +kernel
theorem dX0_make_55 : decode cX0_make 55 = .ok (.iaload, 1) := by decide +kernel
theorem dX0_make_56 : decode cX0_make 56 = .ok (.istore 6, 2) := by decide +kernel
theorem dX0_make_58 : decode cX0_make 58 = .ok (.aload_n 0, 1) := by decide +kernel
theorem dX0_make_59 : decode cX0_make 59 = .ok (.iload 5, 2) := by decide +kernel
theorem dX0_make_61 : decode cX0_make 61 = .ok (.aload_n 1, 1) := by decide +kernel
theorem dX0_make_62 : decode cX0_make 62 = .ok (.getfield 45, 3) := by decide +kernel
theorem dX0_make_65 : decode cX0_make 65 = .ok (.iload 6, 2) := by decide +kernel
theorem dX0_make_67 : decode cX0_make 67 = .ok (.iaload, 1) := by decide +kernel
theorem dX0_make_68 : decode cX0_make 68 = .ok (.aload_n 2, 1) := by decide +kernel
theorem dX0_make_69 : decode cX0_make 69 = .ok (.iload 6, 2) := by decide +kernel
theorem dX0_make_71 : decode cX0_make 71 = .ok (.iaload, 1) := by decide +kernel
theorem dX0_make_72 : decode cX0_make 72 = .ok (.iload_n 3, 1) := by decide +kernel
theorem dX0_make_73 : decode cX0_make 73 = .ok (.invokevirtual 48, 3) := by decide +kernel
theorem dX0_make_76 : decode cX0_make 76 = .ok (.iinc 5 1, 3) := by decide +kernel
theorem dX0_make_79 : decode cX0_make 79 = .ok (.goto (-42), 3) := by decide +kernel
theorem dX0_make_82 : decode cX0_make 82 = .ok (.aload_n 0, 1) := by decide +kernel
theorem dX0_make_83 : decode cX0_make 83 = .ok (.getfield 17, 3) := by decide +kernel
theorem dX0_make_86 : decode cX0_make 86 = .ok (.iload 4, 2) := by decide +kernel
theorem dX0_make_88 : decode cX0_make 88 = .ok (.aaload, 1) := by decide +kernel
theorem dX0_make_89 : decode cX0_make 89 = .ok (.iload_n 3, 1) := by decide +kernel
theorem dX0_make_90 : decode cX0_make 90 = .ok (.iaload, 1) := by decide +kernel
theorem dX0_make_91 : decode cX0_make 91 = .ok (.iconst (-1), 1) := by decide +kernel
theorem dX0_make_92 : decode cX0_make 92 = .ok (.if_icmp .ne 5, 3) := by decide +kernel
theorem dX0_make_95 : decode cX0_make 95 = .ok (.iconst 0, 1) := by decide +kernel
theorem dX0_make_96 : decode cX0_make 96 = .ok (.ireturn, 1) := by decide +kernel
theorem dX0_make_97 : decode cX0_make 97 = .ok (.aload_n 0, 1) := by decide +kernel
theorem dX0_make_98 : decode cX0_make 98 = .ok (.aload_n 1, 1) := by decide +kernel
theorem dX0_make_99 : decode cX0_make 99 = .ok (.aload_n 2, 1) := by decide +kernel
theorem dX0_make_100 : decode cX0_make 100 = .ok (.iload_n 3, 1) := by decide +kernel
theorem dX0_make_101 : decode cX0_make 101 = .ok (.invokevirtual 52, 3) := by decide +kernel
theorem dX0_make_104 : decode cX0_make 104 = .ok (.iconst 1, 1) := by decide +kernel
theorem dX0_make_105 : decode cX0_make 105 = .ok (.ireturn, 1) := by decide +kernel
theorem dX0_allow_0 : decode cX0_allow 0 = .ok (.iconst 0, 1) := by decide +kernel
theorem dX0_allow_1 : decode cX0_allow 1 = .ok (.istore 5, 2) := by decide +kernel
theorem dX0_allow_3 : decode cX0_allow 3 = .ok (.iload 5, 2) := by decide +kernel
theorem dX0_allow_5 : decode cX0_allow 5 = .ok (.iload_n 2, 1) := by decide +kernel
theorem dX0_allow_6 : decode cX0_allow 6 = .ok (.if_icmp .ge 40, 3) := by decide +kernel
theorem dX0_allow_9 : decode cX0_allow 9 = .ok (.iload 5, 2) := by decide +kernel
theorem dX0_allow_11 : decode cX0_allow 11 = .ok (.iload 4, 2) := by decide +kernel
theorem dX0_allow_13 : decode cX0_allow 13 = .ok (.if_icmp .gt 33, 3) := by decide +kernel
theorem dX0_allow_16 : decode cX0_allow 16 = .ok (.aload_n 0, 1) := by decide +kernel
theorem dX0_allow_17 : decode cX0_allow 17 = .ok (.aload_n 0, 1) := by decide +kernel
theorem dX0_allow_18 : decode cX0_allow 18 = .ok (.getfield 17, 3) := by decide +kernel
theorem dX0_allow_21 : decode cX0_allow 21 = .ok (.iload_n 1, 1) := by decide +kernel
theorem dX0_allow_22 : decode cX0_allow 22 = .ok (.aaload, 1) := by decide +kernel
theorem dX0_allow_23 : decode cX0_allow 23 = .ok (.aload_n 0, 1) := by decide +kernel
theorem dX0_allow_24 : decode cX0_allow 24 = .ok (.getfield 17, 3) := by decide +kernel
theorem dX0_allow_27 : decode cX0_allow 27 = .ok (.iload_n 1, 1) := by decide +kernel
theorem dX0_allow_28 : decode cX0_allow 28 = .ok (.iconst 1, 1) := by decide +kernel
theorem dX0_allow_29 : decode cX0_allow 29 = .ok (.iadd, 1) := by decide +kernel
theorem dX0_allow_30 : decode cX0_allow 30 = .ok (.aaload, 1) := by decide +kernel
theorem dX0_allow_31 : decode cX0_allow 31 = .ok (.iload 5, 2) := by decide +kernel
theorem dX0_allow_33 : decode cX0_allow 33 = .ok (.iload_n 2, 1) := by decide +kernel
theorem dX0_allow_34 : decode cX0_allow 34 = .ok (.iload_n 3, 1) := by decide +kernel
theorem dX0_allow_35 : decode cX0_allow 35 = .ok (.iload 4, 2) := by decide +kernel
theorem dX0_allow_37 : decode cX0_allow 37 = .ok (.invokevirtual 56, 3) := by decide +kernel
theorem dX0_allow_40 : decode cX0_allow 40 = .ok (.iinc 5 1, 3) := by decide +kernel
theorem dX0_allow_43 : decode cX0_allow 43 = .ok (.goto (-40), 3) := by decide +kernel
theorem dX0_allow_46 : decode cX0_allow 46 = .ok (.return_, 1) := by decide +kernel
theorem dX0_slide_0 : decode cX0_slide 0 = .ok (.iconst 0, 1) := by decide +kernel
theorem dX0_slide_1 : decode cX0_slide 1 = .ok (.istore 7, 2) := by decide +kernel
theorem dX0_slide_3 : decode cX0_slide 3 = .ok (.iconst 0, 1) := by decide +kernel
theorem dX0_slide_4 : decode cX0_slide 4 = .ok (.istore 8, 2) := by decide +kernel
theorem dX0_slide_6 : decode cX0_slide 6 = .ok (.iload 6, 2) := by decide +kernel
theorem dX0_slide_8 : decode cX0_slide 8 = .ok (.iload_n 3, 1) := by decide +kernel
theorem dX0_slide_9 : decode cX0_slide 9 = .ok (.isub, 1) := by decide +kernel
theorem dX0_slide_10 : decode cX0_slide 10 = .ok (.iload 4, 2) := by decide +kernel
theorem dX0_slide_12 : decode cX0_slide 12 = .ok (.invokestatic 60, 3) := by decide +kernel
theorem dX0_slide_15 : decode cX0_slide 15 = .ok (.istore 9, 2) := by decide +kernel
theorem dX0_slide_17 : decode cX0_slide 17 = .ok (.iconst 0, 1) := by decide +kernel
theorem dX0_slide_18 : decode cX0_slide 18 = .ok (.istore 10, 2) := by decide +kernel
theorem dX0_slide_20 : decode cX0_slide 20 = .ok (.iload 10, 2) := by decide +kernel
theorem dX0_slide_22 : decode cX0_slide 22 = .ok (.iload 9, 2) := by decide +kernel
theorem dX0_slide_24 : decode cX0_slide 24 = .ok (.if_icmp .gt 133, 3) := by decide +kernel
theorem dX0_slide_27 : decode cX0_slide 27 = .ok (.iload_n 3, 1) := by decide +kernel
theorem dX0_slide_28 : decode cX0_slide 28 = .ok (.iload 10, 2) := by decide +kernel
theorem dX0_slide_30 : decode cX0_slide 30 = .ok (.iload 4, 2) := by decide +kernel
theorem dX0_slide_32 : decode cX0_slide 32 = .ok (.imul, 1) := by decide +kernel
theorem dX0_slide_33 : decode cX0_slide 33 = .ok (.iadd, 1) := by decide +kernel
theorem dX0_slide_34 : decode cX0_slide 34 = .ok (.istore 11, 2) := by decide +kernel
theorem dX0_slide_36 : decode cX0_slide 36 = .ok (.aload_n 1, 1) := by decide +kernel
theorem dX0_slide_37 : decode cX0_slide 37 = .ok (.iload 11, 2) := by decide +kernel
theorem dX0_slide_39 : decode cX0_slide 39 = .ok (.iaload, 1) := by decide +kernel
theorem dX0_slide_40 : decode cX0_slide 40 = .ok (.iconst (-1), 1) := by decide +kernel
theorem dX0_slide_41 : decode cX0_slide 41 = .ok (.if_icmp .eq 60, 3) := by decide +kernel
theorem dX0_slide_44 : decode cX0_slide 44 = .ok (.aload_n 1, 1) := by decide +kernel
theorem dX0_slide_45 : decode cX0_slide 45 = .ok (.iload 11, 2) := by decide +kernel
theorem dX0_slide_47 : decode cX0_slide 47 = .ok (.iaload, 1) := by decide +kernel
theorem dX0_slide_48 : decode cX0_slide 48 = .ok (.iload 10, 2) := by decide +kernel
theorem dX0_slide_50 : decode cX0_slide 50 = .ok (.isub, 1) := by decide +kernel
theorem dX0_slide_51 : decode cX0_slide 51 = .ok (.istore 12, 2) := by decide +kernel
theorem dX0_slide_53 : decode cX0_slide 53 = .ok (.iload 8, 2) := by decide +kernel
theorem dX0_slide_55 : decode cX0_slide 55 = .ok (.iload 7, 2) := by decide +kernel
theorem dX0_slide_57 : decode cX0_slide 57 = .ok (.if_icmp .le 23, 3) := by decide +kernel
theorem dX0_slide_60 : decode cX0_slide 60 = .ok (.aload_n 0, 1) := by decide +kernel
theorem dX0_slide_61 : decode cX0_slide 61 = .ok (.getfield 23, 3) := by decide +kernel
theorem dX0_slide_64 : decode cX0_slide 64 = .ok (.iload 8, 2) := by decide +kernel
theorem dX0_slide_66 : decode cX0_slide 66 = .ok (.iconst 1, 1) := by decide +kernel
theorem dX0_slide_67 : decode cX0_slide 67 = .ok (.isub, 1) := by decide +kernel
theorem dX0_slide_68 : decode cX0_slide 68 = .ok (.iaload, 1) := by decide +kernel
theorem dX0_slide_69 : decode cX0_slide 69 = .ok (.iload 12, 2) := by decide +kernel
theorem dX0_slide_71 : decode cX0_slide 71 = .ok (.if_icmp .lt 9, 3) := by decide +kernel
theorem dX0_slide_74 : decode cX0_slide 74 = .ok (.iinc 8 (-1), 3) := by decide +kernel
theorem dX0_slide_77 : decode cX0_slide 77 = .ok (.goto (-24), 3) := by decide +kernel
theorem dX0_slide_80 : decode cX0_slide 80 = .ok (.aload_n 0, 1) := by decide +kernel
theorem dX0_slide_81 : decode cX0_slide 81 = .ok (.getfield 20, 3) := by decide +kernel
theorem dX0_slide_84 : decode cX0_slide 84 = .ok (.iload 8, 2) := by decide +kernel
theorem dX0_slide_86 : decode cX0_slide 86 = .ok (.iload 10, 2) := by decide +kernel
theorem dX0_slide_88 : decode cX0_slide 88 = .ok (.iastore, 1) := by decide +kernel
theorem dX0_slide_89 : decode cX0_slide 89 = .ok (.aload_n 0, 1) := by decide +kernel
theorem dX0_slide_90 : decode cX0_slide 90 = .ok (.getfield 23, 3) := by decide +kernel
theorem dX0_slide_93 : decode cX0_slide 93 = .ok (.iload 8, 2) := by decide +kernel
theorem dX0_slide_95 : decode cX0_slide 95 = .ok (.iload 12, 2) := by decide +kernel
theorem dX0_slide_97 : decode cX0_slide 97 = .ok (.iastore, 1) := by decide +kernel
theorem dX0_slide_98 : decode cX0_slide 98 = .ok (.iinc 8 1, 3) := by decide +kernel
theorem dX0_slide_101 : decode cX0_slide 101 = .ok (.iload 7, 2) := by decide +kernel
theorem dX0_slide_103 : decode cX0_slide 103 = .ok (.iload 8, 2) := by decide +kernel
theorem dX0_slide_105 : decode cX0_slide 105 = .ok (.if_icmp .ge 21, 3) := by decide +kernel
theorem dX0_slide_108 : decode cX0_slide 108 = .ok (.aload_n 0, 1) := by decide +kernel
theorem dX0_slide_109 : decode cX0_slide 109 = .ok (.getfield 20, 3) := by decide +kernel
theorem dX0_slide_112 : decode cX0_slide 112 = .ok (.iload 7, 2) := by decide +kernel
theorem dX0_slide_114 : decode cX0_slide 114 = .ok (.iaload, 1) := by decide +kernel
theorem dX0_slide_115 : decode cX0_slide 115 = .ok (.iload 10, 2) := by decide +kernel
theorem dX0_slide_117 : decode cX0_slide 117 = .ok (.iload 5, 2) := by decide +kernel
theorem dX0_slide_119 : decode cX0_slide 119 = .ok (.isub, 1) := by decide +kernel
theorem dX0_slide_120 : decode cX0_slide 120 = .ok (.if_icmp .ge 6, 3) := by decide +kernel
theorem dX0_slide_123 : decode cX0_slide 123 = .ok (.iinc 7 1, 3) := by decide +kernel
theorem dX0_slide_126 : decode cX0_slide 126 = .ok (.aload_n 2, 1) := by decide +kernel
theorem dX0_slide_127 : decode cX0_slide 127 = .ok (.iload 11, 2) := by decide +kernel
theorem dX0_slide_129 : decode cX0_slide 129 = .ok (.iload 7, 2) := by decide +kernel
theorem dX0_slide_131 : decode cX0_slide 131 = .ok (.iload 8, 2) := by decide +kernel
theorem dX0_slide_133 : decode cX0_slide 133 = .ok (.if_icmp .ge 16, 3) := by decide +kernel
theorem dX0_slide_136 : decode cX0_slide 136 = .ok (.aload_n 0, 1) := by decide +kernel
theorem dX0_slide_137 : decode cX0_slide 137 = .ok (.getfield 23, 3) := by decide +kernel
theorem dX0_slide_140 : decode cX0_slide 140 = .ok (.iload 7, 2) := by decide +kernel
theorem dX0_slide_142 : decode cX0_slide 142 = .ok (.iaload, 1) := by decide +kernel
theorem dX0_slide_143 : decode cX0_slide 143 = .ok (.iload 10, 2) := by decide +kernel
theorem dX0_slide_145 : decode cX0_slide 145 = .ok (.iadd, 1) := by decide +kernel
theorem dX0_slide_146 : decode cX0_slide 146 = .ok (.goto 4, 3) := by decide +kernel
theorem dX0_slide_149 : decode cX0_slide 149 = .ok (.iconst (-1), 1) := by decide +kernel
theorem dX0_slide_150 : decode cX0_slide 150 = .ok (.iastore, 1) := by decide +kernel
theorem dX0_slide_151 : decode cX0_slide 151 = .ok (.iinc 10 1, 3) := by decide +kernel
theorem dX0_slide_154 : decode cX0_slide 154 = .ok (.goto (-134), 3) := by decide +kernel
theorem dX0_slide_157 : decode cX0_slide 157 = .ok (.return_, 1) := by decide +kernel
theorem dX0_writeRow_0 : decode cX0_writeRow 0 = .ok (.aload_n 0, 1) := by decide +kernel
theorem dX0_writeRow_1 : decode cX0_writeRow 1 = .ok (.getfield 9, 3) := by decide +kernel
theorem dX0_writeRow_4 : decode cX0_writeRow 4 = .ok (.iconst 0, 1) := by decide +kernel
theorem dX0_writeRow_5 : decode cX0_writeRow 5 = .ok (.invokestatic 30, 3) := by decide +kernel
theorem dX0_writeRow_8 : decode cX0_writeRow 8 = .ok (.iload_n 3, 1) := by decide +kernel
theorem dX0_writeRow_9 : decode cX0_writeRow 9 = .ok (.istore 4, 2) := by decide +kernel
theorem dX0_writeRow_11 : decode cX0_writeRow 11 = .ok (.aload_n 1, 1) := by decide +kernel
theorem dX0_writeRow_12 : decode cX0_writeRow 12 = .ok (.getfield 36, 3) := by decide +kernel
theorem dX0_writeRow_15 : decode cX0_writeRow 15 = .ok (.istore 5, 2) := by decide +kernel
theorem dX0_writeRow_17 : decode cX0_writeRow 17 = .ok (.iload 5, 2) := by decide +kernel
theorem dX0_writeRow_19 : decode cX0_writeRow 19 = .ok (.ifCond .le 99, 3) := by decide +kernel
theorem dX0_writeRow_22 : decode cX0_writeRow 22 = .ok (.aload_n 1, 1) := by decide +kernel
theorem dX0_writeRow_23 : decode cX0_writeRow 23 = .ok (.getfield 42, 3) := by decide +kernel
theorem dX0_writeRow_26 : decode cX0_writeRow 26 = .ok (.aload_n 1, 1) := by decide +kernel
theorem dX0_writeRow_27 : decode cX0_writeRow 27 = .ok (.getfield 36, 3) := by decide +kernel
theorem dX0_writeRow_30 : decode cX0_writeRow 30 = .ok (.iload 5, 2) := by decide +kernel
theorem dX0_writeRow_32 : decode cX0_writeRow 32 = .ok (.isub, 1) := by decide +kernel
theorem dX0_writeRow_33 : decode cX0_writeRow 33 = .ok (.iaload, 1) := by decide +kernel
theorem dX0_writeRow_34 : decode cX0_writeRow 34 = .ok (.istore 6, 2) := by decide +kernel
theorem dX0_writeRow_36 : decode cX0_writeRow 36 = .ok (.aload_n 1, 1) := by decide +kernel
theorem dX0_writeRow_37 : decode cX0_writeRow 37 = .ok (.getfield 45, 3) := by decide +kernel
theorem dX0_writeRow_40 : decode cX0_writeRow 40 = .ok (.iload 6, 2) := by decide +kernel
theorem dX0_writeRow_42 : decode cX0_writeRow 42 = .ok (.iaload, 1) := by decide +kernel
theorem dX0_writeRow_43 : decode cX0_writeRow 43 = .ok (.istore 7, 2) := by decide +kernel
theorem dX0_writeRow_45 : decode cX0_writeRow 45 = .ok (.aload_n 2, 1) := by decide +kernel
theorem dX0_writeRow_46 : decode cX0_writeRow 46 = .ok (.iload 6, 2) := by decide +kernel
theorem dX0_writeRow_48 : decode cX0_writeRow 48 = .ok (.iaload, 1) := by decide +kernel
theorem dX0_writeRow_49 : decode cX0_writeRow 49 = .ok (.iload 4, 2) := by decide +kernel
theorem dX0_writeRow_51 : decode cX0_writeRow 51 = .ok (.iload 7, 2) := by decide +kernel
theorem dX0_writeRow_53 : decode cX0_writeRow 53 = .ok (.invokestatic 60, 3) := by decide +kernel
theorem dX0_writeRow_56 : decode cX0_writeRow 56 = .ok (.invokestatic 64, 3) := by decide +kernel
theorem dX0_writeRow_59 : decode cX0_writeRow 59 = .ok (.istore 8, 2) := by decide +kernel
theorem dX0_writeRow_61 : decode cX0_writeRow 61 = .ok (.iload 8, 2) := by decide +kernel
theorem dX0_writeRow_63 : decode cX0_writeRow 63 = .ok (.ifCond .le 30, 3) := by decide +kernel
theorem dX0_writeRow_66 : decode cX0_writeRow 66 = .ok (.aload_n 0, 1) := by decide +kernel
theorem dX0_writeRow_67 : decode cX0_writeRow 67 = .ok (.iload 5, 2) := by decide +kernel
theorem dX0_writeRow_69 : decode cX0_writeRow 69 = .ok (.iload 4, 2) := by decide +kernel
theorem dX0_writeRow_71 : decode cX0_writeRow 71 = .ok (.iload 4, 2) := by decide +kernel
theorem dX0_writeRow_73 : decode cX0_writeRow 73 = .ok (.iload 8, 2) := by decide +kernel
theorem dX0_writeRow_75 : decode cX0_writeRow 75 = .ok (.iload 7, 2) := by decide +kernel
theorem dX0_writeRow_77 : decode cX0_writeRow 77 = .ok (.imul, 1) := by decide +kernel
theorem dX0_writeRow_78 : decode cX0_writeRow 78 = .ok (.isub, 1) := by decide +kernel
theorem dX0_writeRow_79 : decode cX0_writeRow 79 = .ok (.iload 8, 2) := by decide +kernel
theorem dX0_writeRow_81 : decode cX0_writeRow 81 = .ok (.invokevirtual 69, 3) := by decide +kernel
theorem dX0_writeRow_84 : decode cX0_writeRow 84 = .ok (.ifCond .ne 9, 3) := by decide +kernel
theorem dX0_writeRow_87 : decode cX0_writeRow 87 = .ok (.iinc 8 (-1), 3) := by decide +kernel
theorem dX0_writeRow_90 : decode cX0_writeRow 90 = .ok (.goto (-29), 3) := by decide +kernel
theorem dX0_writeRow_93 : decode cX0_writeRow 93 = .ok (.aload_n 0, 1) := by decide +kernel
theorem dX0_writeRow_94 : decode cX0_writeRow 94 = .ok (.getfield 9, 3) := by decide +kernel
theorem dX0_writeRow_97 : decode cX0_writeRow 97 = .ok (.iload 6, 2) := by decide +kernel
theorem dX0_writeRow_99 : decode cX0_writeRow 99 = .ok (.iload 8, 2) := by decide +kernel
theorem dX0_writeRow_101 : decode cX0_writeRow 101 = .ok (.iastore, 1) := by decide +kernel
theorem dX0_writeRow_102 : decode cX0_writeRow 102 = .ok (.iload 4, 2) := by decide +kernel
theorem dX0_writeRow_104 : decode cX0_writeRow 104 = .ok (.iload 8, 2) := by decide +kernel
theorem dX0_writeRow_106 : decode cX0_writeRow 106 = .ok (.iload 7, 2) := by decide +kernel
theorem dX0_writeRow_108 : decode cX0_writeRow 108 = .ok (.imul, 1) := by decide +kernel
theorem dX0_writeRow_109 : decode cX0_writeRow 109 = .ok (.isub, 1) := by decide +kernel
theorem dX0_writeRow_110 : decode cX0_writeRow 110 = .ok (.istore 4, 2) := by decide +kernel
theorem dX0_writeRow_112 : decode cX0_writeRow 112 = .ok (.iinc 5 (-1), 3) := by decide +kernel
theorem dX0_writeRow_115 : decode cX0_writeRow 115 = .ok (.goto (-98), 3) := by decide +kernel
theorem dX0_writeRow_118 : decode cX0_writeRow 118 = .ok (.return_, 1) := by decide +kernel
theorem dX0_leadsOn_0 : decode cX0_leadsOn 0 = .ok (.aload_n 0, 1) := by decide +kernel
theorem dX0_leadsOn_1 : decode cX0_leadsOn 1 = .ok (.getfield 17, 3) := by decide +kernel
theorem dX0_leadsOn_4 : decode cX0_leadsOn 4 = .ok (.iload_n 1, 1) := by decide +kernel
theorem dX0_leadsOn_5 : decode cX0_leadsOn 5 = .ok (.iconst 1, 1) := by decide +kernel
theorem dX0_leadsOn_6 : decode cX0_leadsOn 6 = .ok (.isub, 1) := by decide +kernel
theorem dX0_leadsOn_7 : decode cX0_leadsOn 7 = .ok (.aaload, 1) := by decide +kernel
theorem dX0_leadsOn_8 : decode cX0_leadsOn 8 = .ok (.iload_n 3, 1) := by decide +kernel
theorem dX0_leadsOn_9 : decode cX0_leadsOn 9 = .ok (.iaload, 1) := by decide +kernel
theorem dX0_leadsOn_10 : decode cX0_leadsOn 10 = .ok (.iconst (-1), 1) := by decide +kernel
theorem dX0_leadsOn_11 : decode cX0_leadsOn 11 = .ok (.if_icmp .eq 31, 3) := by decide +kernel
theorem dX0_leadsOn_14 : decode cX0_leadsOn 14 = .ok (.aload_n 0, 1) := by decide +kernel
theorem dX0_leadsOn_15 : decode cX0_leadsOn 15 = .ok (.getfield 17, 3) := by decide +kernel
theorem dX0_leadsOn_18 : decode cX0_leadsOn 18 = .ok (.iload_n 1, 1) := by decide +kernel
theorem dX0_leadsOn_19 : decode cX0_leadsOn 19 = .ok (.iconst 1, 1) := by decide +kernel
theorem dX0_leadsOn_20 : decode cX0_leadsOn 20 = .ok (.isub, 1) := by decide +kernel
theorem dX0_leadsOn_21 : decode cX0_leadsOn 21 = .ok (.aaload, 1) := by decide +kernel
theorem dX0_leadsOn_22 : decode cX0_leadsOn 22 = .ok (.iload_n 3, 1) := by decide +kernel
theorem dX0_leadsOn_23 : decode cX0_leadsOn 23 = .ok (.iaload, 1) := by decide +kernel
theorem dX0_leadsOn_24 : decode cX0_leadsOn 24 = .ok (.iload 4, 2) := by decide +kernel
theorem dX0_leadsOn_26 : decode cX0_leadsOn 26 = .ok (.iadd, 1) := by decide +kernel
theorem dX0_leadsOn_27 : decode cX0_leadsOn 27 = .ok (.aload_n 0, 1) := by decide +kernel
theorem dX0_leadsOn_28 : decode cX0_leadsOn 28 = .ok (.getfield 17, 3) := by decide +kernel
theorem dX0_leadsOn_31 : decode cX0_leadsOn 31 = .ok (.iload_n 1, 1) := by decide +kernel
theorem dX0_leadsOn_32 : decode cX0_leadsOn 32 = .ok (.aaload, 1) := by decide +kernel
theorem dX0_leadsOn_33 : decode cX0_leadsOn 33 = .ok (.iload_n 2, 1) := by decide +kernel
theorem dX0_leadsOn_34 : decode cX0_leadsOn 34 = .ok (.iaload, 1) := by decide +kernel
theorem dX0_leadsOn_35 : decode cX0_leadsOn 35 = .ok (.if_icmp .ne 7, 3) := by decide +kernel
theorem dX0_leadsOn_38 : decode cX0_leadsOn 38 = .ok (.iconst 1, 1) := by decide +kernel
theorem dX0_leadsOn_39 : decode cX0_leadsOn 39 = .ok (.goto 4, 3) := by decide +kernel
theorem dX0_leadsOn_42 : decode cX0_leadsOn 42 = .ok (.iconst 0, 1) := by decide +kernel
theorem dX0_leadsOn_43 : decode cX0_leadsOn 43 = .ok (.ireturn, 1) := by decide +kernel
theorem dX1_init_0 : decode cX1_init 0 = .ok (.aload_n 0, 1) := by decide +kernel
theorem dX1_init_1 : decode cX1_init 1 = .ok (.invokespecial 3, 3) := by decide +kernel
theorem dX1_init_4 : decode cX1_init 4 = .ok (.aload_n 0, 1) := by decide +kernel
theorem dX1_init_5 : decode cX1_init 5 = .ok (.iconst 0, 1) := by decide +kernel
theorem dX1_init_6 : decode cX1_init 6 = .ok (.putfield 9, 3) := by decide +kernel
theorem dX1_init_9 : decode cX1_init 9 = .ok (.aload_n 0, 1) := by decide +kernel
theorem dX1_init_10 : decode cX1_init 10 = .ok (.bipush 8, 2) := by decide +kernel
theorem dX1_init_12 : decode cX1_init 12 = .ok (.newarray .int, 2) := by decide +kernel
theorem dX1_init_14 : decode cX1_init 14 = .ok (.putfield 15, 3) := by decide +kernel
theorem dX1_init_17 : decode cX1_init 17 = .ok (.aload_n 0, 1) := by decide +kernel
theorem dX1_init_18 : decode cX1_init 18 = .ok (.bipush 8, 2) := by decide +kernel
theorem dX1_init_20 : decode cX1_init 20 = .ok (.newarray .int, 2) := by decide +kernel
theorem dX1_init_22 : decode cX1_init 22 = .ok (.putfield 19, 3) := by decide +kernel
theorem dX1_init_25 : decode cX1_init 25 = .ok (.aload_n 0, 1) := by decide +kernel
theorem dX1_init_26 : decode cX1_init 26 = .ok (.sipush 2001, 3) := by decide +kernel
theorem dX1_init_29 : decode cX1_init 29 = .ok (.newarray .int, 2) := by decide +kernel
theorem dX1_init_31 : decode cX1_init 31 = .ok (.putfield 22, 3) := by decide +kernel
theorem dX1_init_34 : decode cX1_init 34 = .ok (.aload_n 0, 1) := by decide +kernel
theorem dX1_init_35 : decode cX1_init 35 = .ok (.getfield 22, 3) := by decide +kernel
theorem dX1_init_38 : decode cX1_init 38 = .ok (.iconst (-1), 1) := by decide +kernel
theorem dX1_init_39 : decode cX1_init 39 = .ok (.invokestatic 25, 3) := by decide +kernel
theorem dX1_init_42 : decode cX1_init 42 = .ok (.aload_n 0, 1) := by decide +kernel
theorem dX1_init_43 : decode cX1_init 43 = .ok (.getfield 22, 3) := by decide +kernel
theorem dX1_init_46 : decode cX1_init 46 = .ok (.iconst 0, 1) := by decide +kernel
theorem dX1_init_47 : decode cX1_init 47 = .ok (.iconst 0, 1) := by decide +kernel
theorem dX1_init_48 : decode cX1_init 48 = .ok (.iastore, 1) := by decide +kernel
theorem dX1_init_49 : decode cX1_init 49 = .ok (.return_, 1) := by decide +kernel
theorem dX1_copyFrom_0 : decode cX1_copyFrom 0 = .ok (.aload_n 0, 1) := by decide +kernel
theorem dX1_copyFrom_1 : decode cX1_copyFrom 1 = .ok (.aload_n 1, 1) := by decide +kernel
theorem dX1_copyFrom_2 : decode cX1_copyFrom 2 = .ok (.getfield 9, 3) := by decide +kernel
theorem dX1_copyFrom_5 : decode cX1_copyFrom 5 = .ok (.putfield 9, 3) := by decide +kernel
theorem dX1_copyFrom_8 : decode cX1_copyFrom 8 = .ok (.aload_n 1, 1) := by decide +kernel
theorem dX1_copyFrom_9 : decode cX1_copyFrom 9 = .ok (.getfield 15, 3) := by decide +kernel
theorem dX1_copyFrom_12 : decode cX1_copyFrom 12 = .ok (.iconst 0, 1) := by decide +kernel
theorem dX1_copyFrom_13 : decode cX1_copyFrom 13 = .ok (.aload_n 0, 1) := by decide +kernel
theorem dX1_copyFrom_14 : decode cX1_copyFrom 14 = .ok (.getfield 15, 3) := by decide +kernel
theorem dX1_copyFrom_17 : decode cX1_copyFrom 17 = .ok (.iconst 0, 1) := by decide +kernel
theorem dX1_copyFrom_18 : decode cX1_copyFrom 18 = .ok (.bipush 8, 2) := by decide +kernel
theorem dX1_copyFrom_20 : decode cX1_copyFrom 20 = .ok (.invokestatic 31, 3) := by decide +kernel
theorem dX1_copyFrom_23 : decode cX1_copyFrom 23 = .ok (.aload_n 1, 1) := by decide +kernel
theorem dX1_copyFrom_24 : decode cX1_copyFrom 24 = .ok (.getfield 19, 3) := by decide +kernel
theorem dX1_copyFrom_27 : decode cX1_copyFrom 27 = .ok (.iconst 0, 1) := by decide +kernel
theorem dX1_copyFrom_28 : decode cX1_copyFrom 28 = .ok (.aload_n 0, 1) := by decide +kernel
theorem dX1_copyFrom_29 : decode cX1_copyFrom 29 = .ok (.getfield 19, 3) := by decide +kernel
theorem dX1_copyFrom_32 : decode cX1_copyFrom 32 = .ok (.iconst 0, 1) := by decide +kernel
theorem dX1_copyFrom_33 : decode cX1_copyFrom 33 = .ok (.bipush 8, 2) := by decide +kernel
theorem dX1_copyFrom_35 : decode cX1_copyFrom 35 = .ok (.invokestatic 31, 3) := by decide +kernel
theorem dX1_copyFrom_38 : decode cX1_copyFrom 38 = .ok (.aload_n 1, 1) := by decide +kernel
theorem dX1_copyFrom_39 : decode cX1_copyFrom 39 = .ok (.getfield 22, 3) := by decide +kernel
theorem dX1_copyFrom_42 : decode cX1_copyFrom 42 = .ok (.iconst 0, 1) := by decide +kernel
theorem dX1_copyFrom_43 : decode cX1_copyFrom 43 = .ok (.aload_n 0, 1) := by decide +kernel
theorem dX1_copyFrom_44 : decode cX1_copyFrom 44 = .ok (.getfield 22, 3) := by decide +kernel
theorem dX1_copyFrom_47 : decode cX1_copyFrom 47 = .ok (.iconst 0, 1) := by decide +kernel
theorem dX1_copyFrom_48 : decode cX1_copyFrom 48 = .ok (.sipush 2001, 3) := by decide +kernel
theorem dX1_copyFrom_51 : decode cX1_copyFrom 51 = .ok (.invokestatic 31, 3) := by decide +kernel
theorem dX1_copyFrom_54 : decode cX1_copyFrom 54 = .ok (.return_, 1) := by decide +kernel
theorem dX1_isCoin_0 : decode cX1_isCoin 0 = .ok (.iconst 0, 1) := by decide +kernel
theorem dX1_isCoin_1 : decode cX1_isCoin 1 = .ok (.iload_n 1, 1) := by decide +kernel
theorem dX1_isCoin_2 : decode cX1_isCoin 2 = .ok (.aload_n 0, 1) := by decide +kernel
theorem dX1_isCoin_3 : decode cX1_isCoin 3 = .ok (.getfield 9, 3) := by decide +kernel
theorem dX1_isCoin_6 : decode cX1_isCoin 6 = .ok (.iconst 1, 1) := by decide +kernel
theorem dX1_isCoin_7 : decode cX1_isCoin 7 = .ok (.isub, 1) := by decide +kernel
theorem dX1_isCoin_8 : decode cX1_isCoin 8 = .ok (.invokestatic 37, 3) := by decide +kernel
theorem dX1_isCoin_11 : decode cX1_isCoin 11 = .ok (.ireturn, 1) := by decide +kernel
theorem dX1_add_0 : decode cX1_add 0 = .ok (.aload_n 0, 1) := by decide +kernel
theorem dX1_add_1 : decode cX1_add 1 = .ok (.getfield 9, 3) := by decide +kernel
theorem dX1_add_4 : decode cX1_add 4 = .ok (.bipush 8, 2) := by decide +kernel
theorem dX1_add_6 : decode cX1_add 6 = .ok (.if_icmp .ge 22, 3) := by decide +kernel
theorem dX1_add_9 : decode cX1_add 9 = .ok (.iconst 1, 1) := by decide +kernel
theorem dX1_add_10 : decode cX1_add 10 = .ok (.iload_n 1, 1) := by decide +kernel
theorem dX1_add_11 : decode cX1_add 11 = .ok (.sipush 1000, 3) := by decide +kernel
theorem dX1_add_14 : decode cX1_add 14 = .ok (.invokestatic 37, 3) := by decide +kernel
theorem dX1_add_17 : decode cX1_add 17 = .ok (.ifCond .eq 11, 3) := by decide +kernel
theorem dX1_add_20 : decode cX1_add 20 = .ok (.aload_n 0, 1) := by decide +kernel
theorem dX1_add_21 : decode cX1_add 21 = .ok (.iload_n 1, 1) := by decide +kernel
theorem dX1_add_22 : decode cX1_add 22 = .ok (.invokevirtual 41, 3) := by decide +kernel
theorem dX1_add_25 : decode cX1_add 25 = .ok (.ifCond .eq 5, 3) := by decide +kernel
theorem dX1_add_28 : decode cX1_add 28 = .ok (.iconst (-1), 1) := by decide +kernel
theorem dX1_add_29 : decode cX1_add 29 = .ok (.ireturn, 1) := by decide +kernel
theorem dX1_add_30 : decode cX1_add 30 = .ok (.aload_n 0, 1) := by decide +kernel
theorem dX1_add_31 : decode cX1_add 31 = .ok (.getfield 15, 3) := by decide +kernel
theorem dX1_add_34 : decode cX1_add 34 = .ok (.aload_n 0, 1) := by decide +kernel
theorem dX1_add_35 : decode cX1_add 35 = .ok (.getfield 9, 3) := by decide +kernel
theorem dX1_add_38 : decode cX1_add 38 = .ok (.iload_n 1, 1) := by decide +kernel
theorem dX1_add_39 : decode cX1_add 39 = .ok (.iastore, 1) := by decide +kernel
theorem dX1_add_40 : decode cX1_add 40 = .ok (.aload_n 0, 1) := by decide +kernel
theorem dX1_add_41 : decode cX1_add 41 = .ok (.aload_n 0, 1) := by decide +kernel
theorem dX1_add_42 : decode cX1_add 42 = .ok (.getfield 9, 3) := by decide +kernel
theorem dX1_add_45 : decode cX1_add 45 = .ok (.invokevirtual 45, 3) := by decide +kernel
theorem dX1_add_48 : decode cX1_add 48 = .ok (.aload_n 0, 1) := by decide +kernel
theorem dX1_add_49 : decode cX1_add 49 = .ok (.iload_n 1, 1) := by decide +kernel
theorem dX1_add_50 : decode cX1_add 50 = .ok (.invokevirtual 49, 3) := by decide +kernel
theorem dX1_add_53 : decode cX1_add 53 = .ok (.aload_n 0, 1) := by decide +kernel
theorem dX1_add_54 : decode cX1_add 54 = .ok (.dup, 1) := by decide +kernel
theorem dX1_add_55 : decode cX1_add 55 = .ok (.getfield 9, 3) := by decide +kernel
theorem dX1_add_58 : decode cX1_add 58 = .ok (.iconst 1, 1) := by decide +kernel
theorem dX1_add_59 : decode cX1_add 59 = .ok (.iadd, 1) := by decide +kernel
theorem dX1_add_60 : decode cX1_add 60 = .ok (.putfield 9, 3) := by decide +kernel
theorem dX1_add_63 : decode cX1_add 63 = .ok (.aload_n 0, 1) := by decide +kernel
theorem dX1_add_64 : decode cX1_add 64 = .ok (.getfield 9, 3) := by decide +kernel
theorem dX1_add_67 : decode cX1_add 67 = .ok (.iconst 1, 1) := by decide +kernel
theorem dX1_add_68 : decode cX1_add 68 = .ok (.isub, 1) := by decide +kernel
theorem dX1_add_69 : decode cX1_add 69 = .ok (.ireturn, 1) := by decide +kernel
theorem dX1_isValue_0 : decode cX1_isValue 0 = .ok (.iconst 0, 1) := by decide +kernel
theorem dX1_isValue_1 : decode cX1_isValue 1 = .ok (.istore_n 2, 1) := by decide +kernel
theorem dX1_isValue_2 : decode cX1_isValue 2 = .ok (.iload_n 2, 1) := by decide +kernel
theorem dX1_isValue_3 : decode cX1_isValue 3 = .ok (.aload_n 0, 1) := by decide +kernel
theorem dX1_isValue_4 : decode cX1_isValue 4 = .ok (.getfield 9, 3) := by decide +kernel
theorem dX1_isValue_7 : decode cX1_isValue 7 = .ok (.if_icmp .ge 21, 3) := by decide +kernel
theorem dX1_isValue_10 : decode cX1_isValue 10 = .ok (.aload_n 0, 1) := by decide +kernel
theorem dX1_isValue_11 : decode cX1_isValue 11 = .ok (.getfield 15, 3) := by decide +kernel
theorem dX1_isValue_14 : decode cX1_isValue 14 = .ok (.iload_n 2, 1) := by decide +kernel
theorem dX1_isValue_15 : decode cX1_isValue 15 = .ok (.iaload, 1) := by decide +kernel
theorem dX1_isValue_16 : decode cX1_isValue 16 = .ok (.iload_n 1, 1) := by decide +kernel
theorem dX1_isValue_17 : decode cX1_isValue 17 = .ok (.if_icmp .ne 5, 3) := by decide +kernel
theorem dX1_isValue_20 : decode cX1_isValue 20 = .ok (.iconst 1, 1) := by decide +kernel
theorem dX1_isValue_21 : decode cX1_isValue 21 = .ok (.ireturn, 1) := by decide +kernel
theorem dX1_isValue_22 : decode cX1_isValue 22 = .ok (.iinc 2 1, 3) := by decide +kernel
theorem dX1_isValue_25 : decode cX1_isValue 25 = .ok (.goto (-23), 3) := by decide +kernel
theorem dX1_isValue_28 : decode cX1_isValue 28 = .ok (.iconst 0, 1) := by decide +kernel
theorem dX1_isValue_29 : decode cX1_isValue 29 = .ok (.ireturn, 1) := by decide +kernel
theorem dX1_rank_0 : decode cX1_rank 0 = .ok (.iload_n 1, 1) := by decide +kernel
theorem dX1_rank_1 : decode cX1_rank 1 = .ok (.istore_n 2, 1) := by decide +kernel
theorem dX1_rank_2 : decode cX1_rank 2 = .ok (.iload_n 2, 1) := by decide +kernel
theorem dX1_rank_3 : decode cX1_rank 3 = .ok (.ifCond .le 45, 3) := by decide +kernel
theorem dX1_rank_6 : decode cX1_rank 6 = .ok (.aload_n 0, 1) := by decide +kernel
theorem dX1_rank_7 : decode cX1_rank 7 = .ok (.getfield 15, 3) := by decide +kernel
theorem dX1_rank_10 : decode cX1_rank 10 = .ok (.aload_n 0, 1) := by decide +kernel
theorem dX1_rank_11 : decode cX1_rank 11 = .ok (.getfield 19, 3) := by decide +kernel
theorem dX1_rank_14 : decode cX1_rank 14 = .ok (.iload_n 2, 1) := by decide +kernel
theorem dX1_rank_15 : decode cX1_rank 15 = .ok (.iconst 1, 1) := by decide +kernel
theorem dX1_rank_16 : decode cX1_rank 16 = .ok (.isub, 1) := by decide +kernel
theorem dX1_rank_17 : decode cX1_rank 17 = .ok (.iaload, 1) := by decide +kernel
theorem dX1_rank_18 : decode cX1_rank 18 = .ok (.iaload, 1) := by decide +kernel
theorem dX1_rank_19 : decode cX1_rank 19 = .ok (.aload_n 0, 1) := by decide +kernel
theorem dX1_rank_20 : decode cX1_rank 20 = .ok (.getfield 15, 3) := by decide +kernel
theorem dX1_rank_23 : decode cX1_rank 23 = .ok (.iload_n 1, 1) := by decide +kernel
theorem dX1_rank_24 : decode cX1_rank 24 = .ok (.iaload, 1) := by decide +kernel
theorem dX1_rank_25 : decode cX1_rank 25 = .ok (.if_icmp .ge 23, 3) := by decide +kernel
theorem dX1_rank_28 : decode cX1_rank 28 = .ok (.aload_n 0, 1) := by decide +kernel
theorem dX1_rank_29 : decode cX1_rank 29 = .ok (.getfield 19, 3) := by decide +kernel
theorem dX1_rank_32 : decode cX1_rank 32 = .ok (.iload_n 2, 1) := by decide +kernel
theorem dX1_rank_33 : decode cX1_rank 33 = .ok (.aload_n 0, 1) := by decide +kernel
theorem dX1_rank_34 : decode cX1_rank 34 = .ok (.getfield 19, 3) := by decide +kernel
theorem dX1_rank_37 : decode cX1_rank 37 = .ok (.iload_n 2, 1) := by decide +kernel
theorem dX1_rank_38 : decode cX1_rank 38 = .ok (.iconst 1, 1) := by decide +kernel
theorem dX1_rank_39 : decode cX1_rank 39 = .ok (.isub, 1) := by decide +kernel
theorem dX1_rank_40 : decode cX1_rank 40 = .ok (.iaload, 1) := by decide +kernel
theorem dX1_rank_41 : decode cX1_rank 41 = .ok (.iastore, 1) := by decide +kernel
theorem dX1_rank_42 : decode cX1_rank 42 = .ok (.iinc 2 (-1), 3) := by decide +kernel
theorem dX1_rank_45 : decode cX1_rank 45 = .ok (.goto (-43), 3) := by decide +kernel
theorem dX1_rank_48 : decode cX1_rank 48 = .ok (.aload_n 0, 1) := by decide +kernel
theorem dX1_rank_49 : decode cX1_rank 49 = .ok (.getfield 19, 3) := by decide +kernel
theorem dX1_rank_52 : decode cX1_rank 52 = .ok (.iload_n 2, 1) := by decide +kernel
theorem dX1_rank_53 : decode cX1_rank 53 = .ok (.iload_n 1, 1) := by decide +kernel
theorem dX1_rank_54 : decode cX1_rank 54 = .ok (.iastore, 1) := by decide +kernel
theorem dX1_rank_55 : decode cX1_rank 55 = .ok (.return_, 1) := by decide +kernel
theorem dX1_improve_0 : decode cX1_improve 0 = .ok (.iload_n 1, 1) := by decide +kernel
theorem dX1_improve_1 : decode cX1_improve 1 = .ok (.istore_n 2, 1) := by decide +kernel
theorem dX1_improve_2 : decode cX1_improve 2 = .ok (.iload_n 2, 1) := by decide +kernel
theorem dX1_improve_3 : decode cX1_improve 3 = .ok (.sipush 2000, 3) := by decide +kernel
theorem dX1_improve_6 : decode cX1_improve 6 = .ok (.if_icmp .gt 54, 3) := by decide +kernel
theorem dX1_improve_9 : decode cX1_improve 9 = .ok (.aload_n 0, 1) := by decide +kernel
theorem dX1_improve_10 : decode cX1_improve 10 = .ok (.getfield 22, 3) := by decide +kernel
theorem dX1_improve_13 : decode cX1_improve 13 = .ok (.iload_n 2, 1) := by decide +kernel
theorem dX1_improve_14 : decode cX1_improve 14 = .ok (.iload_n 1, 1) := by decide +kernel
theorem dX1_improve_15 : decode cX1_improve 15 = .ok (.isub, 1) := by decide +kernel
theorem dX1_improve_16 : decode cX1_improve 16 = .ok (.iaload, 1) := by decide +kernel
theorem dX1_improve_17 : decode cX1_improve 17 = .ok (.istore_n 3, 1) := by decide +kernel
theorem dX1_improve_18 : decode cX1_improve 18 = .ok (.iload_n 3, 1) := by decide +kernel
theorem dX1_improve_19 : decode cX1_improve 19 = .ok (.iconst (-1), 1) := by decide +kernel
theorem dX1_improve_20 : decode cX1_improve 20 = .ok (.if_icmp .eq 34, 3) := by decide +kernel
theorem dX1_improve_23 : decode cX1_improve 23 = .ok (.aload_n 0, 1) := by decide +kernel
theorem dX1_improve_24 : decode cX1_improve 24 = .ok (.getfield 22, 3) := by decide +kernel
theorem dX1_improve_27 : decode cX1_improve 27 = .ok (.iload_n 2, 1) := by decide +kernel
theorem dX1_improve_28 : decode cX1_improve 28 = .ok (.iaload, 1) := by decide +kernel
theorem dX1_improve_29 : decode cX1_improve 29 = .ok (.iconst (-1), 1) := by decide +kernel
theorem dX1_improve_30 : decode cX1_improve 30 = .ok (.if_icmp .eq 15, 3) := by decide +kernel
theorem dX1_improve_33 : decode cX1_improve 33 = .ok (.iload_n 3, 1) := by decide +kernel
theorem dX1_improve_34 : decode cX1_improve 34 = .ok (.iconst 1, 1) := by decide +kernel
theorem dX1_improve_35 : decode cX1_improve 35 = .ok (.iadd, 1) := by decide +kernel
theorem dX1_improve_36 : decode cX1_improve 36 = .ok (.aload_n 0, 1) := by decide +kernel
theorem dX1_improve_37 : decode cX1_improve 37 = .ok (.getfield 22, 3) := by decide +kernel
theorem dX1_improve_40 : decode cX1_improve 40 = .ok (.iload_n 2, 1) := by decide +kernel
theorem dX1_improve_41 : decode cX1_improve 41 = .ok (.iaload, 1) := by decide +kernel
theorem dX1_improve_42 : decode cX1_improve 42 = .ok (.if_icmp .ge 12, 3) := by decide +kernel
theorem dX1_improve_45 : decode cX1_improve 45 = .ok (.aload_n 0, 1) := by decide +kernel
theorem dX1_improve_46 : decode cX1_improve 46 = .ok (.getfield 22, 3) := by decide +kernel
theorem dX1_improve_49 : decode cX1_improve 49 = .ok (.iload_n 2, 1) := by decide +kernel
theorem dX1_improve_50 : decode cX1_improve 50 = .ok (.iload_n 3, 1) := by decide +kernel
theorem dX1_improve_51 : decode cX1_improve 51 = .ok (.iconst 1, 1) := by decide +kernel
theorem dX1_improve_52 : decode cX1_improve 52 = .ok (.iadd, 1) := by decide +kernel
theorem dX1_improve_53 : decode cX1_improve 53 = .ok (.iastore, 1) := by decide +kernel
theorem dX1_improve_54 : decode cX1_improve 54 = .ok (.iinc 2 1, 3) := by decide +kernel
theorem dX1_improve_57 : decode cX1_improve 57 = .ok (.goto (-55), 3) := by decide +kernel
theorem dX1_improve_60 : decode cX1_improve 60 = .ok (.return_, 1) := by decide +kernel
theorem dX1_hasFewest_0 : decode cX1_hasFewest 0 = .ok (.iload_n 1, 1) := by decide +kernel
theorem dX1_hasFewest_1 : decode cX1_hasFewest 1 = .ok (.invokestatic 52, 3) := by decide +kernel
theorem dX1_hasFewest_4 : decode cX1_hasFewest 4 = .ok (.ifCond .eq 17, 3) := by decide +kernel
theorem dX1_hasFewest_7 : decode cX1_hasFewest 7 = .ok (.aload_n 0, 1) := by decide +kernel
theorem dX1_hasFewest_8 : decode cX1_hasFewest 8 = .ok (.getfield 22, 3) := by decide +kernel
theorem dX1_hasFewest_11 : decode cX1_hasFewest 11 = .ok (.iload_n 1, 1) := by decide +kernel
theorem dX1_hasFewest_12 : decode cX1_hasFewest 12 = .ok (.iaload, 1) := by decide +kernel
theorem dX1_hasFewest_13 : decode cX1_hasFewest 13 = .ok (.iconst (-1), 1) := by decide +kernel
theorem dX1_hasFewest_14 : decode cX1_hasFewest 14 = .ok (.if_icmp .eq 7, 3) := by decide +kernel
theorem dX1_hasFewest_17 : decode cX1_hasFewest 17 = .ok (.iconst 1, 1) := by decide +kernel
theorem dX1_hasFewest_18 : decode cX1_hasFewest 18 = .ok (.goto 4, 3) := by decide +kernel
theorem dX1_hasFewest_21 : decode cX1_hasFewest 21 = .ok (.iconst 0, 1) := by decide +kernel
theorem dX1_hasFewest_22 : decode cX1_hasFewest 22 = .ok (.ireturn, 1) := by decide +kernel
theorem dX1_writeFewest_0 : decode cX1_writeFewest 0 = .ok (.iload_n 1, 1) := by decide +kernel
theorem dX1_writeFewest_1 : decode cX1_writeFewest 1 = .ok (.istore_n 3, 1) := by decide +kernel
theorem dX1_writeFewest_2 : decode cX1_writeFewest 2 = .ok (.iconst 0, 1) := by decide +kernel
theorem dX1_writeFewest_3 : decode cX1_writeFewest 3 = .ok (.istore 4, 2) := by decide +kernel
theorem dX1_writeFewest_5 : decode cX1_writeFewest 5 = .ok (.iload 4, 2) := by decide +kernel
theorem dX1_writeFewest_7 : decode cX1_writeFewest 7 = .ok (.aload_n 0, 1) := by decide +kernel
theorem dX1_writeFewest_8 : decode cX1_writeFewest 8 = .ok (.getfield 9, 3) := by decide +kernel
theorem dX1_writeFewest_11 : decode cX1_writeFewest 11 = .ok (.if_icmp .ge 83, 3) := by decide +kernel
theorem dX1_writeFewest_14 : decode cX1_writeFewest 14 = .ok (.aload_n 0, 1) := by decide +kernel
theorem dX1_writeFewest_15 : decode cX1_writeFewest 15 = .ok (.getfield 15, 3) := by decide +kernel
theorem dX1_writeFewest_18 : decode cX1_writeFewest 18 = .ok (.aload_n 0, 1) := by decide +kernel
theorem dX1_writeFewest_19 : decode cX1_writeFewest 19 = .ok (.getfield 19, 3) := by decide +kernel
theorem dX1_writeFewest_22 : decode cX1_writeFewest 22 = .ok (.iload 4, 2) := by decide +kernel
theorem dX1_writeFewest_24 : decode cX1_writeFewest 24 = .ok (.iaload, 1) := by decide +kernel
theorem dX1_writeFewest_25 : decode cX1_writeFewest 25 = .ok (.iaload, 1) := by decide +kernel
theorem dX1_writeFewest_26 : decode cX1_writeFewest 26 = .ok (.istore 5, 2) := by decide +kernel
theorem dX1_writeFewest_28 : decode cX1_writeFewest 28 = .ok (.iload_n 3, 1) := by decide +kernel
theorem dX1_writeFewest_29 : decode cX1_writeFewest 29 = .ok (.iload 5, 2) := by decide +kernel
theorem dX1_writeFewest_31 : decode cX1_writeFewest 31 = .ok (.invokestatic 55, 3) := by decide +kernel
theorem dX1_writeFewest_34 : decode cX1_writeFewest 34 = .ok (.istore 6, 2) := by decide +kernel
theorem dX1_writeFewest_36 : decode cX1_writeFewest 36 = .ok (.iconst 0, 1) := by decide +kernel
theorem dX1_writeFewest_37 : decode cX1_writeFewest 37 = .ok (.istore 7, 2) := by decide +kernel
theorem dX1_writeFewest_39 : decode cX1_writeFewest 39 = .ok (.iload 7, 2) := by decide +kernel
theorem dX1_writeFewest_41 : decode cX1_writeFewest 41 = .ok (.iload 6, 2) := by decide +kernel
theorem dX1_writeFewest_43 : decode cX1_writeFewest 43 = .ok (.if_icmp .ge 34, 3) := by decide +kernel
theorem dX1_writeFewest_46 : decode cX1_writeFewest 46 = .ok (.aload_n 0, 1) := by decide +kernel
theorem dX1_writeFewest_47 : decode cX1_writeFewest 47 = .ok (.getfield 22, 3) := by decide +kernel
theorem dX1_writeFewest_50 : decode cX1_writeFewest 50 = .ok (.iload_n 3, 1) := by decide +kernel
theorem dX1_writeFewest_51 : decode cX1_writeFewest 51 = .ok (.iload 5, 2) := by decide +kernel
theorem dX1_writeFewest_53 : decode cX1_writeFewest 53 = .ok (.isub, 1) := by decide +kernel
theorem dX1_writeFewest_54 : decode cX1_writeFewest 54 = .ok (.iaload, 1) := by decide +kernel
theorem dX1_writeFewest_55 : decode cX1_writeFewest 55 = .ok (.aload_n 0, 1) := by decide +kernel
theorem dX1_writeFewest_56 : decode cX1_writeFewest 56 = .ok (.getfield 22, 3) := by decide +kernel
theorem dX1_writeFewest_59 : decode cX1_writeFewest 59 = .ok (.iload_n 3, 1) := by decide +kernel
theorem dX1_writeFewest_60 : decode cX1_writeFewest 60 = .ok (.iaload, 1) := by decide +kernel
theorem dX1_writeFewest_61 : decode cX1_writeFewest 61 = .ok (.iconst 1, 1) := by decide +kernel
theorem dX1_writeFewest_62 : decode cX1_writeFewest 62 = .ok (.isub, 1) := by decide +kernel
theorem dX1_writeFewest_63 : decode cX1_writeFewest 63 = .ok (.if_icmp .ne 14, 3) := by decide +kernel
theorem dX1_writeFewest_66 : decode cX1_writeFewest 66 = .ok (.iload_n 3, 1) := by decide +kernel
theorem dX1_writeFewest_67 : decode cX1_writeFewest 67 = .ok (.iload 5, 2) := by decide +kernel
theorem dX1_writeFewest_69 : decode cX1_writeFewest 69 = .ok (.isub, 1) := by decide +kernel
theorem dX1_writeFewest_70 : decode cX1_writeFewest 70 = .ok (.istore_n 3, 1) := by decide +kernel
theorem dX1_writeFewest_71 : decode cX1_writeFewest 71 = .ok (.iinc 7 1, 3) := by decide +kernel
theorem dX1_writeFewest_74 : decode cX1_writeFewest 74 = .ok (.goto (-35), 3) := by decide +kernel
theorem dX1_writeFewest_77 : decode cX1_writeFewest 77 = .ok (.aload_n 2, 1) := by decide +kernel
theorem dX1_writeFewest_78 : decode cX1_writeFewest 78 = .ok (.aload_n 0, 1) := by decide +kernel
theorem dX1_writeFewest_79 : decode cX1_writeFewest 79 = .ok (.getfield 19, 3) := by decide +kernel
theorem dX1_writeFewest_82 : decode cX1_writeFewest 82 = .ok (.iload 4, 2) := by decide +kernel
theorem dX1_writeFewest_84 : decode cX1_writeFewest 84 = .ok (.iaload, 1) := by decide +kernel
theorem dX1_writeFewest_85 : decode cX1_writeFewest 85 = .ok (.iload 7, 2) := by decide +kernel
theorem dX1_writeFewest_87 : decode cX1_writeFewest 87 = .ok (.iastore, 1) := by decide +kernel
theorem dX1_writeFewest_88 : decode cX1_writeFewest 88 = .ok (.iinc 4 1, 3) := by decide +kernel
theorem dX1_writeFewest_91 : decode cX1_writeFewest 91 = .ok (.goto (-86), 3) := by decide +kernel
theorem dX1_writeFewest_94 : decode cX1_writeFewest 94 = .ok (.return_, 1) := by decide +kernel
theorem dX1_countGreedily_0 : decode cX1_countGreedily 0 = .ok (.iload_n 1, 1) := by decide +kernel
theorem dX1_countGreedily_1 : decode cX1_countGreedily 1 = .ok (.istore_n 2, 1) := by decide +kernel
theorem dX1_countGreedily_2 : decode cX1_countGreedily 2 = .ok (.iconst 0, 1) := by decide +kernel
theorem dX1_countGreedily_3 : decode cX1_countGreedily 3 = .ok (.istore_n 3, 1) := by decide +kernel
theorem dX1_countGreedily_4 : decode cX1_countGreedily 4 = .ok (.iconst 0, 1) := by decide +kernel
theorem dX1_countGreedily_5 : decode cX1_countGreedily 5 = .ok (.istore 4, 2) := by decide +kernel
theorem dX1_countGreedily_7 : decode cX1_countGreedily 7 = .ok (.iload 4, 2) := by decide +kernel
theorem dX1_countGreedily_9 : decode cX1_countGreedily 9 = .ok (.aload_n 0, 1) := by decide +kernel
theorem dX1_countGreedily_10 : decode cX1_countGreedily 10 = .ok (.getfield 9, 3) := by decide +kernel
theorem dX1_countGreedily_13 : decode cX1_countGreedily 13 = .ok (.if_icmp .ge 48, 3) := by decide +kernel
theorem dX1_countGreedily_16 : decode cX1_countGreedily 16 = .ok (.iload_n 2, 1) := by decide +kernel
theorem dX1_countGreedily_17 : decode cX1_countGreedily 17 = .ok (.ifCond .le 44, 3) := by decide +kernel
theorem dX1_countGreedily_20 : decode cX1_countGreedily 20 = .ok (.aload_n 0, 1) := by decide +kernel
theorem dX1_countGreedily_21 : decode cX1_countGreedily 21 = .ok (.getfield 15, 3) := by decide +kernel
theorem dX1_countGreedily_24 : decode cX1_countGreedily 24 = .ok (.aload_n 0, 1) := by decide +kernel
theorem dX1_countGreedily_25 : decode cX1_countGreedily 25 = .ok (.getfield 19, 3) := by decide +kernel
theorem dX1_countGreedily_28 : decode cX1_countGreedily 28 = .ok (.iload 4, 2) := by decide +kernel
theorem dX1_countGreedily_30 : decode cX1_countGreedily 30 = .ok (.iaload, 1) := by decide +kernel
theorem dX1_countGreedily_31 : decode cX1_countGreedily 31 = .ok (.iaload, 1) := by decide +kernel
theorem dX1_countGreedily_32 : decode cX1_countGreedily 32 = .ok (.istore 5, 2) := by decide +kernel
theorem dX1_countGreedily_34 : decode cX1_countGreedily 34 = .ok (.iload_n 2, 1) := by decide +kernel
theorem dX1_countGreedily_35 : decode cX1_countGreedily 35 = .ok (.iload 5, 2) := by decide +kernel
theorem dX1_countGreedily_37 : decode cX1_countGreedily 37 = .ok (.invokestatic 55, 3) := by decide +kernel
theorem dX1_countGreedily_40 : decode cX1_countGreedily 40 = .ok (.istore 6, 2) := by decide +kernel
theorem dX1_countGreedily_42 : decode cX1_countGreedily 42 = .ok (.iload_n 2, 1) := by decide +kernel
theorem dX1_countGreedily_43 : decode cX1_countGreedily 43 = .ok (.iload 6, 2) := by decide +kernel
theorem dX1_countGreedily_45 : decode cX1_countGreedily 45 = .ok (.iload 5, 2) := by decide +kernel
theorem dX1_countGreedily_47 : decode cX1_countGreedily 47 = .ok (.imul, 1) := by decide +kernel
theorem dX1_countGreedily_48 : decode cX1_countGreedily 48 = .ok (.isub, 1) := by decide +kernel
theorem dX1_countGreedily_49 : decode cX1_countGreedily 49 = .ok (.istore_n 2, 1) := by decide +kernel
theorem dX1_countGreedily_50 : decode cX1_countGreedily 50 = .ok (.iload_n 3, 1) := by decide +kernel
theorem dX1_countGreedily_51 : decode cX1_countGreedily 51 = .ok (.iload 6, 2) := by decide +kernel
theorem dX1_countGreedily_53 : decode cX1_countGreedily 53 = .ok (.iadd, 1) := by decide +kernel
theorem dX1_countGreedily_54 : decode cX1_countGreedily 54 = .ok (.istore_n 3, 1) := by decide +kernel
theorem dX1_countGreedily_55 : decode cX1_countGreedily 55 = .ok (.iinc 4 1, 3) := by decide +kernel
theorem dX1_countGreedily_58 : decode cX1_countGreedily 58 = .ok (.goto (-51), 3) := by decide +kernel
theorem dX1_countGreedily_61 : decode cX1_countGreedily 61 = .ok (.iload_n 2, 1) := by decide +kernel
theorem dX1_countGreedily_62 : decode cX1_countGreedily 62 = .ok (.ifCond .ne 7, 3) := by decide +kernel
theorem dX1_countGreedily_65 : decode cX1_countGreedily 65 = .ok (.iload_n 3, 1) := by decide +kernel
theorem dX1_countGreedily_66 : decode cX1_countGreedily 66 = .ok (.goto 4, 3) := by decide +kernel
theorem dX1_countGreedily_69 : decode cX1_countGreedily 69 = .ok (.iconst (-1), 1) := by decide +kernel
theorem dX1_countGreedily_70 : decode cX1_countGreedily 70 = .ok (.ireturn, 1) := by decide +kernel
theorem dX1_leastOdd_0 : decode cX1_leastOdd 0 = .ok (.iconst 0, 1) := by decide +kernel
theorem dX1_leastOdd_1 : decode cX1_leastOdd 1 = .ok (.istore_n 1, 1) := by decide +kernel
theorem dX1_leastOdd_2 : decode cX1_leastOdd 2 = .ok (.iload_n 1, 1) := by decide +kernel
theorem dX1_leastOdd_3 : decode cX1_leastOdd 3 = .ok (.sipush 2000, 3) := by decide +kernel
theorem dX1_leastOdd_6 : decode cX1_leastOdd 6 = .ok (.if_icmp .gt 35, 3) := by decide +kernel
theorem dX1_leastOdd_9 : decode cX1_leastOdd 9 = .ok (.aload_n 0, 1) := by decide +kernel
theorem dX1_leastOdd_10 : decode cX1_leastOdd 10 = .ok (.getfield 22, 3) := by decide +kernel
theorem dX1_leastOdd_13 : decode cX1_leastOdd 13 = .ok (.iload_n 1, 1) := by decide +kernel
theorem dX1_leastOdd_14 : decode cX1_leastOdd 14 = .ok (.iaload, 1) := by decide +kernel
theorem dX1_leastOdd_15 : decode cX1_leastOdd 15 = .ok (.iconst (-1), 1) := by decide +kernel
theorem dX1_leastOdd_16 : decode cX1_leastOdd 16 = .ok (.if_icmp .eq 19, 3) := by decide +kernel
theorem dX1_leastOdd_19 : decode cX1_leastOdd 19 = .ok (.aload_n 0, 1) := by decide +kernel
theorem dX1_leastOdd_20 : decode cX1_leastOdd 20 = .ok (.iload_n 1, 1) := by decide +kernel
theorem dX1_leastOdd_21 : decode cX1_leastOdd 21 = .ok (.invokevirtual 59, 3) := by decide +kernel
theorem dX1_leastOdd_24 : decode cX1_leastOdd 24 = .ok (.aload_n 0, 1) := by decide +kernel
theorem dX1_leastOdd_25 : decode cX1_leastOdd 25 = .ok (.getfield 22, 3) := by decide +kernel
theorem dX1_leastOdd_28 : decode cX1_leastOdd 28 = .ok (.iload_n 1, 1) := by decide +kernel
theorem dX1_leastOdd_29 : decode cX1_leastOdd 29 = .ok (.iaload, 1) := by decide +kernel
theorem dX1_leastOdd_30 : decode cX1_leastOdd 30 = .ok (.if_icmp .eq 5, 3) := by decide +kernel
theorem dX1_leastOdd_33 : decode cX1_leastOdd 33 = .ok (.iload_n 1, 1) := by decide +kernel
theorem dX1_leastOdd_34 : decode cX1_leastOdd 34 = .ok (.ireturn, 1) := by decide +kernel
theorem dX1_leastOdd_35 : decode cX1_leastOdd 35 = .ok (.iinc 1 1, 3) := by decide +kernel
theorem dX1_leastOdd_38 : decode cX1_leastOdd 38 = .ok (.goto (-36), 3) := by decide +kernel
theorem dX1_leastOdd_41 : decode cX1_leastOdd 41 = .ok (.iconst (-1), 1) := by decide +kernel
theorem dX1_leastOdd_42 : decode cX1_leastOdd 42 = .ok (.ireturn, 1) := by decide +kernel
theorem dX1_detail_0 : decode cX1_detail 0 = .ok (.iload_n 1, 1) := by decide +kernel
theorem dX1_detail_1 : decode cX1_detail 1 = .ok (.ifCond .ne 8, 3) := by decide +kernel
theorem dX1_detail_4 : decode cX1_detail 4 = .ok (.aload_n 0, 1) := by decide +kernel
theorem dX1_detail_5 : decode cX1_detail 5 = .ok (.getfield 9, 3) := by decide +kernel
theorem dX1_detail_8 : decode cX1_detail 8 = .ok (.ireturn, 1) := by decide +kernel
theorem dX1_detail_9 : decode cX1_detail 9 = .ok (.aload_n 0, 1) := by decide +kernel
theorem dX1_detail_10 : decode cX1_detail 10 = .ok (.iload_n 1, 1) := by decide +kernel
theorem dX1_detail_11 : decode cX1_detail 11 = .ok (.bipush 10, 2) := by decide +kernel
theorem dX1_detail_13 : decode cX1_detail 13 = .ok (.isub, 1) := by decide +kernel
theorem dX1_detail_14 : decode cX1_detail 14 = .ok (.invokevirtual 63, 3) := by decide +kernel
theorem dX1_detail_17 : decode cX1_detail 17 = .ok (.ifCond .eq 15, 3) := by decide +kernel
theorem dX1_detail_20 : decode cX1_detail 20 = .ok (.aload_n 0, 1) := by decide +kernel
theorem dX1_detail_21 : decode cX1_detail 21 = .ok (.getfield 15, 3) := by decide +kernel
theorem dX1_detail_24 : decode cX1_detail 24 = .ok (.iload_n 1, 1) := by decide +kernel
theorem dX1_detail_25 : decode cX1_detail 25 = .ok (.bipush 10, 2) := by decide +kernel
theorem dX1_detail_27 : decode cX1_detail 27 = .ok (.isub, 1) := by decide +kernel
theorem dX1_detail_28 : decode cX1_detail 28 = .ok (.iaload, 1) := by decide +kernel
theorem dX1_detail_29 : decode cX1_detail 29 = .ok (.goto 4, 3) := by decide +kernel
theorem dX1_detail_32 : decode cX1_detail 32 = .ok (.iconst (-1), 1) := by decide +kernel
theorem dX1_detail_33 : decode cX1_detail 33 = .ok (.ireturn, 1) := by decide +kernel
theorem dX2_init_0 : decode cX2_init 0 = .ok (.aload_n 0, 1) := by decide +kernel
theorem dX2_init_1 : decode cX2_init 1 = .ok (.invokespecial 3, 3) := by decide +kernel
theorem dX2_init_4 : decode cX2_init 4 = .ok (.aload_n 0, 1) := by decide +kernel
theorem dX2_init_5 : decode cX2_init 5 = .ok (.iconst 0, 1) := by decide +kernel
theorem dX2_init_6 : decode cX2_init 6 = .ok (.putfield 9, 3) := by decide +kernel
theorem dX2_init_9 : decode cX2_init 9 = .ok (.aload_n 0, 1) := by decide +kernel
theorem dX2_init_10 : decode cX2_init 10 = .ok (.bipush 20, 2) := by decide +kernel
theorem dX2_init_12 : decode cX2_init 12 = .ok (.newarray .int, 2) := by decide +kernel
theorem dX2_init_14 : decode cX2_init 14 = .ok (.putfield 15, 3) := by decide +kernel
theorem dX2_init_17 : decode cX2_init 17 = .ok (.aload_n 0, 1) := by decide +kernel
theorem dX2_init_18 : decode cX2_init 18 = .ok (.bipush 20, 2) := by decide +kernel
theorem dX2_init_20 : decode cX2_init 20 = .ok (.newarray .int, 2) := by decide +kernel
theorem dX2_init_22 : decode cX2_init 22 = .ok (.putfield 19, 3) := by decide +kernel
theorem dX2_init_25 : decode cX2_init 25 = .ok (.aload_n 0, 1) := by decide +kernel
theorem dX2_init_26 : decode cX2_init 26 = .ok (.bipush 20, 2) := by decide +kernel
theorem dX2_init_28 : decode cX2_init 28 = .ok (.newarray .int, 2) := by decide +kernel
theorem dX2_init_30 : decode cX2_init 30 = .ok (.putfield 22, 3) := by decide +kernel
theorem dX2_init_33 : decode cX2_init 33 = .ok (.aload_n 0, 1) := by decide +kernel
theorem dX2_init_34 : decode cX2_init 34 = .ok (.bipush 20, 2) := by decide +kernel
theorem dX2_init_36 : decode cX2_init 36 = .ok (.newarray .int, 2) := by decide +kernel
theorem dX2_init_38 : decode cX2_init 38 = .ok (.putfield 25, 3) := by decide +kernel
theorem dX2_init_41 : decode cX2_init 41 = .ok (.return_, 1) := by decide +kernel
theorem dX2_copyFrom_0 : decode cX2_copyFrom 0 = .ok (.aload_n 0, 1) := by decide +kernel
theorem dX2_copyFrom_1 : decode cX2_copyFrom 1 = .ok (.aload_n 1, 1) := by decide +kernel
theorem dX2_copyFrom_2 : decode cX2_copyFrom 2 = .ok (.getfield 9, 3) := by decide +kernel
theorem dX2_copyFrom_5 : decode cX2_copyFrom 5 = .ok (.putfield 9, 3) := by decide +kernel
theorem dX2_copyFrom_8 : decode cX2_copyFrom 8 = .ok (.aload_n 1, 1) := by decide +kernel
theorem dX2_copyFrom_9 : decode cX2_copyFrom 9 = .ok (.getfield 15, 3) := by decide +kernel
theorem dX2_copyFrom_12 : decode cX2_copyFrom 12 = .ok (.iconst 0, 1) := by decide +kernel
theorem dX2_copyFrom_13 : decode cX2_copyFrom 13 = .ok (.aload_n 0, 1) := by decide +kernel
theorem dX2_copyFrom_14 : decode cX2_copyFrom 14 = .ok (.getfield 15, 3) := by decide +kernel
theorem dX2_copyFrom_17 : decode cX2_copyFrom 17 = .ok (.iconst 0, 1) := by decide +kernel
theorem dX2_copyFrom_18 : decode cX2_copyFrom 18 = .ok (.bipush 20, 2) := by decide +kernel
theorem dX2_copyFrom_20 : decode cX2_copyFrom 20 = .ok (.invokestatic 28, 3) := by decide +kernel
theorem dX2_copyFrom_23 : decode cX2_copyFrom 23 = .ok (.aload_n 1, 1) := by decide +kernel
theorem dX2_copyFrom_24 : decode cX2_copyFrom 24 = .ok (.getfield 19, 3) := by decide +kernel
theorem dX2_copyFrom_27 : decode cX2_copyFrom 27 = .ok (.iconst 0, 1) := by decide +kernel
theorem dX2_copyFrom_28 : decode cX2_copyFrom 28 = .ok (.aload_n 0, 1) := by decide +kernel
theorem dX2_copyFrom_29 : decode cX2_copyFrom 29 = .ok (.getfield 19, 3) := by decide +kernel
theorem dX2_copyFrom_32 : decode cX2_copyFrom 32 = .ok (.iconst 0, 1) := by decide +kernel
theorem dX2_copyFrom_33 : decode cX2_copyFrom 33 = .ok (.bipush 20, 2) := by decide +kernel
theorem dX2_copyFrom_35 : decode cX2_copyFrom 35 = .ok (.invokestatic 28, 3) := by decide +kernel
theorem dX2_copyFrom_38 : decode cX2_copyFrom 38 = .ok (.aload_n 1, 1) := by decide +kernel
theorem dX2_copyFrom_39 : decode cX2_copyFrom 39 = .ok (.getfield 22, 3) := by decide +kernel
theorem dX2_copyFrom_42 : decode cX2_copyFrom 42 = .ok (.iconst 0, 1) := by decide +kernel
theorem dX2_copyFrom_43 : decode cX2_copyFrom 43 = .ok (.aload_n 0, 1) := by decide +kernel
theorem dX2_copyFrom_44 : decode cX2_copyFrom 44 = .ok (.getfield 22, 3) := by decide +kernel
theorem dX2_copyFrom_47 : decode cX2_copyFrom 47 = .ok (.iconst 0, 1) := by decide +kernel
theorem dX2_copyFrom_48 : decode cX2_copyFrom 48 = .ok (.bipush 20, 2) := by decide +kernel
theorem dX2_copyFrom_50 : decode cX2_copyFrom 50 = .ok (.invokestatic 28, 3) := by decide +kernel
theorem dX2_copyFrom_53 : decode cX2_copyFrom 53 = .ok (.aload_n 1, 1) := by decide +kernel
theorem dX2_copyFrom_54 : decode cX2_copyFrom 54 = .ok (.getfield 25, 3) := by decide +kernel
theorem dX2_copyFrom_57 : decode cX2_copyFrom 57 = .ok (.iconst 0, 1) := by decide +kernel
theorem dX2_copyFrom_58 : decode cX2_copyFrom 58 = .ok (.aload_n 0, 1) := by decide +kernel
theorem dX2_copyFrom_59 : decode cX2_copyFrom 59 = .ok (.getfield 25, 3) := by decide +kernel
theorem dX2_copyFrom_62 : decode cX2_copyFrom 62 = .ok (.iconst 0, 1) := by decide +kernel
theorem dX2_copyFrom_63 : decode cX2_copyFrom 63 = .ok (.bipush 20, 2) := by decide +kernel
theorem dX2_copyFrom_65 : decode cX2_copyFrom 65 = .ok (.invokestatic 28, 3) := by decide +kernel
theorem dX2_copyFrom_68 : decode cX2_copyFrom 68 = .ok (.return_, 1) := by decide +kernel
theorem dX2_add_0 : decode cX2_add 0 = .ok (.aload_n 0, 1) := by decide +kernel
theorem dX2_add_1 : decode cX2_add 1 = .ok (.getfield 9, 3) := by decide +kernel
theorem dX2_add_4 : decode cX2_add 4 = .ok (.bipush 20, 2) := by decide +kernel
theorem dX2_add_6 : decode cX2_add 6 = .ok (.if_icmp .lt 5, 3) := by decide +kernel
theorem dX2_add_9 : decode cX2_add 9 = .ok (.iconst (-1), 1) := by decide +kernel
theorem dX2_add_10 : decode cX2_add 10 = .ok (.ireturn, 1) := by decide +kernel
theorem dX2_add_11 : decode cX2_add 11 = .ok (.aload_n 0, 1) := by decide +kernel
theorem dX2_add_12 : decode cX2_add 12 = .ok (.getfield 15, 3) := by decide +kernel
theorem dX2_add_15 : decode cX2_add 15 = .ok (.aload_n 0, 1) := by decide +kernel
theorem dX2_add_16 : decode cX2_add 16 = .ok (.getfield 9, 3) := by decide +kernel
theorem dX2_add_19 : decode cX2_add 19 = .ok (.iload_n 1, 1) := by decide +kernel
theorem dX2_add_20 : decode cX2_add 20 = .ok (.iastore, 1) := by decide +kernel
theorem dX2_add_21 : decode cX2_add 21 = .ok (.aload_n 0, 1) := by decide +kernel
theorem dX2_add_22 : decode cX2_add 22 = .ok (.getfield 19, 3) := by decide +kernel
theorem dX2_add_25 : decode cX2_add 25 = .ok (.aload_n 0, 1) := by decide +kernel
theorem dX2_add_26 : decode cX2_add 26 = .ok (.getfield 9, 3) := by decide +kernel
theorem dX2_add_29 : decode cX2_add 29 = .ok (.iload_n 2, 1) := by decide +kernel
theorem dX2_add_30 : decode cX2_add 30 = .ok (.iastore, 1) := by decide +kernel
theorem dX2_add_31 : decode cX2_add 31 = .ok (.aload_n 0, 1) := by decide +kernel
theorem dX2_add_32 : decode cX2_add 32 = .ok (.getfield 22, 3) := by decide +kernel
theorem dX2_add_35 : decode cX2_add 35 = .ok (.aload_n 0, 1) := by decide +kernel
theorem dX2_add_36 : decode cX2_add 36 = .ok (.getfield 9, 3) := by decide +kernel
theorem dX2_add_39 : decode cX2_add 39 = .ok (.iload_n 3, 1) := by decide +kernel
theorem dX2_add_40 : decode cX2_add 40 = .ok (.iastore, 1) := by decide +kernel
theorem dX2_add_41 : decode cX2_add 41 = .ok (.aload_n 0, 1) := by decide +kernel
theorem dX2_add_42 : decode cX2_add 42 = .ok (.getfield 25, 3) := by decide +kernel
theorem dX2_add_45 : decode cX2_add 45 = .ok (.aload_n 0, 1) := by decide +kernel
theorem dX2_add_46 : decode cX2_add 46 = .ok (.getfield 9, 3) := by decide +kernel
theorem dX2_add_49 : decode cX2_add 49 = .ok (.iload 4, 2) := by decide +kernel
theorem dX2_add_51 : decode cX2_add 51 = .ok (.iastore, 1) := by decide +kernel
theorem dX2_add_52 : decode cX2_add 52 = .ok (.aload_n 0, 1) := by decide +kernel
theorem dX2_add_53 : decode cX2_add 53 = .ok (.dup, 1) := by decide +kernel
theorem dX2_add_54 : decode cX2_add 54 = .ok (.getfield 9, 3) := by decide +kernel
theorem dX2_add_57 : decode cX2_add 57 = .ok (.iconst 1, 1) := by decide +kernel
theorem dX2_add_58 : decode cX2_add 58 = .ok (.iadd, 1) := by decide +kernel
theorem dX2_add_59 : decode cX2_add 59 = .ok (.putfield 9, 3) := by decide +kernel
theorem dX2_add_62 : decode cX2_add 62 = .ok (.aload_n 0, 1) := by decide +kernel
theorem dX2_add_63 : decode cX2_add 63 = .ok (.getfield 9, 3) := by decide +kernel
theorem dX2_add_66 : decode cX2_add 66 = .ok (.ireturn, 1) := by decide +kernel
theorem dX3_init_0 : decode cX3_init 0 = .ok (.aload_n 0, 1) := by decide +kernel
theorem dX3_init_1 : decode cX3_init 1 = .ok (.invokespecial 3, 3) := by decide +kernel
theorem dX3_init_4 : decode cX3_init 4 = .ok (.aload_n 0, 1) := by decide +kernel
theorem dX3_init_5 : decode cX3_init 5 = .ok (.iconst 0, 1) := by decide +kernel
theorem dX3_init_6 : decode cX3_init 6 = .ok (.putfield 9, 3) := by decide +kernel
theorem dX3_init_9 : decode cX3_init 9 = .ok (.aload_n 0, 1) := by decide +kernel
theorem dX3_init_10 : decode cX3_init 10 = .ok (.bipush 14, 2) := by decide +kernel
theorem dX3_init_12 : decode cX3_init 12 = .ok (.newarray .int, 2) := by decide +kernel
theorem dX3_init_14 : decode cX3_init 14 = .ok (.putfield 15, 3) := by decide +kernel
theorem dX3_init_17 : decode cX3_init 17 = .ok (.aload_n 0, 1) := by decide +kernel
theorem dX3_init_18 : decode cX3_init 18 = .ok (.bipush 14, 2) := by decide +kernel
theorem dX3_init_20 : decode cX3_init 20 = .ok (.newarray .int, 2) := by decide +kernel
theorem dX3_init_22 : decode cX3_init 22 = .ok (.putfield 19, 3) := by decide +kernel
theorem dX3_init_25 : decode cX3_init 25 = .ok (.return_, 1) := by decide +kernel
theorem dX3_copyFrom_0 : decode cX3_copyFrom 0 = .ok (.aload_n 0, 1) := by decide +kernel
theorem dX3_copyFrom_1 : decode cX3_copyFrom 1 = .ok (.aload_n 1, 1) := by decide +kernel
theorem dX3_copyFrom_2 : decode cX3_copyFrom 2 = .ok (.getfield 9, 3) := by decide +kernel
theorem dX3_copyFrom_5 : decode cX3_copyFrom 5 = .ok (.putfield 9, 3) := by decide +kernel
theorem dX3_copyFrom_8 : decode cX3_copyFrom 8 = .ok (.aload_n 1, 1) := by decide +kernel
theorem dX3_copyFrom_9 : decode cX3_copyFrom 9 = .ok (.getfield 15, 3) := by decide +kernel
theorem dX3_copyFrom_12 : decode cX3_copyFrom 12 = .ok (.iconst 0, 1) := by decide +kernel
theorem dX3_copyFrom_13 : decode cX3_copyFrom 13 = .ok (.aload_n 0, 1) := by decide +kernel
theorem dX3_copyFrom_14 : decode cX3_copyFrom 14 = .ok (.getfield 15, 3) := by decide +kernel
theorem dX3_copyFrom_17 : decode cX3_copyFrom 17 = .ok (.iconst 0, 1) := by decide +kernel
theorem dX3_copyFrom_18 : decode cX3_copyFrom 18 = .ok (.bipush 14, 2) := by decide +kernel
theorem dX3_copyFrom_20 : decode cX3_copyFrom 20 = .ok (.invokestatic 22, 3) := by decide +kernel
theorem dX3_copyFrom_23 : decode cX3_copyFrom 23 = .ok (.aload_n 1, 1) := by decide +kernel
theorem dX3_copyFrom_24 : decode cX3_copyFrom 24 = .ok (.getfield 19, 3) := by decide +kernel
theorem dX3_copyFrom_27 : decode cX3_copyFrom 27 = .ok (.iconst 0, 1) := by decide +kernel
theorem dX3_copyFrom_28 : decode cX3_copyFrom 28 = .ok (.aload_n 0, 1) := by decide +kernel
theorem dX3_copyFrom_29 : decode cX3_copyFrom 29 = .ok (.getfield 19, 3) := by decide +kernel
theorem dX3_copyFrom_32 : decode cX3_copyFrom 32 = .ok (.iconst 0, 1) := by decide +kernel
theorem dX3_copyFrom_33 : decode cX3_copyFrom 33 = .ok (.bipush 14, 2) := by decide +kernel
theorem dX3_copyFrom_35 : decode cX3_copyFrom 35 = .ok (.invokestatic 22, 3) := by decide +kernel
theorem dX3_copyFrom_38 : decode cX3_copyFrom 38 = .ok (.return_, 1) := by decide +kernel
theorem dX3_isGood_0 : decode cX3_isGood 0 = .ok (.iconst 0, 1) := by decide +kernel
theorem dX3_isGood_1 : decode cX3_isGood 1 = .ok (.iload_n 1, 1) := by decide +kernel
theorem dX3_isGood_2 : decode cX3_isGood 2 = .ok (.aload_n 0, 1) := by decide +kernel
theorem dX3_isGood_3 : decode cX3_isGood 3 = .ok (.getfield 9, 3) := by decide +kernel
theorem dX3_isGood_6 : decode cX3_isGood 6 = .ok (.iconst 1, 1) := by decide +kernel
theorem dX3_isGood_7 : decode cX3_isGood 7 = .ok (.isub, 1) := by decide +kernel
theorem dX3_isGood_8 : decode cX3_isGood 8 = .ok (.invokestatic 28, 3) := by decide +kernel
theorem dX3_isGood_11 : decode cX3_isGood 11 = .ok (.ireturn, 1) := by decide +kernel
theorem dX3_add_0 : decode cX3_add 0 = .ok (.aload_n 0, 1) := by decide +kernel
theorem dX3_add_1 : decode cX3_add 1 = .ok (.getfield 9, 3) := by decide +kernel
theorem dX3_add_4 : decode cX3_add 4 = .ok (.bipush 14, 2) := by decide +kernel
theorem dX3_add_6 : decode cX3_add 6 = .ok (.if_icmp .ge 24, 3) := by decide +kernel
theorem dX3_add_9 : decode cX3_add 9 = .ok (.iconst 1, 1) := by decide +kernel
theorem dX3_add_10 : decode cX3_add 10 = .ok (.iload_n 1, 1) := by decide +kernel
theorem dX3_add_11 : decode cX3_add 11 = .ok (.sipush 10000, 3) := by decide +kernel
theorem dX3_add_14 : decode cX3_add 14 = .ok (.invokestatic 28, 3) := by decide +kernel
theorem dX3_add_17 : decode cX3_add 17 = .ok (.ifCond .eq 13, 3) := by decide +kernel
theorem dX3_add_20 : decode cX3_add 20 = .ok (.iconst 0, 1) := by decide +kernel
theorem dX3_add_21 : decode cX3_add 21 = .ok (.iload_n 2, 1) := by decide +kernel
theorem dX3_add_22 : decode cX3_add 22 = .ok (.bipush 100, 2) := by decide +kernel
theorem dX3_add_24 : decode cX3_add 24 = .ok (.invokestatic 28, 3) := by decide +kernel
theorem dX3_add_27 : decode cX3_add 27 = .ok (.ifCond .ne 5, 3) := by decide +kernel
theorem dX3_add_30 : decode cX3_add 30 = .ok (.iconst (-1), 1) := by decide +kernel
theorem dX3_add_31 : decode cX3_add 31 = .ok (.ireturn, 1) := by decide +kernel
theorem dX3_add_32 : decode cX3_add 32 = .ok (.aload_n 0, 1) := by decide +kernel
theorem dX3_add_33 : decode cX3_add 33 = .ok (.getfield 15, 3) := by decide +kernel
theorem dX3_add_36 : decode cX3_add 36 = .ok (.aload_n 0, 1) := by decide +kernel
theorem dX3_add_37 : decode cX3_add 37 = .ok (.getfield 9, 3) := by decide +kernel
theorem dX3_add_40 : decode cX3_add 40 = .ok (.iload_n 1, 1) := by decide +kernel
theorem dX3_add_41 : decode cX3_add 41 = .ok (.iastore, 1) := by decide +kernel
theorem dX3_add_42 : decode cX3_add 42 = .ok (.aload_n 0, 1) := by decide +kernel
theorem dX3_add_43 : decode cX3_add 43 = .ok (.getfield 19, 3) := by decide +kernel
theorem dX3_add_46 : decode cX3_add 46 = .ok (.aload_n 0, 1) := by decide +kernel
theorem dX3_add_47 : decode cX3_add 47 = .ok (.getfield 9, 3) := by decide +kernel
theorem dX3_add_50 : decode cX3_add 50 = .ok (.iload_n 2, 1) := by decide +kernel
theorem dX3_add_51 : decode cX3_add 51 = .ok (.iastore, 1) := by decide +kernel
theorem dX3_add_52 : decode cX3_add 52 = .ok (.aload_n 0, 1) := by decide +kernel
theorem dX3_add_53 : decode cX3_add 53 = .ok (.dup, 1) := by decide +kernel
theorem dX3_add_54 : decode cX3_add 54 = .ok (.getfield 9, 3) := by decide +kernel
theorem dX3_add_57 : decode cX3_add 57 = .ok (.iconst 1, 1) := by decide +kernel
theorem dX3_add_58 : decode cX3_add 58 = .ok (.iadd, 1) := by decide +kernel
theorem dX3_add_59 : decode cX3_add 59 = .ok (.putfield 9, 3) := by decide +kernel
theorem dX3_add_62 : decode cX3_add 62 = .ok (.aload_n 0, 1) := by decide +kernel
theorem dX3_add_63 : decode cX3_add 63 = .ok (.getfield 9, 3) := by decide +kernel
theorem dX3_add_66 : decode cX3_add 66 = .ok (.iconst 1, 1) := by decide +kernel
theorem dX3_add_67 : decode cX3_add 67 = .ok (.isub, 1) := by decide +kernel
theorem dX3_add_68 : decode cX3_add 68 = .ok (.ireturn, 1) := by decide +kernel
theorem dX4_init_0 : decode cX4_init 0 = .ok (.aload_n 0, 1) := by decide +kernel
theorem dX4_init_1 : decode cX4_init 1 = .ok (.invokespecial 3, 3) := by decide +kernel
theorem dX4_init_4 : decode cX4_init 4 = .ok (.aload_n 0, 1) := by decide +kernel
theorem dX4_init_5 : decode cX4_init 5 = .ok (.new 9, 3) := by decide +kernel
theorem dX4_init_8 : decode cX4_init 8 = .ok (.dup, 1) := by decide +kernel
theorem dX4_init_9 : decode cX4_init 9 = .ok (.invokespecial 11, 3) := by decide +kernel
theorem dX4_init_12 : decode cX4_init 12 = .ok (.putfield 12, 3) := by decide +kernel
theorem dX4_init_15 : decode cX4_init 15 = .ok (.aload_n 0, 1) := by decide +kernel
theorem dX4_init_16 : decode cX4_init 16 = .ok (.new 9, 3) := by decide +kernel
theorem dX4_init_19 : decode cX4_init 19 = .ok (.dup, 1) := by decide +kernel
theorem dX4_init_20 : decode cX4_init 20 = .ok (.invokespecial 11, 3) := by decide +kernel
theorem dX4_init_23 : decode cX4_init 23 = .ok (.putfield 18, 3) := by decide +kernel
theorem dX4_init_26 : decode cX4_init 26 = .ok (.aload_n 0, 1) := by decide +kernel
theorem dX4_init_27 : decode cX4_init 27 = .ok (.new 21, 3) := by decide +kernel
theorem dX4_init_30 : decode cX4_init 30 = .ok (.dup, 1) := by decide +kernel
theorem dX4_init_31 : decode cX4_init 31 = .ok (.invokespecial 23, 3) := by decide +kernel
theorem dX4_init_34 : decode cX4_init 34 = .ok (.putfield 24, 3) := by decide +kernel
theorem dX4_init_37 : decode cX4_init 37 = .ok (.aload_n 0, 1) := by decide +kernel
theorem dX4_init_38 : decode cX4_init 38 = .ok (.iconst 4, 1) := by decide +kernel
theorem dX4_init_39 : decode cX4_init 39 = .ok (.anewarray 28, 3) := by decide +kernel
theorem dX4_init_42 : decode cX4_init 42 = .ok (.putfield 30, 3) := by decide +kernel
theorem dX4_init_45 : decode cX4_init 45 = .ok (.aload_n 0, 1) := by decide +kernel
theorem dX4_init_46 : decode cX4_init 46 = .ok (.bipush 8, 2) := by decide +kernel
theorem dX4_init_48 : decode cX4_init 48 = .ok (.newarray .int, 2) := by decide +kernel
theorem dX4_init_50 : decode cX4_init 50 = .ok (.putfield 34, 3) := by decide +kernel
theorem dX4_init_53 : decode cX4_init 53 = .ok (.aload_n 0, 1) := by decide +kernel
theorem dX4_init_54 : decode cX4_init 54 = .ok (.iconst 0, 1) := by decide +kernel
theorem dX4_init_55 : decode cX4_init 55 = .ok (.putfield 38, 3) := by decide +kernel
theorem dX4_init_58 : decode cX4_init 58 = .ok (.aload_n 0, 1) := by decide +kernel
theorem dX4_init_59 : decode cX4_init 59 = .ok (.iconst 1, 1) := by decide +kernel
theorem dX4_init_60 : decode cX4_init 60 = .ok (.putfield 42, 3) := by decide +kernel
theorem dX4_init_63 : decode cX4_init 63 = .ok (.aload_n 0, 1) := by decide +kernel
theorem dX4_init_64 : decode cX4_init 64 = .ok (.iconst 1, 1) := by decide +kernel
theorem dX4_init_65 : decode cX4_init 65 = .ok (.putfield 45, 3) := by decide +kernel
theorem dX4_init_68 : decode cX4_init 68 = .ok (.aload_n 0, 1) := by decide +kernel
theorem dX4_init_69 : decode cX4_init 69 = .ok (.iconst 1, 1) := by decide +kernel
theorem dX4_init_70 : decode cX4_init 70 = .ok (.putfield 48, 3) := by decide +kernel
theorem dX4_init_73 : decode cX4_init 73 = .ok (.iconst 0, 1) := by decide +kernel
theorem dX4_init_74 : decode cX4_init 74 = .ok (.istore_n 1, 1) := by decide +kernel
theorem dX4_init_75 : decode cX4_init 75 = .ok (.iload_n 1, 1) := by decide +kernel
theorem dX4_init_76 : decode cX4_init 76 = .ok (.iconst 4, 1) := by decide +kernel
theorem dX4_init_77 : decode cX4_init 77 = .ok (.if_icmp .ge 22, 3) := by decide +kernel
theorem dX4_init_80 : decode cX4_init 80 = .ok (.aload_n 0, 1) := by decide +kernel
theorem dX4_init_81 : decode cX4_init 81 = .ok (.getfield 30, 3) := by decide +kernel
theorem dX4_init_84 : decode cX4_init 84 = .ok (.iload_n 1, 1) := by decide +kernel
theorem dX4_init_85 : decode cX4_init 85 = .ok (.new 28, 3) := by decide +kernel
theorem dX4_init_88 : decode cX4_init 88 = .ok (.dup, 1) := by decide +kernel
theorem dX4_init_89 : decode cX4_init 89 = .ok (.invokespecial 51, 3) := by decide +kernel
theorem dX4_init_92 : decode cX4_init 92 = .ok (.aastore, 1) := by decide +kernel
theorem dX4_init_93 : decode cX4_init 93 = .ok (.iinc 1 1, 3) := by decide +kernel
theorem dX4_init_96 : decode cX4_init 96 = .ok (.goto (-21), 3) := by decide +kernel
theorem dX4_init_99 : decode cX4_init 99 = .ok (.return_, 1) := by decide +kernel
theorem dX4_copyFrom_0 : decode cX4_copyFrom 0 = .ok (.aload_n 0, 1) := by decide +kernel
theorem dX4_copyFrom_1 : decode cX4_copyFrom 1 = .ok (.getfield 12, 3) := by decide +kernel
theorem dX4_copyFrom_4 : decode cX4_copyFrom 4 = .ok (.aload_n 1, 1) := by decide +kernel
theorem dX4_copyFrom_5 : decode cX4_copyFrom 5 = .ok (.getfield 12, 3) := by decide +kernel
theorem dX4_copyFrom_8 : decode cX4_copyFrom 8 = .ok (.invokevirtual 52, 3) := by decide +kernel
theorem dX4_copyFrom_11 : decode cX4_copyFrom 11 = .ok (.aload_n 0, 1) := by decide +kernel
theorem dX4_copyFrom_12 : decode cX4_copyFrom 12 = .ok (.getfield 18, 3) := by decide +kernel
theorem dX4_copyFrom_15 : decode cX4_copyFrom 15 = .ok (.aload_n 1, 1) := by decide +kernel
theorem dX4_copyFrom_16 : decode cX4_copyFrom 16 = .ok (.getfield 18, 3) := by decide +kernel
theorem dX4_copyFrom_19 : decode cX4_copyFrom 19 = .ok (.invokevirtual 52, 3) := by decide +kernel
theorem dX4_copyFrom_22 : decode cX4_copyFrom 22 = .ok (.aload_n 0, 1) := by decide +kernel
theorem dX4_copyFrom_23 : decode cX4_copyFrom 23 = .ok (.getfield 24, 3) := by decide +kernel
theorem dX4_copyFrom_26 : decode cX4_copyFrom 26 = .ok (.aload_n 1, 1) := by decide +kernel
theorem dX4_copyFrom_27 : decode cX4_copyFrom 27 = .ok (.getfield 24, 3) := by decide +kernel
theorem dX4_copyFrom_30 : decode cX4_copyFrom 30 = .ok (.invokevirtual 56, 3) := by decide +kernel
theorem dX4_copyFrom_33 : decode cX4_copyFrom 33 = .ok (.iconst 0, 1) := by decide +kernel
theorem dX4_copyFrom_34 : decode cX4_copyFrom 34 = .ok (.istore_n 2, 1) := by decide +kernel
theorem dX4_copyFrom_35 : decode cX4_copyFrom 35 = .ok (.iload_n 2, 1) := by decide +kernel
theorem dX4_copyFrom_36 : decode cX4_copyFrom 36 = .ok (.iconst 4, 1) := by decide +kernel
theorem dX4_copyFrom_37 : decode cX4_copyFrom 37 = .ok (.if_icmp .ge 24, 3) := by decide +kernel
theorem dX4_copyFrom_40 : decode cX4_copyFrom 40 = .ok (.aload_n 0, 1) := by decide +kernel
theorem dX4_copyFrom_41 : decode cX4_copyFrom 41 = .ok (.getfield 30, 3) := by decide +kernel
theorem dX4_copyFrom_44 : decode cX4_copyFrom 44 = .ok (.iload_n 2, 1) := by decide +kernel
theorem dX4_copyFrom_45 : decode cX4_copyFrom 45 = .ok (.aaload, 1) := by decide +kernel
theorem dX4_copyFrom_46 : decode cX4_copyFrom 46 = .ok (.aload_n 1, 1) := by decide +kernel
theorem dX4_copyFrom_47 : decode cX4_copyFrom 47 = .ok (.getfield 30, 3) := by decide +kernel
theorem dX4_copyFrom_50 : decode cX4_copyFrom 50 = .ok (.iload_n 2, 1) := by decide +kernel
theorem dX4_copyFrom_51 : decode cX4_copyFrom 51 = .ok (.aaload, 1) := by decide +kernel
theorem dX4_copyFrom_52 : decode cX4_copyFrom 52 = .ok (.invokevirtual 59, 3) := by decide +kernel
theorem dX4_copyFrom_55 : decode cX4_copyFrom 55 = .ok (.iinc 2 1, 3) := by decide +kernel
theorem dX4_copyFrom_58 : decode cX4_copyFrom 58 = .ok (.goto (-23), 3) := by decide +kernel
theorem dX4_copyFrom_61 : decode cX4_copyFrom 61 = .ok (.aload_n 1, 1) := by decide +kernel
theorem dX4_copyFrom_62 : decode cX4_copyFrom 62 = .ok (.getfield 34, 3) := by decide +kernel
theorem dX4_copyFrom_65 : decode cX4_copyFrom 65 = .ok (.iconst 0, 1) := by decide +kernel
theorem dX4_copyFrom_66 : decode cX4_copyFrom 66 = .ok (.aload_n 0, 1) := by decide +kernel
theorem dX4_copyFrom_67 : decode cX4_copyFrom 67 = .ok (.getfield 34, 3) := by decide +kernel
theorem dX4_copyFrom_70 : decode cX4_copyFrom 70 = .ok (.iconst 0, 1) := by decide +kernel
theorem dX4_copyFrom_71 : decode cX4_copyFrom 71 = .ok (.bipush 8, 2) := by decide +kernel
theorem dX4_copyFrom_73 : decode cX4_copyFrom 73 = .ok (.invokestatic 62, 3) := by decide +kernel
theorem dX4_copyFrom_76 : decode cX4_copyFrom 76 = .ok (.aload_n 0, 1) := by decide +kernel
theorem dX4_copyFrom_77 : decode cX4_copyFrom 77 = .ok (.aload_n 1, 1) := by decide +kernel
theorem dX4_copyFrom_78 : decode cX4_copyFrom 78 = .ok (.getfield 38, 3) := by decide +kernel
theorem dX4_copyFrom_81 : decode cX4_copyFrom 81 = .ok (.putfield 38, 3) := by decide +kernel
theorem dX4_copyFrom_84 : decode cX4_copyFrom 84 = .ok (.aload_n 0, 1) := by decide +kernel
theorem dX4_copyFrom_85 : decode cX4_copyFrom 85 = .ok (.aload_n 1, 1) := by decide +kernel
theorem dX4_copyFrom_86 : decode cX4_copyFrom 86 = .ok (.getfield 42, 3) := by decide +kernel
theorem dX4_copyFrom_89 : decode cX4_copyFrom 89 = .ok (.putfield 42, 3) := by decide +kernel
theorem dX4_copyFrom_92 : decode cX4_copyFrom 92 = .ok (.aload_n 0, 1) := by decide +kernel
theorem dX4_copyFrom_93 : decode cX4_copyFrom 93 = .ok (.aload_n 1, 1) := by decide +kernel
theorem dX4_copyFrom_94 : decode cX4_copyFrom 94 = .ok (.getfield 45, 3) := by decide +kernel
theorem dX4_copyFrom_97 : decode cX4_copyFrom 97 = .ok (.putfield 45, 3) := by decide +kernel
theorem dX4_copyFrom_100 : decode cX4_copyFrom 100 = .ok (.aload_n 0, 1) := by decide +kernel
theorem dX4_copyFrom_101 : decode cX4_copyFrom 101 = .ok (.aload_n 1, 1) := by decide +kernel
theorem dX4_copyFrom_102 : decode cX4_copyFrom 102 = .ok (.getfield 48, 3) := by decide +kernel
theorem dX4_copyFrom_105 : decode cX4_copyFrom 105 = .ok (.putfield 48, 3) := by decide +kernel
theorem dX4_copyFrom_108 : decode cX4_copyFrom 108 = .ok (.return_, 1) := by decide +kernel
theorem dX4_coinageOf_0 : decode cX4_coinageOf 0 = .ok (.iload_n 1, 1) := by decide +kernel
theorem dX4_coinageOf_1 : decode cX4_coinageOf 1 = .ok (.ifCond .ne 8, 3) := by decide +kernel
theorem dX4_coinageOf_4 : decode cX4_coinageOf 4 = .ok (.aload_n 0, 1) := by decide +kernel
theorem dX4_coinageOf_5 : decode cX4_coinageOf 5 = .ok (.getfield 12, 3) := by decide +kernel
theorem dX4_coinageOf_8 : decode cX4_coinageOf 8 = .ok (.areturn, 1) := by decide +kernel
theorem dX4_coinageOf_9 : decode cX4_coinageOf 9 = .ok (.iload_n 1, 1) := by decide +kernel
theorem dX4_coinageOf_10 : decode cX4_coinageOf 10 = .ok (.iconst 1, 1) := by decide +kernel
theorem dX4_coinageOf_11 : decode cX4_coinageOf 11 = .ok (.if_icmp .ne 10, 3) := by decide +kernel
theorem dX4_coinageOf_14 : decode cX4_coinageOf 14 = .ok (.aload_n 0, 1) := by decide +kernel
theorem dX4_coinageOf_15 : decode cX4_coinageOf 15 = .ok (.getfield 18, 3) := by decide +kernel
theorem dX4_coinageOf_18 : decode cX4_coinageOf 18 = .ok (.goto 4, 3) := by decide +kernel
theorem dX4_coinageOf_21 : decode cX4_coinageOf 21 = .ok (.aconst_null, 1) := by decide +kernel
theorem dX4_coinageOf_22 : decode cX4_coinageOf 22 = .ok (.areturn, 1) := by decide +kernel
theorem dX4_tillAt_0 : decode cX4_tillAt 0 = .ok (.iconst 0, 1) := by decide +kernel
theorem dX4_tillAt_1 : decode cX4_tillAt 1 = .ok (.iload_n 1, 1) := by decide +kernel
theorem dX4_tillAt_2 : decode cX4_tillAt 2 = .ok (.aload_n 0, 1) := by decide +kernel
theorem dX4_tillAt_3 : decode cX4_tillAt 3 = .ok (.getfield 38, 3) := by decide +kernel
theorem dX4_tillAt_6 : decode cX4_tillAt 6 = .ok (.iconst 1, 1) := by decide +kernel
theorem dX4_tillAt_7 : decode cX4_tillAt 7 = .ok (.isub, 1) := by decide +kernel
theorem dX4_tillAt_8 : decode cX4_tillAt 8 = .ok (.invokestatic 68, 3) := by decide +kernel
theorem dX4_tillAt_11 : decode cX4_tillAt 11 = .ok (.ifCond .eq 12, 3) := by decide +kernel
theorem dX4_tillAt_14 : decode cX4_tillAt 14 = .ok (.aload_n 0, 1) := by decide +kernel
theorem dX4_tillAt_15 : decode cX4_tillAt 15 = .ok (.getfield 30, 3) := by decide +kernel
theorem dX4_tillAt_18 : decode cX4_tillAt 18 = .ok (.iload_n 1, 1) := by decide +kernel
theorem dX4_tillAt_19 : decode cX4_tillAt 19 = .ok (.aaload, 1) := by decide +kernel
theorem dX4_tillAt_20 : decode cX4_tillAt 20 = .ok (.goto 4, 3) := by decide +kernel
theorem dX4_tillAt_23 : decode cX4_tillAt 23 = .ok (.aconst_null, 1) := by decide +kernel
theorem dX4_tillAt_24 : decode cX4_tillAt 24 = .ok (.areturn, 1) := by decide +kernel
theorem dX4_isCoin_0 : decode cX4_isCoin 0 = .ok (.aload_n 0, 1) := by decide +kernel
theorem dX4_isCoin_1 : decode cX4_isCoin 1 = .ok (.iload_n 1, 1) := by decide +kernel
theorem dX4_isCoin_2 : decode cX4_isCoin 2 = .ok (.invokevirtual 72, 3) := by decide +kernel
theorem dX4_isCoin_5 : decode cX4_isCoin 5 = .ok (.astore_n 3, 1) := by decide +kernel
theorem dX4_isCoin_6 : decode cX4_isCoin 6 = .ok (.aload_n 3, 1) := by decide +kernel
theorem dX4_isCoin_7 : decode cX4_isCoin 7 = .ok (.ifnull 15, 3) := by decide +kernel
theorem dX4_isCoin_10 : decode cX4_isCoin 10 = .ok (.aload_n 3, 1) := by decide +kernel
theorem dX4_isCoin_11 : decode cX4_isCoin 11 = .ok (.iload_n 2, 1) := by decide +kernel
theorem dX4_isCoin_12 : decode cX4_isCoin 12 = .ok (.invokevirtual 76, 3) := by decide +kernel
theorem dX4_isCoin_15 : decode cX4_isCoin 15 = .ok (.ifCond .eq 7, 3) := by decide +kernel
theorem dX4_isCoin_18 : decode cX4_isCoin 18 = .ok (.iconst 1, 1) := by decide +kernel
theorem dX4_isCoin_19 : decode cX4_isCoin 19 = .ok (.goto 4, 3) := by decide +kernel
theorem dX4_isCoin_22 : decode cX4_isCoin 22 = .ok (.iconst 0, 1) := by decide +kernel
theorem dX4_isCoin_23 : decode cX4_isCoin 23 = .ok (.ireturn, 1) := by decide +kernel
theorem dX4_isSale_0 : decode cX4_isSale 0 = .ok (.iconst 1, 1) := by decide +kernel
theorem dX4_isSale_1 : decode cX4_isSale 1 = .ok (.iload_n 1, 1) := by decide +kernel
theorem dX4_isSale_2 : decode cX4_isSale 2 = .ok (.sipush 2000, 3) := by decide +kernel
theorem dX4_isSale_5 : decode cX4_isSale 5 = .ok (.invokestatic 68, 3) := by decide +kernel
theorem dX4_isSale_8 : decode cX4_isSale 8 = .ok (.ifCond .eq 27, 3) := by decide +kernel
theorem dX4_isSale_11 : decode cX4_isSale 11 = .ok (.iconst 1, 1) := by decide +kernel
theorem dX4_isSale_12 : decode cX4_isSale 12 = .ok (.iload 4, 2) := by decide +kernel
theorem dX4_isSale_14 : decode cX4_isSale 14 = .ok (.bipush 50, 2) := by decide +kernel
theorem dX4_isSale_16 : decode cX4_isSale 16 = .ok (.invokestatic 68, 3) := by decide +kernel
theorem dX4_isSale_19 : decode cX4_isSale 19 = .ok (.ifCond .eq 16, 3) := by decide +kernel
theorem dX4_isSale_22 : decode cX4_isSale 22 = .ok (.aload_n 0, 1) := by decide +kernel
theorem dX4_isSale_23 : decode cX4_isSale 23 = .ok (.iload_n 2, 1) := by decide +kernel
theorem dX4_isSale_24 : decode cX4_isSale 24 = .ok (.iload_n 3, 1) := by decide +kernel
theorem dX4_isSale_25 : decode cX4_isSale 25 = .ok (.invokevirtual 80, 3) := by decide +kernel
theorem dX4_isSale_28 : decode cX4_isSale 28 = .ok (.ifCond .eq 7, 3) := by decide +kernel
theorem dX4_isSale_31 : decode cX4_isSale 31 = .ok (.iconst 1, 1) := by decide +kernel
theorem dX4_isSale_32 : decode cX4_isSale 32 = .ok (.goto 4, 3) := by decide +kernel
theorem dX4_isSale_35 : decode cX4_isSale 35 = .ok (.iconst 0, 1) := by decide +kernel
theorem dX4_isSale_36 : decode cX4_isSale 36 = .ok (.ireturn, 1) := by decide +kernel
theorem dX4_hasSold_0 : decode cX4_hasSold 0 = .ok (.iconst 0, 1) := by decide +kernel
theorem dX4_hasSold_1 : decode cX4_hasSold 1 = .ok (.istore_n 1, 1) := by decide +kernel
theorem dX4_hasSold_2 : decode cX4_hasSold 2 = .ok (.iload_n 1, 1) := by decide +kernel
theorem dX4_hasSold_3 : decode cX4_hasSold 3 = .ok (.aload_n 0, 1) := by decide +kernel
theorem dX4_hasSold_4 : decode cX4_hasSold 4 = .ok (.getfield 38, 3) := by decide +kernel
theorem dX4_hasSold_7 : decode cX4_hasSold 7 = .ok (.if_icmp .ge 23, 3) := by decide +kernel
theorem dX4_hasSold_10 : decode cX4_hasSold 10 = .ok (.aload_n 0, 1) := by decide +kernel
theorem dX4_hasSold_11 : decode cX4_hasSold 11 = .ok (.getfield 30, 3) := by decide +kernel
theorem dX4_hasSold_14 : decode cX4_hasSold 14 = .ok (.iload_n 1, 1) := by decide +kernel
theorem dX4_hasSold_15 : decode cX4_hasSold 15 = .ok (.aaload, 1) := by decide +kernel
theorem dX4_hasSold_16 : decode cX4_hasSold 16 = .ok (.getfield 83, 3) := by decide +kernel
theorem dX4_hasSold_19 : decode cX4_hasSold 19 = .ok (.ifCond .le 5, 3) := by decide +kernel
theorem dX4_hasSold_22 : decode cX4_hasSold 22 = .ok (.iconst 1, 1) := by decide +kernel
theorem dX4_hasSold_23 : decode cX4_hasSold 23 = .ok (.ireturn, 1) := by decide +kernel
theorem dX4_hasSold_24 : decode cX4_hasSold 24 = .ok (.iinc 1 1, 3) := by decide +kernel
theorem dX4_hasSold_27 : decode cX4_hasSold 27 = .ok (.goto (-25), 3) := by decide +kernel
theorem dX4_hasSold_30 : decode cX4_hasSold 30 = .ok (.iconst 0, 1) := by decide +kernel
theorem dX4_hasSold_31 : decode cX4_hasSold 31 = .ok (.ireturn, 1) := by decide +kernel
theorem dX4_unitParts_0 : decode cX4_unitParts 0 = .ok (.iload_n 1, 1) := by decide +kernel
theorem dX4_unitParts_1 : decode cX4_unitParts 1 = .ok (.ifCond .ne 10, 3) := by decide +kernel
theorem dX4_unitParts_4 : decode cX4_unitParts 4 = .ok (.aload_n 0, 1) := by decide +kernel
theorem dX4_unitParts_5 : decode cX4_unitParts 5 = .ok (.getfield 42, 3) := by decide +kernel
theorem dX4_unitParts_8 : decode cX4_unitParts 8 = .ok (.goto 7, 3) := by decide +kernel
theorem dX4_unitParts_11 : decode cX4_unitParts 11 = .ok (.aload_n 0, 1) := by decide +kernel
theorem dX4_unitParts_12 : decode cX4_unitParts 12 = .ok (.getfield 45, 3) := by decide +kernel
theorem dX4_unitParts_15 : decode cX4_unitParts 15 = .ok (.ireturn, 1) := by decide +kernel
theorem dX4_spareParts_0 : decode cX4_spareParts 0 = .ok (.aload_n 0, 1) := by decide +kernel
theorem dX4_spareParts_1 : decode cX4_spareParts 1 = .ok (.iload_n 2, 1) := by decide +kernel
theorem dX4_spareParts_2 : decode cX4_spareParts 2 = .ok (.invokevirtual 72, 3) := by decide +kernel
theorem dX4_spareParts_5 : decode cX4_spareParts 5 = .ok (.astore 5, 2) := by decide +kernel
theorem dX4_spareParts_7 : decode cX4_spareParts 7 = .ok (.aload 5, 2) := by decide +kernel
theorem dX4_spareParts_9 : decode cX4_spareParts 9 = .ok (.ifnull 12, 3) := by decide +kernel
theorem dX4_spareParts_12 : decode cX4_spareParts 12 = .ok (.aload 5, 2) := by decide +kernel
theorem dX4_spareParts_14 : decode cX4_spareParts 14 = .ok (.iload_n 3, 1) := by decide +kernel
theorem dX4_spareParts_15 : decode cX4_spareParts 15 = .ok (.invokevirtual 76, 3) := by decide +kernel
theorem dX4_spareParts_18 : decode cX4_spareParts 18 = .ok (.ifCond .ne 5, 3) := by decide +kernel
theorem dX4_spareParts_21 : decode cX4_spareParts 21 = .ok (.iconst (-1), 1) := by decide +kernel
theorem dX4_spareParts_22 : decode cX4_spareParts 22 = .ok (.ireturn, 1) := by decide +kernel
theorem dX4_spareParts_23 : decode cX4_spareParts 23 = .ok (.iload 4, 2) := by decide +kernel
theorem dX4_spareParts_25 : decode cX4_spareParts 25 = .ok (.aload 5, 2) := by decide +kernel
theorem dX4_spareParts_27 : decode cX4_spareParts 27 = .ok (.getfield 86, 3) := by decide +kernel
theorem dX4_spareParts_30 : decode cX4_spareParts 30 = .ok (.iload_n 3, 1) := by decide +kernel
theorem dX4_spareParts_31 : decode cX4_spareParts 31 = .ok (.iaload, 1) := by decide +kernel
theorem dX4_spareParts_32 : decode cX4_spareParts 32 = .ok (.imul, 1) := by decide +kernel
theorem dX4_spareParts_33 : decode cX4_spareParts 33 = .ok (.aload_n 0, 1) := by decide +kernel
theorem dX4_spareParts_34 : decode cX4_spareParts 34 = .ok (.iload_n 2, 1) := by decide +kernel
theorem dX4_spareParts_35 : decode cX4_spareParts 35 = .ok (.invokevirtual 89, 3) := by decide +kernel
theorem dX4_spareParts_38 : decode cX4_spareParts 38 = .ok (.imul, 1) := by decide +kernel
theorem dX4_spareParts_39 : decode cX4_spareParts 39 = .ok (.iload_n 1, 1) := by decide +kernel
theorem dX4_spareParts_40 : decode cX4_spareParts 40 = .ok (.aload_n 0, 1) := by decide +kernel
theorem dX4_spareParts_41 : decode cX4_spareParts 41 = .ok (.getfield 45, 3) := by decide +kernel
theorem dX4_spareParts_44 : decode cX4_spareParts 44 = .ok (.imul, 1) := by decide +kernel
theorem dX4_spareParts_45 : decode cX4_spareParts 45 = .ok (.isub, 1) := by decide +kernel
theorem dX4_spareParts_46 : decode cX4_spareParts 46 = .ok (.ireturn, 1) := by decide +kernel
theorem dX4_partsOf_0 : decode cX4_partsOf 0 = .ok (.aload_n 0, 1) := by decide +kernel
theorem dX4_partsOf_1 : decode cX4_partsOf 1 = .ok (.iload_n 1, 1) := by decide +kernel
theorem dX4_partsOf_2 : decode cX4_partsOf 2 = .ok (.invokevirtual 72, 3) := by decide +kernel
theorem dX4_partsOf_5 : decode cX4_partsOf 5 = .ok (.astore_n 3, 1) := by decide +kernel
theorem dX4_partsOf_6 : decode cX4_partsOf 6 = .ok (.lconst 0, 1) := by decide +kernel
theorem dX4_partsOf_7 : decode cX4_partsOf 7 = .ok (.lstore 4, 2) := by decide +kernel
theorem dX4_partsOf_9 : decode cX4_partsOf 9 = .ok (.aload_n 3, 1) := by decide +kernel
theorem dX4_partsOf_10 : decode cX4_partsOf 10 = .ok (.ifnull 40, 3) := by decide +kernel
theorem dX4_partsOf_13 : decode cX4_partsOf 13 = .ok (.iconst 0, 1) := by decide +kernel
theorem dX4_partsOf_14 : decode cX4_partsOf 14 = .ok (.istore 6, 2) := by decide +kernel
theorem dX4_partsOf_16 : decode cX4_partsOf 16 = .ok (.iload 6, 2) := by decide +kernel
theorem dX4_partsOf_18 : decode cX4_partsOf 18 = .ok (.aload_n 3, 1) := by decide +kernel
theorem dX4_partsOf_19 : decode cX4_partsOf 19 = .ok (.getfield 93, 3) := by decide +kernel
theorem dX4_partsOf_22 : decode cX4_partsOf 22 = .ok (.if_icmp .ge 28, 3) := by decide +kernel
theorem dX4_partsOf_25 : decode cX4_partsOf 25 = .ok (.lload 4, 2) := by decide +kernel
theorem dX4_partsOf_27 : decode cX4_partsOf 27 = .ok (.aload_n 2, 1) := by decide +kernel
theorem dX4_partsOf_28 : decode cX4_partsOf 28 = .ok (.iload 6, 2) := by decide +kernel
theorem dX4_partsOf_30 : decode cX4_partsOf 30 = .ok (.iaload, 1) := by decide +kernel
theorem dX4_partsOf_31 : decode cX4_partsOf 31 = .ok (.i2l, 1) := by decide +kernel
theorem dX4_partsOf_32 : decode cX4_partsOf 32 = .ok (.aload_n 3, 1) := by decide +kernel
theorem dX4_partsOf_33 : decode cX4_partsOf 33 = .ok (.getfield 86, 3) := by decide +kernel
theorem dX4_partsOf_36 : decode cX4_partsOf 36 = .ok (.iload 6, 2) := by decide +kernel
theorem dX4_partsOf_38 : decode cX4_partsOf 38 = .ok (.iaload, 1) := by decide +kernel
theorem dX4_partsOf_39 : decode cX4_partsOf 39 = .ok (.i2l, 1) := by decide +kernel
theorem dX4_partsOf_40 : decode cX4_partsOf 40 = .ok (.lmul, 1) := by decide +kernel
theorem dX4_partsOf_41 : decode cX4_partsOf 41 = .ok (.ladd, 1) := by decide +kernel
theorem dX4_partsOf_42 : decode cX4_partsOf 42 = .ok (.lstore 4, 2) := by decide +kernel
theorem dX4_partsOf_44 : decode cX4_partsOf 44 = .ok (.iinc 6 1, 3) := by decide +kernel
theorem dX4_partsOf_47 : decode cX4_partsOf 47 = .ok (.goto (-31), 3) := by decide +kernel
theorem dX4_partsOf_50 : decode cX4_partsOf 50 = .ok (.lload 4, 2) := by decide +kernel
theorem dX4_partsOf_52 : decode cX4_partsOf 52 = .ok (.aload_n 0, 1) := by decide +kernel
theorem dX4_partsOf_53 : decode cX4_partsOf 53 = .ok (.iload_n 1, 1) := by decide +kernel
theorem dX4_partsOf_54 : decode cX4_partsOf 54 = .ok (.invokevirtual 89, 3) := by decide +kernel
theorem dX4_partsOf_57 : decode cX4_partsOf 57 = .ok (.i2l, 1) := by decide +kernel
theorem dX4_partsOf_58 : decode cX4_partsOf 58 = .ok (.lmul, 1) := by decide +kernel
theorem dX4_partsOf_59 : decode cX4_partsOf 59 = .ok (.lreturn, 1) := by decide +kernel
theorem dX4_newPrice_0 : decode cX4_newPrice 0 = .ok (.aload_n 0, 1) := by decide +kernel
theorem dX4_newPrice_1 : decode cX4_newPrice 1 = .ok (.getfield 24, 3) := by decide +kernel
theorem dX4_newPrice_4 : decode cX4_newPrice 4 = .ok (.getfield 96, 3) := by decide +kernel
theorem dX4_newPrice_7 : decode cX4_newPrice 7 = .ok (.iload_n 1, 1) := by decide +kernel
theorem dX4_newPrice_8 : decode cX4_newPrice 8 = .ok (.iaload, 1) := by decide +kernel
theorem dX4_newPrice_9 : decode cX4_newPrice 9 = .ok (.aload_n 0, 1) := by decide +kernel
theorem dX4_newPrice_10 : decode cX4_newPrice 10 = .ok (.getfield 42, 3) := by decide +kernel
theorem dX4_newPrice_13 : decode cX4_newPrice 13 = .ok (.imul, 1) := by decide +kernel
theorem dX4_newPrice_14 : decode cX4_newPrice 14 = .ok (.istore_n 3, 1) := by decide +kernel
theorem dX4_newPrice_15 : decode cX4_newPrice 15 = .ok (.aload_n 0, 1) := by decide +kernel
theorem dX4_newPrice_16 : decode cX4_newPrice 16 = .ok (.getfield 48, 3) := by decide +kernel
theorem dX4_newPrice_19 : decode cX4_newPrice 19 = .ok (.aload_n 0, 1) := by decide +kernel
theorem dX4_newPrice_20 : decode cX4_newPrice 20 = .ok (.getfield 45, 3) := by decide +kernel
theorem dX4_newPrice_23 : decode cX4_newPrice 23 = .ok (.imul, 1) := by decide +kernel
theorem dX4_newPrice_24 : decode cX4_newPrice 24 = .ok (.istore 4, 2) := by decide +kernel
theorem dX4_newPrice_26 : decode cX4_newPrice 26 = .ok (.iload_n 3, 1) := by decide +kernel
theorem dX4_newPrice_27 : decode cX4_newPrice 27 = .ok (.iload 4, 2) := by decide +kernel
theorem dX4_newPrice_29 : decode cX4_newPrice 29 = .ok (.invokestatic 99, 3) := by decide +kernel
theorem dX4_newPrice_32 : decode cX4_newPrice 32 = .ok (.istore 5, 2) := by decide +kernel
theorem dX4_newPrice_34 : decode cX4_newPrice 34 = .ok (.iload_n 3, 1) := by decide +kernel
theorem dX4_newPrice_35 : decode cX4_newPrice 35 = .ok (.iload 5, 2) := by decide +kernel
theorem dX4_newPrice_37 : decode cX4_newPrice 37 = .ok (.iload 4, 2) := by decide +kernel
theorem dX4_newPrice_39 : decode cX4_newPrice 39 = .ok (.imul, 1) := by decide +kernel
theorem dX4_newPrice_40 : decode cX4_newPrice 40 = .ok (.isub, 1) := by decide +kernel
theorem dX4_newPrice_41 : decode cX4_newPrice 41 = .ok (.istore 6, 2) := by decide +kernel
theorem dX4_newPrice_43 : decode cX4_newPrice 43 = .ok (.iload_n 2, 1) := by decide +kernel
theorem dX4_newPrice_44 : decode cX4_newPrice 44 = .ok (.iload 5, 2) := by decide +kernel
theorem dX4_newPrice_46 : decode cX4_newPrice 46 = .ok (.iload 6, 2) := by decide +kernel
theorem dX4_newPrice_48 : decode cX4_newPrice 48 = .ok (.iload 4, 2) := by decide +kernel
theorem dX4_newPrice_50 : decode cX4_newPrice 50 = .ok (.invokestatic 103, 3) := by decide +kernel
theorem dX4_newPrice_53 : decode cX4_newPrice 53 = .ok (.ifCond .eq 10, 3) := by decide +kernel
theorem dX4_newPrice_56 : decode cX4_newPrice 56 = .ok (.iload 5, 2) := by decide +kernel
theorem dX4_newPrice_58 : decode cX4_newPrice 58 = .ok (.iconst 1, 1) := by decide +kernel
theorem dX4_newPrice_59 : decode cX4_newPrice 59 = .ok (.iadd, 1) := by decide +kernel
theorem dX4_newPrice_60 : decode cX4_newPrice 60 = .ok (.goto 5, 3) := by decide +kernel
theorem dX4_newPrice_63 : decode cX4_newPrice 63 = .ok (.iload 5, 2) := by decide +kernel
theorem dX4_newPrice_65 : decode cX4_newPrice 65 = .ok (.aload_n 0, 1) := by decide +kernel
theorem dX4_newPrice_66 : decode cX4_newPrice 66 = .ok (.getfield 48, 3) := by decide +kernel
theorem dX4_newPrice_69 : decode cX4_newPrice 69 = .ok (.imul, 1) := by decide +kernel
theorem dX4_newPrice_70 : decode cX4_newPrice 70 = .ok (.ireturn, 1) := by decide +kernel
theorem dX4_roundsUp_0 : decode cX4_roundsUp 0 = .ok (.iload_n 0, 1) := by decide +kernel
theorem dX4_roundsUp_1 : decode cX4_roundsUp 1 = .ok (.tableswitch 77 1 3 #[27, 37, 50], 27) := by decide +kernel
theorem dX4_roundsUp_28 : decode cX4_roundsUp 28 = .ok (.iload_n 2, 1) := by decide +kernel
theorem dX4_roundsUp_29 : decode cX4_roundsUp 29 = .ok (.ifCond .le 7, 3) := by decide +kernel
theorem dX4_roundsUp_32 : decode cX4_roundsUp 32 = .ok (.iconst 1, 1) := by decide +kernel
theorem dX4_roundsUp_33 : decode cX4_roundsUp 33 = .ok (.goto 4, 3) := by decide +kernel
theorem dX4_roundsUp_36 : decode cX4_roundsUp 36 = .ok (.iconst 0, 1) := by decide +kernel
theorem dX4_roundsUp_37 : decode cX4_roundsUp 37 = .ok (.ireturn, 1) := by decide +kernel
theorem dX4_roundsUp_38 : decode cX4_roundsUp 38 = .ok (.iconst 2, 1) := by decide +kernel
theorem dX4_roundsUp_39 : decode cX4_roundsUp 39 = .ok (.iload_n 2, 1) := by decide +kernel
theorem dX4_roundsUp_40 : decode cX4_roundsUp 40 = .ok (.imul, 1) := by decide +kernel
theorem dX4_roundsUp_41 : decode cX4_roundsUp 41 = .ok (.iload_n 3, 1) := by decide +kernel
theorem dX4_roundsUp_42 : decode cX4_roundsUp 42 = .ok (.if_icmp .lt 7, 3) := by decide +kernel
theorem dX4_roundsUp_45 : decode cX4_roundsUp 45 = .ok (.iconst 1, 1) := by decide +kernel
theorem dX4_roundsUp_46 : decode cX4_roundsUp 46 = .ok (.goto 4, 3) := by decide +kernel
theorem dX4_roundsUp_49 : decode cX4_roundsUp 49 = .ok (.iconst 0, 1) := by decide +kernel
theorem dX4_roundsUp_50 : decode cX4_roundsUp 50 = .ok (.ireturn, 1) := by decide +kernel
theorem dX4_roundsUp_51 : decode cX4_roundsUp 51 = .ok (.iconst 2, 1) := by decide +kernel
theorem dX4_roundsUp_52 : decode cX4_roundsUp 52 = .ok (.iload_n 2, 1) := by decide +kernel
theorem dX4_roundsUp_53 : decode cX4_roundsUp 53 = .ok (.imul, 1) := by decide +kernel
theorem dX4_roundsUp_54 : decode cX4_roundsUp 54 = .ok (.iload_n 3, 1) := by decide +kernel
theorem dX4_roundsUp_55 : decode cX4_roundsUp 55 = .ok (.if_icmp .gt 17, 3) := by decide +kernel
theorem dX4_roundsUp_58 : decode cX4_roundsUp 58 = .ok (.iconst 2, 1) := by decide +kernel
theorem dX4_roundsUp_59 : decode cX4_roundsUp 59 = .ok (.iload_n 2, 1) := by decide +kernel
theorem dX4_roundsUp_60 : decode cX4_roundsUp 60 = .ok (.imul, 1) := by decide +kernel
theorem dX4_roundsUp_61 : decode cX4_roundsUp 61 = .ok (.iload_n 3, 1) := by decide +kernel
theorem dX4_roundsUp_62 : decode cX4_roundsUp 62 = .ok (.if_icmp .ne 14, 3) := by decide +kernel
theorem dX4_roundsUp_65 : decode cX4_roundsUp 65 = .ok (.iload_n 1, 1) := by decide +kernel
theorem dX4_roundsUp_66 : decode cX4_roundsUp 66 = .ok (.iconst 1, 1) := by decide +kernel
theorem dX4_roundsUp_67 : decode cX4_roundsUp 67 = .ok (.iand, 1) := by decide +kernel
theorem dX4_roundsUp_68 : decode cX4_roundsUp 68 = .ok (.iconst 1, 1) := by decide +kernel
theorem dX4_roundsUp_69 : decode cX4_roundsUp 69 = .ok (.if_icmp .ne 7, 3) := by decide +kernel
theorem dX4_roundsUp_72 : decode cX4_roundsUp 72 = .ok (.iconst 1, 1) := by decide +kernel
theorem dX4_roundsUp_73 : decode cX4_roundsUp 73 = .ok (.goto 4, 3) := by decide +kernel
theorem dX4_roundsUp_76 : decode cX4_roundsUp 76 = .ok (.iconst 0, 1) := by decide +kernel
theorem dX4_roundsUp_77 : decode cX4_roundsUp 77 = .ok (.ireturn, 1) := by decide +kernel
theorem dX4_roundsUp_78 : decode cX4_roundsUp 78 = .ok (.iconst 0, 1) := by decide +kernel
theorem dX4_roundsUp_79 : decode cX4_roundsUp 79 = .ok (.ireturn, 1) := by decide +kernel
theorem dX4_gainOf_0 : decode cX4_gainOf 0 = .ok (.aload_n 0, 1) := by decide +kernel
theorem dX4_gainOf_1 : decode cX4_gainOf 1 = .ok (.iload_n 1, 1) := by decide +kernel
theorem dX4_gainOf_2 : decode cX4_gainOf 2 = .ok (.iload_n 2, 1) := by decide +kernel
theorem dX4_gainOf_3 : decode cX4_gainOf 3 = .ok (.invokevirtual 107, 3) := by decide +kernel
theorem dX4_gainOf_6 : decode cX4_gainOf 6 = .ok (.i2l, 1) := by decide +kernel
theorem dX4_gainOf_7 : decode cX4_gainOf 7 = .ok (.aload_n 0, 1) := by decide +kernel
theorem dX4_gainOf_8 : decode cX4_gainOf 8 = .ok (.getfield 45, 3) := by decide +kernel
theorem dX4_gainOf_11 : decode cX4_gainOf 11 = .ok (.i2l, 1) := by decide +kernel
theorem dX4_gainOf_12 : decode cX4_gainOf 12 = .ok (.lmul, 1) := by decide +kernel
theorem dX4_gainOf_13 : decode cX4_gainOf 13 = .ok (.aload_n 0, 1) := by decide +kernel
theorem dX4_gainOf_14 : decode cX4_gainOf 14 = .ok (.getfield 24, 3) := by decide +kernel
theorem dX4_gainOf_17 : decode cX4_gainOf 17 = .ok (.getfield 96, 3) := by decide +kernel
theorem dX4_gainOf_20 : decode cX4_gainOf 20 = .ok (.iload_n 1, 1) := by decide +kernel
theorem dX4_gainOf_21 : decode cX4_gainOf 21 = .ok (.iaload, 1) := by decide +kernel
theorem dX4_gainOf_22 : decode cX4_gainOf 22 = .ok (.i2l, 1) := by decide +kernel
theorem dX4_gainOf_23 : decode cX4_gainOf 23 = .ok (.aload_n 0, 1) := by decide +kernel
theorem dX4_gainOf_24 : decode cX4_gainOf 24 = .ok (.getfield 42, 3) := by decide +kernel
theorem dX4_gainOf_27 : decode cX4_gainOf 27 = .ok (.i2l, 1) := by decide +kernel
theorem dX4_gainOf_28 : decode cX4_gainOf 28 = .ok (.lmul, 1) := by decide +kernel
theorem dX4_gainOf_29 : decode cX4_gainOf 29 = .ok (.lsub, 1) := by decide +kernel
theorem dX4_gainOf_30 : decode cX4_gainOf 30 = .ok (.lstore_n 3, 1) := by decide +kernel
theorem dX4_gainOf_31 : decode cX4_gainOf 31 = .ok (.lload_n 3, 1) := by decide +kernel
theorem dX4_gainOf_32 : decode cX4_gainOf 32 = .ok (.aload_n 0, 1) := by decide +kernel
theorem dX4_gainOf_33 : decode cX4_gainOf 33 = .ok (.getfield 24, 3) := by decide +kernel
theorem dX4_gainOf_36 : decode cX4_gainOf 36 = .ok (.getfield 110, 3) := by decide +kernel
theorem dX4_gainOf_39 : decode cX4_gainOf 39 = .ok (.iload_n 1, 1) := by decide +kernel
theorem dX4_gainOf_40 : decode cX4_gainOf 40 = .ok (.iaload, 1) := by decide +kernel
theorem dX4_gainOf_41 : decode cX4_gainOf 41 = .ok (.i2l, 1) := by decide +kernel
theorem dX4_gainOf_42 : decode cX4_gainOf 42 = .ok (.lmul, 1) := by decide +kernel
theorem dX4_gainOf_43 : decode cX4_gainOf 43 = .ok (.lreturn, 1) := by decide +kernel
theorem dX4_detail_0 : decode cX4_detail 0 = .ok (.iload_n 1, 1) := by decide +kernel
theorem dX4_detail_1 : decode cX4_detail 1 = .ok (.tableswitch 63 0 4 #[35, 43, 48, 53, 58], 35) := by decide +kernel
theorem dX4_detail_36 : decode cX4_detail 36 = .ok (.aload_n 0, 1) := by decide +kernel
theorem dX4_detail_37 : decode cX4_detail 37 = .ok (.getfield 24, 3) := by decide +kernel
theorem dX4_detail_40 : decode cX4_detail 40 = .ok (.getfield 113, 3) := by decide +kernel
theorem dX4_detail_43 : decode cX4_detail 43 = .ok (.ireturn, 1) := by decide +kernel
theorem dX4_detail_44 : decode cX4_detail 44 = .ok (.aload_n 0, 1) := by decide +kernel
theorem dX4_detail_45 : decode cX4_detail 45 = .ok (.getfield 38, 3) := by decide +kernel
theorem dX4_detail_48 : decode cX4_detail 48 = .ok (.ireturn, 1) := by decide +kernel
theorem dX4_detail_49 : decode cX4_detail 49 = .ok (.aload_n 0, 1) := by decide +kernel
theorem dX4_detail_50 : decode cX4_detail 50 = .ok (.getfield 42, 3) := by decide +kernel
theorem dX4_detail_53 : decode cX4_detail 53 = .ok (.ireturn, 1) := by decide +kernel
theorem dX4_detail_54 : decode cX4_detail 54 = .ok (.aload_n 0, 1) := by decide +kernel
theorem dX4_detail_55 : decode cX4_detail 55 = .ok (.getfield 45, 3) := by decide +kernel
theorem dX4_detail_58 : decode cX4_detail 58 = .ok (.ireturn, 1) := by decide +kernel
theorem dX4_detail_59 : decode cX4_detail 59 = .ok (.aload_n 0, 1) := by decide +kernel
theorem dX4_detail_60 : decode cX4_detail 60 = .ok (.getfield 48, 3) := by decide +kernel
theorem dX4_detail_63 : decode cX4_detail 63 = .ok (.ireturn, 1) := by decide +kernel
theorem dX4_detail_64 : decode cX4_detail 64 = .ok (.aload_n 0, 1) := by decide +kernel
theorem dX4_detail_65 : decode cX4_detail 65 = .ok (.iload_n 1, 1) := by decide +kernel
theorem dX4_detail_66 : decode cX4_detail 66 = .ok (.invokevirtual 114, 3) := by decide +kernel
theorem dX4_detail_69 : decode cX4_detail 69 = .ok (.ireturn, 1) := by decide +kernel
theorem dX4_goodDetail_0 : decode cX4_goodDetail 0 = .ok (.aload_n 0, 1) := by decide +kernel
theorem dX4_goodDetail_1 : decode cX4_goodDetail 1 = .ok (.getfield 24, 3) := by decide +kernel
theorem dX4_goodDetail_4 : decode cX4_goodDetail 4 = .ok (.iload_n 1, 1) := by decide +kernel
theorem dX4_goodDetail_5 : decode cX4_goodDetail 5 = .ok (.bipush 10, 2) := by decide +kernel
theorem dX4_goodDetail_7 : decode cX4_goodDetail 7 = .ok (.isub, 1) := by decide +kernel
theorem dX4_goodDetail_8 : decode cX4_goodDetail 8 = .ok (.invokevirtual 117, 3) := by decide +kernel
theorem dX4_goodDetail_11 : decode cX4_goodDetail 11 = .ok (.ifCond .eq 16, 3) := by decide +kernel
theorem dX4_goodDetail_14 : decode cX4_goodDetail 14 = .ok (.aload_n 0, 1) := by decide +kernel
theorem dX4_goodDetail_15 : decode cX4_goodDetail 15 = .ok (.getfield 24, 3) := by decide +kernel
theorem dX4_goodDetail_18 : decode cX4_goodDetail 18 = .ok (.getfield 96, 3) := by decide +kernel
theorem dX4_goodDetail_21 : decode cX4_goodDetail 21 = .ok (.iload_n 1, 1) := by decide +kernel
theorem dX4_goodDetail_22 : decode cX4_goodDetail 22 = .ok (.bipush 10, 2) := by decide +kernel
theorem dX4_goodDetail_24 : decode cX4_goodDetail 24 = .ok (.isub, 1) := by decide +kernel
theorem dX4_goodDetail_25 : decode cX4_goodDetail 25 = .ok (.iaload, 1) := by decide +kernel
theorem dX4_goodDetail_26 : decode cX4_goodDetail 26 = .ok (.ireturn, 1) := by decide +kernel
theorem dX4_goodDetail_27 : decode cX4_goodDetail 27 = .ok (.aload_n 0, 1) := by decide +kernel
theorem dX4_goodDetail_28 : decode cX4_goodDetail 28 = .ok (.getfield 24, 3) := by decide +kernel
theorem dX4_goodDetail_31 : decode cX4_goodDetail 31 = .ok (.iload_n 1, 1) := by decide +kernel
theorem dX4_goodDetail_32 : decode cX4_goodDetail 32 = .ok (.bipush 30, 2) := by decide +kernel
theorem dX4_goodDetail_34 : decode cX4_goodDetail 34 = .ok (.isub, 1) := by decide +kernel
theorem dX4_goodDetail_35 : decode cX4_goodDetail 35 = .ok (.invokevirtual 117, 3) := by decide +kernel
theorem dX4_goodDetail_38 : decode cX4_goodDetail 38 = .ok (.ifCond .eq 18, 3) := by decide +kernel
theorem dX4_goodDetail_41 : decode cX4_goodDetail 41 = .ok (.aload_n 0, 1) := by decide +kernel
theorem dX4_goodDetail_42 : decode cX4_goodDetail 42 = .ok (.getfield 24, 3) := by decide +kernel
theorem dX4_goodDetail_45 : decode cX4_goodDetail 45 = .ok (.getfield 110, 3) := by decide +kernel
theorem dX4_goodDetail_48 : decode cX4_goodDetail 48 = .ok (.iload_n 1, 1) := by decide +kernel
theorem dX4_goodDetail_49 : decode cX4_goodDetail 49 = .ok (.bipush 30, 2) := by decide +kernel
theorem dX4_goodDetail_51 : decode cX4_goodDetail 51 = .ok (.isub, 1) := by decide +kernel
theorem dX4_goodDetail_52 : decode cX4_goodDetail 52 = .ok (.iaload, 1) := by decide +kernel
theorem dX4_goodDetail_53 : decode cX4_goodDetail 53 = .ok (.goto 4, 3) := by decide +kernel
theorem dX4_goodDetail_56 : decode cX4_goodDetail 56 = .ok (.iconst (-1), 1) := by decide +kernel
theorem dX4_goodDetail_57 : decode cX4_goodDetail 57 = .ok (.ireturn, 1) := by decide +kernel
theorem dX5_init_0 : decode cX5_init 0 = .ok (.aload_n 0, 1) := by decide +kernel
theorem dX5_init_1 : decode cX5_init 1 = .ok (.invokespecial 3, 3) := by decide +kernel
theorem dX5_init_4 : decode cX5_init 4 = .ok (.aload_n 0, 1) := by decide +kernel
theorem dX5_init_5 : decode cX5_init 5 = .ok (.bipush 8, 2) := by decide +kernel
theorem dX5_init_7 : decode cX5_init 7 = .ok (.newarray .int, 2) := by decide +kernel
theorem dX5_init_9 : decode cX5_init 9 = .ok (.putfield 9, 3) := by decide +kernel
theorem dX5_init_12 : decode cX5_init 12 = .ok (.aload_n 0, 1) := by decide +kernel
theorem dX5_init_13 : decode cX5_init 13 = .ok (.bipush 8, 2) := by decide +kernel
theorem dX5_init_15 : decode cX5_init 15 = .ok (.newarray .int, 2) := by decide +kernel
theorem dX5_init_17 : decode cX5_init 17 = .ok (.putfield 15, 3) := by decide +kernel
theorem dX5_init_20 : decode cX5_init 20 = .ok (.aload_n 0, 1) := by decide +kernel
theorem dX5_init_21 : decode cX5_init 21 = .ok (.bipush 8, 2) := by decide +kernel
theorem dX5_init_23 : decode cX5_init 23 = .ok (.newarray .int, 2) := by decide +kernel
theorem dX5_init_25 : decode cX5_init 25 = .ok (.putfield 18, 3) := by decide +kernel
theorem dX5_init_28 : decode cX5_init 28 = .ok (.aload_n 0, 1) := by decide +kernel
theorem dX5_init_29 : decode cX5_init 29 = .ok (.new 21, 3) := by decide +kernel
theorem dX5_init_32 : decode cX5_init 32 = .ok (.dup, 1) := by decide +kernel
theorem dX5_init_33 : decode cX5_init 33 = .ok (.invokespecial 23, 3) := by decide +kernel
theorem dX5_init_36 : decode cX5_init 36 = .ok (.putfield 24, 3) := by decide +kernel
theorem dX5_init_39 : decode cX5_init 39 = .ok (.aload_n 0, 1) := by decide +kernel
theorem dX5_init_40 : decode cX5_init 40 = .ok (.iconst 0, 1) := by decide +kernel
theorem dX5_init_41 : decode cX5_init 41 = .ok (.putfield 28, 3) := by decide +kernel
theorem dX5_init_44 : decode cX5_init 44 = .ok (.aload_n 0, 1) := by decide +kernel
theorem dX5_init_45 : decode cX5_init 45 = .ok (.lconst 0, 1) := by decide +kernel
theorem dX5_init_46 : decode cX5_init 46 = .ok (.putfield 32, 3) := by decide +kernel
theorem dX5_init_49 : decode cX5_init 49 = .ok (.aload_n 0, 1) := by decide +kernel
theorem dX5_init_50 : decode cX5_init 50 = .ok (.lconst 0, 1) := by decide +kernel
theorem dX5_init_51 : decode cX5_init 51 = .ok (.putfield 36, 3) := by decide +kernel
theorem dX5_init_54 : decode cX5_init 54 = .ok (.return_, 1) := by decide +kernel
theorem dX5_copyFrom_0 : decode cX5_copyFrom 0 = .ok (.aload_n 1, 1) := by decide +kernel
theorem dX5_copyFrom_1 : decode cX5_copyFrom 1 = .ok (.getfield 9, 3) := by decide +kernel
theorem dX5_copyFrom_4 : decode cX5_copyFrom 4 = .ok (.iconst 0, 1) := by decide +kernel
theorem dX5_copyFrom_5 : decode cX5_copyFrom 5 = .ok (.aload_n 0, 1) := by decide +kernel
theorem dX5_copyFrom_6 : decode cX5_copyFrom 6 = .ok (.getfield 9, 3) := by decide +kernel
theorem dX5_copyFrom_9 : decode cX5_copyFrom 9 = .ok (.iconst 0, 1) := by decide +kernel
theorem dX5_copyFrom_10 : decode cX5_copyFrom 10 = .ok (.bipush 8, 2) := by decide +kernel
theorem dX5_copyFrom_12 : decode cX5_copyFrom 12 = .ok (.invokestatic 39, 3) := by decide +kernel
theorem dX5_copyFrom_15 : decode cX5_copyFrom 15 = .ok (.aload_n 1, 1) := by decide +kernel
theorem dX5_copyFrom_16 : decode cX5_copyFrom 16 = .ok (.getfield 15, 3) := by decide +kernel
theorem dX5_copyFrom_19 : decode cX5_copyFrom 19 = .ok (.iconst 0, 1) := by decide +kernel
theorem dX5_copyFrom_20 : decode cX5_copyFrom 20 = .ok (.aload_n 0, 1) := by decide +kernel
theorem dX5_copyFrom_21 : decode cX5_copyFrom 21 = .ok (.getfield 15, 3) := by decide +kernel
theorem dX5_copyFrom_24 : decode cX5_copyFrom 24 = .ok (.iconst 0, 1) := by decide +kernel
theorem dX5_copyFrom_25 : decode cX5_copyFrom 25 = .ok (.bipush 8, 2) := by decide +kernel
theorem dX5_copyFrom_27 : decode cX5_copyFrom 27 = .ok (.invokestatic 39, 3) := by decide +kernel
theorem dX5_copyFrom_30 : decode cX5_copyFrom 30 = .ok (.aload_n 1, 1) := by decide +kernel
theorem dX5_copyFrom_31 : decode cX5_copyFrom 31 = .ok (.getfield 18, 3) := by decide +kernel
theorem dX5_copyFrom_34 : decode cX5_copyFrom 34 = .ok (.iconst 0, 1) := by decide +kernel
theorem dX5_copyFrom_35 : decode cX5_copyFrom 35 = .ok (.aload_n 0, 1) := by decide +kernel
theorem dX5_copyFrom_36 : decode cX5_copyFrom 36 = .ok (.getfield 18, 3) := by decide +kernel
theorem dX5_copyFrom_39 : decode cX5_copyFrom 39 = .ok (.iconst 0, 1) := by decide +kernel
theorem dX5_copyFrom_40 : decode cX5_copyFrom 40 = .ok (.bipush 8, 2) := by decide +kernel
theorem dX5_copyFrom_42 : decode cX5_copyFrom 42 = .ok (.invokestatic 39, 3) := by decide +kernel
theorem dX5_copyFrom_45 : decode cX5_copyFrom 45 = .ok (.aload_n 0, 1) := by decide +kernel
theorem dX5_copyFrom_46 : decode cX5_copyFrom 46 = .ok (.getfield 24, 3) := by decide +kernel
theorem dX5_copyFrom_49 : decode cX5_copyFrom 49 = .ok (.aload_n 1, 1) := by decide +kernel
theorem dX5_copyFrom_50 : decode cX5_copyFrom 50 = .ok (.getfield 24, 3) := by decide +kernel
theorem dX5_copyFrom_53 : decode cX5_copyFrom 53 = .ok (.invokevirtual 45, 3) := by decide +kernel
theorem dX5_copyFrom_56 : decode cX5_copyFrom 56 = .ok (.aload_n 0, 1) := by decide +kernel
theorem dX5_copyFrom_57 : decode cX5_copyFrom 57 = .ok (.aload_n 1, 1) := by decide +kernel
theorem dX5_copyFrom_58 : decode cX5_copyFrom 58 = .ok (.getfield 28, 3) := by decide +kernel
theorem dX5_copyFrom_61 : decode cX5_copyFrom 61 = .ok (.putfield 28, 3) := by decide +kernel
theorem dX5_copyFrom_64 : decode cX5_copyFrom 64 = .ok (.aload_n 0, 1) := by decide +kernel
theorem dX5_copyFrom_65 : decode cX5_copyFrom 65 = .ok (.aload_n 1, 1) := by decide +kernel
theorem dX5_copyFrom_66 : decode cX5_copyFrom 66 = .ok (.getfield 32, 3) := by decide +kernel
theorem dX5_copyFrom_69 : decode cX5_copyFrom 69 = .ok (.putfield 32, 3) := by decide +kernel
theorem dX5_copyFrom_72 : decode cX5_copyFrom 72 = .ok (.aload_n 0, 1) := by decide +kernel
theorem dX5_copyFrom_73 : decode cX5_copyFrom 73 = .ok (.aload_n 1, 1) := by decide +kernel
theorem dX5_copyFrom_74 : decode cX5_copyFrom 74 = .ok (.getfield 36, 3) := by decide +kernel
theorem dX5_copyFrom_77 : decode cX5_copyFrom 77 = .ok (.putfield 36, 3) := by decide +kernel
theorem dX5_copyFrom_80 : decode cX5_copyFrom 80 = .ok (.return_, 1) := by decide +kernel
theorem dX5_countsOf_0 : decode cX5_countsOf 0 = .ok (.iload_n 1, 1) := by decide +kernel
theorem dX5_countsOf_1 : decode cX5_countsOf 1 = .ok (.ifCond .ne 10, 3) := by decide +kernel
theorem dX5_countsOf_4 : decode cX5_countsOf 4 = .ok (.aload_n 0, 1) := by decide +kernel
theorem dX5_countsOf_5 : decode cX5_countsOf 5 = .ok (.getfield 9, 3) := by decide +kernel
theorem dX5_countsOf_8 : decode cX5_countsOf 8 = .ok (.goto 7, 3) := by decide +kernel
theorem dX5_countsOf_11 : decode cX5_countsOf 11 = .ok (.aload_n 0, 1) := by decide +kernel
theorem dX5_countsOf_12 : decode cX5_countsOf 12 = .ok (.getfield 15, 3) := by decide +kernel
theorem dX5_countsOf_15 : decode cX5_countsOf 15 = .ok (.areturn, 1) := by decide +kernel
theorem dX5_close_0 : decode cX5_close 0 = .ok (.iconst 0, 1) := by decide +kernel
theorem dX5_close_1 : decode cX5_close 1 = .ok (.istore 4, 2) := by decide +kernel
theorem dX5_close_3 : decode cX5_close 3 = .ok (.iload 4, 2) := by decide +kernel
theorem dX5_close_5 : decode cX5_close 5 = .ok (.bipush 8, 2) := by decide +kernel
theorem dX5_close_7 : decode cX5_close 7 = .ok (.if_icmp .ge 34, 3) := by decide +kernel
theorem dX5_close_10 : decode cX5_close 10 = .ok (.aload_n 0, 1) := by decide +kernel
theorem dX5_close_11 : decode cX5_close 11 = .ok (.getfield 15, 3) := by decide +kernel
theorem dX5_close_14 : decode cX5_close 14 = .ok (.iload 4, 2) := by decide +kernel
theorem dX5_close_16 : decode cX5_close 16 = .ok (.dup2, 1) := by decide +kernel
theorem dX5_close_17 : decode cX5_close 17 = .ok (.iaload, 1) := by decide +kernel
theorem dX5_close_18 : decode cX5_close 18 = .ok (.aload_n 3, 1) := by decide +kernel
theorem dX5_close_19 : decode cX5_close 19 = .ok (.iload 4, 2) := by decide +kernel
theorem dX5_close_21 : decode cX5_close 21 = .ok (.iaload, 1) := by decide +kernel
theorem dX5_close_22 : decode cX5_close 22 = .ok (.isub, 1) := by decide +kernel
theorem dX5_close_23 : decode cX5_close 23 = .ok (.iastore, 1) := by decide +kernel
theorem dX5_close_24 : decode cX5_close 24 = .ok (.aload_n 0, 1) := by decide +kernel
theorem dX5_close_25 : decode cX5_close 25 = .ok (.getfield 18, 3) := by decide +kernel
theorem dX5_close_28 : decode cX5_close 28 = .ok (.iload 4, 2) := by decide +kernel
theorem dX5_close_30 : decode cX5_close 30 = .ok (.aload_n 3, 1) := by decide +kernel
theorem dX5_close_31 : decode cX5_close 31 = .ok (.iload 4, 2) := by decide +kernel
theorem dX5_close_33 : decode cX5_close 33 = .ok (.iaload, 1) := by decide +kernel
theorem dX5_close_34 : decode cX5_close 34 = .ok (.iastore, 1) := by decide +kernel
theorem dX5_close_35 : decode cX5_close 35 = .ok (.iinc 4 1, 3) := by decide +kernel
theorem dX5_close_38 : decode cX5_close 38 = .ok (.goto (-35), 3) := by decide +kernel
theorem dX5_close_41 : decode cX5_close 41 = .ok (.aload_n 0, 1) := by decide +kernel
theorem dX5_close_42 : decode cX5_close 42 = .ok (.dup, 1) := by decide +kernel
theorem dX5_close_43 : decode cX5_close 43 = .ok (.getfield 28, 3) := by decide +kernel
theorem dX5_close_46 : decode cX5_close 46 = .ok (.iconst 1, 1) := by decide +kernel
theorem dX5_close_47 : decode cX5_close 47 = .ok (.iadd, 1) := by decide +kernel
theorem dX5_close_48 : decode cX5_close 48 = .ok (.putfield 28, 3) := by decide +kernel
theorem dX5_close_51 : decode cX5_close 51 = .ok (.aload_n 0, 1) := by decide +kernel
theorem dX5_close_52 : decode cX5_close 52 = .ok (.dup, 1) := by decide +kernel
theorem dX5_close_53 : decode cX5_close 53 = .ok (.getfield 32, 3) := by decide +kernel
theorem dX5_close_56 : decode cX5_close 56 = .ok (.iload_n 2, 1) := by decide +kernel
theorem dX5_close_57 : decode cX5_close 57 = .ok (.i2l, 1) := by decide +kernel
theorem dX5_close_58 : decode cX5_close 58 = .ok (.ladd, 1) := by decide +kernel
theorem dX5_close_59 : decode cX5_close 59 = .ok (.putfield 32, 3) := by decide +kernel
theorem dX5_close_62 : decode cX5_close 62 = .ok (.aload_n 0, 1) := by decide +kernel
theorem dX5_close_63 : decode cX5_close 63 = .ok (.dup, 1) := by decide +kernel
theorem dX5_close_64 : decode cX5_close 64 = .ok (.getfield 36, 3) := by decide +kernel
theorem dX5_close_67 : decode cX5_close 67 = .ok (.iload_n 1, 1) := by decide +kernel
theorem dX5_close_68 : decode cX5_close 68 = .ok (.i2l, 1) := by decide +kernel
theorem dX5_close_69 : decode cX5_close 69 = .ok (.ladd, 1) := by decide +kernel
theorem dX5_close_70 : decode cX5_close 70 = .ok (.putfield 36, 3) := by decide +kernel
theorem dX5_close_73 : decode cX5_close 73 = .ok (.return_, 1) := by decide +kernel
theorem dJ6_bitCount_0f7a4_0 : decode cJ6_bitCount_0f7a4 0 = .ok (.iload_n 0, 1) := by decide +kernel
theorem dJ6_bitCount_0f7a4_1 : decode cJ6_bitCount_0f7a4 1 = .ok (.iload_n 0, 1) := by decide +kernel
theorem dJ6_bitCount_0f7a4_2 : decode cJ6_bitCount_0f7a4 2 = .ok (.iconst 1, 1) := by decide +kernel
theorem dJ6_bitCount_0f7a4_3 : decode cJ6_bitCount_0f7a4 3 = .ok (.iushr, 1) := by decide +kernel
theorem dJ6_bitCount_0f7a4_4 : decode cJ6_bitCount_0f7a4 4 = .ok (.ldc_w 265, 3) := by decide +kernel
theorem dJ6_bitCount_0f7a4_7 : decode cJ6_bitCount_0f7a4 7 = .ok (.iand, 1) := by decide +kernel
theorem dJ6_bitCount_0f7a4_8 : decode cJ6_bitCount_0f7a4 8 = .ok (.isub, 1) := by decide +kernel
theorem dJ6_bitCount_0f7a4_9 : decode cJ6_bitCount_0f7a4 9 = .ok (.istore_n 0, 1) := by decide +kernel
theorem dJ6_bitCount_0f7a4_10 : decode cJ6_bitCount_0f7a4 10 = .ok (.iload_n 0, 1) := by decide +kernel
theorem dJ6_bitCount_0f7a4_11 : decode cJ6_bitCount_0f7a4 11 = .ok (.ldc_w 266, 3) := by decide +kernel
theorem dJ6_bitCount_0f7a4_14 : decode cJ6_bitCount_0f7a4 14 = .ok (.iand, 1) := by decide +kernel
theorem dJ6_bitCount_0f7a4_15 : decode cJ6_bitCount_0f7a4 15 = .ok (.iload_n 0, 1) := by decide +kernel
theorem dJ6_bitCount_0f7a4_16 : decode cJ6_bitCount_0f7a4 16 = .ok (.iconst 2, 1) := by decide +kernel
theorem dJ6_bitCount_0f7a4_17 : decode cJ6_bitCount_0f7a4 17 = .ok (.iushr, 1) := by decide +kernel
theorem dJ6_bitCount_0f7a4_18 : decode cJ6_bitCount_0f7a4 18 = .ok (.ldc_w 266, 3) := by decide +kernel
theorem dJ6_bitCount_0f7a4_21 : decode cJ6_bitCount_0f7a4 21 = .ok (.iand, 1) := by decide +kernel
theorem dJ6_bitCount_0f7a4_22 : decode cJ6_bitCount_0f7a4 22 = .ok (.iadd, 1) := by decide +kernel
theorem dJ6_bitCount_0f7a4_23 : decode cJ6_bitCount_0f7a4 23 = .ok (.istore_n 0, 1) := by decide +kernel
theorem dJ6_bitCount_0f7a4_24 : decode cJ6_bitCount_0f7a4 24 = .ok (.iload_n 0, 1) := by decide +kernel
theorem dJ6_bitCount_0f7a4_25 : decode cJ6_bitCount_0f7a4 25 = .ok (.iload_n 0, 1) := by decide +kernel
theorem dJ6_bitCount_0f7a4_26 : decode cJ6_bitCount_0f7a4 26 = .ok (.iconst 4, 1) := by decide +kernel
theorem dJ6_bitCount_0f7a4_27 : decode cJ6_bitCount_0f7a4 27 = .ok (.iushr, 1) := by decide +kernel
theorem dJ6_bitCount_0f7a4_28 : decode cJ6_bitCount_0f7a4 28 = .ok (.iadd, 1) := by decide +kernel
theorem dJ6_bitCount_0f7a4_29 : decode cJ6_bitCount_0f7a4 29 = .ok (.ldc_w 267, 3) := by decide +kernel
theorem dJ6_bitCount_0f7a4_32 : decode cJ6_bitCount_0f7a4 32 = .ok (.iand, 1) := by decide +kernel
theorem dJ6_bitCount_0f7a4_33 : decode cJ6_bitCount_0f7a4 33 = .ok (.istore_n 0, 1) := by decide +kernel
theorem dJ6_bitCount_0f7a4_34 : decode cJ6_bitCount_0f7a4 34 = .ok (.iload_n 0, 1) := by decide +kernel
theorem dJ6_bitCount_0f7a4_35 : decode cJ6_bitCount_0f7a4 35 = .ok (.iload_n 0, 1) := by decide +kernel
theorem dJ6_bitCount_0f7a4_36 : decode cJ6_bitCount_0f7a4 36 = .ok (.bipush 8, 2) := by decide +kernel
theorem dJ6_bitCount_0f7a4_38 : decode cJ6_bitCount_0f7a4 38 = .ok (.iushr, 1) := by decide +kernel
theorem dJ6_bitCount_0f7a4_39 : decode cJ6_bitCount_0f7a4 39 = .ok (.iadd, 1) := by decide +kernel
theorem dJ6_bitCount_0f7a4_40 : decode cJ6_bitCount_0f7a4 40 = .ok (.istore_n 0, 1) := by decide +kernel
theorem dJ6_bitCount_0f7a4_41 : decode cJ6_bitCount_0f7a4 41 = .ok (.iload_n 0, 1) := by decide +kernel
theorem dJ6_bitCount_0f7a4_42 : decode cJ6_bitCount_0f7a4 42 = .ok (.iload_n 0, 1) := by decide +kernel
theorem dJ6_bitCount_0f7a4_43 : decode cJ6_bitCount_0f7a4 43 = .ok (.bipush 16, 2) := by decide +kernel
theorem dJ6_bitCount_0f7a4_45 : decode cJ6_bitCount_0f7a4 45 = .ok (.iushr, 1) := by decide +kernel
theorem dJ6_bitCount_0f7a4_46 : decode cJ6_bitCount_0f7a4 46 = .ok (.iadd, 1) := by decide +kernel
theorem dJ6_bitCount_0f7a4_47 : decode cJ6_bitCount_0f7a4 47 = .ok (.istore_n 0, 1) := by decide +kernel
theorem dJ6_bitCount_0f7a4_48 : decode cJ6_bitCount_0f7a4 48 = .ok (.iload_n 0, 1) := by decide +kernel
theorem dJ6_bitCount_0f7a4_49 : decode cJ6_bitCount_0f7a4 49 = .ok (.bipush 63, 2) := by decide +kernel
theorem dJ6_bitCount_0f7a4_51 : decode cJ6_bitCount_0f7a4 51 = .ok (.iand, 1) := by decide +kernel
theorem dJ6_bitCount_0f7a4_52 : decode cJ6_bitCount_0f7a4 52 = .ok (.ireturn, 1) := by decide +kernel
theorem dJ9_abs_067f4_0 : decode cJ9_abs_067f4 0 = .ok (.lload_n 0, 1) := by decide +kernel
theorem dJ9_abs_067f4_1 : decode cJ9_abs_067f4 1 = .ok (.lconst 0, 1) := by decide +kernel
theorem dJ9_abs_067f4_2 : decode cJ9_abs_067f4 2 = .ok (.lcmp, 1) := by decide +kernel
theorem dJ9_abs_067f4_3 : decode cJ9_abs_067f4 3 = .ok (.ifCond .ge 8, 3) := by decide +kernel
theorem dJ9_abs_067f4_6 : decode cJ9_abs_067f4 6 = .ok (.lload_n 0, 1) := by decide +kernel
theorem dJ9_abs_067f4_7 : decode cJ9_abs_067f4 7 = .ok (.lneg, 1) := by decide +kernel
theorem dJ9_abs_067f4_8 : decode cJ9_abs_067f4 8 = .ok (.goto 4, 3) := by decide +kernel
theorem dJ9_abs_067f4_11 : decode cJ9_abs_067f4 11 = .ok (.lload_n 0, 1) := by decide +kernel
theorem dJ9_abs_067f4_12 : decode cJ9_abs_067f4 12 = .ok (.lreturn, 1) := by decide +kernel
theorem dJ9_max_7cf53_0 : decode cJ9_max_7cf53 0 = .ok (.iload_n 0, 1) := by decide +kernel
theorem dJ9_max_7cf53_1 : decode cJ9_max_7cf53 1 = .ok (.iload_n 1, 1) := by decide +kernel
theorem dJ9_max_7cf53_2 : decode cJ9_max_7cf53 2 = .ok (.if_icmp .lt 7, 3) := by decide +kernel
theorem dJ9_max_7cf53_5 : decode cJ9_max_7cf53 5 = .ok (.iload_n 0, 1) := by decide +kernel
theorem dJ9_max_7cf53_6 : decode cJ9_max_7cf53 6 = .ok (.goto 4, 3) := by decide +kernel
theorem dJ9_max_7cf53_9 : decode cJ9_max_7cf53 9 = .ok (.iload_n 1, 1) := by decide +kernel
theorem dJ9_max_7cf53_10 : decode cJ9_max_7cf53 10 = .ok (.ireturn, 1) := by decide +kernel
theorem dJ9_min_7cf53_0 : decode cJ9_min_7cf53 0 = .ok (.iload_n 0, 1) := by decide +kernel
theorem dJ9_min_7cf53_1 : decode cJ9_min_7cf53 1 = .ok (.iload_n 1, 1) := by decide +kernel
theorem dJ9_min_7cf53_2 : decode cJ9_min_7cf53 2 = .ok (.if_icmp .gt 7, 3) := by decide +kernel
theorem dJ9_min_7cf53_5 : decode cJ9_min_7cf53 5 = .ok (.iload_n 0, 1) := by decide +kernel
theorem dJ9_min_7cf53_6 : decode cJ9_min_7cf53 6 = .ok (.goto 4, 3) := by decide +kernel
theorem dJ9_min_7cf53_9 : decode cJ9_min_7cf53 9 = .ok (.iload_n 1, 1) := by decide +kernel
theorem dJ9_min_7cf53_10 : decode cJ9_min_7cf53 10 = .ok (.ireturn, 1) := by decide +kernel
theorem dJ7_fill_53178_0 : decode cJ7_fill_53178 0 = .ok (.iconst 0, 1) := by decide +kernel
theorem dJ7_fill_53178_1 : decode cJ7_fill_53178 1 = .ok (.istore_n 2, 1) := by decide +kernel
theorem dJ7_fill_53178_2 : decode cJ7_fill_53178 2 = .ok (.aload_n 0, 1) := by decide +kernel
theorem dJ7_fill_53178_3 : decode cJ7_fill_53178 3 = .ok (.arraylength, 1) := by decide +kernel
theorem dJ7_fill_53178_4 : decode cJ7_fill_53178 4 = .ok (.istore_n 3, 1) := by decide +kernel
theorem dJ7_fill_53178_5 : decode cJ7_fill_53178 5 = .ok (.iload_n 2, 1) := by decide +kernel
theorem dJ7_fill_53178_6 : decode cJ7_fill_53178 6 = .ok (.iload_n 3, 1) := by decide +kernel
theorem dJ7_fill_53178_7 : decode cJ7_fill_53178 7 = .ok (.if_icmp .ge 13, 3) := by decide +kernel
theorem dJ7_fill_53178_10 : decode cJ7_fill_53178 10 = .ok (.aload_n 0, 1) := by decide +kernel
theorem dJ7_fill_53178_11 : decode cJ7_fill_53178 11 = .ok (.iload_n 2, 1) := by decide +kernel
theorem dJ7_fill_53178_12 : decode cJ7_fill_53178 12 = .ok (.iload_n 1, 1) := by decide +kernel
theorem dJ7_fill_53178_13 : decode cJ7_fill_53178 13 = .ok (.iastore, 1) := by decide +kernel
theorem dJ7_fill_53178_14 : decode cJ7_fill_53178 14 = .ok (.iinc 2 1, 3) := by decide +kernel
theorem dJ7_fill_53178_17 : decode cJ7_fill_53178 17 = .ok (.goto (-12), 3) := by decide +kernel
theorem dJ7_fill_53178_20 : decode cJ7_fill_53178 20 = .ok (.return_, 1) := by decide +kernel
