theorem dX11_makeCell_37 : decode cX11_makeCell 37 = .ok (.return_, 1) := by decide +kernel
theorem dX11_makeCell_38 : decode cX11_makeCell 38 = .ok (.aload_n 0, 1) := by decide +kernel
theorem dX11_makeCell_39 : decode cX11_makeCell 39 = .ok (.getfield 234, 3) := by decide +kernel
theorem dX11_makeCell_42 : decode cX11_makeCell 42 = .ok (.istore 4, 2) := by decide +kernel
theorem dX11_makeCell_44 : decode cX11_makeCell 44 = .ok (.aload_n 0, 1) := by decide +kernel
theorem dX11_makeCell_45 : decode cX11_makeCell 45 = .ok (.dup, 1) := by decide +kernel
theorem dX11_makeCell_46 : decode cX11_makeCell 46 = .ok (.getfield 234, 3) := by decide +kernel
theorem dX11_makeCell_49 : decode cX11_makeCell 49 = .ok (.iconst 1, 1) := by decide +kernel
theorem dX11_makeCell_50 : decode cX11_makeCell 50 = .ok (.iadd, 1) := by decide +kernel
theorem dX11_makeCell_51 : decode cX11_makeCell 51 = .ok (.putfield 234, 3) := by decide +kernel
theorem dX11_makeCell_54 : decode cX11_makeCell 54 = .ok (.aload_n 0, 1) := by decide +kernel
theorem dX11_makeCell_55 : decode cX11_makeCell 55 = .ok (.getfield 57, 3) := by decide +kernel
theorem dX11_makeCell_58 : decode cX11_makeCell 58 = .ok (.iload 4, 2) := by decide +kernel
theorem dX11_makeCell_60 : decode cX11_makeCell 60 = .ok (.aload_n 0, 1) := by decide +kernel
theorem dX11_makeCell_61 : decode cX11_makeCell 61 = .ok (.getfield 42, 3) := by decide +kernel
theorem dX11_makeCell_64 : decode cX11_makeCell 64 = .ok (.iload_n 1, 1) := by decide +kernel
theorem dX11_makeCell_65 : decode cX11_makeCell 65 = .ok (.iaload, 1) := by decide +kernel
theorem dX11_makeCell_66 : decode cX11_makeCell 66 = .ok (.iastore, 1) := by decide +kernel
theorem dX11_makeCell_67 : decode cX11_makeCell 67 = .ok (.aload_n 0, 1) := by decide +kernel
theorem dX11_makeCell_68 : decode cX11_makeCell 68 = .ok (.getfield 60, 3) := by decide +kernel
theorem dX11_makeCell_71 : decode cX11_makeCell 71 = .ok (.iload 4, 2) := by decide +kernel
theorem dX11_makeCell_73 : decode cX11_makeCell 73 = .ok (.iload_n 2, 1) := by decide +kernel
theorem dX11_makeCell_74 : decode cX11_makeCell 74 = .ok (.iastore, 1) := by decide +kernel
theorem dX11_makeCell_75 : decode cX11_makeCell 75 = .ok (.aload_n 0, 1) := by decide +kernel
theorem dX11_makeCell_76 : decode cX11_makeCell 76 = .ok (.getfield 63, 3) := by decide +kernel
theorem dX11_makeCell_79 : decode cX11_makeCell 79 = .ok (.iload 4, 2) := by decide +kernel
theorem dX11_makeCell_81 : decode cX11_makeCell 81 = .ok (.aload_n 0, 1) := by decide +kernel
theorem dX11_makeCell_82 : decode cX11_makeCell 82 = .ok (.getfield 237, 3) := by decide +kernel
theorem dX11_makeCell_85 : decode cX11_makeCell 85 = .ok (.iastore, 1) := by decide +kernel
theorem dX11_makeCell_86 : decode cX11_makeCell 86 = .ok (.iconst 0, 1) := by decide +kernel
theorem dX11_makeCell_87 : decode cX11_makeCell 87 = .ok (.istore 5, 2) := by decide +kernel
theorem dX11_makeCell_89 : decode cX11_makeCell 89 = .ok (.iload 5, 2) := by decide +kernel
theorem dX11_makeCell_91 : decode cX11_makeCell 91 = .ok (.iload_n 2, 1) := by decide +kernel
theorem dX11_makeCell_92 : decode cX11_makeCell 92 = .ok (.if_icmp .ge 37, 3) := by decide +kernel
theorem dX11_makeCell_95 : decode cX11_makeCell 95 = .ok (.aload_n 0, 1) := by decide +kernel
theorem dX11_makeCell_96 : decode cX11_makeCell 96 = .ok (.getfield 66, 3) := by decide +kernel
theorem dX11_makeCell_99 : decode cX11_makeCell 99 = .ok (.aload_n 0, 1) := by decide +kernel
theorem dX11_makeCell_100 : decode cX11_makeCell 100 = .ok (.getfield 237, 3) := by decide +kernel
theorem dX11_makeCell_103 : decode cX11_makeCell 103 = .ok (.iload 5, 2) := by decide +kernel
theorem dX11_makeCell_105 : decode cX11_makeCell 105 = .ok (.iadd, 1) := by decide +kernel
theorem dX11_makeCell_106 : decode cX11_makeCell 106 = .ok (.aload_n 0, 1) := by decide +kernel
theorem dX11_makeCell_107 : decode cX11_makeCell 107 = .ok (.aload_n 0, 1) := by decide +kernel
theorem dX11_makeCell_108 : decode cX11_makeCell 108 = .ok (.getfield 54, 3) := by decide +kernel
theorem dX11_makeCell_111 : decode cX11_makeCell 111 = .ok (.bipush 10, 2) := by decide +kernel
theorem dX11_makeCell_113 : decode cX11_makeCell 113 = .ok (.iload_n 1, 1) := by decide +kernel
theorem dX11_makeCell_114 : decode cX11_makeCell 114 = .ok (.imul, 1) := by decide +kernel
theorem dX11_makeCell_115 : decode cX11_makeCell 115 = .ok (.iload 5, 2) := by decide +kernel
theorem dX11_makeCell_117 : decode cX11_makeCell 117 = .ok (.iadd, 1) := by decide +kernel
theorem dX11_makeCell_118 : decode cX11_makeCell 118 = .ok (.iaload, 1) := by decide +kernel
theorem dX11_makeCell_119 : decode cX11_makeCell 119 = .ok (.invokevirtual 240, 3) := by decide +kernel
theorem dX11_makeCell_122 : decode cX11_makeCell 122 = .ok (.lastore, 1) := by decide +kernel
theorem dX11_makeCell_123 : decode cX11_makeCell 123 = .ok (.iinc 5 1, 3) := by decide +kernel
theorem dX11_makeCell_126 : decode cX11_makeCell 126 = .ok (.goto (-37), 3) := by decide +kernel
theorem dX11_makeCell_129 : decode cX11_makeCell 129 = .ok (.aload_n 0, 1) := by decide +kernel
theorem dX11_makeCell_130 : decode cX11_makeCell 130 = .ok (.dup, 1) := by decide +kernel
theorem dX11_makeCell_131 : decode cX11_makeCell 131 = .ok (.getfield 237, 3) := by decide +kernel
theorem dX11_makeCell_134 : decode cX11_makeCell 134 = .ok (.iload_n 2, 1) := by decide +kernel
theorem dX11_makeCell_135 : decode cX11_makeCell 135 = .ok (.iadd, 1) := by decide +kernel
theorem dX11_makeCell_136 : decode cX11_makeCell 136 = .ok (.putfield 237, 3) := by decide +kernel
theorem dX11_makeCell_139 : decode cX11_makeCell 139 = .ok (.aload_n 0, 1) := by decide +kernel
theorem dX11_makeCell_140 : decode cX11_makeCell 140 = .ok (.dup, 1) := by decide +kernel
theorem dX11_makeCell_141 : decode cX11_makeCell 141 = .ok (.getfield 228, 3) := by decide +kernel
theorem dX11_makeCell_144 : decode cX11_makeCell 144 = .ok (.iload_n 3, 1) := by decide +kernel
theorem dX11_makeCell_145 : decode cX11_makeCell 145 = .ok (.iadd, 1) := by decide +kernel
theorem dX11_makeCell_146 : decode cX11_makeCell 146 = .ok (.putfield 228, 3) := by decide +kernel
theorem dX11_makeCell_149 : decode cX11_makeCell 149 = .ok (.aload_n 0, 1) := by decide +kernel
theorem dX11_makeCell_150 : decode cX11_makeCell 150 = .ok (.aload_n 0, 1) := by decide +kernel
theorem dX11_makeCell_151 : decode cX11_makeCell 151 = .ok (.getfield 228, 3) := by decide +kernel
theorem dX11_makeCell_154 : decode cX11_makeCell 154 = .ok (.aload_n 0, 1) := by decide +kernel
theorem dX11_makeCell_155 : decode cX11_makeCell 155 = .ok (.getfield 244, 3) := by decide +kernel
theorem dX11_makeCell_158 : decode cX11_makeCell 158 = .ok (.if_icmp .le 10, 3) := by decide +kernel
theorem dX11_makeCell_161 : decode cX11_makeCell 161 = .ok (.aload_n 0, 1) := by decide +kernel
theorem dX11_makeCell_162 : decode cX11_makeCell 162 = .ok (.getfield 228, 3) := by decide +kernel
theorem dX11_makeCell_165 : decode cX11_makeCell 165 = .ok (.goto 7, 3) := by decide +kernel
theorem dX11_makeCell_168 : decode cX11_makeCell 168 = .ok (.aload_n 0, 1) := by decide +kernel
theorem dX11_makeCell_169 : decode cX11_makeCell 169 = .ok (.getfield 244, 3) := by decide +kernel
theorem dX11_makeCell_172 : decode cX11_makeCell 172 = .ok (.putfield 244, 3) := by decide +kernel
theorem dX11_makeCell_175 : decode cX11_makeCell 175 = .ok (.aload_n 0, 1) := by decide +kernel
theorem dX11_makeCell_176 : decode cX11_makeCell 176 = .ok (.aload_n 0, 1) := by decide +kernel
theorem dX11_makeCell_177 : decode cX11_makeCell 177 = .ok (.getfield 39, 3) := by decide +kernel
theorem dX11_makeCell_180 : decode cX11_makeCell 180 = .ok (.iload_n 1, 1) := by decide +kernel
theorem dX11_makeCell_181 : decode cX11_makeCell 181 = .ok (.iaload, 1) := by decide +kernel
theorem dX11_makeCell_182 : decode cX11_makeCell 182 = .ok (.ldc2_w 215, 3) := by decide +kernel
theorem dX11_makeCell_185 : decode cX11_makeCell 185 = .ok (.iload 4, 2) := by decide +kernel
theorem dX11_makeCell_187 : decode cX11_makeCell 187 = .ok (.i2l, 1) := by decide +kernel
theorem dX11_makeCell_188 : decode cX11_makeCell 188 = .ok (.ladd, 1) := by decide +kernel
theorem dX11_makeCell_189 : decode cX11_makeCell 189 = .ok (.invokevirtual 247, 3) := by decide +kernel
theorem dX11_makeCell_192 : decode cX11_makeCell 192 = .ok (.return_, 1) := by decide +kernel
theorem dX11_takeCell_0 : decode cX11_takeCell 0 = .ok (.aload_n 0, 1) := by decide +kernel
theorem dX11_takeCell_1 : decode cX11_takeCell 1 = .ok (.aload_n 0, 1) := by decide +kernel
theorem dX11_takeCell_2 : decode cX11_takeCell 2 = .ok (.getfield 39, 3) := by decide +kernel
theorem dX11_takeCell_5 : decode cX11_takeCell 5 = .ok (.iload_n 1, 1) := by decide +kernel
theorem dX11_takeCell_6 : decode cX11_takeCell 6 = .ok (.iaload, 1) := by decide +kernel
theorem dX11_takeCell_7 : decode cX11_takeCell 7 = .ok (.invokevirtual 240, 3) := by decide +kernel
theorem dX11_takeCell_10 : decode cX11_takeCell 10 = .ok (.lstore_n 2, 1) := by decide +kernel
theorem dX11_takeCell_11 : decode cX11_takeCell 11 = .ok (.aload_n 0, 1) := by decide +kernel
theorem dX11_takeCell_12 : decode cX11_takeCell 12 = .ok (.lload_n 2, 1) := by decide +kernel
theorem dX11_takeCell_13 : decode cX11_takeCell 13 = .ok (.aload_n 0, 1) := by decide +kernel
theorem dX11_takeCell_14 : decode cX11_takeCell 14 = .ok (.getfield 42, 3) := by decide +kernel
theorem dX11_takeCell_17 : decode cX11_takeCell 17 = .ok (.iload_n 1, 1) := by decide +kernel
theorem dX11_takeCell_18 : decode cX11_takeCell 18 = .ok (.iaload, 1) := by decide +kernel
theorem dX11_takeCell_19 : decode cX11_takeCell 19 = .ok (.aload_n 0, 1) := by decide +kernel
theorem dX11_takeCell_20 : decode cX11_takeCell 20 = .ok (.getfield 51, 3) := by decide +kernel
theorem dX11_takeCell_23 : decode cX11_takeCell 23 = .ok (.iload_n 1, 1) := by decide +kernel
theorem dX11_takeCell_24 : decode cX11_takeCell 24 = .ok (.iaload, 1) := by decide +kernel
theorem dX11_takeCell_25 : decode cX11_takeCell 25 = .ok (.invokevirtual 251, 3) := by decide +kernel
theorem dX11_takeCell_28 : decode cX11_takeCell 28 = .ok (.ifCond .ne 8, 3) := by decide +kernel
theorem dX11_takeCell_31 : decode cX11_takeCell 31 = .ok (.aload_n 0, 1) := by decide +kernel
theorem dX11_takeCell_32 : decode cX11_takeCell 32 = .ok (.invokevirtual 255, 3) := by decide +kernel
theorem dX11_takeCell_35 : decode cX11_takeCell 35 = .ok (.return_, 1) := by decide +kernel
theorem dX11_takeCell_36 : decode cX11_takeCell 36 = .ok (.lload_n 2, 1) := by decide +kernel
theorem dX11_takeCell_37 : decode cX11_takeCell 37 = .ok (.ldc2_w 215, 3) := by decide +kernel
theorem dX11_takeCell_40 : decode cX11_takeCell 40 = .ok (.lsub, 1) := by decide +kernel
theorem dX11_takeCell_41 : decode cX11_takeCell 41 = .ok (.l2i, 1) := by decide +kernel
theorem dX11_takeCell_42 : decode cX11_takeCell 42 = .ok (.istore 4, 2) := by decide +kernel
theorem dX11_takeCell_44 : decode cX11_takeCell 44 = .ok (.iconst 0, 1) := by decide +kernel
theorem dX11_takeCell_45 : decode cX11_takeCell 45 = .ok (.istore 5, 2) := by decide +kernel
theorem dX11_takeCell_47 : decode cX11_takeCell 47 = .ok (.iload 5, 2) := by decide +kernel
theorem dX11_takeCell_49 : decode cX11_takeCell 49 = .ok (.aload_n 0, 1) := by decide +kernel
theorem dX11_takeCell_50 : decode cX11_takeCell 50 = .ok (.getfield 51, 3) := by decide +kernel
theorem dX11_takeCell_53 : decode cX11_takeCell 53 = .ok (.iload_n 1, 1) := by decide +kernel
theorem dX11_takeCell_54 : decode cX11_takeCell 54 = .ok (.iaload, 1) := by decide +kernel
theorem dX11_takeCell_55 : decode cX11_takeCell 55 = .ok (.if_icmp .ge 40, 3) := by decide +kernel
theorem dX11_takeCell_58 : decode cX11_takeCell 58 = .ok (.aload_n 0, 1) := by decide +kernel
theorem dX11_takeCell_59 : decode cX11_takeCell 59 = .ok (.aload_n 0, 1) := by decide +kernel
theorem dX11_takeCell_60 : decode cX11_takeCell 60 = .ok (.getfield 54, 3) := by decide +kernel
theorem dX11_takeCell_63 : decode cX11_takeCell 63 = .ok (.bipush 10, 2) := by decide +kernel
theorem dX11_takeCell_65 : decode cX11_takeCell 65 = .ok (.iload_n 1, 1) := by decide +kernel
theorem dX11_takeCell_66 : decode cX11_takeCell 66 = .ok (.imul, 1) := by decide +kernel
theorem dX11_takeCell_67 : decode cX11_takeCell 67 = .ok (.iload 5, 2) := by decide +kernel
theorem dX11_takeCell_69 : decode cX11_takeCell 69 = .ok (.iadd, 1) := by decide +kernel
theorem dX11_takeCell_70 : decode cX11_takeCell 70 = .ok (.iaload, 1) := by decide +kernel
theorem dX11_takeCell_71 : decode cX11_takeCell 71 = .ok (.aload_n 0, 1) := by decide +kernel
theorem dX11_takeCell_72 : decode cX11_takeCell 72 = .ok (.getfield 66, 3) := by decide +kernel
theorem dX11_takeCell_75 : decode cX11_takeCell 75 = .ok (.aload_n 0, 1) := by decide +kernel
theorem dX11_takeCell_76 : decode cX11_takeCell 76 = .ok (.getfield 63, 3) := by decide +kernel
theorem dX11_takeCell_79 : decode cX11_takeCell 79 = .ok (.iload 4, 2) := by decide +kernel
theorem dX11_takeCell_81 : decode cX11_takeCell 81 = .ok (.iaload, 1) := by decide +kernel
theorem dX11_takeCell_82 : decode cX11_takeCell 82 = .ok (.iload 5, 2) := by decide +kernel
theorem dX11_takeCell_84 : decode cX11_takeCell 84 = .ok (.iadd, 1) := by decide +kernel
theorem dX11_takeCell_85 : decode cX11_takeCell 85 = .ok (.laload, 1) := by decide +kernel
theorem dX11_takeCell_86 : decode cX11_takeCell 86 = .ok (.invokevirtual 247, 3) := by decide +kernel
theorem dX11_takeCell_89 : decode cX11_takeCell 89 = .ok (.iinc 5 1, 3) := by decide +kernel
theorem dX11_takeCell_92 : decode cX11_takeCell 92 = .ok (.goto (-45), 3) := by decide +kernel
theorem dX11_takeCell_95 : decode cX11_takeCell 95 = .ok (.return_, 1) := by decide +kernel
theorem dX11_fail_0 : decode cX11_fail 0 = .ok (.aload_n 0, 1) := by decide +kernel
theorem dX11_fail_1 : decode cX11_fail 1 = .ok (.invokevirtual 209, 3) := by decide +kernel
theorem dX11_fail_4 : decode cX11_fail 4 = .ok (.istore_n 1, 1) := by decide +kernel
theorem dX11_fail_5 : decode cX11_fail 5 = .ok (.iload_n 1, 1) := by decide +kernel
theorem dX11_fail_6 : decode cX11_fail 6 = .ok (.ifCond .ge 9, 3) := by decide +kernel
theorem dX11_fail_9 : decode cX11_fail 9 = .ok (.aload_n 0, 1) := by decide +kernel
theorem dX11_fail_10 : decode cX11_fail 10 = .ok (.iconst 2, 1) := by decide +kernel
theorem dX11_fail_11 : decode cX11_fail 11 = .ok (.putfield 116, 3) := by decide +kernel
theorem dX11_fail_14 : decode cX11_fail 14 = .ok (.return_, 1) := by decide +kernel
theorem dX11_fail_15 : decode cX11_fail 15 = .ok (.aload_n 0, 1) := by decide +kernel
theorem dX11_fail_16 : decode cX11_fail 16 = .ok (.getfield 91, 3) := by decide +kernel
theorem dX11_fail_19 : decode cX11_fail 19 = .ok (.iload_n 1, 1) := by decide +kernel
theorem dX11_fail_20 : decode cX11_fail 20 = .ok (.baload, 1) := by decide +kernel
theorem dX11_fail_21 : decode cX11_fail 21 = .ok (.istore_n 2, 1) := by decide +kernel
theorem dX11_fail_22 : decode cX11_fail 22 = .ok (.aload_n 0, 1) := by decide +kernel
theorem dX11_fail_23 : decode cX11_fail 23 = .ok (.getfield 82, 3) := by decide +kernel
theorem dX11_fail_26 : decode cX11_fail 26 = .ok (.iload_n 1, 1) := by decide +kernel
theorem dX11_fail_27 : decode cX11_fail 27 = .ok (.iaload, 1) := by decide +kernel
theorem dX11_fail_28 : decode cX11_fail 28 = .ok (.istore_n 3, 1) := by decide +kernel
theorem dX11_fail_29 : decode cX11_fail 29 = .ok (.aload_n 0, 1) := by decide +kernel
theorem dX11_fail_30 : decode cX11_fail 30 = .ok (.getfield 79, 3) := by decide +kernel
theorem dX11_fail_33 : decode cX11_fail 33 = .ok (.iload_n 1, 1) := by decide +kernel
theorem dX11_fail_34 : decode cX11_fail 34 = .ok (.iaload, 1) := by decide +kernel
theorem dX11_fail_35 : decode cX11_fail 35 = .ok (.istore 4, 2) := by decide +kernel
theorem dX11_fail_37 : decode cX11_fail 37 = .ok (.aload_n 0, 1) := by decide +kernel
theorem dX11_fail_38 : decode cX11_fail 38 = .ok (.iload_n 1, 1) := by decide +kernel
theorem dX11_fail_39 : decode cX11_fail 39 = .ok (.invokevirtual 212, 3) := by decide +kernel
theorem dX11_fail_42 : decode cX11_fail 42 = .ok (.iload_n 2, 1) := by decide +kernel
theorem dX11_fail_43 : decode cX11_fail 43 = .ok (.ifCond .eq 6, 3) := by decide +kernel
theorem dX11_fail_46 : decode cX11_fail 46 = .ok (.goto (-46), 3) := by decide +kernel
theorem dX11_fail_49 : decode cX11_fail 49 = .ok (.aload_n 0, 1) := by decide +kernel
theorem dX11_fail_50 : decode cX11_fail 50 = .ok (.getfield 217, 3) := by decide +kernel
theorem dX11_fail_53 : decode cX11_fail 53 = .ok (.aload_n 0, 1) := by decide +kernel
theorem dX11_fail_54 : decode cX11_fail 54 = .ok (.getfield 103, 3) := by decide +kernel
theorem dX11_fail_57 : decode cX11_fail 57 = .ok (.iload_n 1, 1) := by decide +kernel
theorem dX11_fail_58 : decode cX11_fail 58 = .ok (.iaload, 1) := by decide +kernel
theorem dX11_fail_59 : decode cX11_fail 59 = .ok (.if_icmp .le 39, 3) := by decide +kernel
theorem dX11_fail_62 : decode cX11_fail 62 = .ok (.aload_n 0, 1) := by decide +kernel
theorem dX11_fail_63 : decode cX11_fail 63 = .ok (.dup, 1) := by decide +kernel
theorem dX11_fail_64 : decode cX11_fail 64 = .ok (.getfield 217, 3) := by decide +kernel
theorem dX11_fail_67 : decode cX11_fail 67 = .ok (.iconst 1, 1) := by decide +kernel
theorem dX11_fail_68 : decode cX11_fail 68 = .ok (.isub, 1) := by decide +kernel
theorem dX11_fail_69 : decode cX11_fail 69 = .ok (.putfield 217, 3) := by decide +kernel
theorem dX11_fail_72 : decode cX11_fail 72 = .ok (.aload_n 0, 1) := by decide +kernel
theorem dX11_fail_73 : decode cX11_fail 73 = .ok (.getfield 106, 3) := by decide +kernel
theorem dX11_fail_76 : decode cX11_fail 76 = .ok (.aload_n 0, 1) := by decide +kernel
theorem dX11_fail_77 : decode cX11_fail 77 = .ok (.getfield 110, 3) := by decide +kernel
theorem dX11_fail_80 : decode cX11_fail 80 = .ok (.aload_n 0, 1) := by decide +kernel
theorem dX11_fail_81 : decode cX11_fail 81 = .ok (.getfield 217, 3) := by decide +kernel
theorem dX11_fail_84 : decode cX11_fail 84 = .ok (.iaload, 1) := by decide +kernel
theorem dX11_fail_85 : decode cX11_fail 85 = .ok (.aload_n 0, 1) := by decide +kernel
theorem dX11_fail_86 : decode cX11_fail 86 = .ok (.getfield 113, 3) := by decide +kernel
theorem dX11_fail_89 : decode cX11_fail 89 = .ok (.aload_n 0, 1) := by decide +kernel
theorem dX11_fail_90 : decode cX11_fail 90 = .ok (.getfield 217, 3) := by decide +kernel
theorem dX11_fail_93 : decode cX11_fail 93 = .ok (.laload, 1) := by decide +kernel
theorem dX11_fail_94 : decode cX11_fail 94 = .ok (.lastore, 1) := by decide +kernel
theorem dX11_fail_95 : decode cX11_fail 95 = .ok (.goto (-46), 3) := by decide +kernel
theorem dX11_fail_98 : decode cX11_fail 98 = .ok (.aload_n 0, 1) := by decide +kernel
theorem dX11_fail_99 : decode cX11_fail 99 = .ok (.aload_n 0, 1) := by decide +kernel
theorem dX11_fail_100 : decode cX11_fail 100 = .ok (.getfield 94, 3) := by decide +kernel
theorem dX11_fail_103 : decode cX11_fail 103 = .ok (.iload_n 1, 1) := by decide +kernel
theorem dX11_fail_104 : decode cX11_fail 104 = .ok (.iaload, 1) := by decide +kernel
theorem dX11_fail_105 : decode cX11_fail 105 = .ok (.putfield 228, 3) := by decide +kernel
theorem dX11_fail_108 : decode cX11_fail 108 = .ok (.aload_n 0, 1) := by decide +kernel
theorem dX11_fail_109 : decode cX11_fail 109 = .ok (.aload_n 0, 1) := by decide +kernel
theorem dX11_fail_110 : decode cX11_fail 110 = .ok (.getfield 97, 3) := by decide +kernel
theorem dX11_fail_113 : decode cX11_fail 113 = .ok (.iload_n 1, 1) := by decide +kernel
theorem dX11_fail_114 : decode cX11_fail 114 = .ok (.iaload, 1) := by decide +kernel
theorem dX11_fail_115 : decode cX11_fail 115 = .ok (.putfield 234, 3) := by decide +kernel
theorem dX11_fail_118 : decode cX11_fail 118 = .ok (.aload_n 0, 1) := by decide +kernel
theorem dX11_fail_119 : decode cX11_fail 119 = .ok (.aload_n 0, 1) := by decide +kernel
theorem dX11_fail_120 : decode cX11_fail 120 = .ok (.getfield 100, 3) := by decide +kernel
theorem dX11_fail_123 : decode cX11_fail 123 = .ok (.iload_n 1, 1) := by decide +kernel
theorem dX11_fail_124 : decode cX11_fail 124 = .ok (.iaload, 1) := by decide +kernel
theorem dX11_fail_125 : decode cX11_fail 125 = .ok (.putfield 237, 3) := by decide +kernel
theorem dX11_fail_128 : decode cX11_fail 128 = .ok (.aload_n 0, 1) := by decide +kernel
theorem dX11_fail_129 : decode cX11_fail 129 = .ok (.iload_n 3, 1) := by decide +kernel
theorem dX11_fail_130 : decode cX11_fail 130 = .ok (.putfield 203, 3) := by decide +kernel
theorem dX11_fail_133 : decode cX11_fail 133 = .ok (.aload_n 0, 1) := by decide +kernel
theorem dX11_fail_134 : decode cX11_fail 134 = .ok (.getfield 79, 3) := by decide +kernel
theorem dX11_fail_137 : decode cX11_fail 137 = .ok (.iload_n 3, 1) := by decide +kernel
theorem dX11_fail_138 : decode cX11_fail 138 = .ok (.iload 4, 2) := by decide +kernel
theorem dX11_fail_140 : decode cX11_fail 140 = .ok (.iastore, 1) := by decide +kernel
theorem dX11_fail_141 : decode cX11_fail 141 = .ok (.return_, 1) := by decide +kernel
theorem dX11_tryLater_0 : decode cX11_tryLater 0 = .ok (.aload_n 0, 1) := by decide +kernel
theorem dX11_tryLater_1 : decode cX11_tryLater 1 = .ok (.getfield 167, 3) := by decide +kernel
theorem dX11_tryLater_4 : decode cX11_tryLater 4 = .ok (.iconst 3, 1) := by decide +kernel
theorem dX11_tryLater_5 : decode cX11_tryLater 5 = .ok (.iadd, 1) := by decide +kernel
theorem dX11_tryLater_6 : decode cX11_tryLater 6 = .ok (.aload_n 0, 1) := by decide +kernel
theorem dX11_tryLater_7 : decode cX11_tryLater 7 = .ok (.getfield 258, 3) := by decide +kernel
theorem dX11_tryLater_10 : decode cX11_tryLater 10 = .ok (.if_icmp .le 9, 3) := by decide +kernel
theorem dX11_tryLater_13 : decode cX11_tryLater 13 = .ok (.aload_n 0, 1) := by decide +kernel
theorem dX11_tryLater_14 : decode cX11_tryLater 14 = .ok (.iconst 4, 1) := by decide +kernel
theorem dX11_tryLater_15 : decode cX11_tryLater 15 = .ok (.putfield 116, 3) := by decide +kernel
theorem dX11_tryLater_18 : decode cX11_tryLater 18 = .ok (.return_, 1) := by decide +kernel
theorem dX11_tryLater_19 : decode cX11_tryLater 19 = .ok (.aload_n 0, 1) := by decide +kernel
theorem dX11_tryLater_20 : decode cX11_tryLater 20 = .ok (.getfield 173, 3) := by decide +kernel
theorem dX11_tryLater_23 : decode cX11_tryLater 23 = .ok (.istore_n 2, 1) := by decide +kernel
theorem dX11_tryLater_24 : decode cX11_tryLater 24 = .ok (.aload_n 0, 1) := by decide +kernel
theorem dX11_tryLater_25 : decode cX11_tryLater 25 = .ok (.getfield 70, 3) := by decide +kernel
theorem dX11_tryLater_28 : decode cX11_tryLater 28 = .ok (.iload_n 2, 1) := by decide +kernel
theorem dX11_tryLater_29 : decode cX11_tryLater 29 = .ok (.iconst 0, 1) := by decide +kernel
theorem dX11_tryLater_30 : decode cX11_tryLater 30 = .ok (.bastore, 1) := by decide +kernel
theorem dX11_tryLater_31 : decode cX11_tryLater 31 = .ok (.aload_n 0, 1) := by decide +kernel
theorem dX11_tryLater_32 : decode cX11_tryLater 32 = .ok (.getfield 82, 3) := by decide +kernel
theorem dX11_tryLater_35 : decode cX11_tryLater 35 = .ok (.iload_n 2, 1) := by decide +kernel
theorem dX11_tryLater_36 : decode cX11_tryLater 36 = .ok (.aload_n 0, 1) := by decide +kernel
theorem dX11_tryLater_37 : decode cX11_tryLater 37 = .ok (.getfield 203, 3) := by decide +kernel
theorem dX11_tryLater_40 : decode cX11_tryLater 40 = .ok (.iastore, 1) := by decide +kernel
theorem dX11_tryLater_41 : decode cX11_tryLater 41 = .ok (.aload_n 0, 1) := by decide +kernel
theorem dX11_tryLater_42 : decode cX11_tryLater 42 = .ok (.getfield 79, 3) := by decide +kernel
theorem dX11_tryLater_45 : decode cX11_tryLater 45 = .ok (.iload_n 2, 1) := by decide +kernel
theorem dX11_tryLater_46 : decode cX11_tryLater 46 = .ok (.aload_n 0, 1) := by decide +kernel
theorem dX11_tryLater_47 : decode cX11_tryLater 47 = .ok (.getfield 39, 3) := by decide +kernel
theorem dX11_tryLater_50 : decode cX11_tryLater 50 = .ok (.iload_n 1, 1) := by decide +kernel
theorem dX11_tryLater_51 : decode cX11_tryLater 51 = .ok (.iaload, 1) := by decide +kernel
theorem dX11_tryLater_52 : decode cX11_tryLater 52 = .ok (.iastore, 1) := by decide +kernel
theorem dX11_tryLater_53 : decode cX11_tryLater 53 = .ok (.aload_n 0, 1) := by decide +kernel
theorem dX11_tryLater_54 : decode cX11_tryLater 54 = .ok (.getfield 91, 3) := by decide +kernel
theorem dX11_tryLater_57 : decode cX11_tryLater 57 = .ok (.iload_n 2, 1) := by decide +kernel
theorem dX11_tryLater_58 : decode cX11_tryLater 58 = .ok (.iconst 0, 1) := by decide +kernel
theorem dX11_tryLater_59 : decode cX11_tryLater 59 = .ok (.bastore, 1) := by decide +kernel
theorem dX11_tryLater_60 : decode cX11_tryLater 60 = .ok (.aload_n 0, 1) := by decide +kernel
theorem dX11_tryLater_61 : decode cX11_tryLater 61 = .ok (.getfield 94, 3) := by decide +kernel
theorem dX11_tryLater_64 : decode cX11_tryLater 64 = .ok (.iload_n 2, 1) := by decide +kernel
theorem dX11_tryLater_65 : decode cX11_tryLater 65 = .ok (.aload_n 0, 1) := by decide +kernel
theorem dX11_tryLater_66 : decode cX11_tryLater 66 = .ok (.getfield 228, 3) := by decide +kernel
theorem dX11_tryLater_69 : decode cX11_tryLater 69 = .ok (.iastore, 1) := by decide +kernel
theorem dX11_tryLater_70 : decode cX11_tryLater 70 = .ok (.aload_n 0, 1) := by decide +kernel
theorem dX11_tryLater_71 : decode cX11_tryLater 71 = .ok (.getfield 97, 3) := by decide +kernel
theorem dX11_tryLater_74 : decode cX11_tryLater 74 = .ok (.iload_n 2, 1) := by decide +kernel
theorem dX11_tryLater_75 : decode cX11_tryLater 75 = .ok (.aload_n 0, 1) := by decide +kernel
theorem dX11_tryLater_76 : decode cX11_tryLater 76 = .ok (.getfield 234, 3) := by decide +kernel
theorem dX11_tryLater_79 : decode cX11_tryLater 79 = .ok (.iastore, 1) := by decide +kernel
theorem dX11_tryLater_80 : decode cX11_tryLater 80 = .ok (.aload_n 0, 1) := by decide +kernel
theorem dX11_tryLater_81 : decode cX11_tryLater 81 = .ok (.getfield 100, 3) := by decide +kernel
theorem dX11_tryLater_84 : decode cX11_tryLater 84 = .ok (.iload_n 2, 1) := by decide +kernel
theorem dX11_tryLater_85 : decode cX11_tryLater 85 = .ok (.aload_n 0, 1) := by decide +kernel
theorem dX11_tryLater_86 : decode cX11_tryLater 86 = .ok (.getfield 237, 3) := by decide +kernel
theorem dX11_tryLater_89 : decode cX11_tryLater 89 = .ok (.iastore, 1) := by decide +kernel
theorem dX11_tryLater_90 : decode cX11_tryLater 90 = .ok (.aload_n 0, 1) := by decide +kernel
theorem dX11_tryLater_91 : decode cX11_tryLater 91 = .ok (.getfield 103, 3) := by decide +kernel
theorem dX11_tryLater_94 : decode cX11_tryLater 94 = .ok (.iload_n 2, 1) := by decide +kernel
theorem dX11_tryLater_95 : decode cX11_tryLater 95 = .ok (.aload_n 0, 1) := by decide +kernel
theorem dX11_tryLater_96 : decode cX11_tryLater 96 = .ok (.getfield 217, 3) := by decide +kernel
theorem dX11_tryLater_99 : decode cX11_tryLater 99 = .ok (.iastore, 1) := by decide +kernel
theorem dX11_tryLater_100 : decode cX11_tryLater 100 = .ok (.aload_n 0, 1) := by decide +kernel
theorem dX11_tryLater_101 : decode cX11_tryLater 101 = .ok (.dup, 1) := by decide +kernel
theorem dX11_tryLater_102 : decode cX11_tryLater 102 = .ok (.getfield 173, 3) := by decide +kernel
theorem dX11_tryLater_105 : decode cX11_tryLater 105 = .ok (.iconst 1, 1) := by decide +kernel
theorem dX11_tryLater_106 : decode cX11_tryLater 106 = .ok (.iadd, 1) := by decide +kernel
theorem dX11_tryLater_107 : decode cX11_tryLater 107 = .ok (.putfield 173, 3) := by decide +kernel
theorem dX11_tryLater_110 : decode cX11_tryLater 110 = .ok (.aload_n 0, 1) := by decide +kernel
theorem dX11_tryLater_111 : decode cX11_tryLater 111 = .ok (.iconst 3, 1) := by decide +kernel
theorem dX11_tryLater_112 : decode cX11_tryLater 112 = .ok (.invokevirtual 186, 3) := by decide +kernel
theorem dX11_tryLater_115 : decode cX11_tryLater 115 = .ok (.aload_n 0, 1) := by decide +kernel
theorem dX11_tryLater_116 : decode cX11_tryLater 116 = .ok (.getfield 79, 3) := by decide +kernel
theorem dX11_tryLater_119 : decode cX11_tryLater 119 = .ok (.aload_n 0, 1) := by decide +kernel
theorem dX11_tryLater_120 : decode cX11_tryLater 120 = .ok (.getfield 203, 3) := by decide +kernel
theorem dX11_tryLater_123 : decode cX11_tryLater 123 = .ok (.dup2, 1) := by decide +kernel
theorem dX11_tryLater_124 : decode cX11_tryLater 124 = .ok (.iaload, 1) := by decide +kernel
theorem dX11_tryLater_125 : decode cX11_tryLater 125 = .ok (.iconst 1, 1) := by decide +kernel
theorem dX11_tryLater_126 : decode cX11_tryLater 126 = .ok (.iadd, 1) := by decide +kernel
theorem dX11_tryLater_127 : decode cX11_tryLater 127 = .ok (.iastore, 1) := by decide +kernel
theorem dX11_tryLater_128 : decode cX11_tryLater 128 = .ok (.return_, 1) := by decide +kernel
theorem dX11_call_0 : decode cX11_call 0 = .ok (.aload_n 0, 1) := by decide +kernel
theorem dX11_call_1 : decode cX11_call 1 = .ok (.getfield 39, 3) := by decide +kernel
theorem dX11_call_4 : decode cX11_call 4 = .ok (.iload_n 1, 1) := by decide +kernel
theorem dX11_call_5 : decode cX11_call 5 = .ok (.iaload, 1) := by decide +kernel
theorem dX11_call_6 : decode cX11_call 6 = .ok (.istore_n 2, 1) := by decide +kernel
theorem dX11_call_7 : decode cX11_call 7 = .ok (.aload_n 0, 1) := by decide +kernel
theorem dX11_call_8 : decode cX11_call 8 = .ok (.getfield 167, 3) := by decide +kernel
theorem dX11_call_11 : decode cX11_call 11 = .ok (.iconst 2, 1) := by decide +kernel
theorem dX11_call_12 : decode cX11_call 12 = .ok (.iadd, 1) := by decide +kernel
theorem dX11_call_13 : decode cX11_call 13 = .ok (.aload_n 0, 1) := by decide +kernel
theorem dX11_call_14 : decode cX11_call 14 = .ok (.getfield 17, 3) := by decide +kernel
theorem dX11_call_17 : decode cX11_call 17 = .ok (.iload_n 2, 1) := by decide +kernel
theorem dX11_call_18 : decode cX11_call 18 = .ok (.iaload, 1) := by decide +kernel
theorem dX11_call_19 : decode cX11_call 19 = .ok (.iadd, 1) := by decide +kernel
theorem dX11_call_20 : decode cX11_call 20 = .ok (.aload_n 0, 1) := by decide +kernel
theorem dX11_call_21 : decode cX11_call 21 = .ok (.getfield 258, 3) := by decide +kernel
theorem dX11_call_24 : decode cX11_call 24 = .ok (.if_icmp .le 9, 3) := by decide +kernel
theorem dX11_call_27 : decode cX11_call 27 = .ok (.aload_n 0, 1) := by decide +kernel
theorem dX11_call_28 : decode cX11_call 28 = .ok (.iconst 4, 1) := by decide +kernel
theorem dX11_call_29 : decode cX11_call 29 = .ok (.putfield 116, 3) := by decide +kernel
theorem dX11_call_32 : decode cX11_call 32 = .ok (.return_, 1) := by decide +kernel
theorem dX11_call_33 : decode cX11_call 33 = .ok (.aload_n 0, 1) := by decide +kernel
theorem dX11_call_34 : decode cX11_call 34 = .ok (.getfield 203, 3) := by decide +kernel
theorem dX11_call_37 : decode cX11_call 37 = .ok (.istore_n 3, 1) := by decide +kernel
theorem dX11_call_38 : decode cX11_call 38 = .ok (.aload_n 0, 1) := by decide +kernel
theorem dX11_call_39 : decode cX11_call 39 = .ok (.getfield 173, 3) := by decide +kernel
theorem dX11_call_42 : decode cX11_call 42 = .ok (.istore 4, 2) := by decide +kernel
theorem dX11_call_44 : decode cX11_call 44 = .ok (.aload_n 0, 1) := by decide +kernel
theorem dX11_call_45 : decode cX11_call 45 = .ok (.iload_n 2, 1) := by decide +kernel
theorem dX11_call_46 : decode cX11_call 46 = .ok (.iload_n 3, 1) := by decide +kernel
theorem dX11_call_47 : decode cX11_call 47 = .ok (.aload_n 0, 1) := by decide +kernel
theorem dX11_call_48 : decode cX11_call 48 = .ok (.getfield 79, 3) := by decide +kernel
theorem dX11_call_51 : decode cX11_call 51 = .ok (.iload_n 3, 1) := by decide +kernel
theorem dX11_call_52 : decode cX11_call 52 = .ok (.iaload, 1) := by decide +kernel
theorem dX11_call_53 : decode cX11_call 53 = .ok (.invokevirtual 261, 3) := by decide +kernel
theorem dX11_call_56 : decode cX11_call 56 = .ok (.iconst 0, 1) := by decide +kernel
theorem dX11_call_57 : decode cX11_call 57 = .ok (.istore 5, 2) := by decide +kernel
theorem dX11_call_59 : decode cX11_call 59 = .ok (.iload 5, 2) := by decide +kernel
theorem dX11_call_61 : decode cX11_call 61 = .ok (.aload_n 0, 1) := by decide +kernel
theorem dX11_call_62 : decode cX11_call 62 = .ok (.getfield 20, 3) := by decide +kernel
theorem dX11_call_65 : decode cX11_call 65 = .ok (.iload_n 2, 1) := by decide +kernel
theorem dX11_call_66 : decode cX11_call 66 = .ok (.iaload, 1) := by decide +kernel
theorem dX11_call_67 : decode cX11_call 67 = .ok (.if_icmp .ge 48, 3) := by decide +kernel
theorem dX11_call_70 : decode cX11_call 70 = .ok (.aload_n 0, 1) := by decide +kernel
theorem dX11_call_71 : decode cX11_call 71 = .ok (.getfield 106, 3) := by decide +kernel
theorem dX11_call_74 : decode cX11_call 74 = .ok (.aload_n 0, 1) := by decide +kernel
theorem dX11_call_75 : decode cX11_call 75 = .ok (.getfield 76, 3) := by decide +kernel
theorem dX11_call_78 : decode cX11_call 78 = .ok (.iload 4, 2) := by decide +kernel
theorem dX11_call_80 : decode cX11_call 80 = .ok (.iaload, 1) := by decide +kernel
theorem dX11_call_81 : decode cX11_call 81 = .ok (.iload 5, 2) := by decide +kernel
theorem dX11_call_83 : decode cX11_call 83 = .ok (.iadd, 1) := by decide +kernel
theorem dX11_call_84 : decode cX11_call 84 = .ok (.aload_n 0, 1) := by decide +kernel
theorem dX11_call_85 : decode cX11_call 85 = .ok (.getfield 106, 3) := by decide +kernel
theorem dX11_call_88 : decode cX11_call 88 = .ok (.aload_n 0, 1) := by decide +kernel
theorem dX11_call_89 : decode cX11_call 89 = .ok (.getfield 76, 3) := by decide +kernel
theorem dX11_call_92 : decode cX11_call 92 = .ok (.iload_n 3, 1) := by decide +kernel
theorem dX11_call_93 : decode cX11_call 93 = .ok (.iaload, 1) := by decide +kernel
theorem dX11_call_94 : decode cX11_call 94 = .ok (.aload_n 0, 1) := by decide +kernel
theorem dX11_call_95 : decode cX11_call 95 = .ok (.getfield 54, 3) := by decide +kernel
theorem dX11_call_98 : decode cX11_call 98 = .ok (.bipush 10, 2) := by decide +kernel
theorem dX11_call_100 : decode cX11_call 100 = .ok (.iload_n 1, 1) := by decide +kernel
theorem dX11_call_101 : decode cX11_call 101 = .ok (.imul, 1) := by decide +kernel
theorem dX11_call_102 : decode cX11_call 102 = .ok (.iload 5, 2) := by decide +kernel
theorem dX11_call_104 : decode cX11_call 104 = .ok (.iadd, 1) := by decide +kernel
theorem dX11_call_105 : decode cX11_call 105 = .ok (.iaload, 1) := by decide +kernel
theorem dX11_call_106 : decode cX11_call 106 = .ok (.iadd, 1) := by decide +kernel
theorem dX11_call_107 : decode cX11_call 107 = .ok (.laload, 1) := by decide +kernel
theorem dX11_call_108 : decode cX11_call 108 = .ok (.lastore, 1) := by decide +kernel
theorem dX11_call_109 : decode cX11_call 109 = .ok (.iinc 5 1, 3) := by decide +kernel
theorem dX11_call_112 : decode cX11_call 112 = .ok (.goto (-53), 3) := by decide +kernel
theorem dX11_call_115 : decode cX11_call 115 = .ok (.aload_n 0, 1) := by decide +kernel
theorem dX11_call_116 : decode cX11_call 116 = .ok (.iload 4, 2) := by decide +kernel
theorem dX11_call_118 : decode cX11_call 118 = .ok (.putfield 203, 3) := by decide +kernel
theorem dX11_call_121 : decode cX11_call 121 = .ok (.return_, 1) := by decide +kernel
theorem dX11_exit_0 : decode cX11_exit 0 = .ok (.aload_n 0, 1) := by decide +kernel
theorem dX11_exit_1 : decode cX11_exit 1 = .ok (.getfield 73, 3) := by decide +kernel
theorem dX11_exit_4 : decode cX11_exit 4 = .ok (.aload_n 0, 1) := by decide +kernel
theorem dX11_exit_5 : decode cX11_exit 5 = .ok (.getfield 203, 3) := by decide +kernel
theorem dX11_exit_8 : decode cX11_exit 8 = .ok (.iaload, 1) := by decide +kernel
theorem dX11_exit_9 : decode cX11_exit 9 = .ok (.istore_n 1, 1) := by decide +kernel
theorem dX11_exit_10 : decode cX11_exit 10 = .ok (.aload_n 0, 1) := by decide +kernel
theorem dX11_exit_11 : decode cX11_exit 11 = .ok (.getfield 13, 3) := by decide +kernel
theorem dX11_exit_14 : decode cX11_exit 14 = .ok (.iload_n 1, 1) := by decide +kernel
theorem dX11_exit_15 : decode cX11_exit 15 = .ok (.baload, 1) := by decide +kernel
theorem dX11_exit_16 : decode cX11_exit 16 = .ok (.ifCond .ne 16, 3) := by decide +kernel
theorem dX11_exit_19 : decode cX11_exit 19 = .ok (.aload_n 0, 1) := by decide +kernel
theorem dX11_exit_20 : decode cX11_exit 20 = .ok (.aload_n 0, 1) := by decide +kernel
theorem dX11_exit_21 : decode cX11_exit 21 = .ok (.getfield 88, 3) := by decide +kernel
theorem dX11_exit_24 : decode cX11_exit 24 = .ok (.aload_n 0, 1) := by decide +kernel
theorem dX11_exit_25 : decode cX11_exit 25 = .ok (.getfield 203, 3) := by decide +kernel
theorem dX11_exit_28 : decode cX11_exit 28 = .ok (.iaload, 1) := by decide +kernel
theorem dX11_exit_29 : decode cX11_exit 29 = .ok (.invokevirtual 265, 3) := by decide +kernel
theorem dX11_exit_32 : decode cX11_exit 32 = .ok (.aload_n 0, 1) := by decide +kernel
theorem dX11_exit_33 : decode cX11_exit 33 = .ok (.getfield 203, 3) := by decide +kernel
theorem dX11_exit_36 : decode cX11_exit 36 = .ok (.istore_n 2, 1) := by decide +kernel
theorem dX11_exit_37 : decode cX11_exit 37 = .ok (.aload_n 0, 1) := by decide +kernel
theorem dX11_exit_38 : decode cX11_exit 38 = .ok (.getfield 82, 3) := by decide +kernel
theorem dX11_exit_41 : decode cX11_exit 41 = .ok (.iload_n 2, 1) := by decide +kernel
theorem dX11_exit_42 : decode cX11_exit 42 = .ok (.iaload, 1) := by decide +kernel
theorem dX11_exit_43 : decode cX11_exit 43 = .ok (.iconst (-1), 1) := by decide +kernel
theorem dX11_exit_44 : decode cX11_exit 44 = .ok (.if_icmp .ne 19, 3) := by decide +kernel
theorem dX11_exit_47 : decode cX11_exit 47 = .ok (.aload_n 0, 1) := by decide +kernel
theorem dX11_exit_48 : decode cX11_exit 48 = .ok (.iconst 1, 1) := by decide +kernel
theorem dX11_exit_49 : decode cX11_exit 49 = .ok (.putfield 116, 3) := by decide +kernel
theorem dX11_exit_52 : decode cX11_exit 52 = .ok (.aload_n 0, 1) := by decide +kernel
theorem dX11_exit_53 : decode cX11_exit 53 = .ok (.dup, 1) := by decide +kernel
theorem dX11_exit_54 : decode cX11_exit 54 = .ok (.getfield 268, 3) := by decide +kernel
theorem dX11_exit_57 : decode cX11_exit 57 = .ok (.iconst 1, 1) := by decide +kernel
theorem dX11_exit_58 : decode cX11_exit 58 = .ok (.iadd, 1) := by decide +kernel
theorem dX11_exit_59 : decode cX11_exit 59 = .ok (.putfield 268, 3) := by decide +kernel
theorem dX11_exit_62 : decode cX11_exit 62 = .ok (.return_, 1) := by decide +kernel
theorem dX11_exit_63 : decode cX11_exit 63 = .ok (.aload_n 0, 1) := by decide +kernel
theorem dX11_exit_64 : decode cX11_exit 64 = .ok (.getfield 82, 3) := by decide +kernel
theorem dX11_exit_67 : decode cX11_exit 67 = .ok (.iload_n 2, 1) := by decide +kernel
theorem dX11_exit_68 : decode cX11_exit 68 = .ok (.iaload, 1) := by decide +kernel
theorem dX11_exit_69 : decode cX11_exit 69 = .ok (.istore_n 3, 1) := by decide +kernel
theorem dX11_exit_70 : decode cX11_exit 70 = .ok (.aload_n 0, 1) := by decide +kernel
theorem dX11_exit_71 : decode cX11_exit 71 = .ok (.getfield 33, 3) := by decide +kernel
theorem dX11_exit_74 : decode cX11_exit 74 = .ok (.sipush 2000, 3) := by decide +kernel
theorem dX11_exit_77 : decode cX11_exit 77 = .ok (.aload_n 0, 1) := by decide +kernel
theorem dX11_exit_78 : decode cX11_exit 78 = .ok (.getfield 73, 3) := by decide +kernel
theorem dX11_exit_81 : decode cX11_exit 81 = .ok (.iload_n 3, 1) := by decide +kernel
theorem dX11_exit_82 : decode cX11_exit 82 = .ok (.iaload, 1) := by decide +kernel
theorem dX11_exit_83 : decode cX11_exit 83 = .ok (.imul, 1) := by decide +kernel
theorem dX11_exit_84 : decode cX11_exit 84 = .ok (.aload_n 0, 1) := by decide +kernel
theorem dX11_exit_85 : decode cX11_exit 85 = .ok (.getfield 85, 3) := by decide +kernel
theorem dX11_exit_88 : decode cX11_exit 88 = .ok (.iload_n 2, 1) := by decide +kernel
theorem dX11_exit_89 : decode cX11_exit 89 = .ok (.iaload, 1) := by decide +kernel
theorem dX11_exit_90 : decode cX11_exit 90 = .ok (.iadd, 1) := by decide +kernel
theorem dX11_exit_91 : decode cX11_exit 91 = .ok (.iaload, 1) := by decide +kernel
theorem dX11_exit_92 : decode cX11_exit 92 = .ok (.istore 4, 2) := by decide +kernel
theorem dX11_exit_94 : decode cX11_exit 94 = .ok (.iconst 0, 1) := by decide +kernel
theorem dX11_exit_95 : decode cX11_exit 95 = .ok (.istore 5, 2) := by decide +kernel
theorem dX11_exit_97 : decode cX11_exit 97 = .ok (.iload 5, 2) := by decide +kernel
theorem dX11_exit_99 : decode cX11_exit 99 = .ok (.aload_n 0, 1) := by decide +kernel
theorem dX11_exit_100 : decode cX11_exit 100 = .ok (.getfield 23, 3) := by decide +kernel
theorem dX11_exit_103 : decode cX11_exit 103 = .ok (.iload_n 1, 1) := by decide +kernel
theorem dX11_exit_104 : decode cX11_exit 104 = .ok (.iaload, 1) := by decide +kernel
theorem dX11_exit_105 : decode cX11_exit 105 = .ok (.if_icmp .ge 58, 3) := by decide +kernel
theorem dX11_exit_108 : decode cX11_exit 108 = .ok (.aload_n 0, 1) := by decide +kernel
theorem dX11_exit_109 : decode cX11_exit 109 = .ok (.iload_n 3, 1) := by decide +kernel
theorem dX11_exit_110 : decode cX11_exit 110 = .ok (.aload_n 0, 1) := by decide +kernel
theorem dX11_exit_111 : decode cX11_exit 111 = .ok (.getfield 54, 3) := by decide +kernel
theorem dX11_exit_114 : decode cX11_exit 114 = .ok (.bipush 10, 2) := by decide +kernel
theorem dX11_exit_116 : decode cX11_exit 116 = .ok (.iload 4, 2) := by decide +kernel
theorem dX11_exit_118 : decode cX11_exit 118 = .ok (.imul, 1) := by decide +kernel
theorem dX11_exit_119 : decode cX11_exit 119 = .ok (.aload_n 0, 1) := by decide +kernel
theorem dX11_exit_120 : decode cX11_exit 120 = .ok (.getfield 20, 3) := by decide +kernel
theorem dX11_exit_123 : decode cX11_exit 123 = .ok (.iload_n 1, 1) := by decide +kernel
theorem dX11_exit_124 : decode cX11_exit 124 = .ok (.iaload, 1) := by decide +kernel
theorem dX11_exit_125 : decode cX11_exit 125 = .ok (.iadd, 1) := by decide +kernel
theorem dX11_exit_126 : decode cX11_exit 126 = .ok (.iload 5, 2) := by decide +kernel
theorem dX11_exit_128 : decode cX11_exit 128 = .ok (.iadd, 1) := by decide +kernel
theorem dX11_exit_129 : decode cX11_exit 129 = .ok (.iaload, 1) := by decide +kernel
theorem dX11_exit_130 : decode cX11_exit 130 = .ok (.aload_n 0, 1) := by decide +kernel
theorem dX11_exit_131 : decode cX11_exit 131 = .ok (.getfield 106, 3) := by decide +kernel
theorem dX11_exit_134 : decode cX11_exit 134 = .ok (.aload_n 0, 1) := by decide +kernel
theorem dX11_exit_135 : decode cX11_exit 135 = .ok (.getfield 76, 3) := by decide +kernel
theorem dX11_exit_138 : decode cX11_exit 138 = .ok (.iload_n 2, 1) := by decide +kernel
theorem dX11_exit_139 : decode cX11_exit 139 = .ok (.iaload, 1) := by decide +kernel
theorem dX11_exit_140 : decode cX11_exit 140 = .ok (.aload_n 0, 1) := by decide +kernel
theorem dX11_exit_141 : decode cX11_exit 141 = .ok (.getfield 26, 3) := by decide +kernel
theorem dX11_exit_144 : decode cX11_exit 144 = .ok (.bipush 8, 2) := by decide +kernel
theorem dX11_exit_146 : decode cX11_exit 146 = .ok (.iload_n 1, 1) := by decide +kernel
theorem dX11_exit_147 : decode cX11_exit 147 = .ok (.imul, 1) := by decide +kernel
theorem dX11_exit_148 : decode cX11_exit 148 = .ok (.iload 5, 2) := by decide +kernel
theorem dX11_exit_150 : decode cX11_exit 150 = .ok (.iadd, 1) := by decide +kernel
theorem dX11_exit_151 : decode cX11_exit 151 = .ok (.iaload, 1) := by decide +kernel
theorem dX11_exit_152 : decode cX11_exit 152 = .ok (.iadd, 1) := by decide +kernel
theorem dX11_exit_153 : decode cX11_exit 153 = .ok (.laload, 1) := by decide +kernel
theorem dX11_exit_154 : decode cX11_exit 154 = .ok (.invokevirtual 220, 3) := by decide +kernel
theorem dX11_exit_157 : decode cX11_exit 157 = .ok (.iinc 5 1, 3) := by decide +kernel
theorem dX11_exit_160 : decode cX11_exit 160 = .ok (.goto (-63), 3) := by decide +kernel
theorem dX11_exit_163 : decode cX11_exit 163 = .ok (.aload_n 0, 1) := by decide +kernel
theorem dX11_exit_164 : decode cX11_exit 164 = .ok (.iload_n 3, 1) := by decide +kernel
theorem dX11_exit_165 : decode cX11_exit 165 = .ok (.putfield 203, 3) := by decide +kernel
theorem dX11_exit_168 : decode cX11_exit 168 = .ok (.aload_n 0, 1) := by decide +kernel
theorem dX11_exit_169 : decode cX11_exit 169 = .ok (.getfield 79, 3) := by decide +kernel
theorem dX11_exit_172 : decode cX11_exit 172 = .ok (.iload_n 3, 1) := by decide +kernel
theorem dX11_exit_173 : decode cX11_exit 173 = .ok (.aload_n 0, 1) := by decide +kernel
theorem dX11_exit_174 : decode cX11_exit 174 = .ok (.getfield 85, 3) := by decide +kernel
theorem dX11_exit_177 : decode cX11_exit 177 = .ok (.iload_n 2, 1) := by decide +kernel
theorem dX11_exit_178 : decode cX11_exit 178 = .ok (.iaload, 1) := by decide +kernel
theorem dX11_exit_179 : decode cX11_exit 179 = .ok (.iconst 1, 1) := by decide +kernel
theorem dX11_exit_180 : decode cX11_exit 180 = .ok (.iadd, 1) := by decide +kernel
theorem dX11_exit_181 : decode cX11_exit 181 = .ok (.iastore, 1) := by decide +kernel
theorem dX11_exit_182 : decode cX11_exit 182 = .ok (.iload_n 2, 1) := by decide +kernel
theorem dX11_exit_183 : decode cX11_exit 183 = .ok (.aload_n 0, 1) := by decide +kernel
theorem dX11_exit_184 : decode cX11_exit 184 = .ok (.getfield 173, 3) := by decide +kernel
theorem dX11_exit_187 : decode cX11_exit 187 = .ok (.iconst 1, 1) := by decide +kernel
theorem dX11_exit_188 : decode cX11_exit 188 = .ok (.isub, 1) := by decide +kernel
theorem dX11_exit_189 : decode cX11_exit 189 = .ok (.if_icmp .ne 8, 3) := by decide +kernel
theorem dX11_exit_192 : decode cX11_exit 192 = .ok (.aload_n 0, 1) := by decide +kernel
theorem dX11_exit_193 : decode cX11_exit 193 = .ok (.iload_n 2, 1) := by decide +kernel
theorem dX11_exit_194 : decode cX11_exit 194 = .ok (.invokevirtual 212, 3) := by decide +kernel
theorem dX11_exit_197 : decode cX11_exit 197 = .ok (.return_, 1) := by decide +kernel
theorem dX11_holds_0 : decode cX11_holds 0 = .ok (.iload_n 0, 1) := by decide +kernel
theorem dX11_holds_1 : decode cX11_holds 1 = .ok (.tableswitch 90 0 4 #[35, 46, 57, 68, 79], 35) := by decide +kernel
theorem dX11_holds_36 : decode cX11_holds 36 = .ok (.iload_n 1, 1) := by decide +kernel
theorem dX11_holds_37 : decode cX11_holds 37 = .ok (.iload_n 2, 1) := by decide +kernel
theorem dX11_holds_38 : decode cX11_holds 38 = .ok (.if_icmp .ge 7, 3) := by decide +kernel
theorem dX11_holds_41 : decode cX11_holds 41 = .ok (.iconst 1, 1) := by decide +kernel
theorem dX11_holds_42 : decode cX11_holds 42 = .ok (.goto 4, 3) := by decide +kernel
theorem dX11_holds_45 : decode cX11_holds 45 = .ok (.iconst 0, 1) := by decide +kernel
theorem dX11_holds_46 : decode cX11_holds 46 = .ok (.ireturn, 1) := by decide +kernel
theorem dX11_holds_47 : decode cX11_holds 47 = .ok (.iload_n 1, 1) := by decide +kernel
theorem dX11_holds_48 : decode cX11_holds 48 = .ok (.iload_n 2, 1) := by decide +kernel
theorem dX11_holds_49 : decode cX11_holds 49 = .ok (.if_icmp .gt 7, 3) := by decide +kernel
theorem dX11_holds_52 : decode cX11_holds 52 = .ok (.iconst 1, 1) := by decide +kernel
theorem dX11_holds_53 : decode cX11_holds 53 = .ok (.goto 4, 3) := by decide +kernel
theorem dX11_holds_56 : decode cX11_holds 56 = .ok (.iconst 0, 1) := by decide +kernel
theorem dX11_holds_57 : decode cX11_holds 57 = .ok (.ireturn, 1) := by decide +kernel
theorem dX11_holds_58 : decode cX11_holds 58 = .ok (.iload_n 1, 1) := by decide +kernel
theorem dX11_holds_59 : decode cX11_holds 59 = .ok (.iload_n 2, 1) := by decide +kernel
theorem dX11_holds_60 : decode cX11_holds 60 = .ok (.if_icmp .le 7, 3) := by decide +kernel
theorem dX11_holds_63 : decode cX11_holds 63 = .ok (.iconst 1, 1) := by decide +kernel
theorem dX11_holds_64 : decode cX11_holds 64 = .ok (.goto 4, 3) := by decide +kernel
theorem dX11_holds_67 : decode cX11_holds 67 = .ok (.iconst 0, 1) := by decide +kernel
theorem dX11_holds_68 : decode cX11_holds 68 = .ok (.ireturn, 1) := by decide +kernel
theorem dX11_holds_69 : decode cX11_holds 69 = .ok (.iload_n 1, 1) := by decide +kernel
theorem dX11_holds_70 : decode cX11_holds 70 = .ok (.iload_n 2, 1) := by decide +kernel
theorem dX11_holds_71 : decode cX11_holds 71 = .ok (.if_icmp .lt 7, 3) := by decide +kernel
theorem dX11_holds_74 : decode cX11_holds 74 = .ok (.iconst 1, 1) := by decide +kernel
theorem dX11_holds_75 : decode cX11_holds 75 = .ok (.goto 4, 3) := by decide +kernel
theorem dX11_holds_78 : decode cX11_holds 78 = .ok (.iconst 0, 1) := by decide +kernel
theorem dX11_holds_79 : decode cX11_holds 79 = .ok (.ireturn, 1) := by decide +kernel
theorem dX11_holds_80 : decode cX11_holds 80 = .ok (.iload_n 1, 1) := by decide +kernel
theorem dX11_holds_81 : decode cX11_holds 81 = .ok (.iload_n 2, 1) := by decide +kernel
theorem dX11_holds_82 : decode cX11_holds 82 = .ok (.if_icmp .ne 7, 3) := by decide +kernel
theorem dX11_holds_85 : decode cX11_holds 85 = .ok (.iconst 1, 1) := by decide +kernel
theorem dX11_holds_86 : decode cX11_holds 86 = .ok (.goto 4, 3) := by decide +kernel
theorem dX11_holds_89 : decode cX11_holds 89 = .ok (.iconst 0, 1) := by decide +kernel
theorem dX11_holds_90 : decode cX11_holds 90 = .ok (.ireturn, 1) := by decide +kernel
theorem dX11_holds_91 : decode cX11_holds 91 = .ok (.iload_n 1, 1) := by decide +kernel
theorem dX11_holds_92 : decode cX11_holds 92 = .ok (.iload_n 2, 1) := by decide +kernel
theorem dX11_holds_93 : decode cX11_holds 93 = .ok (.if_icmp .eq 7, 3) := by decide +kernel
theorem dX11_holds_96 : decode cX11_holds 96 = .ok (.iconst 1, 1) := by decide +kernel
theorem dX11_holds_97 : decode cX11_holds 97 = .ok (.goto 4, 3) := by decide +kernel
theorem dX11_holds_100 : decode cX11_holds 100 = .ok (.iconst 0, 1) := by decide +kernel
theorem dX11_holds_101 : decode cX11_holds 101 = .ok (.ireturn, 1) := by decide +kernel
theorem dX11_summed_0 : decode cX11_summed 0 = .ok (.aload_n 0, 1) := by decide +kernel
theorem dX11_summed_1 : decode cX11_summed 1 = .ok (.aload_n 0, 1) := by decide +kernel
theorem dX11_summed_2 : decode cX11_summed 2 = .ok (.getfield 42, 3) := by decide +kernel
theorem dX11_summed_5 : decode cX11_summed 5 = .ok (.iload_n 1, 1) := by decide +kernel
theorem dX11_summed_6 : decode cX11_summed 6 = .ok (.iaload, 1) := by decide +kernel
theorem dX11_summed_7 : decode cX11_summed 7 = .ok (.invokevirtual 240, 3) := by decide +kernel
theorem dX11_summed_10 : decode cX11_summed 10 = .ok (.lstore_n 2, 1) := by decide +kernel
theorem dX11_summed_11 : decode cX11_summed 11 = .ok (.aload_n 0, 1) := by decide +kernel
theorem dX11_summed_12 : decode cX11_summed 12 = .ok (.aload_n 0, 1) := by decide +kernel
theorem dX11_summed_13 : decode cX11_summed 13 = .ok (.getfield 45, 3) := by decide +kernel
theorem dX11_summed_16 : decode cX11_summed 16 = .ok (.iload_n 1, 1) := by decide +kernel
theorem dX11_summed_17 : decode cX11_summed 17 = .ok (.iaload, 1) := by decide +kernel
theorem dX11_summed_18 : decode cX11_summed 18 = .ok (.invokevirtual 240, 3) := by decide +kernel
theorem dX11_summed_21 : decode cX11_summed 21 = .ok (.lstore 4, 2) := by decide +kernel
theorem dX11_summed_23 : decode cX11_summed 23 = .ok (.lload_n 2, 1) := by decide +kernel
theorem dX11_summed_24 : decode cX11_summed 24 = .ok (.invokestatic 224, 3) := by decide +kernel
theorem dX11_summed_27 : decode cX11_summed 27 = .ok (.ifCond .ne 11, 3) := by decide +kernel
theorem dX11_summed_30 : decode cX11_summed 30 = .ok (.lload 4, 2) := by decide +kernel
theorem dX11_summed_32 : decode cX11_summed 32 = .ok (.invokestatic 224, 3) := by decide +kernel
theorem dX11_summed_35 : decode cX11_summed 35 = .ok (.ifCond .eq 10, 3) := by decide +kernel
theorem dX11_summed_38 : decode cX11_summed 38 = .ok (.aload_n 0, 1) := by decide +kernel
theorem dX11_summed_39 : decode cX11_summed 39 = .ok (.bipush 6, 2) := by decide +kernel
theorem dX11_summed_41 : decode cX11_summed 41 = .ok (.putfield 116, 3) := by decide +kernel
theorem dX11_summed_44 : decode cX11_summed 44 = .ok (.return_, 1) := by decide +kernel
theorem dX11_summed_45 : decode cX11_summed 45 = .ok (.lload_n 2, 1) := by decide +kernel
theorem dX11_summed_46 : decode cX11_summed 46 = .ok (.l2i, 1) := by decide +kernel
theorem dX11_summed_47 : decode cX11_summed 47 = .ok (.istore 6, 2) := by decide +kernel
theorem dX11_summed_49 : decode cX11_summed 49 = .ok (.lload 4, 2) := by decide +kernel
theorem dX11_summed_51 : decode cX11_summed 51 = .ok (.l2i, 1) := by decide +kernel
theorem dX11_summed_52 : decode cX11_summed 52 = .ok (.istore 7, 2) := by decide +kernel
theorem dX11_summed_54 : decode cX11_summed 54 = .ok (.aload_n 0, 1) := by decide +kernel
theorem dX11_summed_55 : decode cX11_summed 55 = .ok (.getfield 48, 3) := by decide +kernel
theorem dX11_summed_58 : decode cX11_summed 58 = .ok (.iload_n 1, 1) := by decide +kernel
theorem dX11_summed_59 : decode cX11_summed 59 = .ok (.iaload, 1) := by decide +kernel
theorem dX11_summed_60 : decode cX11_summed 60 = .ok (.istore 8, 2) := by decide +kernel
theorem dX11_summed_62 : decode cX11_summed 62 = .ok (.iload 8, 2) := by decide +kernel
theorem dX11_summed_64 : decode cX11_summed 64 = .ok (.iconst 2, 1) := by decide +kernel
theorem dX11_summed_65 : decode cX11_summed 65 = .ok (.if_icmp .le 13, 3) := by decide +kernel
theorem dX11_summed_68 : decode cX11_summed 68 = .ok (.iload 7, 2) := by decide +kernel
theorem dX11_summed_70 : decode cX11_summed 70 = .ok (.ifCond .ne 8, 3) := by decide +kernel
theorem dX11_summed_73 : decode cX11_summed 73 = .ok (.aload_n 0, 1) := by decide +kernel
theorem dX11_summed_74 : decode cX11_summed 74 = .ok (.invokevirtual 255, 3) := by decide +kernel
theorem dX11_summed_77 : decode cX11_summed 77 = .ok (.return_, 1) := by decide +kernel
theorem dX11_summed_78 : decode cX11_summed 78 = .ok (.iload 8, 2) := by decide +kernel
theorem dX11_summed_80 : decode cX11_summed 80 = .ok (.ifCond .ne 11, 3) := by decide +kernel
theorem dX11_summed_83 : decode cX11_summed 83 = .ok (.iload 6, 2) := by decide +kernel
theorem dX11_summed_85 : decode cX11_summed 85 = .ok (.iload 7, 2) := by decide +kernel
theorem dX11_summed_87 : decode cX11_summed 87 = .ok (.iadd, 1) := by decide +kernel
theorem dX11_summed_88 : decode cX11_summed 88 = .ok (.goto 50, 3) := by decide +kernel
theorem dX11_summed_91 : decode cX11_summed 91 = .ok (.iload 8, 2) := by decide +kernel
theorem dX11_summed_93 : decode cX11_summed 93 = .ok (.iconst 1, 1) := by decide +kernel
theorem dX11_summed_94 : decode cX11_summed 94 = .ok (.if_icmp .ne 11, 3) := by decide +kernel
theorem dX11_summed_97 : decode cX11_summed 97 = .ok (.iload 6, 2) := by decide +kernel
theorem dX11_summed_99 : decode cX11_summed 99 = .ok (.iload 7, 2) := by decide +kernel
theorem dX11_summed_101 : decode cX11_summed 101 = .ok (.isub, 1) := by decide +kernel
theorem dX11_summed_102 : decode cX11_summed 102 = .ok (.goto 36, 3) := by decide +kernel
theorem dX11_summed_105 : decode cX11_summed 105 = .ok (.iload 8, 2) := by decide +kernel
theorem dX11_summed_107 : decode cX11_summed 107 = .ok (.iconst 2, 1) := by decide +kernel
theorem dX11_summed_108 : decode cX11_summed 108 = .ok (.if_icmp .ne 11, 3) := by decide +kernel
theorem dX11_summed_111 : decode cX11_summed 111 = .ok (.iload 6, 2) := by decide +kernel
theorem dX11_summed_113 : decode cX11_summed 113 = .ok (.iload 7, 2) := by decide +kernel
theorem dX11_summed_115 : decode cX11_summed 115 = .ok (.imul, 1) := by decide +kernel
theorem dX11_summed_116 : decode cX11_summed 116 = .ok (.goto 22, 3) := by decide +kernel
theorem dX11_summed_119 : decode cX11_summed 119 = .ok (.iload 8, 2) := by decide +kernel
theorem dX11_summed_121 : decode cX11_summed 121 = .ok (.iconst 3, 1) := by decide +kernel
theorem dX11_summed_122 : decode cX11_summed 122 = .ok (.if_icmp .ne 11, 3) := by decide +kernel
theorem dX11_summed_125 : decode cX11_summed 125 = .ok (.iload 6, 2) := by decide +kernel
theorem dX11_summed_127 : decode cX11_summed 127 = .ok (.iload 7, 2) := by decide +kernel
theorem dX11_summed_129 : decode cX11_summed 129 = .ok (.idiv, 1) := by decide +kernel
theorem dX11_summed_130 : decode cX11_summed 130 = .ok (.goto 8, 3) := by decide +kernel
theorem dX11_summed_133 : decode cX11_summed 133 = .ok (.iload 6, 2) := by decide +kernel
theorem dX11_summed_135 : decode cX11_summed 135 = .ok (.iload 7, 2) := by decide +kernel
theorem dX11_summed_137 : decode cX11_summed 137 = .ok (.irem, 1) := by decide +kernel
theorem dX11_summed_138 : decode cX11_summed 138 = .ok (.istore 9, 2) := by decide +kernel
theorem dX11_summed_140 : decode cX11_summed 140 = .ok (.aload_n 0, 1) := by decide +kernel
theorem dX11_summed_141 : decode cX11_summed 141 = .ok (.aload_n 0, 1) := by decide +kernel
theorem dX11_summed_142 : decode cX11_summed 142 = .ok (.getfield 39, 3) := by decide +kernel
theorem dX11_summed_145 : decode cX11_summed 145 = .ok (.iload_n 1, 1) := by decide +kernel
theorem dX11_summed_146 : decode cX11_summed 146 = .ok (.iaload, 1) := by decide +kernel
theorem dX11_summed_147 : decode cX11_summed 147 = .ok (.iload 9, 2) := by decide +kernel
theorem dX11_summed_149 : decode cX11_summed 149 = .ok (.i2l, 1) := by decide +kernel
theorem dX11_summed_150 : decode cX11_summed 150 = .ok (.invokevirtual 247, 3) := by decide +kernel
theorem dX11_summed_153 : decode cX11_summed 153 = .ok (.aload_n 0, 1) := by decide +kernel
theorem dX11_summed_154 : decode cX11_summed 154 = .ok (.getfield 79, 3) := by decide +kernel
theorem dX11_summed_157 : decode cX11_summed 157 = .ok (.aload_n 0, 1) := by decide +kernel
theorem dX11_summed_158 : decode cX11_summed 158 = .ok (.getfield 203, 3) := by decide +kernel
theorem dX11_summed_161 : decode cX11_summed 161 = .ok (.dup2, 1) := by decide +kernel
theorem dX11_summed_162 : decode cX11_summed 162 = .ok (.iaload, 1) := by decide +kernel
theorem dX11_summed_163 : decode cX11_summed 163 = .ok (.iconst 1, 1) := by decide +kernel
theorem dX11_summed_164 : decode cX11_summed 164 = .ok (.iadd, 1) := by decide +kernel
theorem dX11_summed_165 : decode cX11_summed 165 = .ok (.iastore, 1) := by decide +kernel
theorem dX11_summed_166 : decode cX11_summed 166 = .ok (.return_, 1) := by decide +kernel
theorem dX11_compared_0 : decode cX11_compared 0 = .ok (.aload_n 0, 1) := by decide +kernel
theorem dX11_compared_1 : decode cX11_compared 1 = .ok (.aload_n 0, 1) := by decide +kernel
theorem dX11_compared_2 : decode cX11_compared 2 = .ok (.getfield 39, 3) := by decide +kernel
theorem dX11_compared_5 : decode cX11_compared 5 = .ok (.iload_n 1, 1) := by decide +kernel
theorem dX11_compared_6 : decode cX11_compared 6 = .ok (.iaload, 1) := by decide +kernel
theorem dX11_compared_7 : decode cX11_compared 7 = .ok (.invokevirtual 240, 3) := by decide +kernel
theorem dX11_compared_10 : decode cX11_compared 10 = .ok (.lstore_n 2, 1) := by decide +kernel
theorem dX11_compared_11 : decode cX11_compared 11 = .ok (.aload_n 0, 1) := by decide +kernel
theorem dX11_compared_12 : decode cX11_compared 12 = .ok (.aload_n 0, 1) := by decide +kernel
theorem dX11_compared_13 : decode cX11_compared 13 = .ok (.getfield 42, 3) := by decide +kernel
theorem dX11_compared_16 : decode cX11_compared 16 = .ok (.iload_n 1, 1) := by decide +kernel
theorem dX11_compared_17 : decode cX11_compared 17 = .ok (.iaload, 1) := by decide +kernel
theorem dX11_compared_18 : decode cX11_compared 18 = .ok (.invokevirtual 240, 3) := by decide +kernel
theorem dX11_compared_21 : decode cX11_compared 21 = .ok (.lstore 4, 2) := by decide +kernel
theorem dX11_compared_23 : decode cX11_compared 23 = .ok (.lload_n 2, 1) := by decide +kernel
theorem dX11_compared_24 : decode cX11_compared 24 = .ok (.invokestatic 224, 3) := by decide +kernel
theorem dX11_compared_27 : decode cX11_compared 27 = .ok (.ifCond .ne 11, 3) := by decide +kernel
theorem dX11_compared_30 : decode cX11_compared 30 = .ok (.lload 4, 2) := by decide +kernel
theorem dX11_compared_32 : decode cX11_compared 32 = .ok (.invokestatic 224, 3) := by decide +kernel
theorem dX11_compared_35 : decode cX11_compared 35 = .ok (.ifCond .eq 12, 3) := by decide +kernel
theorem dX11_compared_38 : decode cX11_compared 38 = .ok (.aload_n 0, 1) := by decide +kernel
theorem dX11_compared_39 : decode cX11_compared 39 = .ok (.bipush 6, 2) := by decide +kernel
theorem dX11_compared_41 : decode cX11_compared 41 = .ok (.putfield 116, 3) := by decide +kernel
theorem dX11_compared_44 : decode cX11_compared 44 = .ok (.goto 40, 3) := by decide +kernel
theorem dX11_compared_47 : decode cX11_compared 47 = .ok (.aload_n 0, 1) := by decide +kernel
theorem dX11_compared_48 : decode cX11_compared 48 = .ok (.getfield 45, 3) := by decide +kernel
theorem dX11_compared_51 : decode cX11_compared 51 = .ok (.iload_n 1, 1) := by decide +kernel
theorem dX11_compared_52 : decode cX11_compared 52 = .ok (.iaload, 1) := by decide +kernel
theorem dX11_compared_53 : decode cX11_compared 53 = .ok (.lload_n 2, 1) := by decide +kernel
theorem dX11_compared_54 : decode cX11_compared 54 = .ok (.l2i, 1) := by decide +kernel
theorem dX11_compared_55 : decode cX11_compared 55 = .ok (.lload 4, 2) := by decide +kernel
theorem dX11_compared_57 : decode cX11_compared 57 = .ok (.l2i, 1) := by decide +kernel
theorem dX11_compared_58 : decode cX11_compared 58 = .ok (.invokestatic 271, 3) := by decide +kernel
theorem dX11_compared_61 : decode cX11_compared 61 = .ok (.ifCond .eq 19, 3) := by decide +kernel
theorem dX11_compared_64 : decode cX11_compared 64 = .ok (.aload_n 0, 1) := by decide +kernel
theorem dX11_compared_65 : decode cX11_compared 65 = .ok (.getfield 79, 3) := by decide +kernel
theorem dX11_compared_68 : decode cX11_compared 68 = .ok (.aload_n 0, 1) := by decide +kernel
theorem dX11_compared_69 : decode cX11_compared 69 = .ok (.getfield 203, 3) := by decide +kernel
theorem dX11_compared_72 : decode cX11_compared 72 = .ok (.dup2, 1) := by decide +kernel
theorem dX11_compared_73 : decode cX11_compared 73 = .ok (.iaload, 1) := by decide +kernel
theorem dX11_compared_74 : decode cX11_compared 74 = .ok (.iconst 1, 1) := by decide +kernel
theorem dX11_compared_75 : decode cX11_compared 75 = .ok (.iadd, 1) := by decide +kernel
theorem dX11_compared_76 : decode cX11_compared 76 = .ok (.iastore, 1) := by decide +kernel
theorem dX11_compared_77 : decode cX11_compared 77 = .ok (.goto 7, 3) := by decide +kernel
theorem dX11_compared_80 : decode cX11_compared 80 = .ok (.aload_n 0, 1) := by decide +kernel
theorem dX11_compared_81 : decode cX11_compared 81 = .ok (.invokevirtual 255, 3) := by decide +kernel
theorem dX11_compared_84 : decode cX11_compared 84 = .ok (.return_, 1) := by decide +kernel
theorem dX11_same_0 : decode cX11_same 0 = .ok (.aload_n 0, 1) := by decide +kernel
theorem dX11_same_1 : decode cX11_same 1 = .ok (.aload_n 0, 1) := by decide +kernel
theorem dX11_same_2 : decode cX11_same 2 = .ok (.aload_n 0, 1) := by decide +kernel
theorem dX11_same_3 : decode cX11_same 3 = .ok (.getfield 39, 3) := by decide +kernel
theorem dX11_same_6 : decode cX11_same 6 = .ok (.iload_n 1, 1) := by decide +kernel
theorem dX11_same_7 : decode cX11_same 7 = .ok (.iaload, 1) := by decide +kernel
theorem dX11_same_8 : decode cX11_same 8 = .ok (.invokevirtual 240, 3) := by decide +kernel
theorem dX11_same_11 : decode cX11_same 11 = .ok (.aload_n 0, 1) := by decide +kernel
theorem dX11_same_12 : decode cX11_same 12 = .ok (.aload_n 0, 1) := by decide +kernel
theorem dX11_same_13 : decode cX11_same 13 = .ok (.getfield 42, 3) := by decide +kernel
theorem dX11_same_16 : decode cX11_same 16 = .ok (.iload_n 1, 1) := by decide +kernel
theorem dX11_same_17 : decode cX11_same 17 = .ok (.iaload, 1) := by decide +kernel
theorem dX11_same_18 : decode cX11_same 18 = .ok (.invokevirtual 240, 3) := by decide +kernel
theorem dX11_same_21 : decode cX11_same 21 = .ok (.invokevirtual 274, 3) := by decide +kernel
theorem dX11_same_24 : decode cX11_same 24 = .ok (.istore_n 2, 1) := by decide +kernel
theorem dX11_same_25 : decode cX11_same 25 = .ok (.iload_n 2, 1) := by decide +kernel
theorem dX11_same_26 : decode cX11_same 26 = .ok (.iconst 2, 1) := by decide +kernel
theorem dX11_same_27 : decode cX11_same 27 = .ok (.if_icmp .ne 12, 3) := by decide +kernel
theorem dX11_same_30 : decode cX11_same 30 = .ok (.aload_n 0, 1) := by decide +kernel
theorem dX11_same_31 : decode cX11_same 31 = .ok (.bipush 6, 2) := by decide +kernel
theorem dX11_same_33 : decode cX11_same 33 = .ok (.putfield 116, 3) := by decide +kernel
theorem dX11_same_36 : decode cX11_same 36 = .ok (.goto 28, 3) := by decide +kernel
theorem dX11_same_39 : decode cX11_same 39 = .ok (.iload_n 2, 1) := by decide +kernel
theorem dX11_same_40 : decode cX11_same 40 = .ok (.iconst 1, 1) := by decide +kernel
theorem dX11_same_41 : decode cX11_same 41 = .ok (.if_icmp .ne 10, 3) := by decide +kernel
theorem dX11_same_44 : decode cX11_same 44 = .ok (.aload_n 0, 1) := by decide +kernel
theorem dX11_same_45 : decode cX11_same 45 = .ok (.invokevirtual 255, 3) := by decide +kernel
theorem dX11_same_48 : decode cX11_same 48 = .ok (.goto 16, 3) := by decide +kernel
theorem dX11_same_51 : decode cX11_same 51 = .ok (.aload_n 0, 1) := by decide +kernel
theorem dX11_same_52 : decode cX11_same 52 = .ok (.getfield 79, 3) := by decide +kernel
theorem dX11_same_55 : decode cX11_same 55 = .ok (.aload_n 0, 1) := by decide +kernel
theorem dX11_same_56 : decode cX11_same 56 = .ok (.getfield 203, 3) := by decide +kernel
theorem dX11_same_59 : decode cX11_same 59 = .ok (.dup2, 1) := by decide +kernel
theorem dX11_same_60 : decode cX11_same 60 = .ok (.iaload, 1) := by decide +kernel
theorem dX11_same_61 : decode cX11_same 61 = .ok (.iconst 1, 1) := by decide +kernel
theorem dX11_same_62 : decode cX11_same 62 = .ok (.iadd, 1) := by decide +kernel
theorem dX11_same_63 : decode cX11_same 63 = .ok (.iastore, 1) := by decide +kernel
theorem dX11_same_64 : decode cX11_same 64 = .ok (.return_, 1) := by decide +kernel
theorem dX11_cutOrDrop_0 : decode cX11_cutOrDrop 0 = .ok (.aload_n 0, 1) := by decide +kernel
theorem dX11_cutOrDrop_1 : decode cX11_cutOrDrop 1 = .ok (.aload_n 0, 1) := by decide +kernel
theorem dX11_cutOrDrop_2 : decode cX11_cutOrDrop 2 = .ok (.getfield 39, 3) := by decide +kernel
theorem dX11_cutOrDrop_5 : decode cX11_cutOrDrop 5 = .ok (.iload_n 1, 1) := by decide +kernel
theorem dX11_cutOrDrop_6 : decode cX11_cutOrDrop 6 = .ok (.iaload, 1) := by decide +kernel
theorem dX11_cutOrDrop_7 : decode cX11_cutOrDrop 7 = .ok (.invokevirtual 240, 3) := by decide +kernel
theorem dX11_cutOrDrop_10 : decode cX11_cutOrDrop 10 = .ok (.lstore_n 2, 1) := by decide +kernel
theorem dX11_cutOrDrop_11 : decode cX11_cutOrDrop 11 = .ok (.lload_n 2, 1) := by decide +kernel
theorem dX11_cutOrDrop_12 : decode cX11_cutOrDrop 12 = .ok (.invokestatic 224, 3) := by decide +kernel
theorem dX11_cutOrDrop_15 : decode cX11_cutOrDrop 15 = .ok (.ifCond .eq 10, 3) := by decide +kernel
theorem dX11_cutOrDrop_18 : decode cX11_cutOrDrop 18 = .ok (.aload_n 0, 1) := by decide +kernel
theorem dX11_cutOrDrop_19 : decode cX11_cutOrDrop 19 = .ok (.bipush 6, 2) := by decide +kernel
theorem dX11_cutOrDrop_21 : decode cX11_cutOrDrop 21 = .ok (.putfield 116, 3) := by decide +kernel
theorem dX11_cutOrDrop_24 : decode cX11_cutOrDrop 24 = .ok (.return_, 1) := by decide +kernel
theorem dX11_cutOrDrop_25 : decode cX11_cutOrDrop 25 = .ok (.aload_n 0, 1) := by decide +kernel
theorem dX11_cutOrDrop_26 : decode cX11_cutOrDrop 26 = .ok (.getfield 79, 3) := by decide +kernel
theorem dX11_cutOrDrop_29 : decode cX11_cutOrDrop 29 = .ok (.aload_n 0, 1) := by decide +kernel
theorem dX11_cutOrDrop_30 : decode cX11_cutOrDrop 30 = .ok (.getfield 203, 3) := by decide +kernel
theorem dX11_cutOrDrop_33 : decode cX11_cutOrDrop 33 = .ok (.dup2, 1) := by decide +kernel
theorem dX11_cutOrDrop_34 : decode cX11_cutOrDrop 34 = .ok (.iaload, 1) := by decide +kernel
theorem dX11_cutOrDrop_35 : decode cX11_cutOrDrop 35 = .ok (.iconst 1, 1) := by decide +kernel
theorem dX11_cutOrDrop_36 : decode cX11_cutOrDrop 36 = .ok (.iadd, 1) := by decide +kernel
theorem dX11_cutOrDrop_37 : decode cX11_cutOrDrop 37 = .ok (.iastore, 1) := by decide +kernel
theorem dX11_cutOrDrop_38 : decode cX11_cutOrDrop 38 = .ok (.aload_n 0, 1) := by decide +kernel
theorem dX11_cutOrDrop_39 : decode cX11_cutOrDrop 39 = .ok (.getfield 36, 3) := by decide +kernel
theorem dX11_cutOrDrop_42 : decode cX11_cutOrDrop 42 = .ok (.iload_n 1, 1) := by decide +kernel
theorem dX11_cutOrDrop_43 : decode cX11_cutOrDrop 43 = .ok (.iaload, 1) := by decide +kernel
theorem dX11_cutOrDrop_44 : decode cX11_cutOrDrop 44 = .ok (.bipush 12, 2) := by decide +kernel
theorem dX11_cutOrDrop_46 : decode cX11_cutOrDrop 46 = .ok (.if_icmp .ne 12, 3) := by decide +kernel
theorem dX11_cutOrDrop_49 : decode cX11_cutOrDrop 49 = .ok (.aload_n 0, 1) := by decide +kernel
theorem dX11_cutOrDrop_50 : decode cX11_cutOrDrop 50 = .ok (.lload_n 2, 1) := by decide +kernel
theorem dX11_cutOrDrop_51 : decode cX11_cutOrDrop 51 = .ok (.l2i, 1) := by decide +kernel
theorem dX11_cutOrDrop_52 : decode cX11_cutOrDrop 52 = .ok (.invokevirtual 265, 3) := by decide +kernel
theorem dX11_cutOrDrop_55 : decode cX11_cutOrDrop 55 = .ok (.goto 35, 3) := by decide +kernel
theorem dX11_cutOrDrop_58 : decode cX11_cutOrDrop 58 = .ok (.lload_n 2, 1) := by decide +kernel
theorem dX11_cutOrDrop_59 : decode cX11_cutOrDrop 59 = .ok (.lconst 0, 1) := by decide +kernel
theorem dX11_cutOrDrop_60 : decode cX11_cutOrDrop 60 = .ok (.lcmp, 1) := by decide +kernel
theorem dX11_cutOrDrop_61 : decode cX11_cutOrDrop 61 = .ok (.ifCond .ge 7, 3) := by decide +kernel
theorem dX11_cutOrDrop_64 : decode cX11_cutOrDrop 64 = .ok (.iconst (-1), 1) := by decide +kernel
theorem dX11_cutOrDrop_65 : decode cX11_cutOrDrop 65 = .ok (.goto 9, 3) := by decide +kernel
theorem dX11_cutOrDrop_68 : decode cX11_cutOrDrop 68 = .ok (.aload_n 0, 1) := by decide +kernel
theorem dX11_cutOrDrop_69 : decode cX11_cutOrDrop 69 = .ok (.lload_n 2, 1) := by decide +kernel
theorem dX11_cutOrDrop_70 : decode cX11_cutOrDrop 70 = .ok (.l2i, 1) := by decide +kernel
theorem dX11_cutOrDrop_71 : decode cX11_cutOrDrop 71 = .ok (.invokevirtual 190, 3) := by decide +kernel
theorem dX11_cutOrDrop_74 : decode cX11_cutOrDrop 74 = .ok (.istore 4, 2) := by decide +kernel
theorem dX11_cutOrDrop_76 : decode cX11_cutOrDrop 76 = .ok (.iload 4, 2) := by decide +kernel
theorem dX11_cutOrDrop_78 : decode cX11_cutOrDrop 78 = .ok (.iconst (-1), 1) := by decide +kernel
theorem dX11_cutOrDrop_79 : decode cX11_cutOrDrop 79 = .ok (.if_icmp .eq 11, 3) := by decide +kernel
theorem dX11_cutOrDrop_82 : decode cX11_cutOrDrop 82 = .ok (.aload_n 0, 1) := by decide +kernel
theorem dX11_cutOrDrop_83 : decode cX11_cutOrDrop 83 = .ok (.getfield 91, 3) := by decide +kernel
theorem dX11_cutOrDrop_86 : decode cX11_cutOrDrop 86 = .ok (.iload 4, 2) := by decide +kernel
theorem dX11_cutOrDrop_88 : decode cX11_cutOrDrop 88 = .ok (.iconst 1, 1) := by decide +kernel
theorem dX11_cutOrDrop_89 : decode cX11_cutOrDrop 89 = .ok (.bastore, 1) := by decide +kernel
theorem dX11_cutOrDrop_90 : decode cX11_cutOrDrop 90 = .ok (.return_, 1) := by decide +kernel
theorem dX11_step_0 : decode cX11_step 0 = .ok (.aload_n 0, 1) := by decide +kernel
theorem dX11_step_1 : decode cX11_step 1 = .ok (.dup, 1) := by decide +kernel
theorem dX11_step_2 : decode cX11_step 2 = .ok (.getfield 278, 3) := by decide +kernel
theorem dX11_step_5 : decode cX11_step 5 = .ok (.iconst 1, 1) := by decide +kernel
theorem dX11_step_6 : decode cX11_step 6 = .ok (.iadd, 1) := by decide +kernel
theorem dX11_step_7 : decode cX11_step 7 = .ok (.putfield 278, 3) := by decide +kernel
theorem dX11_step_10 : decode cX11_step 10 = .ok (.aload_n 0, 1) := by decide +kernel
theorem dX11_step_11 : decode cX11_step 11 = .ok (.getfield 79, 3) := by decide +kernel
theorem dX11_step_14 : decode cX11_step 14 = .ok (.aload_n 0, 1) := by decide +kernel
theorem dX11_step_15 : decode cX11_step 15 = .ok (.getfield 203, 3) := by decide +kernel
theorem dX11_step_18 : decode cX11_step 18 = .ok (.iaload, 1) := by decide +kernel
theorem dX11_step_19 : decode cX11_step 19 = .ok (.istore_n 1, 1) := by decide +kernel
theorem dX11_step_20 : decode cX11_step 20 = .ok (.aload_n 0, 1) := by decide +kernel
theorem dX11_step_21 : decode cX11_step 21 = .ok (.getfield 73, 3) := by decide +kernel
theorem dX11_step_24 : decode cX11_step 24 = .ok (.aload_n 0, 1) := by decide +kernel
theorem dX11_step_25 : decode cX11_step 25 = .ok (.getfield 203, 3) := by decide +kernel
theorem dX11_step_28 : decode cX11_step 28 = .ok (.iaload, 1) := by decide +kernel
theorem dX11_step_29 : decode cX11_step 29 = .ok (.istore_n 2, 1) := by decide +kernel
theorem dX11_step_30 : decode cX11_step 30 = .ok (.iload_n 1, 1) := by decide +kernel
theorem dX11_step_31 : decode cX11_step 31 = .ok (.aload_n 0, 1) := by decide +kernel
theorem dX11_step_32 : decode cX11_step 32 = .ok (.getfield 29, 3) := by decide +kernel
theorem dX11_step_35 : decode cX11_step 35 = .ok (.iload_n 2, 1) := by decide +kernel
theorem dX11_step_36 : decode cX11_step 36 = .ok (.iaload, 1) := by decide +kernel
theorem dX11_step_37 : decode cX11_step 37 = .ok (.if_icmp .lt 8, 3) := by decide +kernel
theorem dX11_step_40 : decode cX11_step 40 = .ok (.aload_n 0, 1) := by decide +kernel
theorem dX11_step_41 : decode cX11_step 41 = .ok (.invokevirtual 255, 3) := by decide +kernel
theorem dX11_step_44 : decode cX11_step 44 = .ok (.return_, 1) := by decide +kernel
theorem dX11_step_45 : decode cX11_step 45 = .ok (.aload_n 0, 1) := by decide +kernel
theorem dX11_step_46 : decode cX11_step 46 = .ok (.getfield 33, 3) := by decide +kernel
theorem dX11_step_49 : decode cX11_step 49 = .ok (.sipush 2000, 3) := by decide +kernel
theorem dX11_step_52 : decode cX11_step 52 = .ok (.iload_n 2, 1) := by decide +kernel
theorem dX11_step_53 : decode cX11_step 53 = .ok (.imul, 1) := by decide +kernel
theorem dX11_step_54 : decode cX11_step 54 = .ok (.iload_n 1, 1) := by decide +kernel
theorem dX11_step_55 : decode cX11_step 55 = .ok (.iadd, 1) := by decide +kernel
theorem dX11_step_56 : decode cX11_step 56 = .ok (.iaload, 1) := by decide +kernel
theorem dX11_step_57 : decode cX11_step 57 = .ok (.istore_n 3, 1) := by decide +kernel
theorem dX11_step_58 : decode cX11_step 58 = .ok (.aload_n 0, 1) := by decide +kernel
theorem dX11_step_59 : decode cX11_step 59 = .ok (.getfield 36, 3) := by decide +kernel
theorem dX11_step_62 : decode cX11_step 62 = .ok (.iload_n 3, 1) := by decide +kernel
theorem dX11_step_63 : decode cX11_step 63 = .ok (.iaload, 1) := by decide +kernel
theorem dX11_step_64 : decode cX11_step 64 = .ok (.tableswitch 295 0 14 #[76, 96, 119, 132, 174, 180, 186, 192, 208, 254, 260, 266, 284, 284, 290], 76) := by decide +kernel
theorem dX11_step_140 : decode cX11_step 140 = .ok (.aload_n 0, 1) := by decide +kernel
theorem dX11_step_141 : decode cX11_step 141 = .ok (.aload_n 0, 1) := by decide +kernel
theorem dX11_step_142 : decode cX11_step 142 = .ok (.getfield 39, 3) := by decide +kernel
theorem dX11_step_145 : decode cX11_step 145 = .ok (.iload_n 3, 1) := by decide +kernel
theorem dX11_step_146 : decode cX11_step 146 = .ok (.iaload, 1) := by decide +kernel
theorem dX11_step_147 : decode cX11_step 147 = .ok (.aload_n 0, 1) := by decide +kernel
theorem dX11_step_148 : decode cX11_step 148 = .ok (.getfield 42, 3) := by decide +kernel
theorem dX11_step_151 : decode cX11_step 151 = .ok (.iload_n 3, 1) := by decide +kernel
theorem dX11_step_152 : decode cX11_step 152 = .ok (.iaload, 1) := by decide +kernel
theorem dX11_step_153 : decode cX11_step 153 = .ok (.i2l, 1) := by decide +kernel
theorem dX11_step_154 : decode cX11_step 154 = .ok (.invokevirtual 247, 3) := by decide +kernel
theorem dX11_step_157 : decode cX11_step 157 = .ok (.goto 207, 3) := by decide +kernel
theorem dX11_step_160 : decode cX11_step 160 = .ok (.aload_n 0, 1) := by decide +kernel
theorem dX11_step_161 : decode cX11_step 161 = .ok (.aload_n 0, 1) := by decide +kernel
theorem dX11_step_162 : decode cX11_step 162 = .ok (.getfield 39, 3) := by decide +kernel
theorem dX11_step_165 : decode cX11_step 165 = .ok (.iload_n 3, 1) := by decide +kernel
theorem dX11_step_166 : decode cX11_step 166 = .ok (.iaload, 1) := by decide +kernel
theorem dX11_step_167 : decode cX11_step 167 = .ok (.aload_n 0, 1) := by decide +kernel
theorem dX11_step_168 : decode cX11_step 168 = .ok (.aload_n 0, 1) := by decide +kernel
theorem dX11_step_169 : decode cX11_step 169 = .ok (.getfield 42, 3) := by decide +kernel
theorem dX11_step_172 : decode cX11_step 172 = .ok (.iload_n 3, 1) := by decide +kernel
theorem dX11_step_173 : decode cX11_step 173 = .ok (.iaload, 1) := by decide +kernel
theorem dX11_step_174 : decode cX11_step 174 = .ok (.invokevirtual 240, 3) := by decide +kernel
theorem dX11_step_177 : decode cX11_step 177 = .ok (.invokevirtual 247, 3) := by decide +kernel
theorem dX11_step_180 : decode cX11_step 180 = .ok (.goto 184, 3) := by decide +kernel
theorem dX11_step_183 : decode cX11_step 183 = .ok (.aload_n 0, 1) := by decide +kernel
theorem dX11_step_184 : decode cX11_step 184 = .ok (.iload_n 3, 1) := by decide +kernel
theorem dX11_step_185 : decode cX11_step 185 = .ok (.invokevirtual 281, 3) := by decide +kernel
theorem dX11_step_188 : decode cX11_step 188 = .ok (.aload_n 0, 1) := by decide +kernel
theorem dX11_step_189 : decode cX11_step 189 = .ok (.getfield 116, 3) := by decide +kernel
theorem dX11_step_192 : decode cX11_step 192 = .ok (.ifCond .eq 172, 3) := by decide +kernel
theorem dX11_step_195 : decode cX11_step 195 = .ok (.return_, 1) := by decide +kernel
theorem dX11_step_196 : decode cX11_step 196 = .ok (.aload_n 0, 1) := by decide +kernel
theorem dX11_step_197 : decode cX11_step 197 = .ok (.aload_n 0, 1) := by decide +kernel
theorem dX11_step_198 : decode cX11_step 198 = .ok (.aload_n 0, 1) := by decide +kernel
theorem dX11_step_199 : decode cX11_step 199 = .ok (.getfield 39, 3) := by decide +kernel
theorem dX11_step_202 : decode cX11_step 202 = .ok (.iload_n 3, 1) := by decide +kernel
theorem dX11_step_203 : decode cX11_step 203 = .ok (.iaload, 1) := by decide +kernel
theorem dX11_step_204 : decode cX11_step 204 = .ok (.invokevirtual 240, 3) := by decide +kernel
theorem dX11_step_207 : decode cX11_step 207 = .ok (.aload_n 0, 1) := by decide +kernel
theorem dX11_step_208 : decode cX11_step 208 = .ok (.getfield 42, 3) := by decide +kernel
theorem dX11_step_211 : decode cX11_step 211 = .ok (.iload_n 3, 1) := by decide +kernel
theorem dX11_step_212 : decode cX11_step 212 = .ok (.iaload, 1) := by decide +kernel
theorem dX11_step_213 : decode cX11_step 213 = .ok (.aload_n 0, 1) := by decide +kernel
theorem dX11_step_214 : decode cX11_step 214 = .ok (.getfield 51, 3) := by decide +kernel
theorem dX11_step_217 : decode cX11_step 217 = .ok (.iload_n 3, 1) := by decide +kernel
theorem dX11_step_218 : decode cX11_step 218 = .ok (.iaload, 1) := by decide +kernel
theorem dX11_step_219 : decode cX11_step 219 = .ok (.invokevirtual 251, 3) := by decide +kernel
theorem dX11_step_222 : decode cX11_step 222 = .ok (.ifCond .ne 8, 3) := by decide +kernel
theorem dX11_step_225 : decode cX11_step 225 = .ok (.aload_n 0, 1) := by decide +kernel
theorem dX11_step_226 : decode cX11_step 226 = .ok (.invokevirtual 255, 3) := by decide +kernel
theorem dX11_step_229 : decode cX11_step 229 = .ok (.return_, 1) := by decide +kernel
theorem dX11_step_230 : decode cX11_step 230 = .ok (.aload_n 0, 1) := by decide +kernel
theorem dX11_step_231 : decode cX11_step 231 = .ok (.iload_n 3, 1) := by decide +kernel
theorem dX11_step_232 : decode cX11_step 232 = .ok (.invokevirtual 284, 3) := by decide +kernel
theorem dX11_step_235 : decode cX11_step 235 = .ok (.goto 129, 3) := by decide +kernel
theorem dX11_step_238 : decode cX11_step 238 = .ok (.aload_n 0, 1) := by decide +kernel
theorem dX11_step_239 : decode cX11_step 239 = .ok (.iload_n 3, 1) := by decide +kernel
theorem dX11_step_240 : decode cX11_step 240 = .ok (.invokevirtual 287, 3) := by decide +kernel
theorem dX11_step_243 : decode cX11_step 243 = .ok (.return_, 1) := by decide +kernel
theorem dX11_step_244 : decode cX11_step 244 = .ok (.aload_n 0, 1) := by decide +kernel
theorem dX11_step_245 : decode cX11_step 245 = .ok (.iload_n 3, 1) := by decide +kernel
theorem dX11_step_246 : decode cX11_step 246 = .ok (.invokevirtual 290, 3) := by decide +kernel
theorem dX11_step_249 : decode cX11_step 249 = .ok (.return_, 1) := by decide +kernel
theorem dX11_step_250 : decode cX11_step 250 = .ok (.aload_n 0, 1) := by decide +kernel
theorem dX11_step_251 : decode cX11_step 251 = .ok (.iload_n 3, 1) := by decide +kernel
theorem dX11_step_252 : decode cX11_step 252 = .ok (.invokevirtual 293, 3) := by decide +kernel
theorem dX11_step_255 : decode cX11_step 255 = .ok (.return_, 1) := by decide +kernel
theorem dX11_step_256 : decode cX11_step 256 = .ok (.aload_n 0, 1) := by decide +kernel
theorem dX11_step_257 : decode cX11_step 257 = .ok (.getfield 79, 3) := by decide +kernel
theorem dX11_step_260 : decode cX11_step 260 = .ok (.aload_n 0, 1) := by decide +kernel
theorem dX11_step_261 : decode cX11_step 261 = .ok (.getfield 203, 3) := by decide +kernel
theorem dX11_step_264 : decode cX11_step 264 = .ok (.aload_n 0, 1) := by decide +kernel
theorem dX11_step_265 : decode cX11_step 265 = .ok (.getfield 39, 3) := by decide +kernel
theorem dX11_step_268 : decode cX11_step 268 = .ok (.iload_n 3, 1) := by decide +kernel
theorem dX11_step_269 : decode cX11_step 269 = .ok (.iaload, 1) := by decide +kernel
theorem dX11_step_270 : decode cX11_step 270 = .ok (.iastore, 1) := by decide +kernel
theorem dX11_step_271 : decode cX11_step 271 = .ok (.return_, 1) := by decide +kernel
