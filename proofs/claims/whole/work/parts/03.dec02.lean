theorem dX8_cellAt_26 : decode cX8_cellAt 26 = .ok (.invokestatic 61, 3) := by decide +kernel
theorem dX8_cellAt_29 : decode cX8_cellAt 29 = .ok (.ifCond .eq 14, 3) := by decide +kernel
theorem dX8_cellAt_32 : decode cX8_cellAt 32 = .ok (.iload_n 2, 1) := by decide +kernel
theorem dX8_cellAt_33 : decode cX8_cellAt 33 = .ok (.aload_n 0, 1) := by decide +kernel
theorem dX8_cellAt_34 : decode cX8_cellAt 34 = .ok (.getfield 7, 3) := by decide +kernel
theorem dX8_cellAt_37 : decode cX8_cellAt 37 = .ok (.imul, 1) := by decide +kernel
theorem dX8_cellAt_38 : decode cX8_cellAt 38 = .ok (.iload_n 1, 1) := by decide +kernel
theorem dX8_cellAt_39 : decode cX8_cellAt 39 = .ok (.iadd, 1) := by decide +kernel
theorem dX8_cellAt_40 : decode cX8_cellAt 40 = .ok (.goto 5, 3) := by decide +kernel
theorem dX8_cellAt_43 : decode cX8_cellAt 43 = .ok (.bipush 16, 2) := by decide +kernel
theorem dX8_cellAt_45 : decode cX8_cellAt 45 = .ok (.ireturn, 1) := by decide +kernel
theorem dX8_joins_0 : decode cX8_joins 0 = .ok (.aload_n 0, 1) := by decide +kernel
theorem dX8_joins_1 : decode cX8_joins 1 = .ok (.getfield 29, 3) := by decide +kernel
theorem dX8_joins_4 : decode cX8_joins 4 = .ok (.iconst 2, 1) := by decide +kernel
theorem dX8_joins_5 : decode cX8_joins 5 = .ok (.iload_n 1, 1) := by decide +kernel
theorem dX8_joins_6 : decode cX8_joins 6 = .ok (.imul, 1) := by decide +kernel
theorem dX8_joins_7 : decode cX8_joins 7 = .ok (.iload_n 2, 1) := by decide +kernel
theorem dX8_joins_8 : decode cX8_joins 8 = .ok (.iastore, 1) := by decide +kernel
theorem dX8_joins_9 : decode cX8_joins 9 = .ok (.aload_n 0, 1) := by decide +kernel
theorem dX8_joins_10 : decode cX8_joins 10 = .ok (.getfield 29, 3) := by decide +kernel
theorem dX8_joins_13 : decode cX8_joins 13 = .ok (.iconst 2, 1) := by decide +kernel
theorem dX8_joins_14 : decode cX8_joins 14 = .ok (.iload_n 1, 1) := by decide +kernel
theorem dX8_joins_15 : decode cX8_joins 15 = .ok (.imul, 1) := by decide +kernel
theorem dX8_joins_16 : decode cX8_joins 16 = .ok (.iconst 1, 1) := by decide +kernel
theorem dX8_joins_17 : decode cX8_joins 17 = .ok (.iadd, 1) := by decide +kernel
theorem dX8_joins_18 : decode cX8_joins 18 = .ok (.iload_n 3, 1) := by decide +kernel
theorem dX8_joins_19 : decode cX8_joins 19 = .ok (.iastore, 1) := by decide +kernel
theorem dX8_joins_20 : decode cX8_joins 20 = .ok (.aload_n 0, 1) := by decide +kernel
theorem dX8_joins_21 : decode cX8_joins 21 = .ok (.getfield 26, 3) := by decide +kernel
theorem dX8_joins_24 : decode cX8_joins 24 = .ok (.iload 4, 2) := by decide +kernel
theorem dX8_joins_26 : decode cX8_joins 26 = .ok (.dup2, 1) := by decide +kernel
theorem dX8_joins_27 : decode cX8_joins 27 = .ok (.laload, 1) := by decide +kernel
theorem dX8_joins_28 : decode cX8_joins 28 = .ok (.lconst 1, 1) := by decide +kernel
theorem dX8_joins_29 : decode cX8_joins 29 = .ok (.iload_n 1, 1) := by decide +kernel
theorem dX8_joins_30 : decode cX8_joins 30 = .ok (.lshl, 1) := by decide +kernel
theorem dX8_joins_31 : decode cX8_joins 31 = .ok (.lor, 1) := by decide +kernel
theorem dX8_joins_32 : decode cX8_joins 32 = .ok (.lastore, 1) := by decide +kernel
theorem dX8_joins_33 : decode cX8_joins 33 = .ok (.aload_n 0, 1) := by decide +kernel
theorem dX8_joins_34 : decode cX8_joins 34 = .ok (.getfield 26, 3) := by decide +kernel
theorem dX8_joins_37 : decode cX8_joins 37 = .ok (.iload 5, 2) := by decide +kernel
theorem dX8_joins_39 : decode cX8_joins 39 = .ok (.dup2, 1) := by decide +kernel
theorem dX8_joins_40 : decode cX8_joins 40 = .ok (.laload, 1) := by decide +kernel
theorem dX8_joins_41 : decode cX8_joins 41 = .ok (.lconst 1, 1) := by decide +kernel
theorem dX8_joins_42 : decode cX8_joins 42 = .ok (.iload_n 1, 1) := by decide +kernel
theorem dX8_joins_43 : decode cX8_joins 43 = .ok (.lshl, 1) := by decide +kernel
theorem dX8_joins_44 : decode cX8_joins 44 = .ok (.lor, 1) := by decide +kernel
theorem dX8_joins_45 : decode cX8_joins 45 = .ok (.lastore, 1) := by decide +kernel
theorem dX8_joins_46 : decode cX8_joins 46 = .ok (.iload_n 2, 1) := by decide +kernel
theorem dX8_joins_47 : decode cX8_joins 47 = .ok (.bipush 16, 2) := by decide +kernel
theorem dX8_joins_49 : decode cX8_joins 49 = .ok (.if_icmp .ge 15, 3) := by decide +kernel
theorem dX8_joins_52 : decode cX8_joins 52 = .ok (.aload_n 0, 1) := by decide +kernel
theorem dX8_joins_53 : decode cX8_joins 53 = .ok (.getfield 22, 3) := by decide +kernel
theorem dX8_joins_56 : decode cX8_joins 56 = .ok (.iload_n 2, 1) := by decide +kernel
theorem dX8_joins_57 : decode cX8_joins 57 = .ok (.dup2, 1) := by decide +kernel
theorem dX8_joins_58 : decode cX8_joins 58 = .ok (.laload, 1) := by decide +kernel
theorem dX8_joins_59 : decode cX8_joins 59 = .ok (.lconst 1, 1) := by decide +kernel
theorem dX8_joins_60 : decode cX8_joins 60 = .ok (.iload_n 1, 1) := by decide +kernel
theorem dX8_joins_61 : decode cX8_joins 61 = .ok (.lshl, 1) := by decide +kernel
theorem dX8_joins_62 : decode cX8_joins 62 = .ok (.lor, 1) := by decide +kernel
theorem dX8_joins_63 : decode cX8_joins 63 = .ok (.lastore, 1) := by decide +kernel
theorem dX8_joins_64 : decode cX8_joins 64 = .ok (.iload_n 3, 1) := by decide +kernel
theorem dX8_joins_65 : decode cX8_joins 65 = .ok (.bipush 16, 2) := by decide +kernel
theorem dX8_joins_67 : decode cX8_joins 67 = .ok (.if_icmp .ge 15, 3) := by decide +kernel
theorem dX8_joins_70 : decode cX8_joins 70 = .ok (.aload_n 0, 1) := by decide +kernel
theorem dX8_joins_71 : decode cX8_joins 71 = .ok (.getfield 22, 3) := by decide +kernel
theorem dX8_joins_74 : decode cX8_joins 74 = .ok (.iload_n 3, 1) := by decide +kernel
theorem dX8_joins_75 : decode cX8_joins 75 = .ok (.dup2, 1) := by decide +kernel
theorem dX8_joins_76 : decode cX8_joins 76 = .ok (.laload, 1) := by decide +kernel
theorem dX8_joins_77 : decode cX8_joins 77 = .ok (.lconst 1, 1) := by decide +kernel
theorem dX8_joins_78 : decode cX8_joins 78 = .ok (.iload_n 1, 1) := by decide +kernel
theorem dX8_joins_79 : decode cX8_joins 79 = .ok (.lshl, 1) := by decide +kernel
theorem dX8_joins_80 : decode cX8_joins 80 = .ok (.lor, 1) := by decide +kernel
theorem dX8_joins_81 : decode cX8_joins 81 = .ok (.lastore, 1) := by decide +kernel
theorem dX8_joins_82 : decode cX8_joins 82 = .ok (.return_, 1) := by decide +kernel
theorem dX8_laysGrid_0 : decode cX8_laysGrid 0 = .ok (.aload_n 0, 1) := by decide +kernel
theorem dX8_laysGrid_1 : decode cX8_laysGrid 1 = .ok (.aload_n 0, 1) := by decide +kernel
theorem dX8_laysGrid_2 : decode cX8_laysGrid 2 = .ok (.getfield 7, 3) := by decide +kernel
theorem dX8_laysGrid_5 : decode cX8_laysGrid 5 = .ok (.aload_n 0, 1) := by decide +kernel
theorem dX8_laysGrid_6 : decode cX8_laysGrid 6 = .ok (.getfield 13, 3) := by decide +kernel
theorem dX8_laysGrid_9 : decode cX8_laysGrid 9 = .ok (.imul, 1) := by decide +kernel
theorem dX8_laysGrid_10 : decode cX8_laysGrid 10 = .ok (.putfield 16, 3) := by decide +kernel
theorem dX8_laysGrid_13 : decode cX8_laysGrid 13 = .ok (.aload_n 0, 1) := by decide +kernel
theorem dX8_laysGrid_14 : decode cX8_laysGrid 14 = .ok (.iconst 2, 1) := by decide +kernel
theorem dX8_laysGrid_15 : decode cX8_laysGrid 15 = .ok (.aload_n 0, 1) := by decide +kernel
theorem dX8_laysGrid_16 : decode cX8_laysGrid 16 = .ok (.getfield 16, 3) := by decide +kernel
theorem dX8_laysGrid_19 : decode cX8_laysGrid 19 = .ok (.imul, 1) := by decide +kernel
theorem dX8_laysGrid_20 : decode cX8_laysGrid 20 = .ok (.aload_n 0, 1) := by decide +kernel
theorem dX8_laysGrid_21 : decode cX8_laysGrid 21 = .ok (.getfield 7, 3) := by decide +kernel
theorem dX8_laysGrid_24 : decode cX8_laysGrid 24 = .ok (.iadd, 1) := by decide +kernel
theorem dX8_laysGrid_25 : decode cX8_laysGrid 25 = .ok (.aload_n 0, 1) := by decide +kernel
theorem dX8_laysGrid_26 : decode cX8_laysGrid 26 = .ok (.getfield 13, 3) := by decide +kernel
theorem dX8_laysGrid_29 : decode cX8_laysGrid 29 = .ok (.iadd, 1) := by decide +kernel
theorem dX8_laysGrid_30 : decode cX8_laysGrid 30 = .ok (.putfield 19, 3) := by decide +kernel
theorem dX8_laysGrid_33 : decode cX8_laysGrid 33 = .ok (.iconst 0, 1) := by decide +kernel
theorem dX8_laysGrid_34 : decode cX8_laysGrid 34 = .ok (.istore_n 1, 1) := by decide +kernel
theorem dX8_laysGrid_35 : decode cX8_laysGrid 35 = .ok (.iload_n 1, 1) := by decide +kernel
theorem dX8_laysGrid_36 : decode cX8_laysGrid 36 = .ok (.bipush 25, 2) := by decide +kernel
theorem dX8_laysGrid_38 : decode cX8_laysGrid 38 = .ok (.if_icmp .ge 33, 3) := by decide +kernel
theorem dX8_laysGrid_41 : decode cX8_laysGrid 41 = .ok (.aload_n 0, 1) := by decide +kernel
theorem dX8_laysGrid_42 : decode cX8_laysGrid 42 = .ok (.getfield 26, 3) := by decide +kernel
theorem dX8_laysGrid_45 : decode cX8_laysGrid 45 = .ok (.iload_n 1, 1) := by decide +kernel
theorem dX8_laysGrid_46 : decode cX8_laysGrid 46 = .ok (.lconst 0, 1) := by decide +kernel
theorem dX8_laysGrid_47 : decode cX8_laysGrid 47 = .ok (.lastore, 1) := by decide +kernel
theorem dX8_laysGrid_48 : decode cX8_laysGrid 48 = .ok (.aload_n 0, 1) := by decide +kernel
theorem dX8_laysGrid_49 : decode cX8_laysGrid 49 = .ok (.getfield 22, 3) := by decide +kernel
theorem dX8_laysGrid_52 : decode cX8_laysGrid 52 = .ok (.iload_n 1, 1) := by decide +kernel
theorem dX8_laysGrid_53 : decode cX8_laysGrid 53 = .ok (.bipush 16, 2) := by decide +kernel
theorem dX8_laysGrid_55 : decode cX8_laysGrid 55 = .ok (.if_icmp .ge 7, 3) := by decide +kernel
theorem dX8_laysGrid_58 : decode cX8_laysGrid 58 = .ok (.iload_n 1, 1) := by decide +kernel
theorem dX8_laysGrid_59 : decode cX8_laysGrid 59 = .ok (.goto 4, 3) := by decide +kernel
theorem dX8_laysGrid_62 : decode cX8_laysGrid 62 = .ok (.iconst 0, 1) := by decide +kernel
theorem dX8_laysGrid_63 : decode cX8_laysGrid 63 = .ok (.lconst 0, 1) := by decide +kernel
theorem dX8_laysGrid_64 : decode cX8_laysGrid 64 = .ok (.lastore, 1) := by decide +kernel
theorem dX8_laysGrid_65 : decode cX8_laysGrid 65 = .ok (.iinc 1 1, 3) := by decide +kernel
theorem dX8_laysGrid_68 : decode cX8_laysGrid 68 = .ok (.goto (-33), 3) := by decide +kernel
theorem dX8_laysGrid_71 : decode cX8_laysGrid 71 = .ok (.iconst 0, 1) := by decide +kernel
theorem dX8_laysGrid_72 : decode cX8_laysGrid 72 = .ok (.istore_n 1, 1) := by decide +kernel
theorem dX8_laysGrid_73 : decode cX8_laysGrid 73 = .ok (.iload_n 1, 1) := by decide +kernel
theorem dX8_laysGrid_74 : decode cX8_laysGrid 74 = .ok (.aload_n 0, 1) := by decide +kernel
theorem dX8_laysGrid_75 : decode cX8_laysGrid 75 = .ok (.getfield 13, 3) := by decide +kernel
theorem dX8_laysGrid_78 : decode cX8_laysGrid 78 = .ok (.if_icmp .gt 71, 3) := by decide +kernel
theorem dX8_laysGrid_81 : decode cX8_laysGrid 81 = .ok (.iconst 0, 1) := by decide +kernel
theorem dX8_laysGrid_82 : decode cX8_laysGrid 82 = .ok (.istore_n 2, 1) := by decide +kernel
theorem dX8_laysGrid_83 : decode cX8_laysGrid 83 = .ok (.iload_n 2, 1) := by decide +kernel
theorem dX8_laysGrid_84 : decode cX8_laysGrid 84 = .ok (.aload_n 0, 1) := by decide +kernel
theorem dX8_laysGrid_85 : decode cX8_laysGrid 85 = .ok (.getfield 7, 3) := by decide +kernel
theorem dX8_laysGrid_88 : decode cX8_laysGrid 88 = .ok (.if_icmp .ge 55, 3) := by decide +kernel
theorem dX8_laysGrid_91 : decode cX8_laysGrid 91 = .ok (.aload_n 0, 1) := by decide +kernel
theorem dX8_laysGrid_92 : decode cX8_laysGrid 92 = .ok (.aload_n 0, 1) := by decide +kernel
theorem dX8_laysGrid_93 : decode cX8_laysGrid 93 = .ok (.iload_n 2, 1) := by decide +kernel
theorem dX8_laysGrid_94 : decode cX8_laysGrid 94 = .ok (.iload_n 1, 1) := by decide +kernel
theorem dX8_laysGrid_95 : decode cX8_laysGrid 95 = .ok (.invokevirtual 65, 3) := by decide +kernel
theorem dX8_laysGrid_98 : decode cX8_laysGrid 98 = .ok (.aload_n 0, 1) := by decide +kernel
theorem dX8_laysGrid_99 : decode cX8_laysGrid 99 = .ok (.iload_n 2, 1) := by decide +kernel
theorem dX8_laysGrid_100 : decode cX8_laysGrid 100 = .ok (.iload_n 1, 1) := by decide +kernel
theorem dX8_laysGrid_101 : decode cX8_laysGrid 101 = .ok (.iconst 1, 1) := by decide +kernel
theorem dX8_laysGrid_102 : decode cX8_laysGrid 102 = .ok (.isub, 1) := by decide +kernel
theorem dX8_laysGrid_103 : decode cX8_laysGrid 103 = .ok (.invokevirtual 69, 3) := by decide +kernel
theorem dX8_laysGrid_106 : decode cX8_laysGrid 106 = .ok (.aload_n 0, 1) := by decide +kernel
theorem dX8_laysGrid_107 : decode cX8_laysGrid 107 = .ok (.iload_n 2, 1) := by decide +kernel
theorem dX8_laysGrid_108 : decode cX8_laysGrid 108 = .ok (.iload_n 1, 1) := by decide +kernel
theorem dX8_laysGrid_109 : decode cX8_laysGrid 109 = .ok (.invokevirtual 69, 3) := by decide +kernel
theorem dX8_laysGrid_112 : decode cX8_laysGrid 112 = .ok (.iload_n 1, 1) := by decide +kernel
theorem dX8_laysGrid_113 : decode cX8_laysGrid 113 = .ok (.aload_n 0, 1) := by decide +kernel
theorem dX8_laysGrid_114 : decode cX8_laysGrid 114 = .ok (.getfield 7, 3) := by decide +kernel
theorem dX8_laysGrid_117 : decode cX8_laysGrid 117 = .ok (.iconst 1, 1) := by decide +kernel
theorem dX8_laysGrid_118 : decode cX8_laysGrid 118 = .ok (.iadd, 1) := by decide +kernel
theorem dX8_laysGrid_119 : decode cX8_laysGrid 119 = .ok (.imul, 1) := by decide +kernel
theorem dX8_laysGrid_120 : decode cX8_laysGrid 120 = .ok (.iload_n 2, 1) := by decide +kernel
theorem dX8_laysGrid_121 : decode cX8_laysGrid 121 = .ok (.iadd, 1) := by decide +kernel
theorem dX8_laysGrid_122 : decode cX8_laysGrid 122 = .ok (.iload_n 1, 1) := by decide +kernel
theorem dX8_laysGrid_123 : decode cX8_laysGrid 123 = .ok (.aload_n 0, 1) := by decide +kernel
theorem dX8_laysGrid_124 : decode cX8_laysGrid 124 = .ok (.getfield 7, 3) := by decide +kernel
theorem dX8_laysGrid_127 : decode cX8_laysGrid 127 = .ok (.iconst 1, 1) := by decide +kernel
theorem dX8_laysGrid_128 : decode cX8_laysGrid 128 = .ok (.iadd, 1) := by decide +kernel
theorem dX8_laysGrid_129 : decode cX8_laysGrid 129 = .ok (.imul, 1) := by decide +kernel
theorem dX8_laysGrid_130 : decode cX8_laysGrid 130 = .ok (.iload_n 2, 1) := by decide +kernel
theorem dX8_laysGrid_131 : decode cX8_laysGrid 131 = .ok (.iadd, 1) := by decide +kernel
theorem dX8_laysGrid_132 : decode cX8_laysGrid 132 = .ok (.iconst 1, 1) := by decide +kernel
theorem dX8_laysGrid_133 : decode cX8_laysGrid 133 = .ok (.iadd, 1) := by decide +kernel
theorem dX8_laysGrid_134 : decode cX8_laysGrid 134 = .ok (.invokevirtual 72, 3) := by decide +kernel
theorem dX8_laysGrid_137 : decode cX8_laysGrid 137 = .ok (.iinc 2 1, 3) := by decide +kernel
theorem dX8_laysGrid_140 : decode cX8_laysGrid 140 = .ok (.goto (-57), 3) := by decide +kernel
theorem dX8_laysGrid_143 : decode cX8_laysGrid 143 = .ok (.iinc 1 1, 3) := by decide +kernel
theorem dX8_laysGrid_146 : decode cX8_laysGrid 146 = .ok (.goto (-73), 3) := by decide +kernel
theorem dX8_laysGrid_149 : decode cX8_laysGrid 149 = .ok (.iconst 0, 1) := by decide +kernel
theorem dX8_laysGrid_150 : decode cX8_laysGrid 150 = .ok (.istore_n 1, 1) := by decide +kernel
theorem dX8_laysGrid_151 : decode cX8_laysGrid 151 = .ok (.iload_n 1, 1) := by decide +kernel
theorem dX8_laysGrid_152 : decode cX8_laysGrid 152 = .ok (.aload_n 0, 1) := by decide +kernel
theorem dX8_laysGrid_153 : decode cX8_laysGrid 153 = .ok (.getfield 13, 3) := by decide +kernel
theorem dX8_laysGrid_156 : decode cX8_laysGrid 156 = .ok (.if_icmp .ge 71, 3) := by decide +kernel
theorem dX8_laysGrid_159 : decode cX8_laysGrid 159 = .ok (.iconst 0, 1) := by decide +kernel
theorem dX8_laysGrid_160 : decode cX8_laysGrid 160 = .ok (.istore_n 2, 1) := by decide +kernel
theorem dX8_laysGrid_161 : decode cX8_laysGrid 161 = .ok (.iload_n 2, 1) := by decide +kernel
theorem dX8_laysGrid_162 : decode cX8_laysGrid 162 = .ok (.aload_n 0, 1) := by decide +kernel
theorem dX8_laysGrid_163 : decode cX8_laysGrid 163 = .ok (.getfield 7, 3) := by decide +kernel
theorem dX8_laysGrid_166 : decode cX8_laysGrid 166 = .ok (.if_icmp .gt 55, 3) := by decide +kernel
theorem dX8_laysGrid_169 : decode cX8_laysGrid 169 = .ok (.aload_n 0, 1) := by decide +kernel
theorem dX8_laysGrid_170 : decode cX8_laysGrid 170 = .ok (.aload_n 0, 1) := by decide +kernel
theorem dX8_laysGrid_171 : decode cX8_laysGrid 171 = .ok (.iload_n 2, 1) := by decide +kernel
theorem dX8_laysGrid_172 : decode cX8_laysGrid 172 = .ok (.iload_n 1, 1) := by decide +kernel
theorem dX8_laysGrid_173 : decode cX8_laysGrid 173 = .ok (.invokevirtual 76, 3) := by decide +kernel
theorem dX8_laysGrid_176 : decode cX8_laysGrid 176 = .ok (.aload_n 0, 1) := by decide +kernel
theorem dX8_laysGrid_177 : decode cX8_laysGrid 177 = .ok (.iload_n 2, 1) := by decide +kernel
theorem dX8_laysGrid_178 : decode cX8_laysGrid 178 = .ok (.iconst 1, 1) := by decide +kernel
theorem dX8_laysGrid_179 : decode cX8_laysGrid 179 = .ok (.isub, 1) := by decide +kernel
theorem dX8_laysGrid_180 : decode cX8_laysGrid 180 = .ok (.iload_n 1, 1) := by decide +kernel
theorem dX8_laysGrid_181 : decode cX8_laysGrid 181 = .ok (.invokevirtual 69, 3) := by decide +kernel
theorem dX8_laysGrid_184 : decode cX8_laysGrid 184 = .ok (.aload_n 0, 1) := by decide +kernel
theorem dX8_laysGrid_185 : decode cX8_laysGrid 185 = .ok (.iload_n 2, 1) := by decide +kernel
theorem dX8_laysGrid_186 : decode cX8_laysGrid 186 = .ok (.iload_n 1, 1) := by decide +kernel
theorem dX8_laysGrid_187 : decode cX8_laysGrid 187 = .ok (.invokevirtual 69, 3) := by decide +kernel
theorem dX8_laysGrid_190 : decode cX8_laysGrid 190 = .ok (.iload_n 1, 1) := by decide +kernel
theorem dX8_laysGrid_191 : decode cX8_laysGrid 191 = .ok (.aload_n 0, 1) := by decide +kernel
theorem dX8_laysGrid_192 : decode cX8_laysGrid 192 = .ok (.getfield 7, 3) := by decide +kernel
theorem dX8_laysGrid_195 : decode cX8_laysGrid 195 = .ok (.iconst 1, 1) := by decide +kernel
theorem dX8_laysGrid_196 : decode cX8_laysGrid 196 = .ok (.iadd, 1) := by decide +kernel
theorem dX8_laysGrid_197 : decode cX8_laysGrid 197 = .ok (.imul, 1) := by decide +kernel
theorem dX8_laysGrid_198 : decode cX8_laysGrid 198 = .ok (.iload_n 2, 1) := by decide +kernel
theorem dX8_laysGrid_199 : decode cX8_laysGrid 199 = .ok (.iadd, 1) := by decide +kernel
theorem dX8_laysGrid_200 : decode cX8_laysGrid 200 = .ok (.iload_n 1, 1) := by decide +kernel
theorem dX8_laysGrid_201 : decode cX8_laysGrid 201 = .ok (.iconst 1, 1) := by decide +kernel
theorem dX8_laysGrid_202 : decode cX8_laysGrid 202 = .ok (.iadd, 1) := by decide +kernel
theorem dX8_laysGrid_203 : decode cX8_laysGrid 203 = .ok (.aload_n 0, 1) := by decide +kernel
theorem dX8_laysGrid_204 : decode cX8_laysGrid 204 = .ok (.getfield 7, 3) := by decide +kernel
theorem dX8_laysGrid_207 : decode cX8_laysGrid 207 = .ok (.iconst 1, 1) := by decide +kernel
theorem dX8_laysGrid_208 : decode cX8_laysGrid 208 = .ok (.iadd, 1) := by decide +kernel
theorem dX8_laysGrid_209 : decode cX8_laysGrid 209 = .ok (.imul, 1) := by decide +kernel
theorem dX8_laysGrid_210 : decode cX8_laysGrid 210 = .ok (.iload_n 2, 1) := by decide +kernel
theorem dX8_laysGrid_211 : decode cX8_laysGrid 211 = .ok (.iadd, 1) := by decide +kernel
theorem dX8_laysGrid_212 : decode cX8_laysGrid 212 = .ok (.invokevirtual 72, 3) := by decide +kernel
theorem dX8_laysGrid_215 : decode cX8_laysGrid 215 = .ok (.iinc 2 1, 3) := by decide +kernel
theorem dX8_laysGrid_218 : decode cX8_laysGrid 218 = .ok (.goto (-57), 3) := by decide +kernel
theorem dX8_laysGrid_221 : decode cX8_laysGrid 221 = .ok (.iinc 1 1, 3) := by decide +kernel
theorem dX8_laysGrid_224 : decode cX8_laysGrid 224 = .ok (.goto (-73), 3) := by decide +kernel
theorem dX8_laysGrid_227 : decode cX8_laysGrid 227 = .ok (.return_, 1) := by decide +kernel
theorem dX8_all_0 : decode cX8_all 0 = .ok (.lconst 1, 1) := by decide +kernel
theorem dX8_all_1 : decode cX8_all 1 = .ok (.aload_n 0, 1) := by decide +kernel
theorem dX8_all_2 : decode cX8_all 2 = .ok (.getfield 19, 3) := by decide +kernel
theorem dX8_all_5 : decode cX8_all 5 = .ok (.lshl, 1) := by decide +kernel
theorem dX8_all_6 : decode cX8_all 6 = .ok (.lconst 1, 1) := by decide +kernel
theorem dX8_all_7 : decode cX8_all 7 = .ok (.lsub, 1) := by decide +kernel
theorem dX8_all_8 : decode cX8_all 8 = .ok (.lreturn, 1) := by decide +kernel
theorem dX8_open_0 : decode cX8_open 0 = .ok (.aload_n 0, 1) := by decide +kernel
theorem dX8_open_1 : decode cX8_open 1 = .ok (.invokevirtual 79, 3) := by decide +kernel
theorem dX8_open_4 : decode cX8_open 4 = .ok (.aload_n 0, 1) := by decide +kernel
theorem dX8_open_5 : decode cX8_open 5 = .ok (.getfield 83, 3) := by decide +kernel
theorem dX8_open_8 : decode cX8_open 8 = .ok (.ldc2_w 86, 3) := by decide +kernel
theorem dX8_open_11 : decode cX8_open 11 = .ok (.lxor, 1) := by decide +kernel
theorem dX8_open_12 : decode cX8_open 12 = .ok (.land, 1) := by decide +kernel
theorem dX8_open_13 : decode cX8_open 13 = .ok (.aload_n 0, 1) := by decide +kernel
theorem dX8_open_14 : decode cX8_open 14 = .ok (.getfield 88, 3) := by decide +kernel
theorem dX8_open_17 : decode cX8_open 17 = .ok (.ldc2_w 86, 3) := by decide +kernel
theorem dX8_open_20 : decode cX8_open 20 = .ok (.lxor, 1) := by decide +kernel
theorem dX8_open_21 : decode cX8_open 21 = .ok (.land, 1) := by decide +kernel
theorem dX8_open_22 : decode cX8_open 22 = .ok (.lreturn, 1) := by decide +kernel
theorem dX8_numberAt_0 : decode cX8_numberAt 0 = .ok (.aload_n 0, 1) := by decide +kernel
theorem dX8_numberAt_1 : decode cX8_numberAt 1 = .ok (.getfield 52, 3) := by decide +kernel
theorem dX8_numberAt_4 : decode cX8_numberAt 4 = .ok (.iconst 3, 1) := by decide +kernel
theorem dX8_numberAt_5 : decode cX8_numberAt 5 = .ok (.iload_n 1, 1) := by decide +kernel
theorem dX8_numberAt_6 : decode cX8_numberAt 6 = .ok (.imul, 1) := by decide +kernel
theorem dX8_numberAt_7 : decode cX8_numberAt 7 = .ok (.lshr, 1) := by decide +kernel
theorem dX8_numberAt_8 : decode cX8_numberAt 8 = .ok (.ldc2_w 91, 3) := by decide +kernel
theorem dX8_numberAt_11 : decode cX8_numberAt 11 = .ok (.land, 1) := by decide +kernel
theorem dX8_numberAt_12 : decode cX8_numberAt 12 = .ok (.l2i, 1) := by decide +kernel
theorem dX8_numberAt_13 : decode cX8_numberAt 13 = .ok (.ireturn, 1) := by decide +kernel
theorem dX8_isMore_0 : decode cX8_isMore 0 = .ok (.aload_n 0, 1) := by decide +kernel
theorem dX8_isMore_1 : decode cX8_isMore 1 = .ok (.getfield 93, 3) := by decide +kernel
theorem dX8_isMore_4 : decode cX8_isMore 4 = .ok (.aload_n 0, 1) := by decide +kernel
theorem dX8_isMore_5 : decode cX8_isMore 5 = .ok (.getfield 96, 3) := by decide +kernel
theorem dX8_isMore_8 : decode cX8_isMore 8 = .ok (.if_icmp .ge 30, 3) := by decide +kernel
theorem dX8_isMore_11 : decode cX8_isMore 11 = .ok (.aload_n 0, 1) := by decide +kernel
theorem dX8_isMore_12 : decode cX8_isMore 12 = .ok (.getfield 33, 3) := by decide +kernel
theorem dX8_isMore_15 : decode cX8_isMore 15 = .ok (.aload_n 0, 1) := by decide +kernel
theorem dX8_isMore_16 : decode cX8_isMore 16 = .ok (.getfield 93, 3) := by decide +kernel
theorem dX8_isMore_19 : decode cX8_isMore 19 = .ok (.iaload, 1) := by decide +kernel
theorem dX8_isMore_20 : decode cX8_isMore 20 = .ok (.bipush 32, 2) := by decide +kernel
theorem dX8_isMore_22 : decode cX8_isMore 22 = .ok (.if_icmp .ne 16, 3) := by decide +kernel
theorem dX8_isMore_25 : decode cX8_isMore 25 = .ok (.aload_n 0, 1) := by decide +kernel
theorem dX8_isMore_26 : decode cX8_isMore 26 = .ok (.dup, 1) := by decide +kernel
theorem dX8_isMore_27 : decode cX8_isMore 27 = .ok (.getfield 93, 3) := by decide +kernel
theorem dX8_isMore_30 : decode cX8_isMore 30 = .ok (.iconst 1, 1) := by decide +kernel
theorem dX8_isMore_31 : decode cX8_isMore 31 = .ok (.iadd, 1) := by decide +kernel
theorem dX8_isMore_32 : decode cX8_isMore 32 = .ok (.putfield 93, 3) := by decide +kernel
theorem dX8_isMore_35 : decode cX8_isMore 35 = .ok (.goto (-35), 3) := by decide +kernel
theorem dX8_isMore_38 : decode cX8_isMore 38 = .ok (.aload_n 0, 1) := by decide +kernel
theorem dX8_isMore_39 : decode cX8_isMore 39 = .ok (.getfield 93, 3) := by decide +kernel
theorem dX8_isMore_42 : decode cX8_isMore 42 = .ok (.aload_n 0, 1) := by decide +kernel
theorem dX8_isMore_43 : decode cX8_isMore 43 = .ok (.getfield 96, 3) := by decide +kernel
theorem dX8_isMore_46 : decode cX8_isMore 46 = .ok (.if_icmp .ge 7, 3) := by decide +kernel
theorem dX8_isMore_49 : decode cX8_isMore 49 = .ok (.iconst 1, 1) := by decide +kernel
theorem dX8_isMore_50 : decode cX8_isMore 50 = .ok (.goto 4, 3) := by decide +kernel
theorem dX8_isMore_53 : decode cX8_isMore 53 = .ok (.iconst 0, 1) := by decide +kernel
theorem dX8_isMore_54 : decode cX8_isMore 54 = .ok (.ireturn, 1) := by decide +kernel
theorem dX8_isSign_0 : decode cX8_isSign 0 = .ok (.aload_n 0, 1) := by decide +kernel
theorem dX8_isSign_1 : decode cX8_isSign 1 = .ok (.invokevirtual 99, 3) := by decide +kernel
theorem dX8_isSign_4 : decode cX8_isSign 4 = .ok (.ifCond .eq 43, 3) := by decide +kernel
theorem dX8_isSign_7 : decode cX8_isSign 7 = .ok (.aload_n 0, 1) := by decide +kernel
theorem dX8_isSign_8 : decode cX8_isSign 8 = .ok (.getfield 33, 3) := by decide +kernel
theorem dX8_isSign_11 : decode cX8_isSign 11 = .ok (.aload_n 0, 1) := by decide +kernel
theorem dX8_isSign_12 : decode cX8_isSign 12 = .ok (.getfield 93, 3) := by decide +kernel
theorem dX8_isSign_15 : decode cX8_isSign 15 = .ok (.iaload, 1) := by decide +kernel
theorem dX8_isSign_16 : decode cX8_isSign 16 = .ok (.i2l, 1) := by decide +kernel
theorem dX8_isSign_17 : decode cX8_isSign 17 = .ok (.ldc2_w 103, 3) := by decide +kernel
theorem dX8_isSign_20 : decode cX8_isSign 20 = .ok (.ldc2_w 105, 3) := by decide +kernel
theorem dX8_isSign_23 : decode cX8_isSign 23 = .ok (.invokestatic 61, 3) := by decide +kernel
theorem dX8_isSign_26 : decode cX8_isSign 26 = .ok (.ifCond .ne 17, 3) := by decide +kernel
theorem dX8_isSign_29 : decode cX8_isSign 29 = .ok (.aload_n 0, 1) := by decide +kernel
theorem dX8_isSign_30 : decode cX8_isSign 30 = .ok (.getfield 33, 3) := by decide +kernel
theorem dX8_isSign_33 : decode cX8_isSign 33 = .ok (.aload_n 0, 1) := by decide +kernel
theorem dX8_isSign_34 : decode cX8_isSign 34 = .ok (.getfield 93, 3) := by decide +kernel
theorem dX8_isSign_37 : decode cX8_isSign 37 = .ok (.iaload, 1) := by decide +kernel
theorem dX8_isSign_38 : decode cX8_isSign 38 = .ok (.bipush 46, 2) := by decide +kernel
theorem dX8_isSign_40 : decode cX8_isSign 40 = .ok (.if_icmp .ne 7, 3) := by decide +kernel
theorem dX8_isSign_43 : decode cX8_isSign 43 = .ok (.iconst 1, 1) := by decide +kernel
theorem dX8_isSign_44 : decode cX8_isSign 44 = .ok (.goto 4, 3) := by decide +kernel
theorem dX8_isSign_47 : decode cX8_isSign 47 = .ok (.iconst 0, 1) := by decide +kernel
theorem dX8_isSign_48 : decode cX8_isSign 48 = .ok (.ireturn, 1) := by decide +kernel
theorem dX8_readsRow_0 : decode cX8_readsRow 0 = .ok (.iconst 0, 1) := by decide +kernel
theorem dX8_readsRow_1 : decode cX8_readsRow 1 = .ok (.istore_n 1, 1) := by decide +kernel
theorem dX8_readsRow_2 : decode cX8_readsRow 2 = .ok (.aload_n 0, 1) := by decide +kernel
theorem dX8_readsRow_3 : decode cX8_readsRow 3 = .ok (.invokevirtual 107, 3) := by decide +kernel
theorem dX8_readsRow_6 : decode cX8_readsRow 6 = .ok (.ifCond .eq 107, 3) := by decide +kernel
theorem dX8_readsRow_9 : decode cX8_readsRow 9 = .ok (.iload_n 1, 1) := by decide +kernel
theorem dX8_readsRow_10 : decode cX8_readsRow 10 = .ok (.aload_n 0, 1) := by decide +kernel
theorem dX8_readsRow_11 : decode cX8_readsRow 11 = .ok (.getfield 110, 3) := by decide +kernel
theorem dX8_readsRow_14 : decode cX8_readsRow 14 = .ok (.ifCond .ne 7, 3) := by decide +kernel
theorem dX8_readsRow_17 : decode cX8_readsRow 17 = .ok (.iconst 4, 1) := by decide +kernel
theorem dX8_readsRow_18 : decode cX8_readsRow 18 = .ok (.goto 7, 3) := by decide +kernel
theorem dX8_readsRow_21 : decode cX8_readsRow 21 = .ok (.aload_n 0, 1) := by decide +kernel
theorem dX8_readsRow_22 : decode cX8_readsRow 22 = .ok (.getfield 113, 3) := by decide +kernel
theorem dX8_readsRow_25 : decode cX8_readsRow 25 = .ok (.if_icmp .ge 88, 3) := by decide +kernel
theorem dX8_readsRow_28 : decode cX8_readsRow 28 = .ok (.aload_n 0, 1) := by decide +kernel
theorem dX8_readsRow_29 : decode cX8_readsRow 29 = .ok (.getfield 33, 3) := by decide +kernel
theorem dX8_readsRow_32 : decode cX8_readsRow 32 = .ok (.aload_n 0, 1) := by decide +kernel
theorem dX8_readsRow_33 : decode cX8_readsRow 33 = .ok (.getfield 93, 3) := by decide +kernel
theorem dX8_readsRow_36 : decode cX8_readsRow 36 = .ok (.iaload, 1) := by decide +kernel
theorem dX8_readsRow_37 : decode cX8_readsRow 37 = .ok (.bipush 46, 2) := by decide +kernel
theorem dX8_readsRow_39 : decode cX8_readsRow 39 = .ok (.if_icmp .ne 9, 3) := by decide +kernel
theorem dX8_readsRow_42 : decode cX8_readsRow 42 = .ok (.ldc2_w 56, 3) := by decide +kernel
theorem dX8_readsRow_45 : decode cX8_readsRow 45 = .ok (.goto 16, 3) := by decide +kernel
theorem dX8_readsRow_48 : decode cX8_readsRow 48 = .ok (.aload_n 0, 1) := by decide +kernel
theorem dX8_readsRow_49 : decode cX8_readsRow 49 = .ok (.getfield 33, 3) := by decide +kernel
theorem dX8_readsRow_52 : decode cX8_readsRow 52 = .ok (.aload_n 0, 1) := by decide +kernel
theorem dX8_readsRow_53 : decode cX8_readsRow 53 = .ok (.getfield 93, 3) := by decide +kernel
theorem dX8_readsRow_56 : decode cX8_readsRow 56 = .ok (.iaload, 1) := by decide +kernel
theorem dX8_readsRow_57 : decode cX8_readsRow 57 = .ok (.bipush 48, 2) := by decide +kernel
theorem dX8_readsRow_59 : decode cX8_readsRow 59 = .ok (.isub, 1) := by decide +kernel
theorem dX8_readsRow_60 : decode cX8_readsRow 60 = .ok (.i2l, 1) := by decide +kernel
theorem dX8_readsRow_61 : decode cX8_readsRow 61 = .ok (.lstore_n 2, 1) := by decide +kernel
theorem dX8_readsRow_62 : decode cX8_readsRow 62 = .ok (.aload_n 0, 1) := by decide +kernel
theorem dX8_readsRow_63 : decode cX8_readsRow 63 = .ok (.dup, 1) := by decide +kernel
theorem dX8_readsRow_64 : decode cX8_readsRow 64 = .ok (.getfield 116, 3) := by decide +kernel
theorem dX8_readsRow_67 : decode cX8_readsRow 67 = .ok (.lload_n 2, 1) := by decide +kernel
theorem dX8_readsRow_68 : decode cX8_readsRow 68 = .ok (.iconst 3, 1) := by decide +kernel
theorem dX8_readsRow_69 : decode cX8_readsRow 69 = .ok (.aload_n 0, 1) := by decide +kernel
theorem dX8_readsRow_70 : decode cX8_readsRow 70 = .ok (.getfield 110, 3) := by decide +kernel
theorem dX8_readsRow_73 : decode cX8_readsRow 73 = .ok (.ifCond .ne 7, 3) := by decide +kernel
theorem dX8_readsRow_76 : decode cX8_readsRow 76 = .ok (.iload_n 1, 1) := by decide +kernel
theorem dX8_readsRow_77 : decode cX8_readsRow 77 = .ok (.goto 14, 3) := by decide +kernel
theorem dX8_readsRow_80 : decode cX8_readsRow 80 = .ok (.aload_n 0, 1) := by decide +kernel
theorem dX8_readsRow_81 : decode cX8_readsRow 81 = .ok (.getfield 113, 3) := by decide +kernel
theorem dX8_readsRow_84 : decode cX8_readsRow 84 = .ok (.aload_n 0, 1) := by decide +kernel
theorem dX8_readsRow_85 : decode cX8_readsRow 85 = .ok (.getfield 110, 3) := by decide +kernel
theorem dX8_readsRow_88 : decode cX8_readsRow 88 = .ok (.imul, 1) := by decide +kernel
theorem dX8_readsRow_89 : decode cX8_readsRow 89 = .ok (.iload_n 1, 1) := by decide +kernel
theorem dX8_readsRow_90 : decode cX8_readsRow 90 = .ok (.iadd, 1) := by decide +kernel
theorem dX8_readsRow_91 : decode cX8_readsRow 91 = .ok (.imul, 1) := by decide +kernel
theorem dX8_readsRow_92 : decode cX8_readsRow 92 = .ok (.lshl, 1) := by decide +kernel
theorem dX8_readsRow_93 : decode cX8_readsRow 93 = .ok (.lor, 1) := by decide +kernel
theorem dX8_readsRow_94 : decode cX8_readsRow 94 = .ok (.putfield 116, 3) := by decide +kernel
theorem dX8_readsRow_97 : decode cX8_readsRow 97 = .ok (.iinc 1 1, 3) := by decide +kernel
theorem dX8_readsRow_100 : decode cX8_readsRow 100 = .ok (.aload_n 0, 1) := by decide +kernel
theorem dX8_readsRow_101 : decode cX8_readsRow 101 = .ok (.dup, 1) := by decide +kernel
theorem dX8_readsRow_102 : decode cX8_readsRow 102 = .ok (.getfield 93, 3) := by decide +kernel
theorem dX8_readsRow_105 : decode cX8_readsRow 105 = .ok (.iconst 1, 1) := by decide +kernel
theorem dX8_readsRow_106 : decode cX8_readsRow 106 = .ok (.iadd, 1) := by decide +kernel
theorem dX8_readsRow_107 : decode cX8_readsRow 107 = .ok (.putfield 93, 3) := by decide +kernel
theorem dX8_readsRow_110 : decode cX8_readsRow 110 = .ok (.goto (-108), 3) := by decide +kernel
theorem dX8_readsRow_113 : decode cX8_readsRow 113 = .ok (.aload_n 0, 1) := by decide +kernel
theorem dX8_readsRow_114 : decode cX8_readsRow 114 = .ok (.invokevirtual 99, 3) := by decide +kernel
theorem dX8_readsRow_117 : decode cX8_readsRow 117 = .ok (.ifCond .eq 40, 3) := by decide +kernel
theorem dX8_readsRow_120 : decode cX8_readsRow 120 = .ok (.aload_n 0, 1) := by decide +kernel
theorem dX8_readsRow_121 : decode cX8_readsRow 121 = .ok (.getfield 33, 3) := by decide +kernel
theorem dX8_readsRow_124 : decode cX8_readsRow 124 = .ok (.aload_n 0, 1) := by decide +kernel
theorem dX8_readsRow_125 : decode cX8_readsRow 125 = .ok (.getfield 93, 3) := by decide +kernel
theorem dX8_readsRow_128 : decode cX8_readsRow 128 = .ok (.iaload, 1) := by decide +kernel
theorem dX8_readsRow_129 : decode cX8_readsRow 129 = .ok (.bipush 59, 2) := by decide +kernel
theorem dX8_readsRow_131 : decode cX8_readsRow 131 = .ok (.if_icmp .ne 26, 3) := by decide +kernel
theorem dX8_readsRow_134 : decode cX8_readsRow 134 = .ok (.iload_n 1, 1) := by decide +kernel
theorem dX8_readsRow_135 : decode cX8_readsRow 135 = .ok (.ifCond .le 22, 3) := by decide +kernel
theorem dX8_readsRow_138 : decode cX8_readsRow 138 = .ok (.aload_n 0, 1) := by decide +kernel
theorem dX8_readsRow_139 : decode cX8_readsRow 139 = .ok (.getfield 110, 3) := by decide +kernel
theorem dX8_readsRow_142 : decode cX8_readsRow 142 = .ok (.ifCond .eq 11, 3) := by decide +kernel
theorem dX8_readsRow_145 : decode cX8_readsRow 145 = .ok (.iload_n 1, 1) := by decide +kernel
theorem dX8_readsRow_146 : decode cX8_readsRow 146 = .ok (.aload_n 0, 1) := by decide +kernel
theorem dX8_readsRow_147 : decode cX8_readsRow 147 = .ok (.getfield 113, 3) := by decide +kernel
theorem dX8_readsRow_150 : decode cX8_readsRow 150 = .ok (.if_icmp .ne 7, 3) := by decide +kernel
theorem dX8_readsRow_153 : decode cX8_readsRow 153 = .ok (.iconst 1, 1) := by decide +kernel
theorem dX8_readsRow_154 : decode cX8_readsRow 154 = .ok (.goto 4, 3) := by decide +kernel
theorem dX8_readsRow_157 : decode cX8_readsRow 157 = .ok (.iconst 0, 1) := by decide +kernel
theorem dX8_readsRow_158 : decode cX8_readsRow 158 = .ok (.istore_n 2, 1) := by decide +kernel
theorem dX8_readsRow_159 : decode cX8_readsRow 159 = .ok (.iload_n 2, 1) := by decide +kernel
theorem dX8_readsRow_160 : decode cX8_readsRow 160 = .ok (.ifCond .eq 28, 3) := by decide +kernel
theorem dX8_readsRow_163 : decode cX8_readsRow 163 = .ok (.aload_n 0, 1) := by decide +kernel
theorem dX8_readsRow_164 : decode cX8_readsRow 164 = .ok (.iload_n 1, 1) := by decide +kernel
theorem dX8_readsRow_165 : decode cX8_readsRow 165 = .ok (.putfield 113, 3) := by decide +kernel
theorem dX8_readsRow_168 : decode cX8_readsRow 168 = .ok (.aload_n 0, 1) := by decide +kernel
theorem dX8_readsRow_169 : decode cX8_readsRow 169 = .ok (.dup, 1) := by decide +kernel
theorem dX8_readsRow_170 : decode cX8_readsRow 170 = .ok (.getfield 110, 3) := by decide +kernel
theorem dX8_readsRow_173 : decode cX8_readsRow 173 = .ok (.iconst 1, 1) := by decide +kernel
theorem dX8_readsRow_174 : decode cX8_readsRow 174 = .ok (.iadd, 1) := by decide +kernel
theorem dX8_readsRow_175 : decode cX8_readsRow 175 = .ok (.putfield 110, 3) := by decide +kernel
theorem dX8_readsRow_178 : decode cX8_readsRow 178 = .ok (.aload_n 0, 1) := by decide +kernel
theorem dX8_readsRow_179 : decode cX8_readsRow 179 = .ok (.dup, 1) := by decide +kernel
theorem dX8_readsRow_180 : decode cX8_readsRow 180 = .ok (.getfield 93, 3) := by decide +kernel
theorem dX8_readsRow_183 : decode cX8_readsRow 183 = .ok (.iconst 1, 1) := by decide +kernel
theorem dX8_readsRow_184 : decode cX8_readsRow 184 = .ok (.iadd, 1) := by decide +kernel
theorem dX8_readsRow_185 : decode cX8_readsRow 185 = .ok (.putfield 93, 3) := by decide +kernel
theorem dX8_readsRow_188 : decode cX8_readsRow 188 = .ok (.iload_n 2, 1) := by decide +kernel
theorem dX8_readsRow_189 : decode cX8_readsRow 189 = .ok (.ireturn, 1) := by decide +kernel
theorem dX8_reads_0 : decode cX8_reads 0 = .ok (.aload_n 0, 1) := by decide +kernel
theorem dX8_reads_1 : decode cX8_reads 1 = .ok (.iconst 0, 1) := by decide +kernel
theorem dX8_reads_2 : decode cX8_reads 2 = .ok (.putfield 93, 3) := by decide +kernel
theorem dX8_reads_5 : decode cX8_reads 5 = .ok (.aload_n 0, 1) := by decide +kernel
theorem dX8_reads_6 : decode cX8_reads 6 = .ok (.iconst 0, 1) := by decide +kernel
theorem dX8_reads_7 : decode cX8_reads 7 = .ok (.putfield 110, 3) := by decide +kernel
theorem dX8_reads_10 : decode cX8_reads 10 = .ok (.aload_n 0, 1) := by decide +kernel
theorem dX8_reads_11 : decode cX8_reads 11 = .ok (.iconst 0, 1) := by decide +kernel
theorem dX8_reads_12 : decode cX8_reads 12 = .ok (.putfield 113, 3) := by decide +kernel
theorem dX8_reads_15 : decode cX8_reads 15 = .ok (.aload_n 0, 1) := by decide +kernel
theorem dX8_reads_16 : decode cX8_reads 16 = .ok (.lconst 0, 1) := by decide +kernel
theorem dX8_reads_17 : decode cX8_reads 17 = .ok (.putfield 116, 3) := by decide +kernel
theorem dX8_reads_20 : decode cX8_reads 20 = .ok (.aload_n 0, 1) := by decide +kernel
theorem dX8_reads_21 : decode cX8_reads 21 = .ok (.invokevirtual 99, 3) := by decide +kernel
theorem dX8_reads_24 : decode cX8_reads 24 = .ok (.istore_n 1, 1) := by decide +kernel
theorem dX8_reads_25 : decode cX8_reads 25 = .ok (.iload_n 1, 1) := by decide +kernel
theorem dX8_reads_26 : decode cX8_reads 26 = .ok (.ifCond .eq 34, 3) := by decide +kernel
theorem dX8_reads_29 : decode cX8_reads 29 = .ok (.aload_n 0, 1) := by decide +kernel
theorem dX8_reads_30 : decode cX8_reads 30 = .ok (.invokevirtual 99, 3) := by decide +kernel
theorem dX8_reads_33 : decode cX8_reads 33 = .ok (.ifCond .eq 27, 3) := by decide +kernel
theorem dX8_reads_36 : decode cX8_reads 36 = .ok (.aload_n 0, 1) := by decide +kernel
theorem dX8_reads_37 : decode cX8_reads 37 = .ok (.getfield 110, 3) := by decide +kernel
theorem dX8_reads_40 : decode cX8_reads 40 = .ok (.iconst 4, 1) := by decide +kernel
theorem dX8_reads_41 : decode cX8_reads 41 = .ok (.if_icmp .ge 14, 3) := by decide +kernel
theorem dX8_reads_44 : decode cX8_reads 44 = .ok (.aload_n 0, 1) := by decide +kernel
theorem dX8_reads_45 : decode cX8_reads 45 = .ok (.invokevirtual 119, 3) := by decide +kernel
theorem dX8_reads_48 : decode cX8_reads 48 = .ok (.ifCond .eq 7, 3) := by decide +kernel
theorem dX8_reads_51 : decode cX8_reads 51 = .ok (.iconst 1, 1) := by decide +kernel
theorem dX8_reads_52 : decode cX8_reads 52 = .ok (.goto 4, 3) := by decide +kernel
theorem dX8_reads_55 : decode cX8_reads 55 = .ok (.iconst 0, 1) := by decide +kernel
theorem dX8_reads_56 : decode cX8_reads 56 = .ok (.istore_n 1, 1) := by decide +kernel
theorem dX8_reads_57 : decode cX8_reads 57 = .ok (.goto (-32), 3) := by decide +kernel
theorem dX8_reads_60 : decode cX8_reads 60 = .ok (.iload_n 1, 1) := by decide +kernel
theorem dX8_reads_61 : decode cX8_reads 61 = .ok (.ireturn, 1) := by decide +kernel
theorem dX8_type_0 : decode cX8_type 0 = .ok (.iload_n 1, 1) := by decide +kernel
theorem dX8_type_1 : decode cX8_type 1 = .ok (.i2l, 1) := by decide +kernel
theorem dX8_type_2 : decode cX8_type 2 = .ok (.lconst 0, 1) := by decide +kernel
theorem dX8_type_3 : decode cX8_type 3 = .ok (.ldc2_w 122, 3) := by decide +kernel
theorem dX8_type_6 : decode cX8_type 6 = .ok (.invokestatic 61, 3) := by decide +kernel
theorem dX8_type_9 : decode cX8_type 9 = .ok (.ifCond .ne 5, 3) := by decide +kernel
theorem dX8_type_12 : decode cX8_type 12 = .ok (.iconst (-1), 1) := by decide +kernel
theorem dX8_type_13 : decode cX8_type 13 = .ok (.ireturn, 1) := by decide +kernel
theorem dX8_type_14 : decode cX8_type 14 = .ok (.aload_n 0, 1) := by decide +kernel
theorem dX8_type_15 : decode cX8_type 15 = .ok (.getfield 96, 3) := by decide +kernel
theorem dX8_type_18 : decode cX8_type 18 = .ok (.bipush 40, 2) := by decide +kernel
theorem dX8_type_20 : decode cX8_type 20 = .ok (.if_icmp .ne 6, 3) := by decide +kernel
theorem dX8_type_23 : decode cX8_type 23 = .ok (.bipush (-3), 2) := by decide +kernel
theorem dX8_type_25 : decode cX8_type 25 = .ok (.ireturn, 1) := by decide +kernel
theorem dX8_type_26 : decode cX8_type 26 = .ok (.aload_n 0, 1) := by decide +kernel
theorem dX8_type_27 : decode cX8_type 27 = .ok (.getfield 33, 3) := by decide +kernel
theorem dX8_type_30 : decode cX8_type 30 = .ok (.aload_n 0, 1) := by decide +kernel
theorem dX8_type_31 : decode cX8_type 31 = .ok (.getfield 96, 3) := by decide +kernel
theorem dX8_type_34 : decode cX8_type 34 = .ok (.iload_n 1, 1) := by decide +kernel
theorem dX8_type_35 : decode cX8_type 35 = .ok (.iastore, 1) := by decide +kernel
theorem dX8_type_36 : decode cX8_type 36 = .ok (.aload_n 0, 1) := by decide +kernel
theorem dX8_type_37 : decode cX8_type 37 = .ok (.dup, 1) := by decide +kernel
theorem dX8_type_38 : decode cX8_type 38 = .ok (.getfield 96, 3) := by decide +kernel
theorem dX8_type_41 : decode cX8_type 41 = .ok (.iconst 1, 1) := by decide +kernel
theorem dX8_type_42 : decode cX8_type 42 = .ok (.iadd, 1) := by decide +kernel
theorem dX8_type_43 : decode cX8_type 43 = .ok (.putfield 96, 3) := by decide +kernel
theorem dX8_type_46 : decode cX8_type 46 = .ok (.aload_n 0, 1) := by decide +kernel
theorem dX8_type_47 : decode cX8_type 47 = .ok (.getfield 96, 3) := by decide +kernel
theorem dX8_type_50 : decode cX8_type 50 = .ok (.ireturn, 1) := by decide +kernel
theorem dX8_clear_0 : decode cX8_clear 0 = .ok (.aload_n 0, 1) := by decide +kernel
theorem dX8_clear_1 : decode cX8_clear 1 = .ok (.getfield 96, 3) := by decide +kernel
theorem dX8_clear_4 : decode cX8_clear 4 = .ok (.istore_n 1, 1) := by decide +kernel
theorem dX8_clear_5 : decode cX8_clear 5 = .ok (.aload_n 0, 1) := by decide +kernel
theorem dX8_clear_6 : decode cX8_clear 6 = .ok (.iconst 0, 1) := by decide +kernel
theorem dX8_clear_7 : decode cX8_clear 7 = .ok (.putfield 96, 3) := by decide +kernel
theorem dX8_clear_10 : decode cX8_clear 10 = .ok (.iload_n 1, 1) := by decide +kernel
theorem dX8_clear_11 : decode cX8_clear 11 = .ok (.ireturn, 1) := by decide +kernel
theorem dX8_grid_0 : decode cX8_grid 0 = .ok (.aload_n 0, 1) := by decide +kernel
theorem dX8_grid_1 : decode cX8_grid 1 = .ok (.invokevirtual 124, 3) := by decide +kernel
theorem dX8_grid_4 : decode cX8_grid 4 = .ok (.ifCond .ne 11, 3) := by decide +kernel
theorem dX8_grid_7 : decode cX8_grid 7 = .ok (.bipush (-10), 2) := by decide +kernel
theorem dX8_grid_9 : decode cX8_grid 9 = .ok (.aload_n 0, 1) := by decide +kernel
theorem dX8_grid_10 : decode cX8_grid 10 = .ok (.getfield 93, 3) := by decide +kernel
theorem dX8_grid_13 : decode cX8_grid 13 = .ok (.isub, 1) := by decide +kernel
theorem dX8_grid_14 : decode cX8_grid 14 = .ok (.ireturn, 1) := by decide +kernel
theorem dX8_grid_15 : decode cX8_grid 15 = .ok (.aload_n 0, 1) := by decide +kernel
theorem dX8_grid_16 : decode cX8_grid 16 = .ok (.aload_n 0, 1) := by decide +kernel
theorem dX8_grid_17 : decode cX8_grid 17 = .ok (.getfield 113, 3) := by decide +kernel
theorem dX8_grid_20 : decode cX8_grid 20 = .ok (.putfield 7, 3) := by decide +kernel
theorem dX8_grid_23 : decode cX8_grid 23 = .ok (.aload_n 0, 1) := by decide +kernel
theorem dX8_grid_24 : decode cX8_grid 24 = .ok (.aload_n 0, 1) := by decide +kernel
theorem dX8_grid_25 : decode cX8_grid 25 = .ok (.getfield 110, 3) := by decide +kernel
theorem dX8_grid_28 : decode cX8_grid 28 = .ok (.putfield 13, 3) := by decide +kernel
theorem dX8_grid_31 : decode cX8_grid 31 = .ok (.aload_n 0, 1) := by decide +kernel
theorem dX8_grid_32 : decode cX8_grid 32 = .ok (.invokevirtual 58, 3) := by decide +kernel
theorem dX8_grid_35 : decode cX8_grid 35 = .ok (.aload_n 0, 1) := by decide +kernel
theorem dX8_grid_36 : decode cX8_grid 36 = .ok (.aload_n 0, 1) := by decide +kernel
theorem dX8_grid_37 : decode cX8_grid 37 = .ok (.getfield 116, 3) := by decide +kernel
theorem dX8_grid_40 : decode cX8_grid 40 = .ok (.putfield 52, 3) := by decide +kernel
theorem dX8_grid_43 : decode cX8_grid 43 = .ok (.aload_n 0, 1) := by decide +kernel
theorem dX8_grid_44 : decode cX8_grid 44 = .ok (.getfield 16, 3) := by decide +kernel
theorem dX8_grid_47 : decode cX8_grid 47 = .ok (.istore_n 1, 1) := by decide +kernel
theorem dX8_grid_48 : decode cX8_grid 48 = .ok (.iload_n 1, 1) := by decide +kernel
theorem dX8_grid_49 : decode cX8_grid 49 = .ok (.bipush 16, 2) := by decide +kernel
theorem dX8_grid_51 : decode cX8_grid 51 = .ok (.if_icmp .ge 25, 3) := by decide +kernel
theorem dX8_grid_54 : decode cX8_grid 54 = .ok (.aload_n 0, 1) := by decide +kernel
theorem dX8_grid_55 : decode cX8_grid 55 = .ok (.dup, 1) := by decide +kernel
theorem dX8_grid_56 : decode cX8_grid 56 = .ok (.getfield 52, 3) := by decide +kernel
theorem dX8_grid_59 : decode cX8_grid 59 = .ok (.ldc2_w 56, 3) := by decide +kernel
theorem dX8_grid_62 : decode cX8_grid 62 = .ok (.iconst 3, 1) := by decide +kernel
theorem dX8_grid_63 : decode cX8_grid 63 = .ok (.iload_n 1, 1) := by decide +kernel
theorem dX8_grid_64 : decode cX8_grid 64 = .ok (.imul, 1) := by decide +kernel
theorem dX8_grid_65 : decode cX8_grid 65 = .ok (.lshl, 1) := by decide +kernel
theorem dX8_grid_66 : decode cX8_grid 66 = .ok (.lor, 1) := by decide +kernel
theorem dX8_grid_67 : decode cX8_grid 67 = .ok (.putfield 52, 3) := by decide +kernel
theorem dX8_grid_70 : decode cX8_grid 70 = .ok (.iinc 1 1, 3) := by decide +kernel
theorem dX8_grid_73 : decode cX8_grid 73 = .ok (.goto (-25), 3) := by decide +kernel
theorem dX8_grid_76 : decode cX8_grid 76 = .ok (.aload_n 0, 1) := by decide +kernel
theorem dX8_grid_77 : decode cX8_grid 77 = .ok (.lconst 0, 1) := by decide +kernel
theorem dX8_grid_78 : decode cX8_grid 78 = .ok (.putfield 83, 3) := by decide +kernel
theorem dX8_grid_81 : decode cX8_grid 81 = .ok (.aload_n 0, 1) := by decide +kernel
theorem dX8_grid_82 : decode cX8_grid 82 = .ok (.lconst 0, 1) := by decide +kernel
theorem dX8_grid_83 : decode cX8_grid 83 = .ok (.putfield 88, 3) := by decide +kernel
theorem dX8_grid_86 : decode cX8_grid 86 = .ok (.aload_n 0, 1) := by decide +kernel
theorem dX8_grid_87 : decode cX8_grid 87 = .ok (.iconst 0, 1) := by decide +kernel
theorem dX8_grid_88 : decode cX8_grid 88 = .ok (.putfield 96, 3) := by decide +kernel
theorem dX8_grid_91 : decode cX8_grid 91 = .ok (.aload_n 0, 1) := by decide +kernel
theorem dX8_grid_92 : decode cX8_grid 92 = .ok (.iconst 0, 1) := by decide +kernel
theorem dX8_grid_93 : decode cX8_grid 93 = .ok (.putfield 127, 3) := by decide +kernel
theorem dX8_grid_96 : decode cX8_grid 96 = .ok (.aload_n 0, 1) := by decide +kernel
theorem dX8_grid_97 : decode cX8_grid 97 = .ok (.getfield 42, 3) := by decide +kernel
theorem dX8_grid_100 : decode cX8_grid 100 = .ok (.iconst 0, 1) := by decide +kernel
theorem dX8_grid_101 : decode cX8_grid 101 = .ok (.iconst 0, 1) := by decide +kernel
theorem dX8_grid_102 : decode cX8_grid 102 = .ok (.bastore, 1) := by decide +kernel
theorem dX8_grid_103 : decode cX8_grid 103 = .ok (.aload_n 0, 1) := by decide +kernel
theorem dX8_grid_104 : decode cX8_grid 104 = .ok (.getfield 42, 3) := by decide +kernel
theorem dX8_grid_107 : decode cX8_grid 107 = .ok (.iconst 1, 1) := by decide +kernel
theorem dX8_grid_108 : decode cX8_grid 108 = .ok (.iconst 0, 1) := by decide +kernel
theorem dX8_grid_109 : decode cX8_grid 109 = .ok (.bastore, 1) := by decide +kernel
theorem dX8_grid_110 : decode cX8_grid 110 = .ok (.aload_n 0, 1) := by decide +kernel
theorem dX8_grid_111 : decode cX8_grid 111 = .ok (.getfield 110, 3) := by decide +kernel
theorem dX8_grid_114 : decode cX8_grid 114 = .ok (.ireturn, 1) := by decide +kernel
theorem dX8_isCell_0 : decode cX8_isCell 0 = .ok (.iload_n 1, 1) := by decide +kernel
theorem dX8_isCell_1 : decode cX8_isCell 1 = .ok (.i2l, 1) := by decide +kernel
theorem dX8_isCell_2 : decode cX8_isCell 2 = .ok (.lconst 0, 1) := by decide +kernel
theorem dX8_isCell_3 : decode cX8_isCell 3 = .ok (.aload_n 0, 1) := by decide +kernel
theorem dX8_isCell_4 : decode cX8_isCell 4 = .ok (.getfield 16, 3) := by decide +kernel
theorem dX8_isCell_7 : decode cX8_isCell 7 = .ok (.iconst 1, 1) := by decide +kernel
theorem dX8_isCell_8 : decode cX8_isCell 8 = .ok (.isub, 1) := by decide +kernel
theorem dX8_isCell_9 : decode cX8_isCell 9 = .ok (.i2l, 1) := by decide +kernel
theorem dX8_isCell_10 : decode cX8_isCell 10 = .ok (.invokestatic 61, 3) := by decide +kernel
theorem dX8_isCell_13 : decode cX8_isCell 13 = .ok (.ireturn, 1) := by decide +kernel
theorem dX8_isSide_0 : decode cX8_isSide 0 = .ok (.iload_n 1, 1) := by decide +kernel
theorem dX8_isSide_1 : decode cX8_isSide 1 = .ok (.i2l, 1) := by decide +kernel
theorem dX8_isSide_2 : decode cX8_isSide 2 = .ok (.lconst 0, 1) := by decide +kernel
theorem dX8_isSide_3 : decode cX8_isSide 3 = .ok (.aload_n 0, 1) := by decide +kernel
theorem dX8_isSide_4 : decode cX8_isSide 4 = .ok (.getfield 19, 3) := by decide +kernel
theorem dX8_isSide_7 : decode cX8_isSide 7 = .ok (.iconst 1, 1) := by decide +kernel
theorem dX8_isSide_8 : decode cX8_isSide 8 = .ok (.isub, 1) := by decide +kernel
theorem dX8_isSide_9 : decode cX8_isSide 9 = .ok (.i2l, 1) := by decide +kernel
theorem dX8_isSide_10 : decode cX8_isSide 10 = .ok (.invokestatic 61, 3) := by decide +kernel
theorem dX8_isSide_13 : decode cX8_isSide 13 = .ok (.ireturn, 1) := by decide +kernel
theorem dX8_number_0 : decode cX8_number 0 = .ok (.aload_n 0, 1) := by decide +kernel
theorem dX8_number_1 : decode cX8_number 1 = .ok (.iload_n 1, 1) := by decide +kernel
theorem dX8_number_2 : decode cX8_number 2 = .ok (.invokevirtual 130, 3) := by decide +kernel
theorem dX8_number_5 : decode cX8_number 5 = .ok (.ifCond .ne 7, 3) := by decide +kernel
theorem dX8_number_8 : decode cX8_number 8 = .ok (.iconst (-1), 1) := by decide +kernel
theorem dX8_number_9 : decode cX8_number 9 = .ok (.goto 22, 3) := by decide +kernel
theorem dX8_number_12 : decode cX8_number 12 = .ok (.aload_n 0, 1) := by decide +kernel
theorem dX8_number_13 : decode cX8_number 13 = .ok (.iload_n 1, 1) := by decide +kernel
theorem dX8_number_14 : decode cX8_number 14 = .ok (.invokevirtual 134, 3) := by decide +kernel
theorem dX8_number_17 : decode cX8_number 17 = .ok (.iconst 5, 1) := by decide +kernel
theorem dX8_number_18 : decode cX8_number 18 = .ok (.if_icmp .ne 8, 3) := by decide +kernel
theorem dX8_number_21 : decode cX8_number 21 = .ok (.bipush (-9), 2) := by decide +kernel
theorem dX8_number_23 : decode cX8_number 23 = .ok (.goto 8, 3) := by decide +kernel
theorem dX8_number_26 : decode cX8_number 26 = .ok (.aload_n 0, 1) := by decide +kernel
theorem dX8_number_27 : decode cX8_number 27 = .ok (.iload_n 1, 1) := by decide +kernel
theorem dX8_number_28 : decode cX8_number 28 = .ok (.invokevirtual 134, 3) := by decide +kernel
theorem dX8_number_31 : decode cX8_number 31 = .ok (.ireturn, 1) := by decide +kernel
theorem dX8_side_0 : decode cX8_side 0 = .ok (.aload_n 0, 1) := by decide +kernel
theorem dX8_side_1 : decode cX8_side 1 = .ok (.iload_n 1, 1) := by decide +kernel
theorem dX8_side_2 : decode cX8_side 2 = .ok (.invokevirtual 138, 3) := by decide +kernel
theorem dX8_side_5 : decode cX8_side 5 = .ok (.ifCond .ne 7, 3) := by decide +kernel
theorem dX8_side_8 : decode cX8_side 8 = .ok (.iconst (-1), 1) := by decide +kernel
theorem dX8_side_9 : decode cX8_side 9 = .ok (.goto 34, 3) := by decide +kernel
theorem dX8_side_12 : decode cX8_side 12 = .ok (.aload_n 0, 1) := by decide +kernel
theorem dX8_side_13 : decode cX8_side 13 = .ok (.getfield 83, 3) := by decide +kernel
theorem dX8_side_16 : decode cX8_side 16 = .ok (.iload_n 1, 1) := by decide +kernel
theorem dX8_side_17 : decode cX8_side 17 = .ok (.invokestatic 141, 3) := by decide +kernel
theorem dX8_side_20 : decode cX8_side 20 = .ok (.ifCond .eq 7, 3) := by decide +kernel
theorem dX8_side_23 : decode cX8_side 23 = .ok (.iconst 1, 1) := by decide +kernel
theorem dX8_side_24 : decode cX8_side 24 = .ok (.goto 19, 3) := by decide +kernel
theorem dX8_side_27 : decode cX8_side 27 = .ok (.aload_n 0, 1) := by decide +kernel
theorem dX8_side_28 : decode cX8_side 28 = .ok (.getfield 88, 3) := by decide +kernel
theorem dX8_side_31 : decode cX8_side 31 = .ok (.iload_n 1, 1) := by decide +kernel
theorem dX8_side_32 : decode cX8_side 32 = .ok (.invokestatic 141, 3) := by decide +kernel
theorem dX8_side_35 : decode cX8_side 35 = .ok (.ifCond .eq 7, 3) := by decide +kernel
theorem dX8_side_38 : decode cX8_side 38 = .ok (.iconst 2, 1) := by decide +kernel
theorem dX8_side_39 : decode cX8_side 39 = .ok (.goto 4, 3) := by decide +kernel
theorem dX8_side_42 : decode cX8_side 42 = .ok (.iconst 0, 1) := by decide +kernel
theorem dX8_side_43 : decode cX8_side 43 = .ok (.ireturn, 1) := by decide +kernel
theorem dX8_sideOfCell_0 : decode cX8_sideOfCell 0 = .ok (.iload_n 1, 1) := by decide +kernel
theorem dX8_sideOfCell_1 : decode cX8_sideOfCell 1 = .ok (.aload_n 0, 1) := by decide +kernel
theorem dX8_sideOfCell_2 : decode cX8_sideOfCell 2 = .ok (.getfield 7, 3) := by decide +kernel
theorem dX8_sideOfCell_5 : decode cX8_sideOfCell 5 = .ok (.irem, 1) := by decide +kernel
theorem dX8_sideOfCell_6 : decode cX8_sideOfCell 6 = .ok (.istore_n 3, 1) := by decide +kernel
theorem dX8_sideOfCell_7 : decode cX8_sideOfCell 7 = .ok (.iload_n 1, 1) := by decide +kernel
theorem dX8_sideOfCell_8 : decode cX8_sideOfCell 8 = .ok (.aload_n 0, 1) := by decide +kernel
theorem dX8_sideOfCell_9 : decode cX8_sideOfCell 9 = .ok (.getfield 7, 3) := by decide +kernel
theorem dX8_sideOfCell_12 : decode cX8_sideOfCell 12 = .ok (.idiv, 1) := by decide +kernel
theorem dX8_sideOfCell_13 : decode cX8_sideOfCell 13 = .ok (.istore 4, 2) := by decide +kernel
theorem dX8_sideOfCell_15 : decode cX8_sideOfCell 15 = .ok (.iload_n 2, 1) := by decide +kernel
theorem dX8_sideOfCell_16 : decode cX8_sideOfCell 16 = .ok (.ifCond .ne 13, 3) := by decide +kernel
theorem dX8_sideOfCell_19 : decode cX8_sideOfCell 19 = .ok (.aload_n 0, 1) := by decide +kernel
theorem dX8_sideOfCell_20 : decode cX8_sideOfCell 20 = .ok (.iload_n 3, 1) := by decide +kernel
theorem dX8_sideOfCell_21 : decode cX8_sideOfCell 21 = .ok (.iload 4, 2) := by decide +kernel
theorem dX8_sideOfCell_23 : decode cX8_sideOfCell 23 = .ok (.invokevirtual 65, 3) := by decide +kernel
theorem dX8_sideOfCell_26 : decode cX8_sideOfCell 26 = .ok (.goto 44, 3) := by decide +kernel
theorem dX8_sideOfCell_29 : decode cX8_sideOfCell 29 = .ok (.iload_n 2, 1) := by decide +kernel
theorem dX8_sideOfCell_30 : decode cX8_sideOfCell 30 = .ok (.iconst 1, 1) := by decide +kernel
theorem dX8_sideOfCell_31 : decode cX8_sideOfCell 31 = .ok (.if_icmp .ne 15, 3) := by decide +kernel
theorem dX8_sideOfCell_34 : decode cX8_sideOfCell 34 = .ok (.aload_n 0, 1) := by decide +kernel
theorem dX8_sideOfCell_35 : decode cX8_sideOfCell 35 = .ok (.iload_n 3, 1) := by decide +kernel
theorem dX8_sideOfCell_36 : decode cX8_sideOfCell 36 = .ok (.iload 4, 2) := by decide +kernel
theorem dX8_sideOfCell_38 : decode cX8_sideOfCell 38 = .ok (.iconst 1, 1) := by decide +kernel
theorem dX8_sideOfCell_39 : decode cX8_sideOfCell 39 = .ok (.iadd, 1) := by decide +kernel
theorem dX8_sideOfCell_40 : decode cX8_sideOfCell 40 = .ok (.invokevirtual 65, 3) := by decide +kernel
theorem dX8_sideOfCell_43 : decode cX8_sideOfCell 43 = .ok (.goto 27, 3) := by decide +kernel
theorem dX8_sideOfCell_46 : decode cX8_sideOfCell 46 = .ok (.iload_n 2, 1) := by decide +kernel
theorem dX8_sideOfCell_47 : decode cX8_sideOfCell 47 = .ok (.iconst 2, 1) := by decide +kernel
theorem dX8_sideOfCell_48 : decode cX8_sideOfCell 48 = .ok (.if_icmp .ne 13, 3) := by decide +kernel
theorem dX8_sideOfCell_51 : decode cX8_sideOfCell 51 = .ok (.aload_n 0, 1) := by decide +kernel
theorem dX8_sideOfCell_52 : decode cX8_sideOfCell 52 = .ok (.iload_n 3, 1) := by decide +kernel
theorem dX8_sideOfCell_53 : decode cX8_sideOfCell 53 = .ok (.iload 4, 2) := by decide +kernel
theorem dX8_sideOfCell_55 : decode cX8_sideOfCell 55 = .ok (.invokevirtual 76, 3) := by decide +kernel
theorem dX8_sideOfCell_58 : decode cX8_sideOfCell 58 = .ok (.goto 12, 3) := by decide +kernel
theorem dX8_sideOfCell_61 : decode cX8_sideOfCell 61 = .ok (.aload_n 0, 1) := by decide +kernel
theorem dX8_sideOfCell_62 : decode cX8_sideOfCell 62 = .ok (.iload_n 3, 1) := by decide +kernel
theorem dX8_sideOfCell_63 : decode cX8_sideOfCell 63 = .ok (.iconst 1, 1) := by decide +kernel
theorem dX8_sideOfCell_64 : decode cX8_sideOfCell 64 = .ok (.iadd, 1) := by decide +kernel
theorem dX8_sideOfCell_65 : decode cX8_sideOfCell 65 = .ok (.iload 4, 2) := by decide +kernel
theorem dX8_sideOfCell_67 : decode cX8_sideOfCell 67 = .ok (.invokevirtual 76, 3) := by decide +kernel
theorem dX8_sideOfCell_70 : decode cX8_sideOfCell 70 = .ok (.ireturn, 1) := by decide +kernel
theorem dX8_sideOfPoint_0 : decode cX8_sideOfPoint 0 = .ok (.iload_n 1, 1) := by decide +kernel
theorem dX8_sideOfPoint_1 : decode cX8_sideOfPoint 1 = .ok (.aload_n 0, 1) := by decide +kernel
theorem dX8_sideOfPoint_2 : decode cX8_sideOfPoint 2 = .ok (.getfield 7, 3) := by decide +kernel
theorem dX8_sideOfPoint_5 : decode cX8_sideOfPoint 5 = .ok (.iconst 1, 1) := by decide +kernel
theorem dX8_sideOfPoint_6 : decode cX8_sideOfPoint 6 = .ok (.iadd, 1) := by decide +kernel
theorem dX8_sideOfPoint_7 : decode cX8_sideOfPoint 7 = .ok (.irem, 1) := by decide +kernel
theorem dX8_sideOfPoint_8 : decode cX8_sideOfPoint 8 = .ok (.istore_n 3, 1) := by decide +kernel
theorem dX8_sideOfPoint_9 : decode cX8_sideOfPoint 9 = .ok (.iload_n 1, 1) := by decide +kernel
theorem dX8_sideOfPoint_10 : decode cX8_sideOfPoint 10 = .ok (.aload_n 0, 1) := by decide +kernel
theorem dX8_sideOfPoint_11 : decode cX8_sideOfPoint 11 = .ok (.getfield 7, 3) := by decide +kernel
theorem dX8_sideOfPoint_14 : decode cX8_sideOfPoint 14 = .ok (.iconst 1, 1) := by decide +kernel
theorem dX8_sideOfPoint_15 : decode cX8_sideOfPoint 15 = .ok (.iadd, 1) := by decide +kernel
theorem dX8_sideOfPoint_16 : decode cX8_sideOfPoint 16 = .ok (.idiv, 1) := by decide +kernel
theorem dX8_sideOfPoint_17 : decode cX8_sideOfPoint 17 = .ok (.istore 4, 2) := by decide +kernel
theorem dX8_sideOfPoint_19 : decode cX8_sideOfPoint 19 = .ok (.iload_n 2, 1) := by decide +kernel
theorem dX8_sideOfPoint_20 : decode cX8_sideOfPoint 20 = .ok (.tableswitch 88 0 2 #[28, 47, 68], 28) := by decide +kernel
theorem dX8_sideOfPoint_48 : decode cX8_sideOfPoint 48 = .ok (.iload_n 3, 1) := by decide +kernel
theorem dX8_sideOfPoint_49 : decode cX8_sideOfPoint 49 = .ok (.ifCond .le 15, 3) := by decide +kernel
theorem dX8_sideOfPoint_52 : decode cX8_sideOfPoint 52 = .ok (.aload_n 0, 1) := by decide +kernel
theorem dX8_sideOfPoint_53 : decode cX8_sideOfPoint 53 = .ok (.iload_n 3, 1) := by decide +kernel
theorem dX8_sideOfPoint_54 : decode cX8_sideOfPoint 54 = .ok (.iconst 1, 1) := by decide +kernel
theorem dX8_sideOfPoint_55 : decode cX8_sideOfPoint 55 = .ok (.isub, 1) := by decide +kernel
theorem dX8_sideOfPoint_56 : decode cX8_sideOfPoint 56 = .ok (.iload 4, 2) := by decide +kernel
theorem dX8_sideOfPoint_58 : decode cX8_sideOfPoint 58 = .ok (.invokevirtual 65, 3) := by decide +kernel
theorem dX8_sideOfPoint_61 : decode cX8_sideOfPoint 61 = .ok (.goto 5, 3) := by decide +kernel
theorem dX8_sideOfPoint_64 : decode cX8_sideOfPoint 64 = .ok (.bipush (-9), 2) := by decide +kernel
theorem dX8_sideOfPoint_66 : decode cX8_sideOfPoint 66 = .ok (.ireturn, 1) := by decide +kernel
theorem dX8_sideOfPoint_67 : decode cX8_sideOfPoint 67 = .ok (.iload_n 3, 1) := by decide +kernel
theorem dX8_sideOfPoint_68 : decode cX8_sideOfPoint 68 = .ok (.aload_n 0, 1) := by decide +kernel
theorem dX8_sideOfPoint_69 : decode cX8_sideOfPoint 69 = .ok (.getfield 7, 3) := by decide +kernel
theorem dX8_sideOfPoint_72 : decode cX8_sideOfPoint 72 = .ok (.if_icmp .ge 13, 3) := by decide +kernel
theorem dX8_sideOfPoint_75 : decode cX8_sideOfPoint 75 = .ok (.aload_n 0, 1) := by decide +kernel
theorem dX8_sideOfPoint_76 : decode cX8_sideOfPoint 76 = .ok (.iload_n 3, 1) := by decide +kernel
theorem dX8_sideOfPoint_77 : decode cX8_sideOfPoint 77 = .ok (.iload 4, 2) := by decide +kernel
theorem dX8_sideOfPoint_79 : decode cX8_sideOfPoint 79 = .ok (.invokevirtual 65, 3) := by decide +kernel
theorem dX8_sideOfPoint_82 : decode cX8_sideOfPoint 82 = .ok (.goto 5, 3) := by decide +kernel
theorem dX8_sideOfPoint_85 : decode cX8_sideOfPoint 85 = .ok (.bipush (-9), 2) := by decide +kernel
theorem dX8_sideOfPoint_87 : decode cX8_sideOfPoint 87 = .ok (.ireturn, 1) := by decide +kernel
theorem dX8_sideOfPoint_88 : decode cX8_sideOfPoint 88 = .ok (.iload 4, 2) := by decide +kernel
theorem dX8_sideOfPoint_90 : decode cX8_sideOfPoint 90 = .ok (.ifCond .le 15, 3) := by decide +kernel
theorem dX8_sideOfPoint_93 : decode cX8_sideOfPoint 93 = .ok (.aload_n 0, 1) := by decide +kernel
theorem dX8_sideOfPoint_94 : decode cX8_sideOfPoint 94 = .ok (.iload_n 3, 1) := by decide +kernel
theorem dX8_sideOfPoint_95 : decode cX8_sideOfPoint 95 = .ok (.iload 4, 2) := by decide +kernel
theorem dX8_sideOfPoint_97 : decode cX8_sideOfPoint 97 = .ok (.iconst 1, 1) := by decide +kernel
theorem dX8_sideOfPoint_98 : decode cX8_sideOfPoint 98 = .ok (.isub, 1) := by decide +kernel
theorem dX8_sideOfPoint_99 : decode cX8_sideOfPoint 99 = .ok (.invokevirtual 76, 3) := by decide +kernel
theorem dX8_sideOfPoint_102 : decode cX8_sideOfPoint 102 = .ok (.goto 5, 3) := by decide +kernel
theorem dX8_sideOfPoint_105 : decode cX8_sideOfPoint 105 = .ok (.bipush (-9), 2) := by decide +kernel
theorem dX8_sideOfPoint_107 : decode cX8_sideOfPoint 107 = .ok (.ireturn, 1) := by decide +kernel
theorem dX8_sideOfPoint_108 : decode cX8_sideOfPoint 108 = .ok (.iload 4, 2) := by decide +kernel
theorem dX8_sideOfPoint_110 : decode cX8_sideOfPoint 110 = .ok (.aload_n 0, 1) := by decide +kernel
theorem dX8_sideOfPoint_111 : decode cX8_sideOfPoint 111 = .ok (.getfield 13, 3) := by decide +kernel
theorem dX8_sideOfPoint_114 : decode cX8_sideOfPoint 114 = .ok (.if_icmp .ge 13, 3) := by decide +kernel
theorem dX8_sideOfPoint_117 : decode cX8_sideOfPoint 117 = .ok (.aload_n 0, 1) := by decide +kernel
theorem dX8_sideOfPoint_118 : decode cX8_sideOfPoint 118 = .ok (.iload_n 3, 1) := by decide +kernel
theorem dX8_sideOfPoint_119 : decode cX8_sideOfPoint 119 = .ok (.iload 4, 2) := by decide +kernel
theorem dX8_sideOfPoint_121 : decode cX8_sideOfPoint 121 = .ok (.invokevirtual 76, 3) := by decide +kernel
theorem dX8_sideOfPoint_124 : decode cX8_sideOfPoint 124 = .ok (.goto 5, 3) := by decide +kernel
theorem dX8_sideOfPoint_127 : decode cX8_sideOfPoint 127 = .ok (.bipush (-9), 2) := by decide +kernel
theorem dX8_sideOfPoint_129 : decode cX8_sideOfPoint 129 = .ok (.ireturn, 1) := by decide +kernel
theorem dX8_sideOf_0 : decode cX8_sideOf 0 = .ok (.iload_n 1, 1) := by decide +kernel
theorem dX8_sideOf_1 : decode cX8_sideOf 1 = .ok (.i2l, 1) := by decide +kernel
theorem dX8_sideOf_2 : decode cX8_sideOf 2 = .ok (.lconst 0, 1) := by decide +kernel
theorem dX8_sideOf_3 : decode cX8_sideOf 3 = .ok (.lconst 1, 1) := by decide +kernel
theorem dX8_sideOf_4 : decode cX8_sideOf 4 = .ok (.invokestatic 61, 3) := by decide +kernel
theorem dX8_sideOf_7 : decode cX8_sideOf 7 = .ok (.ifCond .eq 42, 3) := by decide +kernel
theorem dX8_sideOf_10 : decode cX8_sideOf 10 = .ok (.iload_n 2, 1) := by decide +kernel
theorem dX8_sideOf_11 : decode cX8_sideOf 11 = .ok (.i2l, 1) := by decide +kernel
theorem dX8_sideOf_12 : decode cX8_sideOf 12 = .ok (.lconst 0, 1) := by decide +kernel
theorem dX8_sideOf_13 : decode cX8_sideOf 13 = .ok (.iload_n 1, 1) := by decide +kernel
theorem dX8_sideOf_14 : decode cX8_sideOf 14 = .ok (.ifCond .ne 10, 3) := by decide +kernel
theorem dX8_sideOf_17 : decode cX8_sideOf 17 = .ok (.aload_n 0, 1) := by decide +kernel
theorem dX8_sideOf_18 : decode cX8_sideOf 18 = .ok (.getfield 16, 3) := by decide +kernel
theorem dX8_sideOf_21 : decode cX8_sideOf 21 = .ok (.goto 7, 3) := by decide +kernel
theorem dX8_sideOf_24 : decode cX8_sideOf 24 = .ok (.aload_n 0, 1) := by decide +kernel
theorem dX8_sideOf_25 : decode cX8_sideOf 25 = .ok (.invokevirtual 145, 3) := by decide +kernel
theorem dX8_sideOf_28 : decode cX8_sideOf 28 = .ok (.iconst 1, 1) := by decide +kernel
theorem dX8_sideOf_29 : decode cX8_sideOf 29 = .ok (.isub, 1) := by decide +kernel
theorem dX8_sideOf_30 : decode cX8_sideOf 30 = .ok (.i2l, 1) := by decide +kernel
theorem dX8_sideOf_31 : decode cX8_sideOf 31 = .ok (.invokestatic 61, 3) := by decide +kernel
theorem dX8_sideOf_34 : decode cX8_sideOf 34 = .ok (.ifCond .eq 15, 3) := by decide +kernel
theorem dX8_sideOf_37 : decode cX8_sideOf 37 = .ok (.iload_n 3, 1) := by decide +kernel
theorem dX8_sideOf_38 : decode cX8_sideOf 38 = .ok (.i2l, 1) := by decide +kernel
theorem dX8_sideOf_39 : decode cX8_sideOf 39 = .ok (.lconst 0, 1) := by decide +kernel
theorem dX8_sideOf_40 : decode cX8_sideOf 40 = .ok (.ldc2_w 149, 3) := by decide +kernel
theorem dX8_sideOf_43 : decode cX8_sideOf 43 = .ok (.invokestatic 61, 3) := by decide +kernel
theorem dX8_sideOf_46 : decode cX8_sideOf 46 = .ok (.ifCond .ne 5, 3) := by decide +kernel
theorem dX8_sideOf_49 : decode cX8_sideOf 49 = .ok (.iconst (-1), 1) := by decide +kernel
theorem dX8_sideOf_50 : decode cX8_sideOf 50 = .ok (.ireturn, 1) := by decide +kernel
theorem dX8_sideOf_51 : decode cX8_sideOf 51 = .ok (.iload_n 1, 1) := by decide +kernel
theorem dX8_sideOf_52 : decode cX8_sideOf 52 = .ok (.ifCond .ne 12, 3) := by decide +kernel
theorem dX8_sideOf_55 : decode cX8_sideOf 55 = .ok (.aload_n 0, 1) := by decide +kernel
theorem dX8_sideOf_56 : decode cX8_sideOf 56 = .ok (.iload_n 2, 1) := by decide +kernel
theorem dX8_sideOf_57 : decode cX8_sideOf 57 = .ok (.iload_n 3, 1) := by decide +kernel
theorem dX8_sideOf_58 : decode cX8_sideOf 58 = .ok (.invokevirtual 151, 3) := by decide +kernel
theorem dX8_sideOf_61 : decode cX8_sideOf 61 = .ok (.goto 9, 3) := by decide +kernel
theorem dX8_sideOf_64 : decode cX8_sideOf 64 = .ok (.aload_n 0, 1) := by decide +kernel
theorem dX8_sideOf_65 : decode cX8_sideOf 65 = .ok (.iload_n 2, 1) := by decide +kernel
theorem dX8_sideOf_66 : decode cX8_sideOf 66 = .ok (.iload_n 3, 1) := by decide +kernel
theorem dX8_sideOf_67 : decode cX8_sideOf 67 = .ok (.invokevirtual 154, 3) := by decide +kernel
theorem dX8_sideOf_70 : decode cX8_sideOf 70 = .ok (.ireturn, 1) := by decide +kernel
theorem dX8_minds_0 : decode cX8_minds 0 = .ok (.aload_n 0, 1) := by decide +kernel
theorem dX8_minds_1 : decode cX8_minds 1 = .ok (.getfield 127, 3) := by decide +kernel
theorem dX8_minds_4 : decode cX8_minds 4 = .ok (.bipush 10, 2) := by decide +kernel
theorem dX8_minds_6 : decode cX8_minds 6 = .ok (.if_icmp .ne 41, 3) := by decide +kernel
theorem dX8_minds_9 : decode cX8_minds 9 = .ok (.iconst 0, 1) := by decide +kernel
theorem dX8_minds_10 : decode cX8_minds 10 = .ok (.istore_n 1, 1) := by decide +kernel
theorem dX8_minds_11 : decode cX8_minds 11 = .ok (.iload_n 1, 1) := by decide +kernel
theorem dX8_minds_12 : decode cX8_minds 12 = .ok (.bipush 27, 2) := by decide +kernel
theorem dX8_minds_14 : decode cX8_minds 14 = .ok (.if_icmp .ge 23, 3) := by decide +kernel
theorem dX8_minds_17 : decode cX8_minds 17 = .ok (.aload_n 0, 1) := by decide +kernel
theorem dX8_minds_18 : decode cX8_minds 18 = .ok (.getfield 36, 3) := by decide +kernel
theorem dX8_minds_21 : decode cX8_minds 21 = .ok (.iload_n 1, 1) := by decide +kernel
theorem dX8_minds_22 : decode cX8_minds 22 = .ok (.aload_n 0, 1) := by decide +kernel
theorem dX8_minds_23 : decode cX8_minds 23 = .ok (.getfield 36, 3) := by decide +kernel
theorem dX8_minds_26 : decode cX8_minds 26 = .ok (.iload_n 1, 1) := by decide +kernel
theorem dX8_minds_27 : decode cX8_minds 27 = .ok (.iconst 3, 1) := by decide +kernel
theorem dX8_minds_28 : decode cX8_minds 28 = .ok (.iadd, 1) := by decide +kernel
theorem dX8_minds_29 : decode cX8_minds 29 = .ok (.laload, 1) := by decide +kernel
theorem dX8_minds_30 : decode cX8_minds 30 = .ok (.lastore, 1) := by decide +kernel
theorem dX8_minds_31 : decode cX8_minds 31 = .ok (.iinc 1 1, 3) := by decide +kernel
theorem dX8_minds_34 : decode cX8_minds 34 = .ok (.goto (-23), 3) := by decide +kernel
theorem dX8_minds_37 : decode cX8_minds 37 = .ok (.aload_n 0, 1) := by decide +kernel
theorem dX8_minds_38 : decode cX8_minds 38 = .ok (.dup, 1) := by decide +kernel
theorem dX8_minds_39 : decode cX8_minds 39 = .ok (.getfield 127, 3) := by decide +kernel
theorem dX8_minds_42 : decode cX8_minds 42 = .ok (.iconst 1, 1) := by decide +kernel
theorem dX8_minds_43 : decode cX8_minds 43 = .ok (.isub, 1) := by decide +kernel
theorem dX8_minds_44 : decode cX8_minds 44 = .ok (.putfield 127, 3) := by decide +kernel
theorem dX8_minds_47 : decode cX8_minds 47 = .ok (.aload_n 0, 1) := by decide +kernel
theorem dX8_minds_48 : decode cX8_minds 48 = .ok (.getfield 36, 3) := by decide +kernel
theorem dX8_minds_51 : decode cX8_minds 51 = .ok (.iconst 3, 1) := by decide +kernel
theorem dX8_minds_52 : decode cX8_minds 52 = .ok (.aload_n 0, 1) := by decide +kernel
theorem dX8_minds_53 : decode cX8_minds 53 = .ok (.getfield 127, 3) := by decide +kernel
theorem dX8_minds_56 : decode cX8_minds 56 = .ok (.imul, 1) := by decide +kernel
theorem dX8_minds_57 : decode cX8_minds 57 = .ok (.aload_n 0, 1) := by decide +kernel
theorem dX8_minds_58 : decode cX8_minds 58 = .ok (.getfield 52, 3) := by decide +kernel
theorem dX8_minds_61 : decode cX8_minds 61 = .ok (.lastore, 1) := by decide +kernel
theorem dX8_minds_62 : decode cX8_minds 62 = .ok (.aload_n 0, 1) := by decide +kernel
theorem dX8_minds_63 : decode cX8_minds 63 = .ok (.getfield 36, 3) := by decide +kernel
theorem dX8_minds_66 : decode cX8_minds 66 = .ok (.iconst 3, 1) := by decide +kernel
theorem dX8_minds_67 : decode cX8_minds 67 = .ok (.aload_n 0, 1) := by decide +kernel
theorem dX8_minds_68 : decode cX8_minds 68 = .ok (.getfield 127, 3) := by decide +kernel
theorem dX8_minds_71 : decode cX8_minds 71 = .ok (.imul, 1) := by decide +kernel
theorem dX8_minds_72 : decode cX8_minds 72 = .ok (.iconst 1, 1) := by decide +kernel
theorem dX8_minds_73 : decode cX8_minds 73 = .ok (.iadd, 1) := by decide +kernel
theorem dX8_minds_74 : decode cX8_minds 74 = .ok (.aload_n 0, 1) := by decide +kernel
theorem dX8_minds_75 : decode cX8_minds 75 = .ok (.getfield 83, 3) := by decide +kernel
theorem dX8_minds_78 : decode cX8_minds 78 = .ok (.lastore, 1) := by decide +kernel
theorem dX8_minds_79 : decode cX8_minds 79 = .ok (.aload_n 0, 1) := by decide +kernel
theorem dX8_minds_80 : decode cX8_minds 80 = .ok (.getfield 36, 3) := by decide +kernel
theorem dX8_minds_83 : decode cX8_minds 83 = .ok (.iconst 3, 1) := by decide +kernel
theorem dX8_minds_84 : decode cX8_minds 84 = .ok (.aload_n 0, 1) := by decide +kernel
theorem dX8_minds_85 : decode cX8_minds 85 = .ok (.getfield 127, 3) := by decide +kernel
theorem dX8_minds_88 : decode cX8_minds 88 = .ok (.imul, 1) := by decide +kernel
theorem dX8_minds_89 : decode cX8_minds 89 = .ok (.iconst 2, 1) := by decide +kernel
theorem dX8_minds_90 : decode cX8_minds 90 = .ok (.iadd, 1) := by decide +kernel
theorem dX8_minds_91 : decode cX8_minds 91 = .ok (.aload_n 0, 1) := by decide +kernel
theorem dX8_minds_92 : decode cX8_minds 92 = .ok (.getfield 88, 3) := by decide +kernel
theorem dX8_minds_95 : decode cX8_minds 95 = .ok (.lastore, 1) := by decide +kernel
theorem dX8_minds_96 : decode cX8_minds 96 = .ok (.aload_n 0, 1) := by decide +kernel
theorem dX8_minds_97 : decode cX8_minds 97 = .ok (.dup, 1) := by decide +kernel
theorem dX8_minds_98 : decode cX8_minds 98 = .ok (.getfield 127, 3) := by decide +kernel
theorem dX8_minds_101 : decode cX8_minds 101 = .ok (.iconst 1, 1) := by decide +kernel
theorem dX8_minds_102 : decode cX8_minds 102 = .ok (.iadd, 1) := by decide +kernel
theorem dX8_minds_103 : decode cX8_minds 103 = .ok (.putfield 127, 3) := by decide +kernel
theorem dX8_minds_106 : decode cX8_minds 106 = .ok (.return_, 1) := by decide +kernel
theorem dX8_sets_0 : decode cX8_sets 0 = .ok (.aload_n 0, 1) := by decide +kernel
theorem dX8_sets_1 : decode cX8_sets 1 = .ok (.iload_n 3, 1) := by decide +kernel
theorem dX8_sets_2 : decode cX8_sets 2 = .ok (.iconst 1, 1) := by decide +kernel
theorem dX8_sets_3 : decode cX8_sets 3 = .ok (.if_icmp .ne 12, 3) := by decide +kernel
theorem dX8_sets_6 : decode cX8_sets 6 = .ok (.aload_n 0, 1) := by decide +kernel
theorem dX8_sets_7 : decode cX8_sets 7 = .ok (.getfield 83, 3) := by decide +kernel
theorem dX8_sets_10 : decode cX8_sets 10 = .ok (.lload_n 1, 1) := by decide +kernel
theorem dX8_sets_11 : decode cX8_sets 11 = .ok (.lor, 1) := by decide +kernel
theorem dX8_sets_12 : decode cX8_sets 12 = .ok (.goto 13, 3) := by decide +kernel
theorem dX8_sets_15 : decode cX8_sets 15 = .ok (.aload_n 0, 1) := by decide +kernel
theorem dX8_sets_16 : decode cX8_sets 16 = .ok (.getfield 83, 3) := by decide +kernel
theorem dX8_sets_19 : decode cX8_sets 19 = .ok (.lload_n 1, 1) := by decide +kernel
theorem dX8_sets_20 : decode cX8_sets 20 = .ok (.ldc2_w 86, 3) := by decide +kernel
theorem dX8_sets_23 : decode cX8_sets 23 = .ok (.lxor, 1) := by decide +kernel
theorem dX8_sets_24 : decode cX8_sets 24 = .ok (.land, 1) := by decide +kernel
theorem dX8_sets_25 : decode cX8_sets 25 = .ok (.putfield 83, 3) := by decide +kernel
theorem dX8_sets_28 : decode cX8_sets 28 = .ok (.aload_n 0, 1) := by decide +kernel
theorem dX8_sets_29 : decode cX8_sets 29 = .ok (.iload_n 3, 1) := by decide +kernel
theorem dX8_sets_30 : decode cX8_sets 30 = .ok (.iconst 2, 1) := by decide +kernel
theorem dX8_sets_31 : decode cX8_sets 31 = .ok (.if_icmp .ne 12, 3) := by decide +kernel
theorem dX8_sets_34 : decode cX8_sets 34 = .ok (.aload_n 0, 1) := by decide +kernel
theorem dX8_sets_35 : decode cX8_sets 35 = .ok (.getfield 88, 3) := by decide +kernel
theorem dX8_sets_38 : decode cX8_sets 38 = .ok (.lload_n 1, 1) := by decide +kernel
theorem dX8_sets_39 : decode cX8_sets 39 = .ok (.lor, 1) := by decide +kernel
theorem dX8_sets_40 : decode cX8_sets 40 = .ok (.goto 13, 3) := by decide +kernel
theorem dX8_sets_43 : decode cX8_sets 43 = .ok (.aload_n 0, 1) := by decide +kernel
theorem dX8_sets_44 : decode cX8_sets 44 = .ok (.getfield 88, 3) := by decide +kernel
theorem dX8_sets_47 : decode cX8_sets 47 = .ok (.lload_n 1, 1) := by decide +kernel
theorem dX8_sets_48 : decode cX8_sets 48 = .ok (.ldc2_w 86, 3) := by decide +kernel
theorem dX8_sets_51 : decode cX8_sets 51 = .ok (.lxor, 1) := by decide +kernel
theorem dX8_sets_52 : decode cX8_sets 52 = .ok (.land, 1) := by decide +kernel
theorem dX8_sets_53 : decode cX8_sets 53 = .ok (.putfield 88, 3) := by decide +kernel
theorem dX8_sets_56 : decode cX8_sets 56 = .ok (.return_, 1) := by decide +kernel
theorem dX8_becomes_0 : decode cX8_becomes 0 = .ok (.aload_n 0, 1) := by decide +kernel
theorem dX8_becomes_1 : decode cX8_becomes 1 = .ok (.aload_n 0, 1) := by decide +kernel
theorem dX8_becomes_2 : decode cX8_becomes 2 = .ok (.getfield 52, 3) := by decide +kernel
theorem dX8_becomes_5 : decode cX8_becomes 5 = .ok (.ldc2_w 91, 3) := by decide +kernel
theorem dX8_becomes_8 : decode cX8_becomes 8 = .ok (.iconst 3, 1) := by decide +kernel
theorem dX8_becomes_9 : decode cX8_becomes 9 = .ok (.iload_n 1, 1) := by decide +kernel
theorem dX8_becomes_10 : decode cX8_becomes 10 = .ok (.imul, 1) := by decide +kernel
theorem dX8_becomes_11 : decode cX8_becomes 11 = .ok (.lshl, 1) := by decide +kernel
theorem dX8_becomes_12 : decode cX8_becomes 12 = .ok (.ldc2_w 86, 3) := by decide +kernel
theorem dX8_becomes_15 : decode cX8_becomes 15 = .ok (.lxor, 1) := by decide +kernel
theorem dX8_becomes_16 : decode cX8_becomes 16 = .ok (.land, 1) := by decide +kernel
theorem dX8_becomes_17 : decode cX8_becomes 17 = .ok (.lload_n 2, 1) := by decide +kernel
theorem dX8_becomes_18 : decode cX8_becomes 18 = .ok (.iconst 3, 1) := by decide +kernel
theorem dX8_becomes_19 : decode cX8_becomes 19 = .ok (.iload_n 1, 1) := by decide +kernel
theorem dX8_becomes_20 : decode cX8_becomes 20 = .ok (.imul, 1) := by decide +kernel
theorem dX8_becomes_21 : decode cX8_becomes 21 = .ok (.lshl, 1) := by decide +kernel
theorem dX8_becomes_22 : decode cX8_becomes 22 = .ok (.lor, 1) := by decide +kernel
theorem dX8_becomes_23 : decode cX8_becomes 23 = .ok (.putfield 52, 3) := by decide +kernel
theorem dX8_becomes_26 : decode cX8_becomes 26 = .ok (.return_, 1) := by decide +kernel
theorem dX8_marks_0 : decode cX8_marks 0 = .ok (.aload_n 0, 1) := by decide +kernel
theorem dX8_marks_1 : decode cX8_marks 1 = .ok (.iload_n 1, 1) := by decide +kernel
theorem dX8_marks_2 : decode cX8_marks 2 = .ok (.invokevirtual 138, 3) := by decide +kernel
theorem dX8_marks_5 : decode cX8_marks 5 = .ok (.ifCond .eq 15, 3) := by decide +kernel
theorem dX8_marks_8 : decode cX8_marks 8 = .ok (.iload_n 2, 1) := by decide +kernel
theorem dX8_marks_9 : decode cX8_marks 9 = .ok (.i2l, 1) := by decide +kernel
theorem dX8_marks_10 : decode cX8_marks 10 = .ok (.lconst 0, 1) := by decide +kernel
theorem dX8_marks_11 : decode cX8_marks 11 = .ok (.ldc2_w 157, 3) := by decide +kernel
theorem dX8_marks_14 : decode cX8_marks 14 = .ok (.invokestatic 61, 3) := by decide +kernel
theorem dX8_marks_17 : decode cX8_marks 17 = .ok (.ifCond .ne 5, 3) := by decide +kernel
theorem dX8_marks_20 : decode cX8_marks 20 = .ok (.iconst (-1), 1) := by decide +kernel
theorem dX8_marks_21 : decode cX8_marks 21 = .ok (.ireturn, 1) := by decide +kernel
theorem dX8_marks_22 : decode cX8_marks 22 = .ok (.aload_n 0, 1) := by decide +kernel
theorem dX8_marks_23 : decode cX8_marks 23 = .ok (.iload_n 1, 1) := by decide +kernel
theorem dX8_marks_24 : decode cX8_marks 24 = .ok (.invokevirtual 159, 3) := by decide +kernel
theorem dX8_marks_27 : decode cX8_marks 27 = .ok (.istore_n 3, 1) := by decide +kernel
theorem dX8_marks_28 : decode cX8_marks 28 = .ok (.iload_n 3, 1) := by decide +kernel
theorem dX8_marks_29 : decode cX8_marks 29 = .ok (.iload_n 2, 1) := by decide +kernel
theorem dX8_marks_30 : decode cX8_marks 30 = .ok (.if_icmp .ne 6, 3) := by decide +kernel
theorem dX8_marks_33 : decode cX8_marks 33 = .ok (.bipush (-2), 2) := by decide +kernel
theorem dX8_marks_35 : decode cX8_marks 35 = .ok (.ireturn, 1) := by decide +kernel
theorem dX8_marks_36 : decode cX8_marks 36 = .ok (.aload_n 0, 1) := by decide +kernel
theorem dX8_marks_37 : decode cX8_marks 37 = .ok (.invokevirtual 162, 3) := by decide +kernel
theorem dX8_marks_40 : decode cX8_marks 40 = .ok (.aload_n 0, 1) := by decide +kernel
theorem dX8_marks_41 : decode cX8_marks 41 = .ok (.lconst 1, 1) := by decide +kernel
theorem dX8_marks_42 : decode cX8_marks 42 = .ok (.iload_n 1, 1) := by decide +kernel
theorem dX8_marks_43 : decode cX8_marks 43 = .ok (.lshl, 1) := by decide +kernel
theorem dX8_marks_44 : decode cX8_marks 44 = .ok (.iload_n 2, 1) := by decide +kernel
theorem dX8_marks_45 : decode cX8_marks 45 = .ok (.invokevirtual 165, 3) := by decide +kernel
theorem dX8_marks_48 : decode cX8_marks 48 = .ok (.iload_n 3, 1) := by decide +kernel
theorem dX8_marks_49 : decode cX8_marks 49 = .ok (.ireturn, 1) := by decide +kernel
theorem dX8_numbers_0 : decode cX8_numbers 0 = .ok (.aload_n 0, 1) := by decide +kernel
theorem dX8_numbers_1 : decode cX8_numbers 1 = .ok (.iload_n 1, 1) := by decide +kernel
theorem dX8_numbers_2 : decode cX8_numbers 2 = .ok (.invokevirtual 130, 3) := by decide +kernel
theorem dX8_numbers_5 : decode cX8_numbers 5 = .ok (.ifCond .eq 17, 3) := by decide +kernel
theorem dX8_numbers_8 : decode cX8_numbers 8 = .ok (.iload_n 2, 1) := by decide +kernel
theorem dX8_numbers_9 : decode cX8_numbers 9 = .ok (.i2l, 1) := by decide +kernel
theorem dX8_numbers_10 : decode cX8_numbers 10 = .ok (.ldc2_w 86, 3) := by decide +kernel
theorem dX8_numbers_13 : decode cX8_numbers 13 = .ok (.ldc2_w 169, 3) := by decide +kernel
theorem dX8_numbers_16 : decode cX8_numbers 16 = .ok (.invokestatic 61, 3) := by decide +kernel
theorem dX8_numbers_19 : decode cX8_numbers 19 = .ok (.ifCond .ne 5, 3) := by decide +kernel
theorem dX8_numbers_22 : decode cX8_numbers 22 = .ok (.iconst (-1), 1) := by decide +kernel
theorem dX8_numbers_23 : decode cX8_numbers 23 = .ok (.ireturn, 1) := by decide +kernel
theorem dX8_numbers_24 : decode cX8_numbers 24 = .ok (.iload_n 2, 1) := by decide +kernel
theorem dX8_numbers_25 : decode cX8_numbers 25 = .ok (.ifCond .ge 7, 3) := by decide +kernel
theorem dX8_numbers_28 : decode cX8_numbers 28 = .ok (.iconst 5, 1) := by decide +kernel
theorem dX8_numbers_29 : decode cX8_numbers 29 = .ok (.goto 4, 3) := by decide +kernel
theorem dX8_numbers_32 : decode cX8_numbers 32 = .ok (.iload_n 2, 1) := by decide +kernel
theorem dX8_numbers_33 : decode cX8_numbers 33 = .ok (.istore_n 3, 1) := by decide +kernel
theorem dX8_numbers_34 : decode cX8_numbers 34 = .ok (.aload_n 0, 1) := by decide +kernel
theorem dX8_numbers_35 : decode cX8_numbers 35 = .ok (.iload_n 1, 1) := by decide +kernel
theorem dX8_numbers_36 : decode cX8_numbers 36 = .ok (.invokevirtual 134, 3) := by decide +kernel
theorem dX8_numbers_39 : decode cX8_numbers 39 = .ok (.iload_n 3, 1) := by decide +kernel
theorem dX8_numbers_40 : decode cX8_numbers 40 = .ok (.if_icmp .ne 6, 3) := by decide +kernel
theorem dX8_numbers_43 : decode cX8_numbers 43 = .ok (.bipush (-2), 2) := by decide +kernel
theorem dX8_numbers_45 : decode cX8_numbers 45 = .ok (.ireturn, 1) := by decide +kernel
theorem dX8_numbers_46 : decode cX8_numbers 46 = .ok (.aload_n 0, 1) := by decide +kernel
theorem dX8_numbers_47 : decode cX8_numbers 47 = .ok (.invokevirtual 162, 3) := by decide +kernel
theorem dX8_numbers_50 : decode cX8_numbers 50 = .ok (.aload_n 0, 1) := by decide +kernel
theorem dX8_numbers_51 : decode cX8_numbers 51 = .ok (.iload_n 1, 1) := by decide +kernel
theorem dX8_numbers_52 : decode cX8_numbers 52 = .ok (.iload_n 3, 1) := by decide +kernel
theorem dX8_numbers_53 : decode cX8_numbers 53 = .ok (.i2l, 1) := by decide +kernel
theorem dX8_numbers_54 : decode cX8_numbers 54 = .ok (.invokevirtual 171, 3) := by decide +kernel
theorem dX8_numbers_57 : decode cX8_numbers 57 = .ok (.iconst 1, 1) := by decide +kernel
theorem dX8_numbers_58 : decode cX8_numbers 58 = .ok (.ireturn, 1) := by decide +kernel
theorem dX8_finds_0 : decode cX8_finds 0 = .ok (.aload_n 0, 1) := by decide +kernel
theorem dX8_finds_1 : decode cX8_finds 1 = .ok (.iload_n 3, 1) := by decide +kernel
theorem dX8_finds_2 : decode cX8_finds 2 = .ok (.putfield 175, 3) := by decide +kernel
theorem dX8_finds_5 : decode cX8_finds 5 = .ok (.aload_n 0, 1) := by decide +kernel
theorem dX8_finds_6 : decode cX8_finds 6 = .ok (.iload_n 1, 1) := by decide +kernel
theorem dX8_finds_7 : decode cX8_finds 7 = .ok (.putfield 178, 3) := by decide +kernel
theorem dX8_finds_10 : decode cX8_finds 10 = .ok (.aload_n 0, 1) := by decide +kernel
theorem dX8_finds_11 : decode cX8_finds 11 = .ok (.iload_n 2, 1) := by decide +kernel
theorem dX8_finds_12 : decode cX8_finds 12 = .ok (.putfield 181, 3) := by decide +kernel
theorem dX8_finds_15 : decode cX8_finds 15 = .ok (.aload_n 0, 1) := by decide +kernel
theorem dX8_finds_16 : decode cX8_finds 16 = .ok (.iload_n 3, 1) := by decide +kernel
theorem dX8_finds_17 : decode cX8_finds 17 = .ok (.iconst 3, 1) := by decide +kernel
theorem dX8_finds_18 : decode cX8_finds 18 = .ok (.if_icmp .ne 7, 3) := by decide +kernel
theorem dX8_finds_21 : decode cX8_finds 21 = .ok (.lconst 0, 1) := by decide +kernel
theorem dX8_finds_22 : decode cX8_finds 22 = .ok (.goto 5, 3) := by decide +kernel
theorem dX8_finds_25 : decode cX8_finds 25 = .ok (.lload 4, 2) := by decide +kernel
theorem dX8_finds_27 : decode cX8_finds 27 = .ok (.putfield 184, 3) := by decide +kernel
theorem dX8_finds_30 : decode cX8_finds 30 = .ok (.iload_n 3, 1) := by decide +kernel
theorem dX8_finds_31 : decode cX8_finds 31 = .ok (.ifCond .eq 7, 3) := by decide +kernel
theorem dX8_finds_34 : decode cX8_finds 34 = .ok (.iconst 1, 1) := by decide +kernel
theorem dX8_finds_35 : decode cX8_finds 35 = .ok (.goto 4, 3) := by decide +kernel
theorem dX8_finds_38 : decode cX8_finds 38 = .ok (.iconst 0, 1) := by decide +kernel
theorem dX8_finds_39 : decode cX8_finds 39 = .ok (.ireturn, 1) := by decide +kernel
theorem dX8_atCells_0 : decode cX8_atCells 0 = .ok (.aload_n 0, 1) := by decide +kernel
theorem dX8_atCells_1 : decode cX8_atCells 1 = .ok (.iload_n 1, 1) := by decide +kernel
theorem dX8_atCells_2 : decode cX8_atCells 2 = .ok (.invokevirtual 134, 3) := by decide +kernel
theorem dX8_atCells_5 : decode cX8_atCells 5 = .ok (.istore_n 2, 1) := by decide +kernel
theorem dX8_atCells_6 : decode cX8_atCells 6 = .ok (.aload_n 0, 1) := by decide +kernel
theorem dX8_atCells_7 : decode cX8_atCells 7 = .ok (.getfield 22, 3) := by decide +kernel
theorem dX8_atCells_10 : decode cX8_atCells 10 = .ok (.iload_n 1, 1) := by decide +kernel
theorem dX8_atCells_11 : decode cX8_atCells 11 = .ok (.laload, 1) := by decide +kernel
theorem dX8_atCells_12 : decode cX8_atCells 12 = .ok (.aload_n 0, 1) := by decide +kernel
theorem dX8_atCells_13 : decode cX8_atCells 13 = .ok (.getfield 83, 3) := by decide +kernel
theorem dX8_atCells_16 : decode cX8_atCells 16 = .ok (.land, 1) := by decide +kernel
theorem dX8_atCells_17 : decode cX8_atCells 17 = .ok (.invokestatic 187, 3) := by decide +kernel
theorem dX8_atCells_20 : decode cX8_atCells 20 = .ok (.istore_n 3, 1) := by decide +kernel
theorem dX8_atCells_21 : decode cX8_atCells 21 = .ok (.aload_n 0, 1) := by decide +kernel
theorem dX8_atCells_22 : decode cX8_atCells 22 = .ok (.getfield 22, 3) := by decide +kernel
theorem dX8_atCells_25 : decode cX8_atCells 25 = .ok (.iload_n 1, 1) := by decide +kernel
theorem dX8_atCells_26 : decode cX8_atCells 26 = .ok (.laload, 1) := by decide +kernel
theorem dX8_atCells_27 : decode cX8_atCells 27 = .ok (.aload_n 0, 1) := by decide +kernel
theorem dX8_atCells_28 : decode cX8_atCells 28 = .ok (.invokevirtual 191, 3) := by decide +kernel
theorem dX8_atCells_31 : decode cX8_atCells 31 = .ok (.land, 1) := by decide +kernel
theorem dX8_atCells_32 : decode cX8_atCells 32 = .ok (.lstore 4, 2) := by decide +kernel
theorem dX8_atCells_34 : decode cX8_atCells 34 = .ok (.lload 4, 2) := by decide +kernel
theorem dX8_atCells_36 : decode cX8_atCells 36 = .ok (.invokestatic 187, 3) := by decide +kernel
theorem dX8_atCells_39 : decode cX8_atCells 39 = .ok (.istore 6, 2) := by decide +kernel
theorem dX8_atCells_41 : decode cX8_atCells 41 = .ok (.iload_n 2, 1) := by decide +kernel
theorem dX8_atCells_42 : decode cX8_atCells 42 = .ok (.iconst 5, 1) := by decide +kernel
theorem dX8_atCells_43 : decode cX8_atCells 43 = .ok (.if_icmp .ne 5, 3) := by decide +kernel
theorem dX8_atCells_46 : decode cX8_atCells 46 = .ok (.iconst 0, 1) := by decide +kernel
theorem dX8_atCells_47 : decode cX8_atCells 47 = .ok (.ireturn, 1) := by decide +kernel
theorem dX8_atCells_48 : decode cX8_atCells 48 = .ok (.aload_n 0, 1) := by decide +kernel
theorem dX8_atCells_49 : decode cX8_atCells 49 = .ok (.iconst 0, 1) := by decide +kernel
theorem dX8_atCells_50 : decode cX8_atCells 50 = .ok (.iload_n 1, 1) := by decide +kernel
theorem dX8_atCells_51 : decode cX8_atCells 51 = .ok (.iload_n 3, 1) := by decide +kernel
theorem dX8_atCells_52 : decode cX8_atCells 52 = .ok (.iload_n 2, 1) := by decide +kernel
theorem dX8_atCells_53 : decode cX8_atCells 53 = .ok (.if_icmp .gt 11, 3) := by decide +kernel
theorem dX8_atCells_56 : decode cX8_atCells 56 = .ok (.iload_n 3, 1) := by decide +kernel
theorem dX8_atCells_57 : decode cX8_atCells 57 = .ok (.iload 6, 2) := by decide +kernel
theorem dX8_atCells_59 : decode cX8_atCells 59 = .ok (.iadd, 1) := by decide +kernel
theorem dX8_atCells_60 : decode cX8_atCells 60 = .ok (.iload_n 2, 1) := by decide +kernel
theorem dX8_atCells_61 : decode cX8_atCells 61 = .ok (.if_icmp .ge 7, 3) := by decide +kernel
theorem dX8_atCells_64 : decode cX8_atCells 64 = .ok (.iconst 3, 1) := by decide +kernel
theorem dX8_atCells_65 : decode cX8_atCells 65 = .ok (.goto 34, 3) := by decide +kernel
theorem dX8_atCells_68 : decode cX8_atCells 68 = .ok (.iload 6, 2) := by decide +kernel
theorem dX8_atCells_70 : decode cX8_atCells 70 = .ok (.ifCond .ne 7, 3) := by decide +kernel
theorem dX8_atCells_73 : decode cX8_atCells 73 = .ok (.iconst 0, 1) := by decide +kernel
theorem dX8_atCells_74 : decode cX8_atCells 74 = .ok (.goto 25, 3) := by decide +kernel
theorem dX8_atCells_77 : decode cX8_atCells 77 = .ok (.iload_n 3, 1) := by decide +kernel
theorem dX8_atCells_78 : decode cX8_atCells 78 = .ok (.iload_n 2, 1) := by decide +kernel
theorem dX8_atCells_79 : decode cX8_atCells 79 = .ok (.if_icmp .ne 7, 3) := by decide +kernel
theorem dX8_atCells_82 : decode cX8_atCells 82 = .ok (.iconst 1, 1) := by decide +kernel
theorem dX8_atCells_83 : decode cX8_atCells 83 = .ok (.goto 16, 3) := by decide +kernel
theorem dX8_atCells_86 : decode cX8_atCells 86 = .ok (.iload_n 3, 1) := by decide +kernel
theorem dX8_atCells_87 : decode cX8_atCells 87 = .ok (.iload 6, 2) := by decide +kernel
theorem dX8_atCells_89 : decode cX8_atCells 89 = .ok (.iadd, 1) := by decide +kernel
theorem dX8_atCells_90 : decode cX8_atCells 90 = .ok (.iload_n 2, 1) := by decide +kernel
theorem dX8_atCells_91 : decode cX8_atCells 91 = .ok (.if_icmp .ne 7, 3) := by decide +kernel
theorem dX8_atCells_94 : decode cX8_atCells 94 = .ok (.iconst 2, 1) := by decide +kernel
theorem dX8_atCells_95 : decode cX8_atCells 95 = .ok (.goto 4, 3) := by decide +kernel
theorem dX8_atCells_98 : decode cX8_atCells 98 = .ok (.iconst 0, 1) := by decide +kernel
theorem dX8_atCells_99 : decode cX8_atCells 99 = .ok (.lload 4, 2) := by decide +kernel
theorem dX8_atCells_101 : decode cX8_atCells 101 = .ok (.invokevirtual 194, 3) := by decide +kernel
theorem dX8_atCells_104 : decode cX8_atCells 104 = .ok (.ireturn, 1) := by decide +kernel
theorem dX8_atPoints_0 : decode cX8_atPoints 0 = .ok (.aload_n 0, 1) := by decide +kernel
theorem dX8_atPoints_1 : decode cX8_atPoints 1 = .ok (.getfield 26, 3) := by decide +kernel
theorem dX8_atPoints_4 : decode cX8_atPoints 4 = .ok (.iload_n 1, 1) := by decide +kernel
theorem dX8_atPoints_5 : decode cX8_atPoints 5 = .ok (.laload, 1) := by decide +kernel
theorem dX8_atPoints_6 : decode cX8_atPoints 6 = .ok (.aload_n 0, 1) := by decide +kernel
theorem dX8_atPoints_7 : decode cX8_atPoints 7 = .ok (.getfield 83, 3) := by decide +kernel
theorem dX8_atPoints_10 : decode cX8_atPoints 10 = .ok (.land, 1) := by decide +kernel
theorem dX8_atPoints_11 : decode cX8_atPoints 11 = .ok (.invokestatic 187, 3) := by decide +kernel
theorem dX8_atPoints_14 : decode cX8_atPoints 14 = .ok (.istore_n 2, 1) := by decide +kernel
theorem dX8_atPoints_15 : decode cX8_atPoints 15 = .ok (.aload_n 0, 1) := by decide +kernel
theorem dX8_atPoints_16 : decode cX8_atPoints 16 = .ok (.getfield 26, 3) := by decide +kernel
theorem dX8_atPoints_19 : decode cX8_atPoints 19 = .ok (.iload_n 1, 1) := by decide +kernel
theorem dX8_atPoints_20 : decode cX8_atPoints 20 = .ok (.laload, 1) := by decide +kernel
theorem dX8_atPoints_21 : decode cX8_atPoints 21 = .ok (.aload_n 0, 1) := by decide +kernel
theorem dX8_atPoints_22 : decode cX8_atPoints 22 = .ok (.invokevirtual 191, 3) := by decide +kernel
theorem dX8_atPoints_25 : decode cX8_atPoints 25 = .ok (.land, 1) := by decide +kernel
theorem dX8_atPoints_26 : decode cX8_atPoints 26 = .ok (.lstore_n 3, 1) := by decide +kernel
theorem dX8_atPoints_27 : decode cX8_atPoints 27 = .ok (.lload_n 3, 1) := by decide +kernel
theorem dX8_atPoints_28 : decode cX8_atPoints 28 = .ok (.invokestatic 187, 3) := by decide +kernel
theorem dX8_atPoints_31 : decode cX8_atPoints 31 = .ok (.istore 5, 2) := by decide +kernel
theorem dX8_atPoints_33 : decode cX8_atPoints 33 = .ok (.aload_n 0, 1) := by decide +kernel
theorem dX8_atPoints_34 : decode cX8_atPoints 34 = .ok (.iconst 1, 1) := by decide +kernel
theorem dX8_atPoints_35 : decode cX8_atPoints 35 = .ok (.iload_n 1, 1) := by decide +kernel
theorem dX8_atPoints_36 : decode cX8_atPoints 36 = .ok (.iload_n 2, 1) := by decide +kernel
theorem dX8_atPoints_37 : decode cX8_atPoints 37 = .ok (.iconst 2, 1) := by decide +kernel
theorem dX8_atPoints_38 : decode cX8_atPoints 38 = .ok (.if_icmp .gt 13, 3) := by decide +kernel
theorem dX8_atPoints_41 : decode cX8_atPoints 41 = .ok (.iload_n 2, 1) := by decide +kernel
theorem dX8_atPoints_42 : decode cX8_atPoints 42 = .ok (.iconst 1, 1) := by decide +kernel
theorem dX8_atPoints_43 : decode cX8_atPoints 43 = .ok (.if_icmp .ne 12, 3) := by decide +kernel
theorem dX8_atPoints_46 : decode cX8_atPoints 46 = .ok (.iload 5, 2) := by decide +kernel
theorem dX8_atPoints_48 : decode cX8_atPoints 48 = .ok (.ifCond .ne 7, 3) := by decide +kernel
theorem dX8_atPoints_51 : decode cX8_atPoints 51 = .ok (.iconst 3, 1) := by decide +kernel
theorem dX8_atPoints_52 : decode cX8_atPoints 52 = .ok (.goto 43, 3) := by decide +kernel
theorem dX8_atPoints_55 : decode cX8_atPoints 55 = .ok (.iload_n 2, 1) := by decide +kernel
theorem dX8_atPoints_56 : decode cX8_atPoints 56 = .ok (.iconst 2, 1) := by decide +kernel
theorem dX8_atPoints_57 : decode cX8_atPoints 57 = .ok (.if_icmp .ne 8, 3) := by decide +kernel
theorem dX8_atPoints_60 : decode cX8_atPoints 60 = .ok (.iload 5, 2) := by decide +kernel
theorem dX8_atPoints_62 : decode cX8_atPoints 62 = .ok (.ifCond .gt 13, 3) := by decide +kernel
theorem dX8_atPoints_65 : decode cX8_atPoints 65 = .ok (.iload_n 2, 1) := by decide +kernel
theorem dX8_atPoints_66 : decode cX8_atPoints 66 = .ok (.ifCond .ne 13, 3) := by decide +kernel
theorem dX8_atPoints_69 : decode cX8_atPoints 69 = .ok (.iload 5, 2) := by decide +kernel
theorem dX8_atPoints_71 : decode cX8_atPoints 71 = .ok (.iconst 1, 1) := by decide +kernel
theorem dX8_atPoints_72 : decode cX8_atPoints 72 = .ok (.if_icmp .ne 7, 3) := by decide +kernel
theorem dX8_atPoints_75 : decode cX8_atPoints 75 = .ok (.iconst 1, 1) := by decide +kernel
theorem dX8_atPoints_76 : decode cX8_atPoints 76 = .ok (.goto 19, 3) := by decide +kernel
theorem dX8_atPoints_79 : decode cX8_atPoints 79 = .ok (.iload_n 2, 1) := by decide +kernel
theorem dX8_atPoints_80 : decode cX8_atPoints 80 = .ok (.iconst 1, 1) := by decide +kernel
theorem dX8_atPoints_81 : decode cX8_atPoints 81 = .ok (.if_icmp .ne 13, 3) := by decide +kernel
theorem dX8_atPoints_84 : decode cX8_atPoints 84 = .ok (.iload 5, 2) := by decide +kernel
theorem dX8_atPoints_86 : decode cX8_atPoints 86 = .ok (.iconst 1, 1) := by decide +kernel
theorem dX8_atPoints_87 : decode cX8_atPoints 87 = .ok (.if_icmp .ne 7, 3) := by decide +kernel
theorem dX8_atPoints_90 : decode cX8_atPoints 90 = .ok (.iconst 2, 1) := by decide +kernel
theorem dX8_atPoints_91 : decode cX8_atPoints 91 = .ok (.goto 4, 3) := by decide +kernel
theorem dX8_atPoints_94 : decode cX8_atPoints 94 = .ok (.iconst 0, 1) := by decide +kernel
theorem dX8_atPoints_95 : decode cX8_atPoints 95 = .ok (.lload_n 3, 1) := by decide +kernel
theorem dX8_atPoints_96 : decode cX8_atPoints 96 = .ok (.invokevirtual 194, 3) := by decide +kernel
theorem dX8_atPoints_99 : decode cX8_atPoints 99 = .ok (.ireturn, 1) := by decide +kernel
theorem dX8_chain_0 : decode cX8_chain 0 = .ok (.lload_n 1, 1) := by decide +kernel
theorem dX8_chain_1 : decode cX8_chain 1 = .ok (.lstore 5, 2) := by decide +kernel
theorem dX8_chain_3 : decode cX8_chain 3 = .ok (.lconst 0, 1) := by decide +kernel
theorem dX8_chain_4 : decode cX8_chain 4 = .ok (.lstore 7, 2) := by decide +kernel
theorem dX8_chain_6 : decode cX8_chain 6 = .ok (.lload 7, 2) := by decide +kernel
theorem dX8_chain_8 : decode cX8_chain 8 = .ok (.lload 5, 2) := by decide +kernel
theorem dX8_chain_10 : decode cX8_chain 10 = .ok (.lcmp, 1) := by decide +kernel
theorem dX8_chain_11 : decode cX8_chain 11 = .ok (.ifCond .eq 61, 3) := by decide +kernel
theorem dX8_chain_14 : decode cX8_chain 14 = .ok (.lload 5, 2) := by decide +kernel
theorem dX8_chain_16 : decode cX8_chain 16 = .ok (.lstore 7, 2) := by decide +kernel
theorem dX8_chain_18 : decode cX8_chain 18 = .ok (.iconst 0, 1) := by decide +kernel
theorem dX8_chain_19 : decode cX8_chain 19 = .ok (.istore 9, 2) := by decide +kernel
theorem dX8_chain_21 : decode cX8_chain 21 = .ok (.iload 9, 2) := by decide +kernel
theorem dX8_chain_23 : decode cX8_chain 23 = .ok (.aload_n 0, 1) := by decide +kernel
theorem dX8_chain_24 : decode cX8_chain 24 = .ok (.invokevirtual 145, 3) := by decide +kernel
theorem dX8_chain_27 : decode cX8_chain 27 = .ok (.if_icmp .ge 42, 3) := by decide +kernel
theorem dX8_chain_30 : decode cX8_chain 30 = .ok (.lload 5, 2) := by decide +kernel
theorem dX8_chain_32 : decode cX8_chain 32 = .ok (.aload_n 0, 1) := by decide +kernel
theorem dX8_chain_33 : decode cX8_chain 33 = .ok (.getfield 26, 3) := by decide +kernel
theorem dX8_chain_36 : decode cX8_chain 36 = .ok (.iload 9, 2) := by decide +kernel
theorem dX8_chain_38 : decode cX8_chain 38 = .ok (.laload, 1) := by decide +kernel
theorem dX8_chain_39 : decode cX8_chain 39 = .ok (.lload 5, 2) := by decide +kernel
theorem dX8_chain_41 : decode cX8_chain 41 = .ok (.land, 1) := by decide +kernel
theorem dX8_chain_42 : decode cX8_chain 42 = .ok (.lconst 0, 1) := by decide +kernel
theorem dX8_chain_43 : decode cX8_chain 43 = .ok (.lcmp, 1) := by decide +kernel
theorem dX8_chain_44 : decode cX8_chain 44 = .ok (.ifCond .ne 7, 3) := by decide +kernel
theorem dX8_chain_47 : decode cX8_chain 47 = .ok (.lconst 0, 1) := by decide +kernel
theorem dX8_chain_48 : decode cX8_chain 48 = .ok (.goto 12, 3) := by decide +kernel
theorem dX8_chain_51 : decode cX8_chain 51 = .ok (.aload_n 0, 1) := by decide +kernel
theorem dX8_chain_52 : decode cX8_chain 52 = .ok (.getfield 26, 3) := by decide +kernel
theorem dX8_chain_55 : decode cX8_chain 55 = .ok (.iload 9, 2) := by decide +kernel
theorem dX8_chain_57 : decode cX8_chain 57 = .ok (.laload, 1) := by decide +kernel
theorem dX8_chain_58 : decode cX8_chain 58 = .ok (.lload_n 3, 1) := by decide +kernel
theorem dX8_chain_59 : decode cX8_chain 59 = .ok (.land, 1) := by decide +kernel
theorem dX8_chain_60 : decode cX8_chain 60 = .ok (.lor, 1) := by decide +kernel
theorem dX8_chain_61 : decode cX8_chain 61 = .ok (.lstore 5, 2) := by decide +kernel
theorem dX8_chain_63 : decode cX8_chain 63 = .ok (.iinc 9 1, 3) := by decide +kernel
theorem dX8_chain_66 : decode cX8_chain 66 = .ok (.goto (-45), 3) := by decide +kernel
theorem dX8_chain_69 : decode cX8_chain 69 = .ok (.goto (-63), 3) := by decide +kernel
theorem dX8_chain_72 : decode cX8_chain 72 = .ok (.lload 5, 2) := by decide +kernel
theorem dX8_chain_74 : decode cX8_chain 74 = .ok (.lreturn, 1) := by decide +kernel
theorem dX8_isClosed_0 : decode cX8_isClosed 0 = .ok (.iconst 1, 1) := by decide +kernel
theorem dX8_isClosed_1 : decode cX8_isClosed 1 = .ok (.istore_n 3, 1) := by decide +kernel
theorem dX8_isClosed_2 : decode cX8_isClosed 2 = .ok (.iconst 0, 1) := by decide +kernel
theorem dX8_isClosed_3 : decode cX8_isClosed 3 = .ok (.istore 4, 2) := by decide +kernel
theorem dX8_isClosed_5 : decode cX8_isClosed 5 = .ok (.iload 4, 2) := by decide +kernel
theorem dX8_isClosed_7 : decode cX8_isClosed 7 = .ok (.aload_n 0, 1) := by decide +kernel
theorem dX8_isClosed_8 : decode cX8_isClosed 8 = .ok (.invokevirtual 145, 3) := by decide +kernel
theorem dX8_isClosed_11 : decode cX8_isClosed 11 = .ok (.if_icmp .ge 52, 3) := by decide +kernel
theorem dX8_isClosed_14 : decode cX8_isClosed 14 = .ok (.iload_n 3, 1) := by decide +kernel
theorem dX8_isClosed_15 : decode cX8_isClosed 15 = .ok (.ifCond .eq 40, 3) := by decide +kernel
theorem dX8_isClosed_18 : decode cX8_isClosed 18 = .ok (.aload_n 0, 1) := by decide +kernel
theorem dX8_isClosed_19 : decode cX8_isClosed 19 = .ok (.getfield 26, 3) := by decide +kernel
theorem dX8_isClosed_22 : decode cX8_isClosed 22 = .ok (.iload 4, 2) := by decide +kernel
theorem dX8_isClosed_24 : decode cX8_isClosed 24 = .ok (.laload, 1) := by decide +kernel
theorem dX8_isClosed_25 : decode cX8_isClosed 25 = .ok (.lload_n 1, 1) := by decide +kernel
theorem dX8_isClosed_26 : decode cX8_isClosed 26 = .ok (.land, 1) := by decide +kernel
theorem dX8_isClosed_27 : decode cX8_isClosed 27 = .ok (.lconst 0, 1) := by decide +kernel
theorem dX8_isClosed_28 : decode cX8_isClosed 28 = .ok (.lcmp, 1) := by decide +kernel
theorem dX8_isClosed_29 : decode cX8_isClosed 29 = .ok (.ifCond .eq 22, 3) := by decide +kernel
theorem dX8_isClosed_32 : decode cX8_isClosed 32 = .ok (.aload_n 0, 1) := by decide +kernel
theorem dX8_isClosed_33 : decode cX8_isClosed 33 = .ok (.getfield 26, 3) := by decide +kernel
theorem dX8_isClosed_36 : decode cX8_isClosed 36 = .ok (.iload 4, 2) := by decide +kernel
theorem dX8_isClosed_38 : decode cX8_isClosed 38 = .ok (.laload, 1) := by decide +kernel
theorem dX8_isClosed_39 : decode cX8_isClosed 39 = .ok (.aload_n 0, 1) := by decide +kernel
theorem dX8_isClosed_40 : decode cX8_isClosed 40 = .ok (.getfield 83, 3) := by decide +kernel
theorem dX8_isClosed_43 : decode cX8_isClosed 43 = .ok (.land, 1) := by decide +kernel
theorem dX8_isClosed_44 : decode cX8_isClosed 44 = .ok (.invokestatic 187, 3) := by decide +kernel
theorem dX8_isClosed_47 : decode cX8_isClosed 47 = .ok (.iconst 2, 1) := by decide +kernel
theorem dX8_isClosed_48 : decode cX8_isClosed 48 = .ok (.if_icmp .ne 7, 3) := by decide +kernel
theorem dX8_isClosed_51 : decode cX8_isClosed 51 = .ok (.iconst 1, 1) := by decide +kernel
theorem dX8_isClosed_52 : decode cX8_isClosed 52 = .ok (.goto 4, 3) := by decide +kernel
theorem dX8_isClosed_55 : decode cX8_isClosed 55 = .ok (.iconst 0, 1) := by decide +kernel
theorem dX8_isClosed_56 : decode cX8_isClosed 56 = .ok (.istore_n 3, 1) := by decide +kernel
theorem dX8_isClosed_57 : decode cX8_isClosed 57 = .ok (.iinc 4 1, 3) := by decide +kernel
theorem dX8_isClosed_60 : decode cX8_isClosed 60 = .ok (.goto (-55), 3) := by decide +kernel
theorem dX8_isClosed_63 : decode cX8_isClosed 63 = .ok (.iload_n 3, 1) := by decide +kernel
theorem dX8_isClosed_64 : decode cX8_isClosed 64 = .ok (.ireturn, 1) := by decide +kernel
theorem dX8_isAmiss_0 : decode cX8_isAmiss 0 = .ok (.iconst 0, 1) := by decide +kernel
theorem dX8_isAmiss_1 : decode cX8_isAmiss 1 = .ok (.istore_n 3, 1) := by decide +kernel
theorem dX8_isAmiss_2 : decode cX8_isAmiss 2 = .ok (.iconst 0, 1) := by decide +kernel
theorem dX8_isAmiss_3 : decode cX8_isAmiss 3 = .ok (.istore 4, 2) := by decide +kernel
theorem dX8_isAmiss_5 : decode cX8_isAmiss 5 = .ok (.iload 4, 2) := by decide +kernel
theorem dX8_isAmiss_7 : decode cX8_isAmiss 7 = .ok (.aload_n 0, 1) := by decide +kernel
theorem dX8_isAmiss_8 : decode cX8_isAmiss 8 = .ok (.getfield 16, 3) := by decide +kernel
theorem dX8_isAmiss_11 : decode cX8_isAmiss 11 = .ok (.if_icmp .ge 55, 3) := by decide +kernel
theorem dX8_isAmiss_14 : decode cX8_isAmiss 14 = .ok (.iload_n 3, 1) := by decide +kernel
theorem dX8_isAmiss_15 : decode cX8_isAmiss 15 = .ok (.ifCond .ne 39, 3) := by decide +kernel
theorem dX8_isAmiss_18 : decode cX8_isAmiss 18 = .ok (.aload_n 0, 1) := by decide +kernel
theorem dX8_isAmiss_19 : decode cX8_isAmiss 19 = .ok (.iload 4, 2) := by decide +kernel
theorem dX8_isAmiss_21 : decode cX8_isAmiss 21 = .ok (.invokevirtual 134, 3) := by decide +kernel
theorem dX8_isAmiss_24 : decode cX8_isAmiss 24 = .ok (.iconst 5, 1) := by decide +kernel
theorem dX8_isAmiss_25 : decode cX8_isAmiss 25 = .ok (.if_icmp .ge 33, 3) := by decide +kernel
theorem dX8_isAmiss_28 : decode cX8_isAmiss 28 = .ok (.aload_n 0, 1) := by decide +kernel
theorem dX8_isAmiss_29 : decode cX8_isAmiss 29 = .ok (.getfield 22, 3) := by decide +kernel
theorem dX8_isAmiss_32 : decode cX8_isAmiss 32 = .ok (.iload 4, 2) := by decide +kernel
theorem dX8_isAmiss_34 : decode cX8_isAmiss 34 = .ok (.laload, 1) := by decide +kernel
theorem dX8_isAmiss_35 : decode cX8_isAmiss 35 = .ok (.aload_n 0, 1) := by decide +kernel
theorem dX8_isAmiss_36 : decode cX8_isAmiss 36 = .ok (.getfield 83, 3) := by decide +kernel
theorem dX8_isAmiss_39 : decode cX8_isAmiss 39 = .ok (.lload_n 1, 1) := by decide +kernel
theorem dX8_isAmiss_40 : decode cX8_isAmiss 40 = .ok (.lor, 1) := by decide +kernel
theorem dX8_isAmiss_41 : decode cX8_isAmiss 41 = .ok (.land, 1) := by decide +kernel
theorem dX8_isAmiss_42 : decode cX8_isAmiss 42 = .ok (.invokestatic 187, 3) := by decide +kernel
theorem dX8_isAmiss_45 : decode cX8_isAmiss 45 = .ok (.aload_n 0, 1) := by decide +kernel
theorem dX8_isAmiss_46 : decode cX8_isAmiss 46 = .ok (.iload 4, 2) := by decide +kernel
theorem dX8_isAmiss_48 : decode cX8_isAmiss 48 = .ok (.invokevirtual 134, 3) := by decide +kernel
theorem dX8_isAmiss_51 : decode cX8_isAmiss 51 = .ok (.if_icmp .eq 7, 3) := by decide +kernel
theorem dX8_isAmiss_54 : decode cX8_isAmiss 54 = .ok (.iconst 1, 1) := by decide +kernel
theorem dX8_isAmiss_55 : decode cX8_isAmiss 55 = .ok (.goto 4, 3) := by decide +kernel
theorem dX8_isAmiss_58 : decode cX8_isAmiss 58 = .ok (.iconst 0, 1) := by decide +kernel
theorem dX8_isAmiss_59 : decode cX8_isAmiss 59 = .ok (.istore_n 3, 1) := by decide +kernel
theorem dX8_isAmiss_60 : decode cX8_isAmiss 60 = .ok (.iinc 4 1, 3) := by decide +kernel
theorem dX8_isAmiss_63 : decode cX8_isAmiss 63 = .ok (.goto (-58), 3) := by decide +kernel
theorem dX8_isAmiss_66 : decode cX8_isAmiss 66 = .ok (.iload_n 3, 1) := by decide +kernel
theorem dX8_isAmiss_67 : decode cX8_isAmiss 67 = .ok (.ireturn, 1) := by decide +kernel
theorem dX8_atChains_0 : decode cX8_atChains 0 = .ok (.lconst 1, 1) := by decide +kernel
theorem dX8_atChains_1 : decode cX8_atChains 1 = .ok (.iload_n 1, 1) := by decide +kernel
theorem dX8_atChains_2 : decode cX8_atChains 2 = .ok (.lshl, 1) := by decide +kernel
theorem dX8_atChains_3 : decode cX8_atChains 3 = .ok (.lstore_n 2, 1) := by decide +kernel
theorem dX8_atChains_4 : decode cX8_atChains 4 = .ok (.aload_n 0, 1) := by decide +kernel
theorem dX8_atChains_5 : decode cX8_atChains 5 = .ok (.getfield 83, 3) := by decide +kernel
theorem dX8_atChains_8 : decode cX8_atChains 8 = .ok (.lload_n 2, 1) := by decide +kernel
theorem dX8_atChains_9 : decode cX8_atChains 9 = .ok (.land, 1) := by decide +kernel
theorem dX8_atChains_10 : decode cX8_atChains 10 = .ok (.lconst 0, 1) := by decide +kernel
theorem dX8_atChains_11 : decode cX8_atChains 11 = .ok (.lcmp, 1) := by decide +kernel
theorem dX8_atChains_12 : decode cX8_atChains 12 = .ok (.ifCond .eq 46, 3) := by decide +kernel
theorem dX8_atChains_15 : decode cX8_atChains 15 = .ok (.aload_n 0, 1) := by decide +kernel
theorem dX8_atChains_16 : decode cX8_atChains 16 = .ok (.lload_n 2, 1) := by decide +kernel
theorem dX8_atChains_17 : decode cX8_atChains 17 = .ok (.aload_n 0, 1) := by decide +kernel
theorem dX8_atChains_18 : decode cX8_atChains 18 = .ok (.getfield 83, 3) := by decide +kernel
theorem dX8_atChains_21 : decode cX8_atChains 21 = .ok (.invokevirtual 198, 3) := by decide +kernel
theorem dX8_atChains_24 : decode cX8_atChains 24 = .ok (.lstore 4, 2) := by decide +kernel
theorem dX8_atChains_26 : decode cX8_atChains 26 = .ok (.aload_n 0, 1) := by decide +kernel
theorem dX8_atChains_27 : decode cX8_atChains 27 = .ok (.iconst 2, 1) := by decide +kernel
theorem dX8_atChains_28 : decode cX8_atChains 28 = .ok (.iload_n 1, 1) := by decide +kernel
theorem dX8_atChains_29 : decode cX8_atChains 29 = .ok (.lload 4, 2) := by decide +kernel
theorem dX8_atChains_31 : decode cX8_atChains 31 = .ok (.aload_n 0, 1) := by decide +kernel
theorem dX8_atChains_32 : decode cX8_atChains 32 = .ok (.getfield 83, 3) := by decide +kernel
theorem dX8_atChains_35 : decode cX8_atChains 35 = .ok (.lcmp, 1) := by decide +kernel
theorem dX8_atChains_36 : decode cX8_atChains 36 = .ok (.ifCond .eq 16, 3) := by decide +kernel
theorem dX8_atChains_39 : decode cX8_atChains 39 = .ok (.aload_n 0, 1) := by decide +kernel
theorem dX8_atChains_40 : decode cX8_atChains 40 = .ok (.lload 4, 2) := by decide +kernel
theorem dX8_atChains_42 : decode cX8_atChains 42 = .ok (.invokevirtual 202, 3) := by decide +kernel
theorem dX8_atChains_45 : decode cX8_atChains 45 = .ok (.ifCond .eq 7, 3) := by decide +kernel
theorem dX8_atChains_48 : decode cX8_atChains 48 = .ok (.iconst 3, 1) := by decide +kernel
theorem dX8_atChains_49 : decode cX8_atChains 49 = .ok (.goto 4, 3) := by decide +kernel
theorem dX8_atChains_52 : decode cX8_atChains 52 = .ok (.iconst 0, 1) := by decide +kernel
theorem dX8_atChains_53 : decode cX8_atChains 53 = .ok (.lconst 0, 1) := by decide +kernel
theorem dX8_atChains_54 : decode cX8_atChains 54 = .ok (.invokevirtual 194, 3) := by decide +kernel
theorem dX8_atChains_57 : decode cX8_atChains 57 = .ok (.ireturn, 1) := by decide +kernel
theorem dX8_atChains_58 : decode cX8_atChains 58 = .ok (.aload_n 0, 1) := by decide +kernel
theorem dX8_atChains_59 : decode cX8_atChains 59 = .ok (.getfield 88, 3) := by decide +kernel
theorem dX8_atChains_62 : decode cX8_atChains 62 = .ok (.lload_n 2, 1) := by decide +kernel
theorem dX8_atChains_63 : decode cX8_atChains 63 = .ok (.land, 1) := by decide +kernel
theorem dX8_atChains_64 : decode cX8_atChains 64 = .ok (.lconst 0, 1) := by decide +kernel
theorem dX8_atChains_65 : decode cX8_atChains 65 = .ok (.lcmp, 1) := by decide +kernel
theorem dX8_atChains_66 : decode cX8_atChains 66 = .ok (.ifCond .eq 5, 3) := by decide +kernel
theorem dX8_atChains_69 : decode cX8_atChains 69 = .ok (.iconst 0, 1) := by decide +kernel
theorem dX8_atChains_70 : decode cX8_atChains 70 = .ok (.ireturn, 1) := by decide +kernel
theorem dX8_atChains_71 : decode cX8_atChains 71 = .ok (.lconst 0, 1) := by decide +kernel
theorem dX8_atChains_72 : decode cX8_atChains 72 = .ok (.lstore 4, 2) := by decide +kernel
theorem dX8_atChains_74 : decode cX8_atChains 74 = .ok (.lconst 0, 1) := by decide +kernel
theorem dX8_atChains_75 : decode cX8_atChains 75 = .ok (.lstore 6, 2) := by decide +kernel
theorem dX8_atChains_77 : decode cX8_atChains 77 = .ok (.iconst 0, 1) := by decide +kernel
theorem dX8_atChains_78 : decode cX8_atChains 78 = .ok (.istore 8, 2) := by decide +kernel
theorem dX8_atChains_80 : decode cX8_atChains 80 = .ok (.iload 8, 2) := by decide +kernel
theorem dX8_atChains_82 : decode cX8_atChains 82 = .ok (.aload_n 0, 1) := by decide +kernel
theorem dX8_atChains_83 : decode cX8_atChains 83 = .ok (.invokevirtual 145, 3) := by decide +kernel
theorem dX8_atChains_86 : decode cX8_atChains 86 = .ok (.if_icmp .ge 77, 3) := by decide +kernel
theorem dX8_atChains_89 : decode cX8_atChains 89 = .ok (.aload_n 0, 1) := by decide +kernel
theorem dX8_atChains_90 : decode cX8_atChains 90 = .ok (.getfield 26, 3) := by decide +kernel
theorem dX8_atChains_93 : decode cX8_atChains 93 = .ok (.iload 8, 2) := by decide +kernel
theorem dX8_atChains_95 : decode cX8_atChains 95 = .ok (.laload, 1) := by decide +kernel
theorem dX8_atChains_96 : decode cX8_atChains 96 = .ok (.lload_n 2, 1) := by decide +kernel
theorem dX8_atChains_97 : decode cX8_atChains 97 = .ok (.land, 1) := by decide +kernel
theorem dX8_atChains_98 : decode cX8_atChains 98 = .ok (.lconst 0, 1) := by decide +kernel
theorem dX8_atChains_99 : decode cX8_atChains 99 = .ok (.lcmp, 1) := by decide +kernel
theorem dX8_atChains_100 : decode cX8_atChains 100 = .ok (.ifCond .eq 57, 3) := by decide +kernel
theorem dX8_atChains_103 : decode cX8_atChains 103 = .ok (.lload 4, 2) := by decide +kernel
theorem dX8_atChains_105 : decode cX8_atChains 105 = .ok (.lconst 0, 1) := by decide +kernel
theorem dX8_atChains_106 : decode cX8_atChains 106 = .ok (.lcmp, 1) := by decide +kernel
theorem dX8_atChains_107 : decode cX8_atChains 107 = .ok (.ifCond .ne 8, 3) := by decide +kernel
theorem dX8_atChains_110 : decode cX8_atChains 110 = .ok (.lload 6, 2) := by decide +kernel
theorem dX8_atChains_112 : decode cX8_atChains 112 = .ok (.goto 15, 3) := by decide +kernel
theorem dX8_atChains_115 : decode cX8_atChains 115 = .ok (.aload_n 0, 1) := by decide +kernel
theorem dX8_atChains_116 : decode cX8_atChains 116 = .ok (.getfield 26, 3) := by decide +kernel
theorem dX8_atChains_119 : decode cX8_atChains 119 = .ok (.iload 8, 2) := by decide +kernel
theorem dX8_atChains_121 : decode cX8_atChains 121 = .ok (.laload, 1) := by decide +kernel
theorem dX8_atChains_122 : decode cX8_atChains 122 = .ok (.aload_n 0, 1) := by decide +kernel
theorem dX8_atChains_123 : decode cX8_atChains 123 = .ok (.getfield 83, 3) := by decide +kernel
theorem dX8_atChains_126 : decode cX8_atChains 126 = .ok (.land, 1) := by decide +kernel
theorem dX8_atChains_127 : decode cX8_atChains 127 = .ok (.lstore 6, 2) := by decide +kernel
theorem dX8_atChains_129 : decode cX8_atChains 129 = .ok (.lload 4, 2) := by decide +kernel
theorem dX8_atChains_131 : decode cX8_atChains 131 = .ok (.lconst 0, 1) := by decide +kernel
theorem dX8_atChains_132 : decode cX8_atChains 132 = .ok (.lcmp, 1) := by decide +kernel
theorem dX8_atChains_133 : decode cX8_atChains 133 = .ok (.ifCond .ne 20, 3) := by decide +kernel
theorem dX8_atChains_136 : decode cX8_atChains 136 = .ok (.aload_n 0, 1) := by decide +kernel
theorem dX8_atChains_137 : decode cX8_atChains 137 = .ok (.getfield 26, 3) := by decide +kernel
theorem dX8_atChains_140 : decode cX8_atChains 140 = .ok (.iload 8, 2) := by decide +kernel
theorem dX8_atChains_142 : decode cX8_atChains 142 = .ok (.laload, 1) := by decide +kernel
theorem dX8_atChains_143 : decode cX8_atChains 143 = .ok (.aload_n 0, 1) := by decide +kernel
theorem dX8_atChains_144 : decode cX8_atChains 144 = .ok (.getfield 83, 3) := by decide +kernel
theorem dX8_atChains_147 : decode cX8_atChains 147 = .ok (.land, 1) := by decide +kernel
theorem dX8_atChains_148 : decode cX8_atChains 148 = .ok (.lload_n 2, 1) := by decide +kernel
theorem dX8_atChains_149 : decode cX8_atChains 149 = .ok (.lor, 1) := by decide +kernel
theorem dX8_atChains_150 : decode cX8_atChains 150 = .ok (.goto 5, 3) := by decide +kernel
theorem dX8_atChains_153 : decode cX8_atChains 153 = .ok (.lload 4, 2) := by decide +kernel
theorem dX8_atChains_155 : decode cX8_atChains 155 = .ok (.lstore 4, 2) := by decide +kernel
theorem dX8_atChains_157 : decode cX8_atChains 157 = .ok (.iinc 8 1, 3) := by decide +kernel
theorem dX8_atChains_160 : decode cX8_atChains 160 = .ok (.goto (-80), 3) := by decide +kernel
theorem dX8_atChains_163 : decode cX8_atChains 163 = .ok (.lload 4, 2) := by decide +kernel
theorem dX8_atChains_165 : decode cX8_atChains 165 = .ok (.lload_n 2, 1) := by decide +kernel
theorem dX8_atChains_166 : decode cX8_atChains 166 = .ok (.ldc2_w 86, 3) := by decide +kernel
theorem dX8_atChains_169 : decode cX8_atChains 169 = .ok (.lxor, 1) := by decide +kernel
theorem dX8_atChains_170 : decode cX8_atChains 170 = .ok (.land, 1) := by decide +kernel
theorem dX8_atChains_171 : decode cX8_atChains 171 = .ok (.lstore 4, 2) := by decide +kernel
theorem dX8_atChains_173 : decode cX8_atChains 173 = .ok (.lload 4, 2) := by decide +kernel
theorem dX8_atChains_175 : decode cX8_atChains 175 = .ok (.lconst 0, 1) := by decide +kernel
theorem dX8_atChains_176 : decode cX8_atChains 176 = .ok (.lcmp, 1) := by decide +kernel
theorem dX8_atChains_177 : decode cX8_atChains 177 = .ok (.ifCond .eq 10, 3) := by decide +kernel
theorem dX8_atChains_180 : decode cX8_atChains 180 = .ok (.lload 6, 2) := by decide +kernel
theorem dX8_atChains_182 : decode cX8_atChains 182 = .ok (.lconst 0, 1) := by decide +kernel
theorem dX8_atChains_183 : decode cX8_atChains 183 = .ok (.lcmp, 1) := by decide +kernel
theorem dX8_atChains_184 : decode cX8_atChains 184 = .ok (.ifCond .ne 5, 3) := by decide +kernel
theorem dX8_atChains_187 : decode cX8_atChains 187 = .ok (.iconst 0, 1) := by decide +kernel
theorem dX8_atChains_188 : decode cX8_atChains 188 = .ok (.ireturn, 1) := by decide +kernel
theorem dX8_atChains_189 : decode cX8_atChains 189 = .ok (.aload_n 0, 1) := by decide +kernel
theorem dX8_atChains_190 : decode cX8_atChains 190 = .ok (.lload 4, 2) := by decide +kernel
theorem dX8_atChains_192 : decode cX8_atChains 192 = .ok (.aload_n 0, 1) := by decide +kernel
theorem dX8_atChains_193 : decode cX8_atChains 193 = .ok (.getfield 83, 3) := by decide +kernel
theorem dX8_atChains_196 : decode cX8_atChains 196 = .ok (.invokevirtual 198, 3) := by decide +kernel
theorem dX8_atChains_199 : decode cX8_atChains 199 = .ok (.lstore 8, 2) := by decide +kernel
theorem dX8_atChains_201 : decode cX8_atChains 201 = .ok (.lload 8, 2) := by decide +kernel
theorem dX8_atChains_203 : decode cX8_atChains 203 = .ok (.lload 6, 2) := by decide +kernel
theorem dX8_atChains_205 : decode cX8_atChains 205 = .ok (.land, 1) := by decide +kernel
theorem dX8_atChains_206 : decode cX8_atChains 206 = .ok (.lconst 0, 1) := by decide +kernel
theorem dX8_atChains_207 : decode cX8_atChains 207 = .ok (.lcmp, 1) := by decide +kernel
theorem dX8_atChains_208 : decode cX8_atChains 208 = .ok (.ifCond .eq 25, 3) := by decide +kernel
theorem dX8_atChains_211 : decode cX8_atChains 211 = .ok (.lload 8, 2) := by decide +kernel
theorem dX8_atChains_213 : decode cX8_atChains 213 = .ok (.aload_n 0, 1) := by decide +kernel
theorem dX8_atChains_214 : decode cX8_atChains 214 = .ok (.getfield 83, 3) := by decide +kernel
theorem dX8_atChains_217 : decode cX8_atChains 217 = .ok (.lcmp, 1) := by decide +kernel
theorem dX8_atChains_218 : decode cX8_atChains 218 = .ok (.ifCond .ne 11, 3) := by decide +kernel
theorem dX8_atChains_221 : decode cX8_atChains 221 = .ok (.aload_n 0, 1) := by decide +kernel
theorem dX8_atChains_222 : decode cX8_atChains 222 = .ok (.lload_n 2, 1) := by decide +kernel
theorem dX8_atChains_223 : decode cX8_atChains 223 = .ok (.invokevirtual 206, 3) := by decide +kernel
theorem dX8_atChains_226 : decode cX8_atChains 226 = .ok (.ifCond .eq 7, 3) := by decide +kernel
theorem dX8_atChains_229 : decode cX8_atChains 229 = .ok (.iconst 1, 1) := by decide +kernel
theorem dX8_atChains_230 : decode cX8_atChains 230 = .ok (.goto 4, 3) := by decide +kernel
theorem dX8_atChains_233 : decode cX8_atChains 233 = .ok (.iconst 0, 1) := by decide +kernel
theorem dX8_atChains_234 : decode cX8_atChains 234 = .ok (.istore 10, 2) := by decide +kernel
theorem dX8_atChains_236 : decode cX8_atChains 236 = .ok (.aload_n 0, 1) := by decide +kernel
theorem dX8_atChains_237 : decode cX8_atChains 237 = .ok (.iconst 2, 1) := by decide +kernel
theorem dX8_atChains_238 : decode cX8_atChains 238 = .ok (.iload_n 1, 1) := by decide +kernel
theorem dX8_atChains_239 : decode cX8_atChains 239 = .ok (.iload 10, 2) := by decide +kernel
theorem dX8_atChains_241 : decode cX8_atChains 241 = .ok (.ifCond .eq 7, 3) := by decide +kernel
theorem dX8_atChains_244 : decode cX8_atChains 244 = .ok (.iconst 1, 1) := by decide +kernel
theorem dX8_atChains_245 : decode cX8_atChains 245 = .ok (.goto 4, 3) := by decide +kernel
theorem dX8_atChains_248 : decode cX8_atChains 248 = .ok (.iconst 0, 1) := by decide +kernel
theorem dX8_atChains_249 : decode cX8_atChains 249 = .ok (.lload_n 2, 1) := by decide +kernel
theorem dX8_atChains_250 : decode cX8_atChains 250 = .ok (.invokevirtual 194, 3) := by decide +kernel
theorem dX8_atChains_253 : decode cX8_atChains 253 = .ok (.ireturn, 1) := by decide +kernel
theorem dX8_tells_0 : decode cX8_tells 0 = .ok (.lconst 1, 1) := by decide +kernel
theorem dX8_tells_1 : decode cX8_tells 1 = .ok (.aload_n 0, 1) := by decide +kernel
theorem dX8_tells_2 : decode cX8_tells 2 = .ok (.getfield 29, 3) := by decide +kernel
theorem dX8_tells_5 : decode cX8_tells 5 = .ok (.iconst 2, 1) := by decide +kernel
theorem dX8_tells_6 : decode cX8_tells 6 = .ok (.iload_n 1, 1) := by decide +kernel
theorem dX8_tells_7 : decode cX8_tells 7 = .ok (.imul, 1) := by decide +kernel
theorem dX8_tells_8 : decode cX8_tells 8 = .ok (.iaload, 1) := by decide +kernel
theorem dX8_tells_9 : decode cX8_tells 9 = .ok (.lshl, 1) := by decide +kernel
theorem dX8_tells_10 : decode cX8_tells 10 = .ok (.lstore_n 2, 1) := by decide +kernel
theorem dX8_tells_11 : decode cX8_tells 11 = .ok (.lconst 0, 1) := by decide +kernel
theorem dX8_tells_12 : decode cX8_tells 12 = .ok (.lstore 4, 2) := by decide +kernel
theorem dX8_tells_14 : decode cX8_tells 14 = .ok (.lload 4, 2) := by decide +kernel
theorem dX8_tells_16 : decode cX8_tells 16 = .ok (.lload_n 2, 1) := by decide +kernel
theorem dX8_tells_17 : decode cX8_tells 17 = .ok (.lcmp, 1) := by decide +kernel
theorem dX8_tells_18 : decode cX8_tells 18 = .ok (.ifCond .eq 120, 3) := by decide +kernel
theorem dX8_tells_21 : decode cX8_tells 21 = .ok (.lload_n 2, 1) := by decide +kernel
theorem dX8_tells_22 : decode cX8_tells 22 = .ok (.lstore 4, 2) := by decide +kernel
theorem dX8_tells_24 : decode cX8_tells 24 = .ok (.iconst 0, 1) := by decide +kernel
theorem dX8_tells_25 : decode cX8_tells 25 = .ok (.istore 6, 2) := by decide +kernel
theorem dX8_tells_27 : decode cX8_tells 27 = .ok (.iload 6, 2) := by decide +kernel
theorem dX8_tells_29 : decode cX8_tells 29 = .ok (.aload_n 0, 1) := by decide +kernel
theorem dX8_tells_30 : decode cX8_tells 30 = .ok (.getfield 19, 3) := by decide +kernel
theorem dX8_tells_33 : decode cX8_tells 33 = .ok (.if_icmp .ge 102, 3) := by decide +kernel
theorem dX8_tells_36 : decode cX8_tells 36 = .ok (.iload 6, 2) := by decide +kernel
theorem dX8_tells_38 : decode cX8_tells 38 = .ok (.iload_n 1, 1) := by decide +kernel
theorem dX8_tells_39 : decode cX8_tells 39 = .ok (.if_icmp .eq 90, 3) := by decide +kernel
theorem dX8_tells_42 : decode cX8_tells 42 = .ok (.aload_n 0, 1) := by decide +kernel
theorem dX8_tells_43 : decode cX8_tells 43 = .ok (.getfield 83, 3) := by decide +kernel
theorem dX8_tells_46 : decode cX8_tells 46 = .ok (.aload_n 0, 1) := by decide +kernel
theorem dX8_tells_47 : decode cX8_tells 47 = .ok (.getfield 88, 3) := by decide +kernel
theorem dX8_tells_50 : decode cX8_tells 50 = .ok (.lor, 1) := by decide +kernel
theorem dX8_tells_51 : decode cX8_tells 51 = .ok (.iload 6, 2) := by decide +kernel
theorem dX8_tells_53 : decode cX8_tells 53 = .ok (.invokestatic 141, 3) := by decide +kernel
theorem dX8_tells_56 : decode cX8_tells 56 = .ok (.ifCond .eq 73, 3) := by decide +kernel
theorem dX8_tells_59 : decode cX8_tells 59 = .ok (.lload_n 2, 1) := by decide +kernel
theorem dX8_tells_60 : decode cX8_tells 60 = .ok (.lload_n 2, 1) := by decide +kernel
theorem dX8_tells_61 : decode cX8_tells 61 = .ok (.aload_n 0, 1) := by decide +kernel
theorem dX8_tells_62 : decode cX8_tells 62 = .ok (.getfield 29, 3) := by decide +kernel
theorem dX8_tells_65 : decode cX8_tells 65 = .ok (.iconst 2, 1) := by decide +kernel
theorem dX8_tells_66 : decode cX8_tells 66 = .ok (.iload 6, 2) := by decide +kernel
theorem dX8_tells_68 : decode cX8_tells 68 = .ok (.imul, 1) := by decide +kernel
theorem dX8_tells_69 : decode cX8_tells 69 = .ok (.iaload, 1) := by decide +kernel
theorem dX8_tells_70 : decode cX8_tells 70 = .ok (.aload_n 0, 1) := by decide +kernel
theorem dX8_tells_71 : decode cX8_tells 71 = .ok (.getfield 29, 3) := by decide +kernel
theorem dX8_tells_74 : decode cX8_tells 74 = .ok (.iconst 2, 1) := by decide +kernel
theorem dX8_tells_75 : decode cX8_tells 75 = .ok (.iload 6, 2) := by decide +kernel
theorem dX8_tells_77 : decode cX8_tells 77 = .ok (.imul, 1) := by decide +kernel
theorem dX8_tells_78 : decode cX8_tells 78 = .ok (.iconst 1, 1) := by decide +kernel
theorem dX8_tells_79 : decode cX8_tells 79 = .ok (.iadd, 1) := by decide +kernel
theorem dX8_tells_80 : decode cX8_tells 80 = .ok (.iaload, 1) := by decide +kernel
theorem dX8_tells_81 : decode cX8_tells 81 = .ok (.aload_n 0, 1) := by decide +kernel
theorem dX8_tells_82 : decode cX8_tells 82 = .ok (.getfield 83, 3) := by decide +kernel
theorem dX8_tells_85 : decode cX8_tells 85 = .ok (.iload 6, 2) := by decide +kernel
theorem dX8_tells_87 : decode cX8_tells 87 = .ok (.invokestatic 141, 3) := by decide +kernel
theorem dX8_tells_90 : decode cX8_tells 90 = .ok (.invokestatic 209, 3) := by decide +kernel
theorem dX8_tells_93 : decode cX8_tells 93 = .ok (.lload_n 2, 1) := by decide +kernel
theorem dX8_tells_94 : decode cX8_tells 94 = .ok (.aload_n 0, 1) := by decide +kernel
theorem dX8_tells_95 : decode cX8_tells 95 = .ok (.getfield 29, 3) := by decide +kernel
theorem dX8_tells_98 : decode cX8_tells 98 = .ok (.iconst 2, 1) := by decide +kernel
theorem dX8_tells_99 : decode cX8_tells 99 = .ok (.iload 6, 2) := by decide +kernel
theorem dX8_tells_101 : decode cX8_tells 101 = .ok (.imul, 1) := by decide +kernel
theorem dX8_tells_102 : decode cX8_tells 102 = .ok (.iconst 1, 1) := by decide +kernel
theorem dX8_tells_103 : decode cX8_tells 103 = .ok (.iadd, 1) := by decide +kernel
theorem dX8_tells_104 : decode cX8_tells 104 = .ok (.iaload, 1) := by decide +kernel
theorem dX8_tells_105 : decode cX8_tells 105 = .ok (.aload_n 0, 1) := by decide +kernel
theorem dX8_tells_106 : decode cX8_tells 106 = .ok (.getfield 29, 3) := by decide +kernel
theorem dX8_tells_109 : decode cX8_tells 109 = .ok (.iconst 2, 1) := by decide +kernel
theorem dX8_tells_110 : decode cX8_tells 110 = .ok (.iload 6, 2) := by decide +kernel
theorem dX8_tells_112 : decode cX8_tells 112 = .ok (.imul, 1) := by decide +kernel
theorem dX8_tells_113 : decode cX8_tells 113 = .ok (.iaload, 1) := by decide +kernel
theorem dX8_tells_114 : decode cX8_tells 114 = .ok (.aload_n 0, 1) := by decide +kernel
theorem dX8_tells_115 : decode cX8_tells 115 = .ok (.getfield 83, 3) := by decide +kernel
theorem dX8_tells_118 : decode cX8_tells 118 = .ok (.iload 6, 2) := by decide +kernel
theorem dX8_tells_120 : decode cX8_tells 120 = .ok (.invokestatic 141, 3) := by decide +kernel
theorem dX8_tells_123 : decode cX8_tells 123 = .ok (.invokestatic 209, 3) := by decide +kernel
theorem dX8_tells_126 : decode cX8_tells 126 = .ok (.lor, 1) := by decide +kernel
theorem dX8_tells_127 : decode cX8_tells 127 = .ok (.lor, 1) := by decide +kernel
theorem dX8_tells_128 : decode cX8_tells 128 = .ok (.lstore_n 2, 1) := by decide +kernel
theorem dX8_tells_129 : decode cX8_tells 129 = .ok (.iinc 6 1, 3) := by decide +kernel
theorem dX8_tells_132 : decode cX8_tells 132 = .ok (.goto (-105), 3) := by decide +kernel
theorem dX8_tells_135 : decode cX8_tells 135 = .ok (.goto (-121), 3) := by decide +kernel
theorem dX8_tells_138 : decode cX8_tells 138 = .ok (.aload_n 0, 1) := by decide +kernel
theorem dX8_tells_139 : decode cX8_tells 139 = .ok (.getfield 29, 3) := by decide +kernel
theorem dX8_tells_142 : decode cX8_tells 142 = .ok (.iconst 2, 1) := by decide +kernel
theorem dX8_tells_143 : decode cX8_tells 143 = .ok (.iload_n 1, 1) := by decide +kernel
theorem dX8_tells_144 : decode cX8_tells 144 = .ok (.imul, 1) := by decide +kernel
theorem dX8_tells_145 : decode cX8_tells 145 = .ok (.iconst 1, 1) := by decide +kernel
theorem dX8_tells_146 : decode cX8_tells 146 = .ok (.iadd, 1) := by decide +kernel
theorem dX8_tells_147 : decode cX8_tells 147 = .ok (.iaload, 1) := by decide +kernel
theorem dX8_tells_148 : decode cX8_tells 148 = .ok (.istore 6, 2) := by decide +kernel
theorem dX8_tells_150 : decode cX8_tells 150 = .ok (.lload_n 2, 1) := by decide +kernel
theorem dX8_tells_151 : decode cX8_tells 151 = .ok (.iload 6, 2) := by decide +kernel
theorem dX8_tells_153 : decode cX8_tells 153 = .ok (.invokestatic 141, 3) := by decide +kernel
theorem dX8_tells_156 : decode cX8_tells 156 = .ok (.ifCond .eq 7, 3) := by decide +kernel
theorem dX8_tells_159 : decode cX8_tells 159 = .ok (.iconst 1, 1) := by decide +kernel
theorem dX8_tells_160 : decode cX8_tells 160 = .ok (.goto 4, 3) := by decide +kernel
theorem dX8_tells_163 : decode cX8_tells 163 = .ok (.iconst 0, 1) := by decide +kernel
theorem dX8_tells_164 : decode cX8_tells 164 = .ok (.lload_n 2, 1) := by decide +kernel
theorem dX8_tells_165 : decode cX8_tells 165 = .ok (.iload 6, 2) := by decide +kernel
theorem dX8_tells_167 : decode cX8_tells 167 = .ok (.bipush 17, 2) := by decide +kernel
theorem dX8_tells_169 : decode cX8_tells 169 = .ok (.iadd, 1) := by decide +kernel
theorem dX8_tells_170 : decode cX8_tells 170 = .ok (.invokestatic 141, 3) := by decide +kernel
theorem dX8_tells_173 : decode cX8_tells 173 = .ok (.ifCond .eq 7, 3) := by decide +kernel
theorem dX8_tells_176 : decode cX8_tells 176 = .ok (.iconst 2, 1) := by decide +kernel
theorem dX8_tells_177 : decode cX8_tells 177 = .ok (.goto 4, 3) := by decide +kernel
theorem dX8_tells_180 : decode cX8_tells 180 = .ok (.iconst 0, 1) := by decide +kernel
theorem dX8_tells_181 : decode cX8_tells 181 = .ok (.iadd, 1) := by decide +kernel
theorem dX8_tells_182 : decode cX8_tells 182 = .ok (.ireturn, 1) := by decide +kernel
theorem dX8_goes_0 : decode cX8_goes 0 = .ok (.lload_n 0, 1) := by decide +kernel
theorem dX8_goes_1 : decode cX8_goes 1 = .ok (.iload_n 2, 1) := by decide +kernel
theorem dX8_goes_2 : decode cX8_goes 2 = .ok (.invokestatic 141, 3) := by decide +kernel
theorem dX8_goes_5 : decode cX8_goes 5 = .ok (.ifCond .eq 21, 3) := by decide +kernel
theorem dX8_goes_8 : decode cX8_goes 8 = .ok (.lconst 1, 1) := by decide +kernel
theorem dX8_goes_9 : decode cX8_goes 9 = .ok (.iload 4, 2) := by decide +kernel
theorem dX8_goes_11 : decode cX8_goes 11 = .ok (.ifCond .eq 10, 3) := by decide +kernel
theorem dX8_goes_14 : decode cX8_goes 14 = .ok (.iload_n 3, 1) := by decide +kernel
theorem dX8_goes_15 : decode cX8_goes 15 = .ok (.bipush 17, 2) := by decide +kernel
theorem dX8_goes_17 : decode cX8_goes 17 = .ok (.iadd, 1) := by decide +kernel
theorem dX8_goes_18 : decode cX8_goes 18 = .ok (.goto 4, 3) := by decide +kernel
theorem dX8_goes_21 : decode cX8_goes 21 = .ok (.iload_n 3, 1) := by decide +kernel
theorem dX8_goes_22 : decode cX8_goes 22 = .ok (.lshl, 1) := by decide +kernel
theorem dX8_goes_23 : decode cX8_goes 23 = .ok (.goto 4, 3) := by decide +kernel
theorem dX8_goes_26 : decode cX8_goes 26 = .ok (.lconst 0, 1) := by decide +kernel
theorem dX8_goes_27 : decode cX8_goes 27 = .ok (.lstore 5, 2) := by decide +kernel
theorem dX8_goes_29 : decode cX8_goes 29 = .ok (.lload 5, 2) := by decide +kernel
theorem dX8_goes_31 : decode cX8_goes 31 = .ok (.lload_n 0, 1) := by decide +kernel
theorem dX8_goes_32 : decode cX8_goes 32 = .ok (.iload_n 2, 1) := by decide +kernel
theorem dX8_goes_33 : decode cX8_goes 33 = .ok (.bipush 17, 2) := by decide +kernel
theorem dX8_goes_35 : decode cX8_goes 35 = .ok (.iadd, 1) := by decide +kernel
theorem dX8_goes_36 : decode cX8_goes 36 = .ok (.invokestatic 141, 3) := by decide +kernel
theorem dX8_goes_39 : decode cX8_goes 39 = .ok (.ifCond .eq 21, 3) := by decide +kernel
theorem dX8_goes_42 : decode cX8_goes 42 = .ok (.lconst 1, 1) := by decide +kernel
theorem dX8_goes_43 : decode cX8_goes 43 = .ok (.iload 4, 2) := by decide +kernel
theorem dX8_goes_45 : decode cX8_goes 45 = .ok (.ifCond .eq 7, 3) := by decide +kernel
theorem dX8_goes_48 : decode cX8_goes 48 = .ok (.iload_n 3, 1) := by decide +kernel
theorem dX8_goes_49 : decode cX8_goes 49 = .ok (.goto 7, 3) := by decide +kernel
theorem dX8_goes_52 : decode cX8_goes 52 = .ok (.iload_n 3, 1) := by decide +kernel
theorem dX8_goes_53 : decode cX8_goes 53 = .ok (.bipush 17, 2) := by decide +kernel
theorem dX8_goes_55 : decode cX8_goes 55 = .ok (.iadd, 1) := by decide +kernel
theorem dX8_goes_56 : decode cX8_goes 56 = .ok (.lshl, 1) := by decide +kernel
theorem dX8_goes_57 : decode cX8_goes 57 = .ok (.goto 4, 3) := by decide +kernel
theorem dX8_goes_60 : decode cX8_goes 60 = .ok (.lconst 0, 1) := by decide +kernel
theorem dX8_goes_61 : decode cX8_goes 61 = .ok (.lor, 1) := by decide +kernel
theorem dX8_goes_62 : decode cX8_goes 62 = .ok (.lreturn, 1) := by decide +kernel
theorem dX8_atHands_0 : decode cX8_atHands 0 = .ok (.aload_n 0, 1) := by decide +kernel
theorem dX8_atHands_1 : decode cX8_atHands 1 = .ok (.iload_n 1, 1) := by decide +kernel
theorem dX8_atHands_2 : decode cX8_atHands 2 = .ok (.invokevirtual 213, 3) := by decide +kernel
theorem dX8_atHands_5 : decode cX8_atHands 5 = .ok (.istore_n 2, 1) := by decide +kernel
theorem dX8_atHands_6 : decode cX8_atHands 6 = .ok (.aload_n 0, 1) := by decide +kernel
theorem dX8_atHands_7 : decode cX8_atHands 7 = .ok (.getfield 83, 3) := by decide +kernel
theorem dX8_atHands_10 : decode cX8_atHands 10 = .ok (.aload_n 0, 1) := by decide +kernel
theorem dX8_atHands_11 : decode cX8_atHands 11 = .ok (.getfield 88, 3) := by decide +kernel
theorem dX8_atHands_14 : decode cX8_atHands 14 = .ok (.lor, 1) := by decide +kernel
theorem dX8_atHands_15 : decode cX8_atHands 15 = .ok (.iload_n 1, 1) := by decide +kernel
theorem dX8_atHands_16 : decode cX8_atHands 16 = .ok (.invokestatic 141, 3) := by decide +kernel
theorem dX8_atHands_19 : decode cX8_atHands 19 = .ok (.ifCond .eq 59, 3) := by decide +kernel
theorem dX8_atHands_22 : decode cX8_atHands 22 = .ok (.aload_n 0, 1) := by decide +kernel
theorem dX8_atHands_23 : decode cX8_atHands 23 = .ok (.getfield 83, 3) := by decide +kernel
theorem dX8_atHands_26 : decode cX8_atHands 26 = .ok (.iload_n 1, 1) := by decide +kernel
theorem dX8_atHands_27 : decode cX8_atHands 27 = .ok (.invokestatic 141, 3) := by decide +kernel
theorem dX8_atHands_30 : decode cX8_atHands 30 = .ok (.ifCond .eq 18, 3) := by decide +kernel
theorem dX8_atHands_33 : decode cX8_atHands 33 = .ok (.iload_n 2, 1) := by decide +kernel
theorem dX8_atHands_34 : decode cX8_atHands 34 = .ok (.iconst 1, 1) := by decide +kernel
theorem dX8_atHands_35 : decode cX8_atHands 35 = .ok (.iand, 1) := by decide +kernel
theorem dX8_atHands_36 : decode cX8_atHands 36 = .ok (.iconst 1, 1) := by decide +kernel
theorem dX8_atHands_37 : decode cX8_atHands 37 = .ok (.if_icmp .ne 7, 3) := by decide +kernel
theorem dX8_atHands_40 : decode cX8_atHands 40 = .ok (.iconst 1, 1) := by decide +kernel
theorem dX8_atHands_41 : decode cX8_atHands 41 = .ok (.goto 19, 3) := by decide +kernel
theorem dX8_atHands_44 : decode cX8_atHands 44 = .ok (.iconst 0, 1) := by decide +kernel
theorem dX8_atHands_45 : decode cX8_atHands 45 = .ok (.goto 15, 3) := by decide +kernel
theorem dX8_atHands_48 : decode cX8_atHands 48 = .ok (.iload_n 2, 1) := by decide +kernel
theorem dX8_atHands_49 : decode cX8_atHands 49 = .ok (.iconst 2, 1) := by decide +kernel
theorem dX8_atHands_50 : decode cX8_atHands 50 = .ok (.iand, 1) := by decide +kernel
theorem dX8_atHands_51 : decode cX8_atHands 51 = .ok (.iconst 2, 1) := by decide +kernel
theorem dX8_atHands_52 : decode cX8_atHands 52 = .ok (.if_icmp .ne 7, 3) := by decide +kernel
theorem dX8_atHands_55 : decode cX8_atHands 55 = .ok (.iconst 1, 1) := by decide +kernel
theorem dX8_atHands_56 : decode cX8_atHands 56 = .ok (.goto 4, 3) := by decide +kernel
theorem dX8_atHands_59 : decode cX8_atHands 59 = .ok (.iconst 0, 1) := by decide +kernel
theorem dX8_atHands_60 : decode cX8_atHands 60 = .ok (.istore_n 3, 1) := by decide +kernel
theorem dX8_atHands_61 : decode cX8_atHands 61 = .ok (.aload_n 0, 1) := by decide +kernel
theorem dX8_atHands_62 : decode cX8_atHands 62 = .ok (.iconst 3, 1) := by decide +kernel
theorem dX8_atHands_63 : decode cX8_atHands 63 = .ok (.iload_n 1, 1) := by decide +kernel
theorem dX8_atHands_64 : decode cX8_atHands 64 = .ok (.iload_n 3, 1) := by decide +kernel
theorem dX8_atHands_65 : decode cX8_atHands 65 = .ok (.ifCond .eq 7, 3) := by decide +kernel
theorem dX8_atHands_68 : decode cX8_atHands 68 = .ok (.iconst 3, 1) := by decide +kernel
theorem dX8_atHands_69 : decode cX8_atHands 69 = .ok (.goto 4, 3) := by decide +kernel
theorem dX8_atHands_72 : decode cX8_atHands 72 = .ok (.iconst 0, 1) := by decide +kernel
theorem dX8_atHands_73 : decode cX8_atHands 73 = .ok (.lconst 0, 1) := by decide +kernel
theorem dX8_atHands_74 : decode cX8_atHands 74 = .ok (.invokevirtual 194, 3) := by decide +kernel
theorem dX8_atHands_77 : decode cX8_atHands 77 = .ok (.ireturn, 1) := by decide +kernel
theorem dX8_atHands_78 : decode cX8_atHands 78 = .ok (.aload_n 0, 1) := by decide +kernel
theorem dX8_atHands_79 : decode cX8_atHands 79 = .ok (.iconst 3, 1) := by decide +kernel
theorem dX8_atHands_80 : decode cX8_atHands 80 = .ok (.iload_n 1, 1) := by decide +kernel
theorem dX8_atHands_81 : decode cX8_atHands 81 = .ok (.iload_n 2, 1) := by decide +kernel
theorem dX8_atHands_82 : decode cX8_atHands 82 = .ok (.iconst 1, 1) := by decide +kernel
theorem dX8_atHands_83 : decode cX8_atHands 83 = .ok (.if_icmp .ne 7, 3) := by decide +kernel
theorem dX8_atHands_86 : decode cX8_atHands 86 = .ok (.iconst 1, 1) := by decide +kernel
theorem dX8_atHands_87 : decode cX8_atHands 87 = .ok (.goto 13, 3) := by decide +kernel
theorem dX8_atHands_90 : decode cX8_atHands 90 = .ok (.iload_n 2, 1) := by decide +kernel
theorem dX8_atHands_91 : decode cX8_atHands 91 = .ok (.iconst 2, 1) := by decide +kernel
theorem dX8_atHands_92 : decode cX8_atHands 92 = .ok (.if_icmp .ne 7, 3) := by decide +kernel
theorem dX8_atHands_95 : decode cX8_atHands 95 = .ok (.iconst 2, 1) := by decide +kernel
theorem dX8_atHands_96 : decode cX8_atHands 96 = .ok (.goto 4, 3) := by decide +kernel
theorem dX8_atHands_99 : decode cX8_atHands 99 = .ok (.iconst 0, 1) := by decide +kernel
theorem dX8_atHands_100 : decode cX8_atHands 100 = .ok (.lconst 1, 1) := by decide +kernel
theorem dX8_atHands_101 : decode cX8_atHands 101 = .ok (.iload_n 1, 1) := by decide +kernel
theorem dX8_atHands_102 : decode cX8_atHands 102 = .ok (.lshl, 1) := by decide +kernel
theorem dX8_atHands_103 : decode cX8_atHands 103 = .ok (.invokevirtual 194, 3) := by decide +kernel
theorem dX8_atHands_106 : decode cX8_atHands 106 = .ok (.ireturn, 1) := by decide +kernel
theorem dX8_isAt_0 : decode cX8_isAt 0 = .ok (.iload_n 1, 1) := by decide +kernel
theorem dX8_isAt_1 : decode cX8_isAt 1 = .ok (.tableswitch 45 0 2 #[27, 33, 39], 27) := by decide +kernel
theorem dX8_isAt_28 : decode cX8_isAt 28 = .ok (.aload_n 0, 1) := by decide +kernel
theorem dX8_isAt_29 : decode cX8_isAt 29 = .ok (.iload_n 2, 1) := by decide +kernel
theorem dX8_isAt_30 : decode cX8_isAt 30 = .ok (.invokevirtual 216, 3) := by decide +kernel
theorem dX8_isAt_33 : decode cX8_isAt 33 = .ok (.ireturn, 1) := by decide +kernel
theorem dX8_isAt_34 : decode cX8_isAt 34 = .ok (.aload_n 0, 1) := by decide +kernel
theorem dX8_isAt_35 : decode cX8_isAt 35 = .ok (.iload_n 2, 1) := by decide +kernel
theorem dX8_isAt_36 : decode cX8_isAt 36 = .ok (.invokevirtual 219, 3) := by decide +kernel
theorem dX8_isAt_39 : decode cX8_isAt 39 = .ok (.ireturn, 1) := by decide +kernel
theorem dX8_isAt_40 : decode cX8_isAt 40 = .ok (.aload_n 0, 1) := by decide +kernel
theorem dX8_isAt_41 : decode cX8_isAt 41 = .ok (.iload_n 2, 1) := by decide +kernel
theorem dX8_isAt_42 : decode cX8_isAt 42 = .ok (.invokevirtual 222, 3) := by decide +kernel
theorem dX8_isAt_45 : decode cX8_isAt 45 = .ok (.ireturn, 1) := by decide +kernel
theorem dX8_isAt_46 : decode cX8_isAt 46 = .ok (.aload_n 0, 1) := by decide +kernel
theorem dX8_isAt_47 : decode cX8_isAt 47 = .ok (.iload_n 2, 1) := by decide +kernel
theorem dX8_isAt_48 : decode cX8_isAt 48 = .ok (.invokevirtual 225, 3) := by decide +kernel
theorem dX8_isAt_51 : decode cX8_isAt 51 = .ok (.ireturn, 1) := by decide +kernel
theorem dX8_hints_0 : decode cX8_hints 0 = .ok (.iconst 0, 1) := by decide +kernel
theorem dX8_hints_1 : decode cX8_hints 1 = .ok (.istore_n 1, 1) := by decide +kernel
theorem dX8_hints_2 : decode cX8_hints 2 = .ok (.iload_n 1, 1) := by decide +kernel
theorem dX8_hints_3 : decode cX8_hints 3 = .ok (.iconst 4, 1) := by decide +kernel
theorem dX8_hints_4 : decode cX8_hints 4 = .ok (.if_icmp .ge 60, 3) := by decide +kernel
theorem dX8_hints_7 : decode cX8_hints 7 = .ok (.iload_n 1, 1) := by decide +kernel
theorem dX8_hints_8 : decode cX8_hints 8 = .ok (.ifCond .ne 10, 3) := by decide +kernel
theorem dX8_hints_11 : decode cX8_hints 11 = .ok (.aload_n 0, 1) := by decide +kernel
theorem dX8_hints_12 : decode cX8_hints 12 = .ok (.getfield 16, 3) := by decide +kernel
theorem dX8_hints_15 : decode cX8_hints 15 = .ok (.goto 19, 3) := by decide +kernel
theorem dX8_hints_18 : decode cX8_hints 18 = .ok (.iload_n 1, 1) := by decide +kernel
theorem dX8_hints_19 : decode cX8_hints 19 = .ok (.iconst 1, 1) := by decide +kernel
theorem dX8_hints_20 : decode cX8_hints 20 = .ok (.if_icmp .ne 10, 3) := by decide +kernel
theorem dX8_hints_23 : decode cX8_hints 23 = .ok (.aload_n 0, 1) := by decide +kernel
theorem dX8_hints_24 : decode cX8_hints 24 = .ok (.invokevirtual 145, 3) := by decide +kernel
theorem dX8_hints_27 : decode cX8_hints 27 = .ok (.goto 7, 3) := by decide +kernel
theorem dX8_hints_30 : decode cX8_hints 30 = .ok (.aload_n 0, 1) := by decide +kernel
theorem dX8_hints_31 : decode cX8_hints 31 = .ok (.getfield 19, 3) := by decide +kernel
theorem dX8_hints_34 : decode cX8_hints 34 = .ok (.istore_n 2, 1) := by decide +kernel
theorem dX8_hints_35 : decode cX8_hints 35 = .ok (.iconst 0, 1) := by decide +kernel
theorem dX8_hints_36 : decode cX8_hints 36 = .ok (.istore_n 3, 1) := by decide +kernel
theorem dX8_hints_37 : decode cX8_hints 37 = .ok (.iload_n 3, 1) := by decide +kernel
theorem dX8_hints_38 : decode cX8_hints 38 = .ok (.iload_n 2, 1) := by decide +kernel
theorem dX8_hints_39 : decode cX8_hints 39 = .ok (.if_icmp .ge 19, 3) := by decide +kernel
theorem dX8_hints_42 : decode cX8_hints 42 = .ok (.aload_n 0, 1) := by decide +kernel
theorem dX8_hints_43 : decode cX8_hints 43 = .ok (.iload_n 1, 1) := by decide +kernel
theorem dX8_hints_44 : decode cX8_hints 44 = .ok (.iload_n 3, 1) := by decide +kernel
theorem dX8_hints_45 : decode cX8_hints 45 = .ok (.invokevirtual 228, 3) := by decide +kernel
theorem dX8_hints_48 : decode cX8_hints 48 = .ok (.ifCond .eq 4, 3) := by decide +kernel
theorem dX8_hints_51 : decode cX8_hints 51 = .ok (.return_, 1) := by decide +kernel
theorem dX8_hints_52 : decode cX8_hints 52 = .ok (.iinc 3 1, 3) := by decide +kernel
theorem dX8_hints_55 : decode cX8_hints 55 = .ok (.goto (-18), 3) := by decide +kernel
theorem dX8_hints_58 : decode cX8_hints 58 = .ok (.iinc 1 1, 3) := by decide +kernel
theorem dX8_hints_61 : decode cX8_hints 61 = .ok (.goto (-59), 3) := by decide +kernel
theorem dX8_hints_64 : decode cX8_hints 64 = .ok (.aload_n 0, 1) := by decide +kernel
theorem dX8_hints_65 : decode cX8_hints 65 = .ok (.iconst 0, 1) := by decide +kernel
theorem dX8_hints_66 : decode cX8_hints 66 = .ok (.putfield 175, 3) := by decide +kernel
theorem dX8_hints_69 : decode cX8_hints 69 = .ok (.aload_n 0, 1) := by decide +kernel
theorem dX8_hints_70 : decode cX8_hints 70 = .ok (.lconst 0, 1) := by decide +kernel
theorem dX8_hints_71 : decode cX8_hints 71 = .ok (.putfield 184, 3) := by decide +kernel
theorem dX8_hints_74 : decode cX8_hints 74 = .ok (.return_, 1) := by decide +kernel
theorem dX8_step_0 : decode cX8_step 0 = .ok (.aload_n 0, 1) := by decide +kernel
theorem dX8_step_1 : decode cX8_step 1 = .ok (.invokevirtual 232, 3) := by decide +kernel
theorem dX8_step_4 : decode cX8_step 4 = .ok (.aload_n 0, 1) := by decide +kernel
theorem dX8_step_5 : decode cX8_step 5 = .ok (.getfield 175, 3) := by decide +kernel
theorem dX8_step_8 : decode cX8_step 8 = .ok (.ifCond .eq 11, 3) := by decide +kernel
theorem dX8_step_11 : decode cX8_step 11 = .ok (.aload_n 0, 1) := by decide +kernel
theorem dX8_step_12 : decode cX8_step 12 = .ok (.getfield 175, 3) := by decide +kernel
