theorem dX11_start_30 : decode cX11_start 30 = .ok (.iaload, 1) := by decide +kernel
theorem dX11_start_31 : decode cX11_start 31 = .ok (.invokevirtual 274, 3) := by decide +kernel
theorem dX11_start_34 : decode cX11_start 34 = .ok (.iconst (-1), 1) := by decide +kernel
theorem dX11_start_35 : decode cX11_start 35 = .ok (.if_icmp .ne 11, 3) := by decide +kernel
theorem dX11_start_38 : decode cX11_start 38 = .ok (.aload_n 0, 1) := by decide +kernel
theorem dX11_start_39 : decode cX11_start 39 = .ok (.getfield 93, 3) := by decide +kernel
theorem dX11_start_42 : decode cX11_start 42 = .ok (.iload_n 1, 1) := by decide +kernel
theorem dX11_start_43 : decode cX11_start 43 = .ok (.iconst 5, 1) := by decide +kernel
theorem dX11_start_44 : decode cX11_start 44 = .ok (.iastore, 1) := by decide +kernel
theorem dX11_start_45 : decode cX11_start 45 = .ok (.return_, 1) := by decide +kernel
theorem dX11_start_46 : decode cX11_start 46 = .ok (.aload_n 0, 1) := by decide +kernel
theorem dX11_start_47 : decode cX11_start 47 = .ok (.getfield 93, 3) := by decide +kernel
theorem dX11_start_50 : decode cX11_start 50 = .ok (.iload_n 1, 1) := by decide +kernel
theorem dX11_start_51 : decode cX11_start 51 = .ok (.iconst 1, 1) := by decide +kernel
theorem dX11_start_52 : decode cX11_start 52 = .ok (.iastore, 1) := by decide +kernel
theorem dX11_start_53 : decode cX11_start 53 = .ok (.aload_n 0, 1) := by decide +kernel
theorem dX11_start_54 : decode cX11_start 54 = .ok (.getfield 99, 3) := by decide +kernel
theorem dX11_start_57 : decode cX11_start 57 = .ok (.iload_n 1, 1) := by decide +kernel
theorem dX11_start_58 : decode cX11_start 58 = .ok (.aload_n 0, 1) := by decide +kernel
theorem dX11_start_59 : decode cX11_start 59 = .ok (.getfield 284, 3) := by decide +kernel
theorem dX11_start_62 : decode cX11_start 62 = .ok (.iastore, 1) := by decide +kernel
theorem dX11_start_63 : decode cX11_start 63 = .ok (.iconst 0, 1) := by decide +kernel
theorem dX11_start_64 : decode cX11_start 64 = .ok (.istore_n 2, 1) := by decide +kernel
theorem dX11_start_65 : decode cX11_start 65 = .ok (.iconst 0, 1) := by decide +kernel
theorem dX11_start_66 : decode cX11_start 66 = .ok (.istore_n 3, 1) := by decide +kernel
theorem dX11_start_67 : decode cX11_start 67 = .ok (.iload_n 3, 1) := by decide +kernel
theorem dX11_start_68 : decode cX11_start 68 = .ok (.bipush 16, 2) := by decide +kernel
theorem dX11_start_70 : decode cX11_start 70 = .ok (.if_icmp .ge 59, 3) := by decide +kernel
theorem dX11_start_73 : decode cX11_start 73 = .ok (.iload_n 2, 1) := by decide +kernel
theorem dX11_start_74 : decode cX11_start 74 = .ok (.iload_n 3, 1) := by decide +kernel
theorem dX11_start_75 : decode cX11_start 75 = .ok (.aload_n 0, 1) := by decide +kernel
theorem dX11_start_76 : decode cX11_start 76 = .ok (.getfield 259, 3) := by decide +kernel
theorem dX11_start_79 : decode cX11_start 79 = .ok (.if_icmp .ge 17, 3) := by decide +kernel
theorem dX11_start_82 : decode cX11_start 82 = .ok (.aload_n 0, 1) := by decide +kernel
theorem dX11_start_83 : decode cX11_start 83 = .ok (.getfield 50, 3) := by decide +kernel
theorem dX11_start_86 : decode cX11_start 86 = .ok (.aload_n 0, 1) := by decide +kernel
theorem dX11_start_87 : decode cX11_start 87 = .ok (.getfield 62, 3) := by decide +kernel
theorem dX11_start_90 : decode cX11_start 90 = .ok (.iload_n 3, 1) := by decide +kernel
theorem dX11_start_91 : decode cX11_start 91 = .ok (.iaload, 1) := by decide +kernel
theorem dX11_start_92 : decode cX11_start 92 = .ok (.iaload, 1) := by decide +kernel
theorem dX11_start_93 : decode cX11_start 93 = .ok (.goto 4, 3) := by decide +kernel
theorem dX11_start_96 : decode cX11_start 96 = .ok (.iconst 0, 1) := by decide +kernel
theorem dX11_start_97 : decode cX11_start 97 = .ok (.iadd, 1) := by decide +kernel
theorem dX11_start_98 : decode cX11_start 98 = .ok (.istore_n 2, 1) := by decide +kernel
theorem dX11_start_99 : decode cX11_start 99 = .ok (.aload_n 0, 1) := by decide +kernel
theorem dX11_start_100 : decode cX11_start 100 = .ok (.getfield 108, 3) := by decide +kernel
theorem dX11_start_103 : decode cX11_start 103 = .ok (.bipush 16, 2) := by decide +kernel
theorem dX11_start_105 : decode cX11_start 105 = .ok (.iload_n 1, 1) := by decide +kernel
theorem dX11_start_106 : decode cX11_start 106 = .ok (.imul, 1) := by decide +kernel
theorem dX11_start_107 : decode cX11_start 107 = .ok (.iload_n 3, 1) := by decide +kernel
theorem dX11_start_108 : decode cX11_start 108 = .ok (.iadd, 1) := by decide +kernel
theorem dX11_start_109 : decode cX11_start 109 = .ok (.iload_n 3, 1) := by decide +kernel
theorem dX11_start_110 : decode cX11_start 110 = .ok (.aload_n 0, 1) := by decide +kernel
theorem dX11_start_111 : decode cX11_start 111 = .ok (.getfield 259, 3) := by decide +kernel
theorem dX11_start_114 : decode cX11_start 114 = .ok (.if_icmp .ge 7, 3) := by decide +kernel
theorem dX11_start_117 : decode cX11_start 117 = .ok (.iload_n 2, 1) := by decide +kernel
theorem dX11_start_118 : decode cX11_start 118 = .ok (.goto 4, 3) := by decide +kernel
theorem dX11_start_121 : decode cX11_start 121 = .ok (.iconst (-1), 1) := by decide +kernel
theorem dX11_start_122 : decode cX11_start 122 = .ok (.iastore, 1) := by decide +kernel
theorem dX11_start_123 : decode cX11_start 123 = .ok (.iinc 3 1, 3) := by decide +kernel
theorem dX11_start_126 : decode cX11_start 126 = .ok (.goto (-59), 3) := by decide +kernel
theorem dX11_start_129 : decode cX11_start 129 = .ok (.aload_n 0, 1) := by decide +kernel
theorem dX11_start_130 : decode cX11_start 130 = .ok (.getfield 105, 3) := by decide +kernel
theorem dX11_start_133 : decode cX11_start 133 = .ok (.iload_n 1, 1) := by decide +kernel
theorem dX11_start_134 : decode cX11_start 134 = .ok (.iload_n 2, 1) := by decide +kernel
theorem dX11_start_135 : decode cX11_start 135 = .ok (.iastore, 1) := by decide +kernel
theorem dX11_start_136 : decode cX11_start 136 = .ok (.return_, 1) := by decide +kernel
theorem dX11_goTick_0 : decode cX11_goTick 0 = .ok (.iconst 0, 1) := by decide +kernel
theorem dX11_goTick_1 : decode cX11_goTick 1 = .ok (.istore_n 1, 1) := by decide +kernel
theorem dX11_goTick_2 : decode cX11_goTick 2 = .ok (.iload_n 1, 1) := by decide +kernel
theorem dX11_goTick_3 : decode cX11_goTick 3 = .ok (.aload_n 0, 1) := by decide +kernel
theorem dX11_goTick_4 : decode cX11_goTick 4 = .ok (.getfield 281, 3) := by decide +kernel
theorem dX11_goTick_7 : decode cX11_goTick 7 = .ok (.if_icmp .ge 47, 3) := by decide +kernel
theorem dX11_goTick_10 : decode cX11_goTick 10 = .ok (.aload_n 0, 1) := by decide +kernel
theorem dX11_goTick_11 : decode cX11_goTick 11 = .ok (.getfield 93, 3) := by decide +kernel
theorem dX11_goTick_14 : decode cX11_goTick 14 = .ok (.iload_n 1, 1) := by decide +kernel
theorem dX11_goTick_15 : decode cX11_goTick 15 = .ok (.aload_n 0, 1) := by decide +kernel
theorem dX11_goTick_16 : decode cX11_goTick 16 = .ok (.getfield 93, 3) := by decide +kernel
theorem dX11_goTick_19 : decode cX11_goTick 19 = .ok (.iload_n 1, 1) := by decide +kernel
theorem dX11_goTick_20 : decode cX11_goTick 20 = .ok (.iaload, 1) := by decide +kernel
theorem dX11_goTick_21 : decode cX11_goTick 21 = .ok (.ifCond .ne 20, 3) := by decide +kernel
theorem dX11_goTick_24 : decode cX11_goTick 24 = .ok (.aload_n 0, 1) := by decide +kernel
theorem dX11_goTick_25 : decode cX11_goTick 25 = .ok (.getfield 86, 3) := by decide +kernel
theorem dX11_goTick_28 : decode cX11_goTick 28 = .ok (.iload_n 1, 1) := by decide +kernel
theorem dX11_goTick_29 : decode cX11_goTick 29 = .ok (.iaload, 1) := by decide +kernel
theorem dX11_goTick_30 : decode cX11_goTick 30 = .ok (.aload_n 0, 1) := by decide +kernel
theorem dX11_goTick_31 : decode cX11_goTick 31 = .ok (.getfield 284, 3) := by decide +kernel
theorem dX11_goTick_34 : decode cX11_goTick 34 = .ok (.if_icmp .gt 7, 3) := by decide +kernel
theorem dX11_goTick_37 : decode cX11_goTick 37 = .ok (.iconst 4, 1) := by decide +kernel
theorem dX11_goTick_38 : decode cX11_goTick 38 = .ok (.goto 9, 3) := by decide +kernel
theorem dX11_goTick_41 : decode cX11_goTick 41 = .ok (.aload_n 0, 1) := by decide +kernel
theorem dX11_goTick_42 : decode cX11_goTick 42 = .ok (.getfield 93, 3) := by decide +kernel
theorem dX11_goTick_45 : decode cX11_goTick 45 = .ok (.iload_n 1, 1) := by decide +kernel
theorem dX11_goTick_46 : decode cX11_goTick 46 = .ok (.iaload, 1) := by decide +kernel
theorem dX11_goTick_47 : decode cX11_goTick 47 = .ok (.iastore, 1) := by decide +kernel
theorem dX11_goTick_48 : decode cX11_goTick 48 = .ok (.iinc 1 1, 3) := by decide +kernel
theorem dX11_goTick_51 : decode cX11_goTick 51 = .ok (.goto (-49), 3) := by decide +kernel
theorem dX11_goTick_54 : decode cX11_goTick 54 = .ok (.iconst 0, 1) := by decide +kernel
theorem dX11_goTick_55 : decode cX11_goTick 55 = .ok (.istore_n 1, 1) := by decide +kernel
theorem dX11_goTick_56 : decode cX11_goTick 56 = .ok (.iload_n 1, 1) := by decide +kernel
theorem dX11_goTick_57 : decode cX11_goTick 57 = .ok (.aload_n 0, 1) := by decide +kernel
theorem dX11_goTick_58 : decode cX11_goTick 58 = .ok (.getfield 281, 3) := by decide +kernel
theorem dX11_goTick_61 : decode cX11_goTick 61 = .ok (.if_icmp .ge 103, 3) := by decide +kernel
theorem dX11_goTick_64 : decode cX11_goTick 64 = .ok (.aload_n 0, 1) := by decide +kernel
theorem dX11_goTick_65 : decode cX11_goTick 65 = .ok (.getfield 89, 3) := by decide +kernel
theorem dX11_goTick_68 : decode cX11_goTick 68 = .ok (.iload_n 1, 1) := by decide +kernel
theorem dX11_goTick_69 : decode cX11_goTick 69 = .ok (.baload, 1) := by decide +kernel
theorem dX11_goTick_70 : decode cX11_goTick 70 = .ok (.ifCond .eq 88, 3) := by decide +kernel
theorem dX11_goTick_73 : decode cX11_goTick 73 = .ok (.aload_n 0, 1) := by decide +kernel
theorem dX11_goTick_74 : decode cX11_goTick 74 = .ok (.iload_n 1, 1) := by decide +kernel
theorem dX11_goTick_75 : decode cX11_goTick 75 = .ok (.invokevirtual 287, 3) := by decide +kernel
theorem dX11_goTick_78 : decode cX11_goTick 78 = .ok (.ifCond .eq 80, 3) := by decide +kernel
theorem dX11_goTick_81 : decode cX11_goTick 81 = .ok (.iconst 1, 1) := by decide +kernel
theorem dX11_goTick_82 : decode cX11_goTick 82 = .ok (.istore_n 2, 1) := by decide +kernel
theorem dX11_goTick_83 : decode cX11_goTick 83 = .ok (.iconst 0, 1) := by decide +kernel
theorem dX11_goTick_84 : decode cX11_goTick 84 = .ok (.istore_n 3, 1) := by decide +kernel
theorem dX11_goTick_85 : decode cX11_goTick 85 = .ok (.iload_n 3, 1) := by decide +kernel
theorem dX11_goTick_86 : decode cX11_goTick 86 = .ok (.aload_n 0, 1) := by decide +kernel
theorem dX11_goTick_87 : decode cX11_goTick 87 = .ok (.getfield 281, 3) := by decide +kernel
theorem dX11_goTick_90 : decode cX11_goTick 90 = .ok (.if_icmp .ge 59, 3) := by decide +kernel
theorem dX11_goTick_93 : decode cX11_goTick 93 = .ok (.aload_n 0, 1) := by decide +kernel
theorem dX11_goTick_94 : decode cX11_goTick 94 = .ok (.getfield 93, 3) := by decide +kernel
theorem dX11_goTick_97 : decode cX11_goTick 97 = .ok (.iload_n 3, 1) := by decide +kernel
theorem dX11_goTick_98 : decode cX11_goTick 98 = .ok (.iaload, 1) := by decide +kernel
theorem dX11_goTick_99 : decode cX11_goTick 99 = .ok (.iconst 1, 1) := by decide +kernel
theorem dX11_goTick_100 : decode cX11_goTick 100 = .ok (.if_icmp .ne 43, 3) := by decide +kernel
theorem dX11_goTick_103 : decode cX11_goTick 103 = .ok (.aload_n 0, 1) := by decide +kernel
theorem dX11_goTick_104 : decode cX11_goTick 104 = .ok (.iload_n 1, 1) := by decide +kernel
theorem dX11_goTick_105 : decode cX11_goTick 105 = .ok (.iload_n 3, 1) := by decide +kernel
theorem dX11_goTick_106 : decode cX11_goTick 106 = .ok (.invokevirtual 290, 3) := by decide +kernel
theorem dX11_goTick_109 : decode cX11_goTick 109 = .ok (.ifCond .eq 34, 3) := by decide +kernel
theorem dX11_goTick_112 : decode cX11_goTick 112 = .ok (.iconst 0, 1) := by decide +kernel
theorem dX11_goTick_113 : decode cX11_goTick 113 = .ok (.istore_n 2, 1) := by decide +kernel
theorem dX11_goTick_114 : decode cX11_goTick 114 = .ok (.aload_n 0, 1) := by decide +kernel
theorem dX11_goTick_115 : decode cX11_goTick 115 = .ok (.getfield 102, 3) := by decide +kernel
theorem dX11_goTick_118 : decode cX11_goTick 118 = .ok (.iload_n 3, 1) := by decide +kernel
theorem dX11_goTick_119 : decode cX11_goTick 119 = .ok (.aload_n 0, 1) := by decide +kernel
theorem dX11_goTick_120 : decode cX11_goTick 120 = .ok (.getfield 102, 3) := by decide +kernel
theorem dX11_goTick_123 : decode cX11_goTick 123 = .ok (.iload_n 3, 1) := by decide +kernel
theorem dX11_goTick_124 : decode cX11_goTick 124 = .ok (.baload, 1) := by decide +kernel
theorem dX11_goTick_125 : decode cX11_goTick 125 = .ok (.ifCond .ne 12, 3) := by decide +kernel
theorem dX11_goTick_128 : decode cX11_goTick 128 = .ok (.aload_n 0, 1) := by decide +kernel
theorem dX11_goTick_129 : decode cX11_goTick 129 = .ok (.getfield 89, 3) := by decide +kernel
theorem dX11_goTick_132 : decode cX11_goTick 132 = .ok (.iload_n 3, 1) := by decide +kernel
theorem dX11_goTick_133 : decode cX11_goTick 133 = .ok (.baload, 1) := by decide +kernel
theorem dX11_goTick_134 : decode cX11_goTick 134 = .ok (.ifCond .ne 7, 3) := by decide +kernel
theorem dX11_goTick_137 : decode cX11_goTick 137 = .ok (.iconst 1, 1) := by decide +kernel
theorem dX11_goTick_138 : decode cX11_goTick 138 = .ok (.goto 4, 3) := by decide +kernel
theorem dX11_goTick_141 : decode cX11_goTick 141 = .ok (.iconst 0, 1) := by decide +kernel
theorem dX11_goTick_142 : decode cX11_goTick 142 = .ok (.bastore, 1) := by decide +kernel
theorem dX11_goTick_143 : decode cX11_goTick 143 = .ok (.iinc 3 1, 3) := by decide +kernel
theorem dX11_goTick_146 : decode cX11_goTick 146 = .ok (.goto (-61), 3) := by decide +kernel
theorem dX11_goTick_149 : decode cX11_goTick 149 = .ok (.iload_n 2, 1) := by decide +kernel
theorem dX11_goTick_150 : decode cX11_goTick 150 = .ok (.ifCond .eq 8, 3) := by decide +kernel
theorem dX11_goTick_153 : decode cX11_goTick 153 = .ok (.aload_n 0, 1) := by decide +kernel
theorem dX11_goTick_154 : decode cX11_goTick 154 = .ok (.iload_n 1, 1) := by decide +kernel
theorem dX11_goTick_155 : decode cX11_goTick 155 = .ok (.invokevirtual 293, 3) := by decide +kernel
theorem dX11_goTick_158 : decode cX11_goTick 158 = .ok (.iinc 1 1, 3) := by decide +kernel
theorem dX11_goTick_161 : decode cX11_goTick 161 = .ok (.goto (-105), 3) := by decide +kernel
theorem dX11_goTick_164 : decode cX11_goTick 164 = .ok (.iconst 0, 1) := by decide +kernel
theorem dX11_goTick_165 : decode cX11_goTick 165 = .ok (.istore_n 1, 1) := by decide +kernel
theorem dX11_goTick_166 : decode cX11_goTick 166 = .ok (.iload_n 1, 1) := by decide +kernel
theorem dX11_goTick_167 : decode cX11_goTick 167 = .ok (.aload_n 0, 1) := by decide +kernel
theorem dX11_goTick_168 : decode cX11_goTick 168 = .ok (.getfield 281, 3) := by decide +kernel
theorem dX11_goTick_171 : decode cX11_goTick 171 = .ok (.if_icmp .ge 99, 3) := by decide +kernel
theorem dX11_goTick_174 : decode cX11_goTick 174 = .ok (.aload_n 0, 1) := by decide +kernel
theorem dX11_goTick_175 : decode cX11_goTick 175 = .ok (.getfield 89, 3) := by decide +kernel
theorem dX11_goTick_178 : decode cX11_goTick 178 = .ok (.iload_n 1, 1) := by decide +kernel
theorem dX11_goTick_179 : decode cX11_goTick 179 = .ok (.baload, 1) := by decide +kernel
theorem dX11_goTick_180 : decode cX11_goTick 180 = .ok (.ifCond .ne 84, 3) := by decide +kernel
theorem dX11_goTick_183 : decode cX11_goTick 183 = .ok (.aload_n 0, 1) := by decide +kernel
theorem dX11_goTick_184 : decode cX11_goTick 184 = .ok (.iload_n 1, 1) := by decide +kernel
theorem dX11_goTick_185 : decode cX11_goTick 185 = .ok (.invokevirtual 287, 3) := by decide +kernel
theorem dX11_goTick_188 : decode cX11_goTick 188 = .ok (.ifCond .eq 76, 3) := by decide +kernel
theorem dX11_goTick_191 : decode cX11_goTick 191 = .ok (.iconst 1, 1) := by decide +kernel
theorem dX11_goTick_192 : decode cX11_goTick 192 = .ok (.istore_n 2, 1) := by decide +kernel
theorem dX11_goTick_193 : decode cX11_goTick 193 = .ok (.iconst 0, 1) := by decide +kernel
theorem dX11_goTick_194 : decode cX11_goTick 194 = .ok (.istore_n 3, 1) := by decide +kernel
theorem dX11_goTick_195 : decode cX11_goTick 195 = .ok (.iload_n 3, 1) := by decide +kernel
theorem dX11_goTick_196 : decode cX11_goTick 196 = .ok (.aload_n 0, 1) := by decide +kernel
theorem dX11_goTick_197 : decode cX11_goTick 197 = .ok (.getfield 281, 3) := by decide +kernel
theorem dX11_goTick_200 : decode cX11_goTick 200 = .ok (.if_icmp .ge 55, 3) := by decide +kernel
theorem dX11_goTick_203 : decode cX11_goTick 203 = .ok (.iload_n 2, 1) := by decide +kernel
theorem dX11_goTick_204 : decode cX11_goTick 204 = .ok (.ifCond .eq 43, 3) := by decide +kernel
theorem dX11_goTick_207 : decode cX11_goTick 207 = .ok (.aload_n 0, 1) := by decide +kernel
theorem dX11_goTick_208 : decode cX11_goTick 208 = .ok (.iload_n 1, 1) := by decide +kernel
theorem dX11_goTick_209 : decode cX11_goTick 209 = .ok (.iload_n 3, 1) := by decide +kernel
theorem dX11_goTick_210 : decode cX11_goTick 210 = .ok (.invokevirtual 290, 3) := by decide +kernel
theorem dX11_goTick_213 : decode cX11_goTick 213 = .ok (.ifCond .eq 30, 3) := by decide +kernel
theorem dX11_goTick_216 : decode cX11_goTick 216 = .ok (.aload_n 0, 1) := by decide +kernel
theorem dX11_goTick_217 : decode cX11_goTick 217 = .ok (.getfield 93, 3) := by decide +kernel
theorem dX11_goTick_220 : decode cX11_goTick 220 = .ok (.iload_n 3, 1) := by decide +kernel
theorem dX11_goTick_221 : decode cX11_goTick 221 = .ok (.iaload, 1) := by decide +kernel
theorem dX11_goTick_222 : decode cX11_goTick 222 = .ok (.iconst 1, 1) := by decide +kernel
theorem dX11_goTick_223 : decode cX11_goTick 223 = .ok (.if_icmp .eq 24, 3) := by decide +kernel
theorem dX11_goTick_226 : decode cX11_goTick 226 = .ok (.aload_n 0, 1) := by decide +kernel
theorem dX11_goTick_227 : decode cX11_goTick 227 = .ok (.getfield 89, 3) := by decide +kernel
theorem dX11_goTick_230 : decode cX11_goTick 230 = .ok (.iload_n 3, 1) := by decide +kernel
theorem dX11_goTick_231 : decode cX11_goTick 231 = .ok (.baload, 1) := by decide +kernel
theorem dX11_goTick_232 : decode cX11_goTick 232 = .ok (.ifCond .eq 11, 3) := by decide +kernel
theorem dX11_goTick_235 : decode cX11_goTick 235 = .ok (.aload_n 0, 1) := by decide +kernel
theorem dX11_goTick_236 : decode cX11_goTick 236 = .ok (.iload_n 3, 1) := by decide +kernel
theorem dX11_goTick_237 : decode cX11_goTick 237 = .ok (.invokevirtual 287, 3) := by decide +kernel
theorem dX11_goTick_240 : decode cX11_goTick 240 = .ok (.ifCond .ne 7, 3) := by decide +kernel
theorem dX11_goTick_243 : decode cX11_goTick 243 = .ok (.iconst 1, 1) := by decide +kernel
theorem dX11_goTick_244 : decode cX11_goTick 244 = .ok (.goto 4, 3) := by decide +kernel
theorem dX11_goTick_247 : decode cX11_goTick 247 = .ok (.iconst 0, 1) := by decide +kernel
theorem dX11_goTick_248 : decode cX11_goTick 248 = .ok (.istore_n 2, 1) := by decide +kernel
theorem dX11_goTick_249 : decode cX11_goTick 249 = .ok (.iinc 3 1, 3) := by decide +kernel
theorem dX11_goTick_252 : decode cX11_goTick 252 = .ok (.goto (-57), 3) := by decide +kernel
theorem dX11_goTick_255 : decode cX11_goTick 255 = .ok (.iload_n 2, 1) := by decide +kernel
theorem dX11_goTick_256 : decode cX11_goTick 256 = .ok (.ifCond .eq 8, 3) := by decide +kernel
theorem dX11_goTick_259 : decode cX11_goTick 259 = .ok (.aload_n 0, 1) := by decide +kernel
theorem dX11_goTick_260 : decode cX11_goTick 260 = .ok (.iload_n 1, 1) := by decide +kernel
theorem dX11_goTick_261 : decode cX11_goTick 261 = .ok (.invokevirtual 293, 3) := by decide +kernel
theorem dX11_goTick_264 : decode cX11_goTick 264 = .ok (.iinc 1 1, 3) := by decide +kernel
theorem dX11_goTick_267 : decode cX11_goTick 267 = .ok (.goto (-101), 3) := by decide +kernel
theorem dX11_goTick_270 : decode cX11_goTick 270 = .ok (.iconst 0, 1) := by decide +kernel
theorem dX11_goTick_271 : decode cX11_goTick 271 = .ok (.istore_n 1, 1) := by decide +kernel
theorem dX11_goTick_272 : decode cX11_goTick 272 = .ok (.iload_n 1, 1) := by decide +kernel
theorem dX11_goTick_273 : decode cX11_goTick 273 = .ok (.aload_n 0, 1) := by decide +kernel
theorem dX11_goTick_274 : decode cX11_goTick 274 = .ok (.getfield 281, 3) := by decide +kernel
theorem dX11_goTick_277 : decode cX11_goTick 277 = .ok (.if_icmp .ge 24, 3) := by decide +kernel
theorem dX11_goTick_280 : decode cX11_goTick 280 = .ok (.aload_n 0, 1) := by decide +kernel
theorem dX11_goTick_281 : decode cX11_goTick 281 = .ok (.getfield 93, 3) := by decide +kernel
theorem dX11_goTick_284 : decode cX11_goTick 284 = .ok (.iload_n 1, 1) := by decide +kernel
theorem dX11_goTick_285 : decode cX11_goTick 285 = .ok (.iaload, 1) := by decide +kernel
theorem dX11_goTick_286 : decode cX11_goTick 286 = .ok (.iconst 1, 1) := by decide +kernel
theorem dX11_goTick_287 : decode cX11_goTick 287 = .ok (.if_icmp .ne 8, 3) := by decide +kernel
theorem dX11_goTick_290 : decode cX11_goTick 290 = .ok (.aload_n 0, 1) := by decide +kernel
theorem dX11_goTick_291 : decode cX11_goTick 291 = .ok (.iload_n 1, 1) := by decide +kernel
theorem dX11_goTick_292 : decode cX11_goTick 292 = .ok (.invokevirtual 296, 3) := by decide +kernel
theorem dX11_goTick_295 : decode cX11_goTick 295 = .ok (.iinc 1 1, 3) := by decide +kernel
theorem dX11_goTick_298 : decode cX11_goTick 298 = .ok (.goto (-26), 3) := by decide +kernel
theorem dX11_goTick_301 : decode cX11_goTick 301 = .ok (.aload_n 0, 1) := by decide +kernel
theorem dX11_goTick_302 : decode cX11_goTick 302 = .ok (.dup, 1) := by decide +kernel
theorem dX11_goTick_303 : decode cX11_goTick 303 = .ok (.getfield 284, 3) := by decide +kernel
theorem dX11_goTick_306 : decode cX11_goTick 306 = .ok (.iconst 1, 1) := by decide +kernel
theorem dX11_goTick_307 : decode cX11_goTick 307 = .ok (.iadd, 1) := by decide +kernel
theorem dX11_goTick_308 : decode cX11_goTick 308 = .ok (.putfield 284, 3) := by decide +kernel
theorem dX11_goTick_311 : decode cX11_goTick 311 = .ok (.return_, 1) := by decide +kernel
theorem dX11_sayOne_0 : decode cX11_sayOne 0 = .ok (.aload_n 0, 1) := by decide +kernel
theorem dX11_sayOne_1 : decode cX11_sayOne 1 = .ok (.getfield 96, 3) := by decide +kernel
theorem dX11_sayOne_4 : decode cX11_sayOne 4 = .ok (.iload_n 1, 1) := by decide +kernel
theorem dX11_sayOne_5 : decode cX11_sayOne 5 = .ok (.dup2, 1) := by decide +kernel
theorem dX11_sayOne_6 : decode cX11_sayOne 6 = .ok (.iaload, 1) := by decide +kernel
theorem dX11_sayOne_7 : decode cX11_sayOne 7 = .ok (.iconst 1, 1) := by decide +kernel
theorem dX11_sayOne_8 : decode cX11_sayOne 8 = .ok (.iadd, 1) := by decide +kernel
theorem dX11_sayOne_9 : decode cX11_sayOne 9 = .ok (.iastore, 1) := by decide +kernel
theorem dX11_sayOne_10 : decode cX11_sayOne 10 = .ok (.iconst 0, 1) := by decide +kernel
theorem dX11_sayOne_11 : decode cX11_sayOne 11 = .ok (.istore_n 2, 1) := by decide +kernel
theorem dX11_sayOne_12 : decode cX11_sayOne 12 = .ok (.iconst 0, 1) := by decide +kernel
theorem dX11_sayOne_13 : decode cX11_sayOne 13 = .ok (.istore_n 3, 1) := by decide +kernel
theorem dX11_sayOne_14 : decode cX11_sayOne 14 = .ok (.iload_n 3, 1) := by decide +kernel
theorem dX11_sayOne_15 : decode cX11_sayOne 15 = .ok (.bipush 16, 2) := by decide +kernel
theorem dX11_sayOne_17 : decode cX11_sayOne 17 = .ok (.if_icmp .ge 39, 3) := by decide +kernel
theorem dX11_sayOne_20 : decode cX11_sayOne 20 = .ok (.iload_n 2, 1) := by decide +kernel
theorem dX11_sayOne_21 : decode cX11_sayOne 21 = .ok (.ifCond .ne 23, 3) := by decide +kernel
theorem dX11_sayOne_24 : decode cX11_sayOne 24 = .ok (.aload_n 0, 1) := by decide +kernel
theorem dX11_sayOne_25 : decode cX11_sayOne 25 = .ok (.getfield 108, 3) := by decide +kernel
theorem dX11_sayOne_28 : decode cX11_sayOne 28 = .ok (.bipush 16, 2) := by decide +kernel
theorem dX11_sayOne_30 : decode cX11_sayOne 30 = .ok (.iload_n 1, 1) := by decide +kernel
theorem dX11_sayOne_31 : decode cX11_sayOne 31 = .ok (.imul, 1) := by decide +kernel
theorem dX11_sayOne_32 : decode cX11_sayOne 32 = .ok (.iload_n 3, 1) := by decide +kernel
theorem dX11_sayOne_33 : decode cX11_sayOne 33 = .ok (.iadd, 1) := by decide +kernel
theorem dX11_sayOne_34 : decode cX11_sayOne 34 = .ok (.iaload, 1) := by decide +kernel
theorem dX11_sayOne_35 : decode cX11_sayOne 35 = .ok (.aload_n 0, 1) := by decide +kernel
theorem dX11_sayOne_36 : decode cX11_sayOne 36 = .ok (.getfield 96, 3) := by decide +kernel
theorem dX11_sayOne_39 : decode cX11_sayOne 39 = .ok (.iload_n 1, 1) := by decide +kernel
theorem dX11_sayOne_40 : decode cX11_sayOne 40 = .ok (.iaload, 1) := by decide +kernel
theorem dX11_sayOne_41 : decode cX11_sayOne 41 = .ok (.if_icmp .ne 7, 3) := by decide +kernel
theorem dX11_sayOne_44 : decode cX11_sayOne 44 = .ok (.iconst 1, 1) := by decide +kernel
theorem dX11_sayOne_45 : decode cX11_sayOne 45 = .ok (.goto 4, 3) := by decide +kernel
theorem dX11_sayOne_48 : decode cX11_sayOne 48 = .ok (.iconst 0, 1) := by decide +kernel
theorem dX11_sayOne_49 : decode cX11_sayOne 49 = .ok (.istore_n 2, 1) := by decide +kernel
theorem dX11_sayOne_50 : decode cX11_sayOne 50 = .ok (.iinc 3 1, 3) := by decide +kernel
theorem dX11_sayOne_53 : decode cX11_sayOne 53 = .ok (.goto (-39), 3) := by decide +kernel
theorem dX11_sayOne_56 : decode cX11_sayOne 56 = .ok (.aload_n 0, 1) := by decide +kernel
theorem dX11_sayOne_57 : decode cX11_sayOne 57 = .ok (.getfield 93, 3) := by decide +kernel
theorem dX11_sayOne_60 : decode cX11_sayOne 60 = .ok (.iload_n 1, 1) := by decide +kernel
theorem dX11_sayOne_61 : decode cX11_sayOne 61 = .ok (.aload_n 0, 1) := by decide +kernel
theorem dX11_sayOne_62 : decode cX11_sayOne 62 = .ok (.getfield 96, 3) := by decide +kernel
theorem dX11_sayOne_65 : decode cX11_sayOne 65 = .ok (.iload_n 1, 1) := by decide +kernel
theorem dX11_sayOne_66 : decode cX11_sayOne 66 = .ok (.iaload, 1) := by decide +kernel
theorem dX11_sayOne_67 : decode cX11_sayOne 67 = .ok (.aload_n 0, 1) := by decide +kernel
theorem dX11_sayOne_68 : decode cX11_sayOne 68 = .ok (.getfield 105, 3) := by decide +kernel
theorem dX11_sayOne_71 : decode cX11_sayOne 71 = .ok (.iload_n 1, 1) := by decide +kernel
theorem dX11_sayOne_72 : decode cX11_sayOne 72 = .ok (.iaload, 1) := by decide +kernel
theorem dX11_sayOne_73 : decode cX11_sayOne 73 = .ok (.if_icmp .ne 7, 3) := by decide +kernel
theorem dX11_sayOne_76 : decode cX11_sayOne 76 = .ok (.iconst 2, 1) := by decide +kernel
theorem dX11_sayOne_77 : decode cX11_sayOne 77 = .ok (.goto 21, 3) := by decide +kernel
theorem dX11_sayOne_80 : decode cX11_sayOne 80 = .ok (.iload_n 2, 1) := by decide +kernel
theorem dX11_sayOne_81 : decode cX11_sayOne 81 = .ok (.ifCond .eq 16, 3) := by decide +kernel
theorem dX11_sayOne_84 : decode cX11_sayOne 84 = .ok (.aload_n 0, 1) := by decide +kernel
theorem dX11_sayOne_85 : decode cX11_sayOne 85 = .ok (.getfield 102, 3) := by decide +kernel
theorem dX11_sayOne_88 : decode cX11_sayOne 88 = .ok (.iload_n 1, 1) := by decide +kernel
theorem dX11_sayOne_89 : decode cX11_sayOne 89 = .ok (.baload, 1) := by decide +kernel
theorem dX11_sayOne_90 : decode cX11_sayOne 90 = .ok (.ifCond .eq 7, 3) := by decide +kernel
theorem dX11_sayOne_93 : decode cX11_sayOne 93 = .ok (.iconst 3, 1) := by decide +kernel
theorem dX11_sayOne_94 : decode cX11_sayOne 94 = .ok (.goto 4, 3) := by decide +kernel
theorem dX11_sayOne_97 : decode cX11_sayOne 97 = .ok (.iconst 1, 1) := by decide +kernel
theorem dX11_sayOne_98 : decode cX11_sayOne 98 = .ok (.iastore, 1) := by decide +kernel
theorem dX11_sayOne_99 : decode cX11_sayOne 99 = .ok (.return_, 1) := by decide +kernel
theorem dX11_run_0 : decode cX11_run 0 = .ok (.iload_n 1, 1) := by decide +kernel
theorem dX11_run_1 : decode cX11_run 1 = .ok (.iconst 1, 1) := by decide +kernel
theorem dX11_run_2 : decode cX11_run 2 = .ok (.bipush 100, 2) := by decide +kernel
theorem dX11_run_4 : decode cX11_run 4 = .ok (.invokestatic 120, 3) := by decide +kernel
theorem dX11_run_7 : decode cX11_run 7 = .ok (.ifCond .eq 15, 3) := by decide +kernel
theorem dX11_run_10 : decode cX11_run 10 = .ok (.aload_n 0, 1) := by decide +kernel
theorem dX11_run_11 : decode cX11_run 11 = .ok (.getfield 284, 3) := by decide +kernel
theorem dX11_run_14 : decode cX11_run 14 = .ok (.iload_n 1, 1) := by decide +kernel
theorem dX11_run_15 : decode cX11_run 15 = .ok (.iadd, 1) := by decide +kernel
theorem dX11_run_16 : decode cX11_run 16 = .ok (.sipush 2000, 3) := by decide +kernel
theorem dX11_run_19 : decode cX11_run 19 = .ok (.if_icmp .le 6, 3) := by decide +kernel
theorem dX11_run_22 : decode cX11_run 22 = .ok (.bipush (-3), 2) := by decide +kernel
theorem dX11_run_24 : decode cX11_run 24 = .ok (.ireturn, 1) := by decide +kernel
theorem dX11_run_25 : decode cX11_run 25 = .ok (.iconst 0, 1) := by decide +kernel
theorem dX11_run_26 : decode cX11_run 26 = .ok (.istore_n 2, 1) := by decide +kernel
theorem dX11_run_27 : decode cX11_run 27 = .ok (.iload_n 2, 1) := by decide +kernel
theorem dX11_run_28 : decode cX11_run 28 = .ok (.iload_n 1, 1) := by decide +kernel
theorem dX11_run_29 : decode cX11_run 29 = .ok (.if_icmp .ge 13, 3) := by decide +kernel
theorem dX11_run_32 : decode cX11_run 32 = .ok (.aload_n 0, 1) := by decide +kernel
theorem dX11_run_33 : decode cX11_run 33 = .ok (.invokevirtual 299, 3) := by decide +kernel
theorem dX11_run_36 : decode cX11_run 36 = .ok (.iinc 2 1, 3) := by decide +kernel
theorem dX11_run_39 : decode cX11_run 39 = .ok (.goto (-12), 3) := by decide +kernel
theorem dX11_run_42 : decode cX11_run 42 = .ok (.aload_n 0, 1) := by decide +kernel
theorem dX11_run_43 : decode cX11_run 43 = .ok (.getfield 284, 3) := by decide +kernel
theorem dX11_run_46 : decode cX11_run 46 = .ok (.ireturn, 1) := by decide +kernel
theorem dX11_heard_0 : decode cX11_heard 0 = .ok (.iload_n 1, 1) := by decide +kernel
theorem dX11_heard_1 : decode cX11_heard 1 = .ok (.iconst 0, 1) := by decide +kernel
theorem dX11_heard_2 : decode cX11_heard 2 = .ok (.aload_n 0, 1) := by decide +kernel
theorem dX11_heard_3 : decode cX11_heard 3 = .ok (.getfield 281, 3) := by decide +kernel
theorem dX11_heard_6 : decode cX11_heard 6 = .ok (.iconst 1, 1) := by decide +kernel
theorem dX11_heard_7 : decode cX11_heard 7 = .ok (.isub, 1) := by decide +kernel
theorem dX11_heard_8 : decode cX11_heard 8 = .ok (.invokestatic 120, 3) := by decide +kernel
theorem dX11_heard_11 : decode cX11_heard 11 = .ok (.ifCond .ne 6, 3) := by decide +kernel
theorem dX11_heard_14 : decode cX11_heard 14 = .ok (.bipush (-2), 2) := by decide +kernel
theorem dX11_heard_16 : decode cX11_heard 16 = .ok (.ireturn, 1) := by decide +kernel
theorem dX11_heard_17 : decode cX11_heard 17 = .ok (.iload_n 2, 1) := by decide +kernel
theorem dX11_heard_18 : decode cX11_heard 18 = .ok (.ifCond .ne 12, 3) := by decide +kernel
theorem dX11_heard_21 : decode cX11_heard 21 = .ok (.aload_n 0, 1) := by decide +kernel
theorem dX11_heard_22 : decode cX11_heard 22 = .ok (.getfield 93, 3) := by decide +kernel
theorem dX11_heard_25 : decode cX11_heard 25 = .ok (.iload_n 1, 1) := by decide +kernel
theorem dX11_heard_26 : decode cX11_heard 26 = .ok (.iaload, 1) := by decide +kernel
theorem dX11_heard_27 : decode cX11_heard 27 = .ok (.goto 33, 3) := by decide +kernel
theorem dX11_heard_30 : decode cX11_heard 30 = .ok (.iload_n 2, 1) := by decide +kernel
theorem dX11_heard_31 : decode cX11_heard 31 = .ok (.iconst 1, 1) := by decide +kernel
theorem dX11_heard_32 : decode cX11_heard 32 = .ok (.if_icmp .ne 12, 3) := by decide +kernel
theorem dX11_heard_35 : decode cX11_heard 35 = .ok (.aload_n 0, 1) := by decide +kernel
theorem dX11_heard_36 : decode cX11_heard 36 = .ok (.getfield 96, 3) := by decide +kernel
theorem dX11_heard_39 : decode cX11_heard 39 = .ok (.iload_n 1, 1) := by decide +kernel
theorem dX11_heard_40 : decode cX11_heard 40 = .ok (.iaload, 1) := by decide +kernel
theorem dX11_heard_41 : decode cX11_heard 41 = .ok (.goto 19, 3) := by decide +kernel
theorem dX11_heard_44 : decode cX11_heard 44 = .ok (.iload_n 2, 1) := by decide +kernel
theorem dX11_heard_45 : decode cX11_heard 45 = .ok (.iconst 2, 1) := by decide +kernel
theorem dX11_heard_46 : decode cX11_heard 46 = .ok (.if_icmp .ne 12, 3) := by decide +kernel
theorem dX11_heard_49 : decode cX11_heard 49 = .ok (.aload_n 0, 1) := by decide +kernel
theorem dX11_heard_50 : decode cX11_heard 50 = .ok (.getfield 99, 3) := by decide +kernel
theorem dX11_heard_53 : decode cX11_heard 53 = .ok (.iload_n 1, 1) := by decide +kernel
theorem dX11_heard_54 : decode cX11_heard 54 = .ok (.iaload, 1) := by decide +kernel
theorem dX11_heard_55 : decode cX11_heard 55 = .ok (.goto 5, 3) := by decide +kernel
theorem dX11_heard_58 : decode cX11_heard 58 = .ok (.bipush (-3), 2) := by decide +kernel
theorem dX11_heard_60 : decode cX11_heard 60 = .ok (.ireturn, 1) := by decide +kernel
theorem dX11_speaks_0 : decode cX11_speaks 0 = .ok (.iload_n 1, 1) := by decide +kernel
theorem dX11_speaks_1 : decode cX11_speaks 1 = .ok (.invokestatic 278, 3) := by decide +kernel
theorem dX11_speaks_4 : decode cX11_speaks 4 = .ok (.ifCond .ne 6, 3) := by decide +kernel
theorem dX11_speaks_7 : decode cX11_speaks 7 = .ok (.bipush (-2), 2) := by decide +kernel
theorem dX11_speaks_9 : decode cX11_speaks 9 = .ok (.ireturn, 1) := by decide +kernel
theorem dX11_speaks_10 : decode cX11_speaks 10 = .ok (.iconst (-1), 1) := by decide +kernel
theorem dX11_speaks_11 : decode cX11_speaks 11 = .ok (.istore_n 2, 1) := by decide +kernel
theorem dX11_speaks_12 : decode cX11_speaks 12 = .ok (.iconst 0, 1) := by decide +kernel
theorem dX11_speaks_13 : decode cX11_speaks 13 = .ok (.istore_n 3, 1) := by decide +kernel
theorem dX11_speaks_14 : decode cX11_speaks 14 = .ok (.iload_n 3, 1) := by decide +kernel
theorem dX11_speaks_15 : decode cX11_speaks 15 = .ok (.aload_n 0, 1) := by decide +kernel
theorem dX11_speaks_16 : decode cX11_speaks 16 = .ok (.getfield 281, 3) := by decide +kernel
theorem dX11_speaks_19 : decode cX11_speaks 19 = .ok (.if_icmp .ge 35, 3) := by decide +kernel
theorem dX11_speaks_22 : decode cX11_speaks 22 = .ok (.aload_n 0, 1) := by decide +kernel
theorem dX11_speaks_23 : decode cX11_speaks 23 = .ok (.getfield 93, 3) := by decide +kernel
theorem dX11_speaks_26 : decode cX11_speaks 26 = .ok (.iload_n 3, 1) := by decide +kernel
theorem dX11_speaks_27 : decode cX11_speaks 27 = .ok (.iaload, 1) := by decide +kernel
theorem dX11_speaks_28 : decode cX11_speaks 28 = .ok (.iconst 1, 1) := by decide +kernel
theorem dX11_speaks_29 : decode cX11_speaks 29 = .ok (.if_icmp .ne 17, 3) := by decide +kernel
theorem dX11_speaks_32 : decode cX11_speaks 32 = .ok (.aload_n 0, 1) := by decide +kernel
theorem dX11_speaks_33 : decode cX11_speaks 33 = .ok (.getfield 74, 3) := by decide +kernel
theorem dX11_speaks_36 : decode cX11_speaks 36 = .ok (.iload_n 3, 1) := by decide +kernel
theorem dX11_speaks_37 : decode cX11_speaks 37 = .ok (.iaload, 1) := by decide +kernel
theorem dX11_speaks_38 : decode cX11_speaks 38 = .ok (.iload_n 1, 1) := by decide +kernel
theorem dX11_speaks_39 : decode cX11_speaks 39 = .ok (.if_icmp .ne 7, 3) := by decide +kernel
theorem dX11_speaks_42 : decode cX11_speaks 42 = .ok (.iload_n 3, 1) := by decide +kernel
theorem dX11_speaks_43 : decode cX11_speaks 43 = .ok (.goto 4, 3) := by decide +kernel
theorem dX11_speaks_46 : decode cX11_speaks 46 = .ok (.iload_n 2, 1) := by decide +kernel
theorem dX11_speaks_47 : decode cX11_speaks 47 = .ok (.istore_n 2, 1) := by decide +kernel
theorem dX11_speaks_48 : decode cX11_speaks 48 = .ok (.iinc 3 1, 3) := by decide +kernel
theorem dX11_speaks_51 : decode cX11_speaks 51 = .ok (.goto (-37), 3) := by decide +kernel
theorem dX11_speaks_54 : decode cX11_speaks 54 = .ok (.iload_n 2, 1) := by decide +kernel
theorem dX11_speaks_55 : decode cX11_speaks 55 = .ok (.ireturn, 1) := by decide +kernel
theorem dX11_voice_0 : decode cX11_voice 0 = .ok (.iload_n 1, 1) := by decide +kernel
theorem dX11_voice_1 : decode cX11_voice 1 = .ok (.invokestatic 278, 3) := by decide +kernel
theorem dX11_voice_4 : decode cX11_voice 4 = .ok (.ifCond .ne 6, 3) := by decide +kernel
theorem dX11_voice_7 : decode cX11_voice 7 = .ok (.bipush (-2), 2) := by decide +kernel
theorem dX11_voice_9 : decode cX11_voice 9 = .ok (.ireturn, 1) := by decide +kernel
theorem dX11_voice_10 : decode cX11_voice 10 = .ok (.iload_n 2, 1) := by decide +kernel
theorem dX11_voice_11 : decode cX11_voice 11 = .ok (.ifCond .ne 12, 3) := by decide +kernel
theorem dX11_voice_14 : decode cX11_voice 14 = .ok (.aload_n 0, 1) := by decide +kernel
theorem dX11_voice_15 : decode cX11_voice 15 = .ok (.getfield 68, 3) := by decide +kernel
theorem dX11_voice_18 : decode cX11_voice 18 = .ok (.iload_n 1, 1) := by decide +kernel
theorem dX11_voice_19 : decode cX11_voice 19 = .ok (.iaload, 1) := by decide +kernel
theorem dX11_voice_20 : decode cX11_voice 20 = .ok (.goto 19, 3) := by decide +kernel
theorem dX11_voice_23 : decode cX11_voice 23 = .ok (.iload_n 2, 1) := by decide +kernel
theorem dX11_voice_24 : decode cX11_voice 24 = .ok (.iconst 1, 1) := by decide +kernel
theorem dX11_voice_25 : decode cX11_voice 25 = .ok (.if_icmp .ne 12, 3) := by decide +kernel
theorem dX11_voice_28 : decode cX11_voice 28 = .ok (.aload_n 0, 1) := by decide +kernel
theorem dX11_voice_29 : decode cX11_voice 29 = .ok (.getfield 71, 3) := by decide +kernel
theorem dX11_voice_32 : decode cX11_voice 32 = .ok (.iload_n 1, 1) := by decide +kernel
theorem dX11_voice_33 : decode cX11_voice 33 = .ok (.iaload, 1) := by decide +kernel
theorem dX11_voice_34 : decode cX11_voice 34 = .ok (.goto 5, 3) := by decide +kernel
theorem dX11_voice_37 : decode cX11_voice 37 = .ok (.bipush (-3), 2) := by decide +kernel
theorem dX11_voice_39 : decode cX11_voice 39 = .ok (.ireturn, 1) := by decide +kernel
theorem dX11_wish_0 : decode cX11_wish 0 = .ok (.iload_n 1, 1) := by decide +kernel
theorem dX11_wish_1 : decode cX11_wish 1 = .ok (.invokestatic 278, 3) := by decide +kernel
theorem dX11_wish_4 : decode cX11_wish 4 = .ok (.ifCond .ne 6, 3) := by decide +kernel
theorem dX11_wish_7 : decode cX11_wish 7 = .ok (.bipush (-2), 2) := by decide +kernel
theorem dX11_wish_9 : decode cX11_wish 9 = .ok (.ireturn, 1) := by decide +kernel
theorem dX11_wish_10 : decode cX11_wish 10 = .ok (.iload_n 2, 1) := by decide +kernel
theorem dX11_wish_11 : decode cX11_wish 11 = .ok (.iconst 0, 1) := by decide +kernel
theorem dX11_wish_12 : decode cX11_wish 12 = .ok (.iconst 3, 1) := by decide +kernel
theorem dX11_wish_13 : decode cX11_wish 13 = .ok (.invokestatic 120, 3) := by decide +kernel
theorem dX11_wish_16 : decode cX11_wish 16 = .ok (.ifCond .eq 12, 3) := by decide +kernel
theorem dX11_wish_19 : decode cX11_wish 19 = .ok (.iload_n 3, 1) := by decide +kernel
theorem dX11_wish_20 : decode cX11_wish 20 = .ok (.iconst 1, 1) := by decide +kernel
theorem dX11_wish_21 : decode cX11_wish 21 = .ok (.iconst 5, 1) := by decide +kernel
theorem dX11_wish_22 : decode cX11_wish 22 = .ok (.invokestatic 120, 3) := by decide +kernel
theorem dX11_wish_25 : decode cX11_wish 25 = .ok (.ifCond .ne 6, 3) := by decide +kernel
theorem dX11_wish_28 : decode cX11_wish 28 = .ok (.bipush (-3), 2) := by decide +kernel
theorem dX11_wish_30 : decode cX11_wish 30 = .ok (.ireturn, 1) := by decide +kernel
theorem dX11_wish_31 : decode cX11_wish 31 = .ok (.aload_n 0, 1) := by decide +kernel
theorem dX11_wish_32 : decode cX11_wish 32 = .ok (.getfield 68, 3) := by decide +kernel
theorem dX11_wish_35 : decode cX11_wish 35 = .ok (.iload_n 1, 1) := by decide +kernel
theorem dX11_wish_36 : decode cX11_wish 36 = .ok (.iaload, 1) := by decide +kernel
theorem dX11_wish_37 : decode cX11_wish 37 = .ok (.istore 4, 2) := by decide +kernel
theorem dX11_wish_39 : decode cX11_wish 39 = .ok (.aload_n 0, 1) := by decide +kernel
theorem dX11_wish_40 : decode cX11_wish 40 = .ok (.getfield 68, 3) := by decide +kernel
theorem dX11_wish_43 : decode cX11_wish 43 = .ok (.iload_n 1, 1) := by decide +kernel
theorem dX11_wish_44 : decode cX11_wish 44 = .ok (.iload_n 2, 1) := by decide +kernel
theorem dX11_wish_45 : decode cX11_wish 45 = .ok (.iastore, 1) := by decide +kernel
theorem dX11_wish_46 : decode cX11_wish 46 = .ok (.aload_n 0, 1) := by decide +kernel
theorem dX11_wish_47 : decode cX11_wish 47 = .ok (.getfield 71, 3) := by decide +kernel
theorem dX11_wish_50 : decode cX11_wish 50 = .ok (.iload_n 1, 1) := by decide +kernel
theorem dX11_wish_51 : decode cX11_wish 51 = .ok (.iload_n 3, 1) := by decide +kernel
theorem dX11_wish_52 : decode cX11_wish 52 = .ok (.iastore, 1) := by decide +kernel
theorem dX11_wish_53 : decode cX11_wish 53 = .ok (.iload 4, 2) := by decide +kernel
theorem dX11_wish_55 : decode cX11_wish 55 = .ok (.ireturn, 1) := by decide +kernel
theorem dX11_change_0 : decode cX11_change 0 = .ok (.iload_n 1, 1) := by decide +kernel
theorem dX11_change_1 : decode cX11_change 1 = .ok (.iconst 0, 1) := by decide +kernel
theorem dX11_change_2 : decode cX11_change 2 = .ok (.iconst 3, 1) := by decide +kernel
theorem dX11_change_3 : decode cX11_change 3 = .ok (.invokestatic 120, 3) := by decide +kernel
theorem dX11_change_6 : decode cX11_change 6 = .ok (.ifCond .ne 6, 3) := by decide +kernel
theorem dX11_change_9 : decode cX11_change 9 = .ok (.bipush (-3), 2) := by decide +kernel
theorem dX11_change_11 : decode cX11_change 11 = .ok (.ireturn, 1) := by decide +kernel
theorem dX11_change_12 : decode cX11_change 12 = .ok (.iconst 0, 1) := by decide +kernel
theorem dX11_change_13 : decode cX11_change 13 = .ok (.istore_n 2, 1) := by decide +kernel
theorem dX11_change_14 : decode cX11_change 14 = .ok (.iconst 0, 1) := by decide +kernel
theorem dX11_change_15 : decode cX11_change 15 = .ok (.istore_n 3, 1) := by decide +kernel
theorem dX11_change_16 : decode cX11_change 16 = .ok (.iload_n 3, 1) := by decide +kernel
theorem dX11_change_17 : decode cX11_change 17 = .ok (.bipush 6, 2) := by decide +kernel
theorem dX11_change_19 : decode cX11_change 19 = .ok (.if_icmp .ge 56, 3) := by decide +kernel
theorem dX11_change_22 : decode cX11_change 22 = .ok (.aload_n 0, 1) := by decide +kernel
theorem dX11_change_23 : decode cX11_change 23 = .ok (.getfield 71, 3) := by decide +kernel
theorem dX11_change_26 : decode cX11_change 26 = .ok (.iload_n 3, 1) := by decide +kernel
theorem dX11_change_27 : decode cX11_change 27 = .ok (.iaload, 1) := by decide +kernel
theorem dX11_change_28 : decode cX11_change 28 = .ok (.ifCond .le 16, 3) := by decide +kernel
theorem dX11_change_31 : decode cX11_change 31 = .ok (.aload_n 0, 1) := by decide +kernel
theorem dX11_change_32 : decode cX11_change 32 = .ok (.getfield 71, 3) := by decide +kernel
theorem dX11_change_35 : decode cX11_change 35 = .ok (.iload_n 3, 1) := by decide +kernel
theorem dX11_change_36 : decode cX11_change 36 = .ok (.dup2, 1) := by decide +kernel
theorem dX11_change_37 : decode cX11_change 37 = .ok (.iaload, 1) := by decide +kernel
theorem dX11_change_38 : decode cX11_change 38 = .ok (.iconst 1, 1) := by decide +kernel
theorem dX11_change_39 : decode cX11_change 39 = .ok (.isub, 1) := by decide +kernel
theorem dX11_change_40 : decode cX11_change 40 = .ok (.iastore, 1) := by decide +kernel
theorem dX11_change_41 : decode cX11_change 41 = .ok (.goto 10, 3) := by decide +kernel
theorem dX11_change_44 : decode cX11_change 44 = .ok (.aload_n 0, 1) := by decide +kernel
theorem dX11_change_45 : decode cX11_change 45 = .ok (.getfield 68, 3) := by decide +kernel
theorem dX11_change_48 : decode cX11_change 48 = .ok (.iload_n 3, 1) := by decide +kernel
theorem dX11_change_49 : decode cX11_change 49 = .ok (.iload_n 1, 1) := by decide +kernel
theorem dX11_change_50 : decode cX11_change 50 = .ok (.iastore, 1) := by decide +kernel
theorem dX11_change_51 : decode cX11_change 51 = .ok (.iload_n 2, 1) := by decide +kernel
theorem dX11_change_52 : decode cX11_change 52 = .ok (.aload_n 0, 1) := by decide +kernel
theorem dX11_change_53 : decode cX11_change 53 = .ok (.getfield 68, 3) := by decide +kernel
theorem dX11_change_56 : decode cX11_change 56 = .ok (.iload_n 3, 1) := by decide +kernel
theorem dX11_change_57 : decode cX11_change 57 = .ok (.iaload, 1) := by decide +kernel
theorem dX11_change_58 : decode cX11_change 58 = .ok (.iload_n 1, 1) := by decide +kernel
theorem dX11_change_59 : decode cX11_change 59 = .ok (.if_icmp .ne 7, 3) := by decide +kernel
theorem dX11_change_62 : decode cX11_change 62 = .ok (.iconst 1, 1) := by decide +kernel
theorem dX11_change_63 : decode cX11_change 63 = .ok (.goto 4, 3) := by decide +kernel
theorem dX11_change_66 : decode cX11_change 66 = .ok (.iconst 0, 1) := by decide +kernel
theorem dX11_change_67 : decode cX11_change 67 = .ok (.iadd, 1) := by decide +kernel
theorem dX11_change_68 : decode cX11_change 68 = .ok (.istore_n 2, 1) := by decide +kernel
theorem dX11_change_69 : decode cX11_change 69 = .ok (.iinc 3 1, 3) := by decide +kernel
theorem dX11_change_72 : decode cX11_change 72 = .ok (.goto (-56), 3) := by decide +kernel
theorem dX11_change_75 : decode cX11_change 75 = .ok (.iload_n 2, 1) := by decide +kernel
theorem dX11_change_76 : decode cX11_change 76 = .ok (.ireturn, 1) := by decide +kernel
theorem dX11_clearSteps_0 : decode cX11_clearSteps 0 = .ok (.iconst 0, 1) := by decide +kernel
theorem dX11_clearSteps_1 : decode cX11_clearSteps 1 = .ok (.istore_n 2, 1) := by decide +kernel
theorem dX11_clearSteps_2 : decode cX11_clearSteps 2 = .ok (.iload_n 2, 1) := by decide +kernel
theorem dX11_clearSteps_3 : decode cX11_clearSteps 3 = .ok (.bipush 17, 2) := by decide +kernel
theorem dX11_clearSteps_5 : decode cX11_clearSteps 5 = .ok (.if_icmp .ge 13, 3) := by decide +kernel
theorem dX11_clearSteps_8 : decode cX11_clearSteps 8 = .ok (.aload_n 1, 1) := by decide +kernel
theorem dX11_clearSteps_9 : decode cX11_clearSteps 9 = .ok (.iload_n 2, 1) := by decide +kernel
theorem dX11_clearSteps_10 : decode cX11_clearSteps 10 = .ok (.iconst 0, 1) := by decide +kernel
theorem dX11_clearSteps_11 : decode cX11_clearSteps 11 = .ok (.iastore, 1) := by decide +kernel
theorem dX11_clearSteps_12 : decode cX11_clearSteps 12 = .ok (.iinc 2 1, 3) := by decide +kernel
theorem dX11_clearSteps_15 : decode cX11_clearSteps 15 = .ok (.goto (-13), 3) := by decide +kernel
theorem dX11_clearSteps_18 : decode cX11_clearSteps 18 = .ok (.return_, 1) := by decide +kernel
theorem dX11_addSteps_0 : decode cX11_addSteps 0 = .ok (.bipush 16, 2) := by decide +kernel
theorem dX11_addSteps_2 : decode cX11_addSteps 2 = .ok (.istore 4, 2) := by decide +kernel
theorem dX11_addSteps_4 : decode cX11_addSteps 4 = .ok (.iload_n 2, 1) := by decide +kernel
theorem dX11_addSteps_5 : decode cX11_addSteps 5 = .ok (.istore 5, 2) := by decide +kernel
theorem dX11_addSteps_7 : decode cX11_addSteps 7 = .ok (.iload 5, 2) := by decide +kernel
theorem dX11_addSteps_9 : decode cX11_addSteps 9 = .ok (.iload_n 2, 1) := by decide +kernel
theorem dX11_addSteps_10 : decode cX11_addSteps 10 = .ok (.iload_n 3, 1) := by decide +kernel
theorem dX11_addSteps_11 : decode cX11_addSteps 11 = .ok (.iadd, 1) := by decide +kernel
theorem dX11_addSteps_12 : decode cX11_addSteps 12 = .ok (.if_icmp .ge 72, 3) := by decide +kernel
theorem dX11_addSteps_15 : decode cX11_addSteps 15 = .ok (.iconst 0, 1) := by decide +kernel
theorem dX11_addSteps_16 : decode cX11_addSteps 16 = .ok (.istore 6, 2) := by decide +kernel
theorem dX11_addSteps_18 : decode cX11_addSteps 18 = .ok (.iload 6, 2) := by decide +kernel
theorem dX11_addSteps_20 : decode cX11_addSteps 20 = .ok (.aload_n 0, 1) := by decide +kernel
theorem dX11_addSteps_21 : decode cX11_addSteps 21 = .ok (.getfield 50, 3) := by decide +kernel
theorem dX11_addSteps_24 : decode cX11_addSteps 24 = .ok (.aload_n 0, 1) := by decide +kernel
theorem dX11_addSteps_25 : decode cX11_addSteps 25 = .ok (.getfield 62, 3) := by decide +kernel
theorem dX11_addSteps_28 : decode cX11_addSteps 28 = .ok (.iload 5, 2) := by decide +kernel
theorem dX11_addSteps_30 : decode cX11_addSteps 30 = .ok (.iaload, 1) := by decide +kernel
theorem dX11_addSteps_31 : decode cX11_addSteps 31 = .ok (.iaload, 1) := by decide +kernel
theorem dX11_addSteps_32 : decode cX11_addSteps 32 = .ok (.if_icmp .ge 46, 3) := by decide +kernel
theorem dX11_addSteps_35 : decode cX11_addSteps 35 = .ok (.aload_n 0, 1) := by decide +kernel
theorem dX11_addSteps_36 : decode cX11_addSteps 36 = .ok (.getfield 53, 3) := by decide +kernel
theorem dX11_addSteps_39 : decode cX11_addSteps 39 = .ok (.bipush 8, 2) := by decide +kernel
theorem dX11_addSteps_41 : decode cX11_addSteps 41 = .ok (.aload_n 0, 1) := by decide +kernel
theorem dX11_addSteps_42 : decode cX11_addSteps 42 = .ok (.getfield 62, 3) := by decide +kernel
theorem dX11_addSteps_45 : decode cX11_addSteps 45 = .ok (.iload 5, 2) := by decide +kernel
theorem dX11_addSteps_47 : decode cX11_addSteps 47 = .ok (.iaload, 1) := by decide +kernel
theorem dX11_addSteps_48 : decode cX11_addSteps 48 = .ok (.imul, 1) := by decide +kernel
theorem dX11_addSteps_49 : decode cX11_addSteps 49 = .ok (.iload 6, 2) := by decide +kernel
theorem dX11_addSteps_51 : decode cX11_addSteps 51 = .ok (.iadd, 1) := by decide +kernel
theorem dX11_addSteps_52 : decode cX11_addSteps 52 = .ok (.iaload, 1) := by decide +kernel
theorem dX11_addSteps_53 : decode cX11_addSteps 53 = .ok (.istore 7, 2) := by decide +kernel
theorem dX11_addSteps_55 : decode cX11_addSteps 55 = .ok (.aload_n 1, 1) := by decide +kernel
theorem dX11_addSteps_56 : decode cX11_addSteps 56 = .ok (.iload 4, 2) := by decide +kernel
theorem dX11_addSteps_58 : decode cX11_addSteps 58 = .ok (.aload_n 1, 1) := by decide +kernel
theorem dX11_addSteps_59 : decode cX11_addSteps 59 = .ok (.iload 4, 2) := by decide +kernel
theorem dX11_addSteps_61 : decode cX11_addSteps 61 = .ok (.iaload, 1) := by decide +kernel
theorem dX11_addSteps_62 : decode cX11_addSteps 62 = .ok (.iconst 1, 1) := by decide +kernel
theorem dX11_addSteps_63 : decode cX11_addSteps 63 = .ok (.iload 7, 2) := by decide +kernel
theorem dX11_addSteps_65 : decode cX11_addSteps 65 = .ok (.ishl, 1) := by decide +kernel
theorem dX11_addSteps_66 : decode cX11_addSteps 66 = .ok (.ior, 1) := by decide +kernel
theorem dX11_addSteps_67 : decode cX11_addSteps 67 = .ok (.iastore, 1) := by decide +kernel
theorem dX11_addSteps_68 : decode cX11_addSteps 68 = .ok (.iload 7, 2) := by decide +kernel
theorem dX11_addSteps_70 : decode cX11_addSteps 70 = .ok (.istore 4, 2) := by decide +kernel
theorem dX11_addSteps_72 : decode cX11_addSteps 72 = .ok (.iinc 6 1, 3) := by decide +kernel
theorem dX11_addSteps_75 : decode cX11_addSteps 75 = .ok (.goto (-57), 3) := by decide +kernel
theorem dX11_addSteps_78 : decode cX11_addSteps 78 = .ok (.iinc 5 1, 3) := by decide +kernel
theorem dX11_addSteps_81 : decode cX11_addSteps 81 = .ok (.goto (-74), 3) := by decide +kernel
theorem dX11_addSteps_84 : decode cX11_addSteps 84 = .ok (.aload_n 1, 1) := by decide +kernel
theorem dX11_addSteps_85 : decode cX11_addSteps 85 = .ok (.iload 4, 2) := by decide +kernel
theorem dX11_addSteps_87 : decode cX11_addSteps 87 = .ok (.aload_n 1, 1) := by decide +kernel
theorem dX11_addSteps_88 : decode cX11_addSteps 88 = .ok (.iload 4, 2) := by decide +kernel
theorem dX11_addSteps_90 : decode cX11_addSteps 90 = .ok (.iaload, 1) := by decide +kernel
theorem dX11_addSteps_91 : decode cX11_addSteps 91 = .ok (.ldc_w 302, 3) := by decide +kernel
theorem dX11_addSteps_94 : decode cX11_addSteps 94 = .ok (.ior, 1) := by decide +kernel
theorem dX11_addSteps_95 : decode cX11_addSteps 95 = .ok (.iastore, 1) := by decide +kernel
theorem dX11_addSteps_96 : decode cX11_addSteps 96 = .ok (.return_, 1) := by decide +kernel
theorem dX11_hasNumber_0 : decode cX11_hasNumber 0 = .ok (.iconst 0, 1) := by decide +kernel
theorem dX11_hasNumber_1 : decode cX11_hasNumber 1 = .ok (.istore_n 2, 1) := by decide +kernel
theorem dX11_hasNumber_2 : decode cX11_hasNumber 2 = .ok (.iconst 0, 1) := by decide +kernel
theorem dX11_hasNumber_3 : decode cX11_hasNumber 3 = .ok (.istore_n 3, 1) := by decide +kernel
theorem dX11_hasNumber_4 : decode cX11_hasNumber 4 = .ok (.iload_n 3, 1) := by decide +kernel
theorem dX11_hasNumber_5 : decode cX11_hasNumber 5 = .ok (.aload_n 0, 1) := by decide +kernel
theorem dX11_hasNumber_6 : decode cX11_hasNumber 6 = .ok (.getfield 56, 3) := by decide +kernel
theorem dX11_hasNumber_9 : decode cX11_hasNumber 9 = .ok (.iload_n 1, 1) := by decide +kernel
theorem dX11_hasNumber_10 : decode cX11_hasNumber 10 = .ok (.iaload, 1) := by decide +kernel
theorem dX11_hasNumber_11 : decode cX11_hasNumber 11 = .ok (.if_icmp .ge 35, 3) := by decide +kernel
theorem dX11_hasNumber_14 : decode cX11_hasNumber 14 = .ok (.iload_n 2, 1) := by decide +kernel
theorem dX11_hasNumber_15 : decode cX11_hasNumber 15 = .ok (.ifCond .ne 19, 3) := by decide +kernel
theorem dX11_hasNumber_18 : decode cX11_hasNumber 18 = .ok (.aload_n 0, 1) := by decide +kernel
theorem dX11_hasNumber_19 : decode cX11_hasNumber 19 = .ok (.getfield 59, 3) := by decide +kernel
theorem dX11_hasNumber_22 : decode cX11_hasNumber 22 = .ok (.bipush 8, 2) := by decide +kernel
theorem dX11_hasNumber_24 : decode cX11_hasNumber 24 = .ok (.iload_n 1, 1) := by decide +kernel
theorem dX11_hasNumber_25 : decode cX11_hasNumber 25 = .ok (.imul, 1) := by decide +kernel
theorem dX11_hasNumber_26 : decode cX11_hasNumber 26 = .ok (.iload_n 3, 1) := by decide +kernel
theorem dX11_hasNumber_27 : decode cX11_hasNumber 27 = .ok (.iadd, 1) := by decide +kernel
theorem dX11_hasNumber_28 : decode cX11_hasNumber 28 = .ok (.iaload, 1) := by decide +kernel
theorem dX11_hasNumber_29 : decode cX11_hasNumber 29 = .ok (.bipush 32, 2) := by decide +kernel
theorem dX11_hasNumber_31 : decode cX11_hasNumber 31 = .ok (.if_icmp .ne 7, 3) := by decide +kernel
theorem dX11_hasNumber_34 : decode cX11_hasNumber 34 = .ok (.iconst 1, 1) := by decide +kernel
theorem dX11_hasNumber_35 : decode cX11_hasNumber 35 = .ok (.goto 4, 3) := by decide +kernel
theorem dX11_hasNumber_38 : decode cX11_hasNumber 38 = .ok (.iconst 0, 1) := by decide +kernel
theorem dX11_hasNumber_39 : decode cX11_hasNumber 39 = .ok (.istore_n 2, 1) := by decide +kernel
theorem dX11_hasNumber_40 : decode cX11_hasNumber 40 = .ok (.iinc 3 1, 3) := by decide +kernel
theorem dX11_hasNumber_43 : decode cX11_hasNumber 43 = .ok (.goto (-39), 3) := by decide +kernel
theorem dX11_hasNumber_46 : decode cX11_hasNumber 46 = .ok (.iload_n 2, 1) := by decide +kernel
theorem dX11_hasNumber_47 : decode cX11_hasNumber 47 = .ok (.ireturn, 1) := by decide +kernel
theorem dX11_record_0 : decode cX11_record 0 = .ok (.aload_n 0, 1) := by decide +kernel
theorem dX11_record_1 : decode cX11_record 1 = .ok (.aload_n 0, 1) := by decide +kernel
theorem dX11_record_2 : decode cX11_record 2 = .ok (.getfield 114, 3) := by decide +kernel
theorem dX11_record_5 : decode cX11_record 5 = .ok (.invokevirtual 303, 3) := by decide +kernel
theorem dX11_record_8 : decode cX11_record 8 = .ok (.bipush 28, 2) := by decide +kernel
theorem dX11_record_10 : decode cX11_record 10 = .ok (.istore_n 1, 1) := by decide +kernel
theorem dX11_record_11 : decode cX11_record 11 = .ok (.iload_n 1, 1) := by decide +kernel
theorem dX11_record_12 : decode cX11_record 12 = .ok (.bipush 32, 2) := by decide +kernel
theorem dX11_record_14 : decode cX11_record 14 = .ok (.if_icmp .ge 35, 3) := by decide +kernel
theorem dX11_record_17 : decode cX11_record 17 = .ok (.aload_n 0, 1) := by decide +kernel
theorem dX11_record_18 : decode cX11_record 18 = .ok (.getfield 50, 3) := by decide +kernel
theorem dX11_record_21 : decode cX11_record 21 = .ok (.iload_n 1, 1) := by decide +kernel
theorem dX11_record_22 : decode cX11_record 22 = .ok (.iaload, 1) := by decide +kernel
theorem dX11_record_23 : decode cX11_record 23 = .ok (.ifCond .le 20, 3) := by decide +kernel
theorem dX11_record_26 : decode cX11_record 26 = .ok (.aload_n 0, 1) := by decide +kernel
theorem dX11_record_27 : decode cX11_record 27 = .ok (.getfield 62, 3) := by decide +kernel
theorem dX11_record_30 : decode cX11_record 30 = .ok (.iconst 0, 1) := by decide +kernel
theorem dX11_record_31 : decode cX11_record 31 = .ok (.iload_n 1, 1) := by decide +kernel
theorem dX11_record_32 : decode cX11_record 32 = .ok (.iastore, 1) := by decide +kernel
theorem dX11_record_33 : decode cX11_record 33 = .ok (.aload_n 0, 1) := by decide +kernel
theorem dX11_record_34 : decode cX11_record 34 = .ok (.aload_n 0, 1) := by decide +kernel
theorem dX11_record_35 : decode cX11_record 35 = .ok (.getfield 114, 3) := by decide +kernel
theorem dX11_record_38 : decode cX11_record 38 = .ok (.iconst 0, 1) := by decide +kernel
theorem dX11_record_39 : decode cX11_record 39 = .ok (.iconst 1, 1) := by decide +kernel
theorem dX11_record_40 : decode cX11_record 40 = .ok (.invokevirtual 307, 3) := by decide +kernel
theorem dX11_record_43 : decode cX11_record 43 = .ok (.iinc 1 1, 3) := by decide +kernel
theorem dX11_record_46 : decode cX11_record 46 = .ok (.goto (-35), 3) := by decide +kernel
theorem dX11_record_49 : decode cX11_record 49 = .ok (.iconst (-1), 1) := by decide +kernel
theorem dX11_record_50 : decode cX11_record 50 = .ok (.istore_n 1, 1) := by decide +kernel
theorem dX11_record_51 : decode cX11_record 51 = .ok (.iconst 0, 1) := by decide +kernel
theorem dX11_record_52 : decode cX11_record 52 = .ok (.istore_n 2, 1) := by decide +kernel
theorem dX11_record_53 : decode cX11_record 53 = .ok (.iload_n 2, 1) := by decide +kernel
theorem dX11_record_54 : decode cX11_record 54 = .ok (.sipush 256, 3) := by decide +kernel
theorem dX11_record_57 : decode cX11_record 57 = .ok (.if_icmp .ge 39, 3) := by decide +kernel
theorem dX11_record_60 : decode cX11_record 60 = .ok (.iload_n 1, 1) := by decide +kernel
theorem dX11_record_61 : decode cX11_record 61 = .ok (.iconst (-1), 1) := by decide +kernel
theorem dX11_record_62 : decode cX11_record 62 = .ok (.if_icmp .eq 14, 3) := by decide +kernel
theorem dX11_record_65 : decode cX11_record 65 = .ok (.iload_n 2, 1) := by decide +kernel
theorem dX11_record_66 : decode cX11_record 66 = .ok (.invokestatic 311, 3) := by decide +kernel
theorem dX11_record_69 : decode cX11_record 69 = .ok (.iload_n 1, 1) := by decide +kernel
theorem dX11_record_70 : decode cX11_record 70 = .ok (.invokestatic 311, 3) := by decide +kernel
theorem dX11_record_73 : decode cX11_record 73 = .ok (.if_icmp .ge 17, 3) := by decide +kernel
theorem dX11_record_76 : decode cX11_record 76 = .ok (.aload_n 0, 1) := by decide +kernel
theorem dX11_record_77 : decode cX11_record 77 = .ok (.iload_n 2, 1) := by decide +kernel
theorem dX11_record_78 : decode cX11_record 78 = .ok (.invokevirtual 314, 3) := by decide +kernel
theorem dX11_record_81 : decode cX11_record 81 = .ok (.ifCond .eq 7, 3) := by decide +kernel
theorem dX11_record_84 : decode cX11_record 84 = .ok (.iload_n 2, 1) := by decide +kernel
theorem dX11_record_85 : decode cX11_record 85 = .ok (.goto 4, 3) := by decide +kernel
theorem dX11_record_88 : decode cX11_record 88 = .ok (.iload_n 1, 1) := by decide +kernel
theorem dX11_record_89 : decode cX11_record 89 = .ok (.istore_n 1, 1) := by decide +kernel
theorem dX11_record_90 : decode cX11_record 90 = .ok (.iinc 2 1, 3) := by decide +kernel
theorem dX11_record_93 : decode cX11_record 93 = .ok (.goto (-40), 3) := by decide +kernel
theorem dX11_record_96 : decode cX11_record 96 = .ok (.iload_n 1, 1) := by decide +kernel
theorem dX11_record_97 : decode cX11_record 97 = .ok (.ireturn, 1) := by decide +kernel
theorem dX11_doesRecord_0 : decode cX11_doesRecord 0 = .ok (.aload_n 0, 1) := by decide +kernel
theorem dX11_doesRecord_1 : decode cX11_doesRecord 1 = .ok (.aload_n 0, 1) := by decide +kernel
theorem dX11_doesRecord_2 : decode cX11_doesRecord 2 = .ok (.getfield 111, 3) := by decide +kernel
theorem dX11_doesRecord_5 : decode cX11_doesRecord 5 = .ok (.invokevirtual 303, 3) := by decide +kernel
theorem dX11_doesRecord_8 : decode cX11_doesRecord 8 = .ok (.iconst 0, 1) := by decide +kernel
theorem dX11_doesRecord_9 : decode cX11_doesRecord 9 = .ok (.istore_n 2, 1) := by decide +kernel
theorem dX11_doesRecord_10 : decode cX11_doesRecord 10 = .ok (.iload_n 2, 1) := by decide +kernel
theorem dX11_doesRecord_11 : decode cX11_doesRecord 11 = .ok (.bipush 8, 2) := by decide +kernel
theorem dX11_doesRecord_13 : decode cX11_doesRecord 13 = .ok (.if_icmp .ge 58, 3) := by decide +kernel
theorem dX11_doesRecord_16 : decode cX11_doesRecord 16 = .ok (.iload_n 1, 1) := by decide +kernel
theorem dX11_doesRecord_17 : decode cX11_doesRecord 17 = .ok (.iload_n 2, 1) := by decide +kernel
theorem dX11_doesRecord_18 : decode cX11_doesRecord 18 = .ok (.ishr, 1) := by decide +kernel
theorem dX11_doesRecord_19 : decode cX11_doesRecord 19 = .ok (.iconst 1, 1) := by decide +kernel
theorem dX11_doesRecord_20 : decode cX11_doesRecord 20 = .ok (.iand, 1) := by decide +kernel
theorem dX11_doesRecord_21 : decode cX11_doesRecord 21 = .ok (.iconst 1, 1) := by decide +kernel
theorem dX11_doesRecord_22 : decode cX11_doesRecord 22 = .ok (.if_icmp .ne 43, 3) := by decide +kernel
theorem dX11_doesRecord_25 : decode cX11_doesRecord 25 = .ok (.aload_n 0, 1) := by decide +kernel
theorem dX11_doesRecord_26 : decode cX11_doesRecord 26 = .ok (.iload_n 2, 1) := by decide +kernel
theorem dX11_doesRecord_27 : decode cX11_doesRecord 27 = .ok (.invokevirtual 265, 3) := by decide +kernel
theorem dX11_doesRecord_30 : decode cX11_doesRecord 30 = .ok (.ifCond .eq 20, 3) := by decide +kernel
theorem dX11_doesRecord_33 : decode cX11_doesRecord 33 = .ok (.aload_n 0, 1) := by decide +kernel
theorem dX11_doesRecord_34 : decode cX11_doesRecord 34 = .ok (.iload_n 2, 1) := by decide +kernel
theorem dX11_doesRecord_35 : decode cX11_doesRecord 35 = .ok (.invokevirtual 317, 3) := by decide +kernel
theorem dX11_doesRecord_38 : decode cX11_doesRecord 38 = .ok (.ifCond .ne 12, 3) := by decide +kernel
theorem dX11_doesRecord_41 : decode cX11_doesRecord 41 = .ok (.aload_n 0, 1) := by decide +kernel
theorem dX11_doesRecord_42 : decode cX11_doesRecord 42 = .ok (.iload_n 2, 1) := by decide +kernel
theorem dX11_doesRecord_43 : decode cX11_doesRecord 43 = .ok (.iconst 0, 1) := by decide +kernel
theorem dX11_doesRecord_44 : decode cX11_doesRecord 44 = .ok (.invokevirtual 268, 3) := by decide +kernel
theorem dX11_doesRecord_47 : decode cX11_doesRecord 47 = .ok (.ifCond .ne 5, 3) := by decide +kernel
theorem dX11_doesRecord_50 : decode cX11_doesRecord 50 = .ok (.iconst 0, 1) := by decide +kernel
theorem dX11_doesRecord_51 : decode cX11_doesRecord 51 = .ok (.ireturn, 1) := by decide +kernel
theorem dX11_doesRecord_52 : decode cX11_doesRecord 52 = .ok (.aload_n 0, 1) := by decide +kernel
theorem dX11_doesRecord_53 : decode cX11_doesRecord 53 = .ok (.aload_n 0, 1) := by decide +kernel
theorem dX11_doesRecord_54 : decode cX11_doesRecord 54 = .ok (.getfield 111, 3) := by decide +kernel
theorem dX11_doesRecord_57 : decode cX11_doesRecord 57 = .ok (.iconst 0, 1) := by decide +kernel
theorem dX11_doesRecord_58 : decode cX11_doesRecord 58 = .ok (.aload_n 0, 1) := by decide +kernel
theorem dX11_doesRecord_59 : decode cX11_doesRecord 59 = .ok (.getfield 259, 3) := by decide +kernel
theorem dX11_doesRecord_62 : decode cX11_doesRecord 62 = .ok (.invokevirtual 307, 3) := by decide +kernel
theorem dX11_doesRecord_65 : decode cX11_doesRecord 65 = .ok (.iinc 2 1, 3) := by decide +kernel
theorem dX11_doesRecord_68 : decode cX11_doesRecord 68 = .ok (.goto (-58), 3) := by decide +kernel
theorem dX11_doesRecord_71 : decode cX11_doesRecord 71 = .ok (.iconst 1, 1) := by decide +kernel
theorem dX11_doesRecord_72 : decode cX11_doesRecord 72 = .ok (.istore_n 2, 1) := by decide +kernel
theorem dX11_doesRecord_73 : decode cX11_doesRecord 73 = .ok (.iconst 0, 1) := by decide +kernel
theorem dX11_doesRecord_74 : decode cX11_doesRecord 74 = .ok (.istore_n 3, 1) := by decide +kernel
theorem dX11_doesRecord_75 : decode cX11_doesRecord 75 = .ok (.iload_n 3, 1) := by decide +kernel
theorem dX11_doesRecord_76 : decode cX11_doesRecord 76 = .ok (.bipush 17, 2) := by decide +kernel
theorem dX11_doesRecord_78 : decode cX11_doesRecord 78 = .ok (.if_icmp .ge 37, 3) := by decide +kernel
theorem dX11_doesRecord_81 : decode cX11_doesRecord 81 = .ok (.iload_n 2, 1) := by decide +kernel
theorem dX11_doesRecord_82 : decode cX11_doesRecord 82 = .ok (.ifCond .eq 25, 3) := by decide +kernel
theorem dX11_doesRecord_85 : decode cX11_doesRecord 85 = .ok (.aload_n 0, 1) := by decide +kernel
theorem dX11_doesRecord_86 : decode cX11_doesRecord 86 = .ok (.getfield 114, 3) := by decide +kernel
theorem dX11_doesRecord_89 : decode cX11_doesRecord 89 = .ok (.iload_n 3, 1) := by decide +kernel
theorem dX11_doesRecord_90 : decode cX11_doesRecord 90 = .ok (.iaload, 1) := by decide +kernel
theorem dX11_doesRecord_91 : decode cX11_doesRecord 91 = .ok (.aload_n 0, 1) := by decide +kernel
theorem dX11_doesRecord_92 : decode cX11_doesRecord 92 = .ok (.getfield 111, 3) := by decide +kernel
theorem dX11_doesRecord_95 : decode cX11_doesRecord 95 = .ok (.iload_n 3, 1) := by decide +kernel
theorem dX11_doesRecord_96 : decode cX11_doesRecord 96 = .ok (.iaload, 1) := by decide +kernel
theorem dX11_doesRecord_97 : decode cX11_doesRecord 97 = .ok (.iconst (-1), 1) := by decide +kernel
theorem dX11_doesRecord_98 : decode cX11_doesRecord 98 = .ok (.ixor, 1) := by decide +kernel
theorem dX11_doesRecord_99 : decode cX11_doesRecord 99 = .ok (.iand, 1) := by decide +kernel
theorem dX11_doesRecord_100 : decode cX11_doesRecord 100 = .ok (.ifCond .ne 7, 3) := by decide +kernel
theorem dX11_doesRecord_103 : decode cX11_doesRecord 103 = .ok (.iconst 1, 1) := by decide +kernel
theorem dX11_doesRecord_104 : decode cX11_doesRecord 104 = .ok (.goto 4, 3) := by decide +kernel
theorem dX11_doesRecord_107 : decode cX11_doesRecord 107 = .ok (.iconst 0, 1) := by decide +kernel
theorem dX11_doesRecord_108 : decode cX11_doesRecord 108 = .ok (.istore_n 2, 1) := by decide +kernel
theorem dX11_doesRecord_109 : decode cX11_doesRecord 109 = .ok (.iinc 3 1, 3) := by decide +kernel
theorem dX11_doesRecord_112 : decode cX11_doesRecord 112 = .ok (.goto (-37), 3) := by decide +kernel
theorem dX11_doesRecord_115 : decode cX11_doesRecord 115 = .ok (.iload_n 2, 1) := by decide +kernel
theorem dX11_doesRecord_116 : decode cX11_doesRecord 116 = .ok (.ireturn, 1) := by decide +kernel
theorem dX11_bits_0 : decode cX11_bits 0 = .ok (.iconst 0, 1) := by decide +kernel
theorem dX11_bits_1 : decode cX11_bits 1 = .ok (.istore_n 1, 1) := by decide +kernel
theorem dX11_bits_2 : decode cX11_bits 2 = .ok (.iconst 0, 1) := by decide +kernel
theorem dX11_bits_3 : decode cX11_bits 3 = .ok (.istore_n 2, 1) := by decide +kernel
theorem dX11_bits_4 : decode cX11_bits 4 = .ok (.iload_n 2, 1) := by decide +kernel
theorem dX11_bits_5 : decode cX11_bits 5 = .ok (.bipush 16, 2) := by decide +kernel
theorem dX11_bits_7 : decode cX11_bits 7 = .ok (.if_icmp .ge 17, 3) := by decide +kernel
theorem dX11_bits_10 : decode cX11_bits 10 = .ok (.iload_n 1, 1) := by decide +kernel
theorem dX11_bits_11 : decode cX11_bits 11 = .ok (.iload_n 0, 1) := by decide +kernel
theorem dX11_bits_12 : decode cX11_bits 12 = .ok (.iload_n 2, 1) := by decide +kernel
theorem dX11_bits_13 : decode cX11_bits 13 = .ok (.ishr, 1) := by decide +kernel
theorem dX11_bits_14 : decode cX11_bits 14 = .ok (.iconst 1, 1) := by decide +kernel
theorem dX11_bits_15 : decode cX11_bits 15 = .ok (.iand, 1) := by decide +kernel
theorem dX11_bits_16 : decode cX11_bits 16 = .ok (.iadd, 1) := by decide +kernel
theorem dX11_bits_17 : decode cX11_bits 17 = .ok (.istore_n 1, 1) := by decide +kernel
theorem dX11_bits_18 : decode cX11_bits 18 = .ok (.iinc 2 1, 3) := by decide +kernel
theorem dX11_bits_21 : decode cX11_bits 21 = .ok (.goto (-17), 3) := by decide +kernel
theorem dX11_bits_24 : decode cX11_bits 24 = .ok (.iload_n 1, 1) := by decide +kernel
theorem dX11_bits_25 : decode cX11_bits 25 = .ok (.ireturn, 1) := by decide +kernel
theorem dX11_isSpot_0 : decode cX11_isSpot 0 = .ok (.iload_n 0, 1) := by decide +kernel
theorem dX11_isSpot_1 : decode cX11_isSpot 1 = .ok (.iconst 0, 1) := by decide +kernel
theorem dX11_isSpot_2 : decode cX11_isSpot 2 = .ok (.bipush 15, 2) := by decide +kernel
theorem dX11_isSpot_4 : decode cX11_isSpot 4 = .ok (.invokestatic 120, 3) := by decide +kernel
theorem dX11_isSpot_7 : decode cX11_isSpot 7 = .ok (.ireturn, 1) := by decide +kernel
theorem dX11_crowd_0 : decode cX11_crowd 0 = .ok (.iload_n 1, 1) := by decide +kernel
theorem dX11_crowd_1 : decode cX11_crowd 1 = .ok (.invokestatic 320, 3) := by decide +kernel
theorem dX11_crowd_4 : decode cX11_crowd 4 = .ok (.ifCond .ne 6, 3) := by decide +kernel
theorem dX11_crowd_7 : decode cX11_crowd 7 = .ok (.bipush (-2), 2) := by decide +kernel
theorem dX11_crowd_9 : decode cX11_crowd 9 = .ok (.ireturn, 1) := by decide +kernel
theorem dX11_crowd_10 : decode cX11_crowd 10 = .ok (.iload_n 2, 1) := by decide +kernel
theorem dX11_crowd_11 : decode cX11_crowd 11 = .ok (.iconst 0, 1) := by decide +kernel
theorem dX11_crowd_12 : decode cX11_crowd 12 = .ok (.bipush 99, 2) := by decide +kernel
theorem dX11_crowd_14 : decode cX11_crowd 14 = .ok (.invokestatic 120, 3) := by decide +kernel
theorem dX11_crowd_17 : decode cX11_crowd 17 = .ok (.ifCond .ne 6, 3) := by decide +kernel
theorem dX11_crowd_20 : decode cX11_crowd 20 = .ok (.bipush (-3), 2) := by decide +kernel
theorem dX11_crowd_22 : decode cX11_crowd 22 = .ok (.ireturn, 1) := by decide +kernel
theorem dX11_crowd_23 : decode cX11_crowd 23 = .ok (.aload_n 0, 1) := by decide +kernel
theorem dX11_crowd_24 : decode cX11_crowd 24 = .ok (.getfield 117, 3) := by decide +kernel
theorem dX11_crowd_27 : decode cX11_crowd 27 = .ok (.iload_n 1, 1) := by decide +kernel
theorem dX11_crowd_28 : decode cX11_crowd 28 = .ok (.iaload, 1) := by decide +kernel
theorem dX11_crowd_29 : decode cX11_crowd 29 = .ok (.istore_n 3, 1) := by decide +kernel
theorem dX11_crowd_30 : decode cX11_crowd 30 = .ok (.aload_n 0, 1) := by decide +kernel
theorem dX11_crowd_31 : decode cX11_crowd 31 = .ok (.getfield 117, 3) := by decide +kernel
theorem dX11_crowd_34 : decode cX11_crowd 34 = .ok (.iload_n 1, 1) := by decide +kernel
theorem dX11_crowd_35 : decode cX11_crowd 35 = .ok (.iload_n 2, 1) := by decide +kernel
theorem dX11_crowd_36 : decode cX11_crowd 36 = .ok (.iastore, 1) := by decide +kernel
theorem dX11_crowd_37 : decode cX11_crowd 37 = .ok (.iload_n 3, 1) := by decide +kernel
theorem dX11_crowd_38 : decode cX11_crowd 38 = .ok (.ireturn, 1) := by decide +kernel
theorem dX11_understood_0 : decode cX11_understood 0 = .ok (.iload_n 1, 1) := by decide +kernel
theorem dX11_understood_1 : decode cX11_understood 1 = .ok (.invokestatic 320, 3) := by decide +kernel
theorem dX11_understood_4 : decode cX11_understood 4 = .ok (.ifCond .ne 6, 3) := by decide +kernel
theorem dX11_understood_7 : decode cX11_understood 7 = .ok (.bipush (-2), 2) := by decide +kernel
theorem dX11_understood_9 : decode cX11_understood 9 = .ok (.ireturn, 1) := by decide +kernel
theorem dX11_understood_10 : decode cX11_understood 10 = .ok (.iload_n 2, 1) := by decide +kernel
theorem dX11_understood_11 : decode cX11_understood 11 = .ok (.iconst 0, 1) := by decide +kernel
theorem dX11_understood_12 : decode cX11_understood 12 = .ok (.sipush 999, 3) := by decide +kernel
theorem dX11_understood_15 : decode cX11_understood 15 = .ok (.invokestatic 120, 3) := by decide +kernel
theorem dX11_understood_18 : decode cX11_understood 18 = .ok (.ifCond .ne 6, 3) := by decide +kernel
theorem dX11_understood_21 : decode cX11_understood 21 = .ok (.bipush (-3), 2) := by decide +kernel
theorem dX11_understood_23 : decode cX11_understood 23 = .ok (.ireturn, 1) := by decide +kernel
theorem dX11_understood_24 : decode cX11_understood 24 = .ok (.iconst 0, 1) := by decide +kernel
theorem dX11_understood_25 : decode cX11_understood 25 = .ok (.istore_n 3, 1) := by decide +kernel
theorem dX11_understood_26 : decode cX11_understood 26 = .ok (.iconst 0, 1) := by decide +kernel
theorem dX11_understood_27 : decode cX11_understood 27 = .ok (.istore 4, 2) := by decide +kernel
theorem dX11_understood_29 : decode cX11_understood 29 = .ok (.iload 4, 2) := by decide +kernel
theorem dX11_understood_31 : decode cX11_understood 31 = .ok (.bipush 16, 2) := by decide +kernel
theorem dX11_understood_33 : decode cX11_understood 33 = .ok (.if_icmp .ge 43, 3) := by decide +kernel
theorem dX11_understood_36 : decode cX11_understood 36 = .ok (.iload_n 3, 1) := by decide +kernel
theorem dX11_understood_37 : decode cX11_understood 37 = .ok (.iload_n 2, 1) := by decide +kernel
theorem dX11_understood_38 : decode cX11_understood 38 = .ok (.iconst 3, 1) := by decide +kernel
theorem dX11_understood_39 : decode cX11_understood 39 = .ok (.iload_n 1, 1) := by decide +kernel
theorem dX11_understood_40 : decode cX11_understood 40 = .ok (.iload 4, 2) := by decide +kernel
theorem dX11_understood_42 : decode cX11_understood 42 = .ok (.invokestatic 151, 3) := by decide +kernel
theorem dX11_understood_45 : decode cX11_understood 45 = .ok (.imul, 1) := by decide +kernel
theorem dX11_understood_46 : decode cX11_understood 46 = .ok (.isub, 1) := by decide +kernel
theorem dX11_understood_47 : decode cX11_understood 47 = .ok (.aload_n 0, 1) := by decide +kernel
theorem dX11_understood_48 : decode cX11_understood 48 = .ok (.getfield 117, 3) := by decide +kernel
theorem dX11_understood_51 : decode cX11_understood 51 = .ok (.iload 4, 2) := by decide +kernel
theorem dX11_understood_53 : decode cX11_understood 53 = .ok (.iaload, 1) := by decide +kernel
theorem dX11_understood_54 : decode cX11_understood 54 = .ok (.isub, 1) := by decide +kernel
theorem dX11_understood_55 : decode cX11_understood 55 = .ok (.bipush 10, 2) := by decide +kernel
theorem dX11_understood_57 : decode cX11_understood 57 = .ok (.if_icmp .le 10, 3) := by decide +kernel
theorem dX11_understood_60 : decode cX11_understood 60 = .ok (.iconst 1, 1) := by decide +kernel
theorem dX11_understood_61 : decode cX11_understood 61 = .ok (.iload 4, 2) := by decide +kernel
theorem dX11_understood_63 : decode cX11_understood 63 = .ok (.ishl, 1) := by decide +kernel
theorem dX11_understood_64 : decode cX11_understood 64 = .ok (.goto 4, 3) := by decide +kernel
theorem dX11_understood_67 : decode cX11_understood 67 = .ok (.iconst 0, 1) := by decide +kernel
theorem dX11_understood_68 : decode cX11_understood 68 = .ok (.ior, 1) := by decide +kernel
theorem dX11_understood_69 : decode cX11_understood 69 = .ok (.istore_n 3, 1) := by decide +kernel
theorem dX11_understood_70 : decode cX11_understood 70 = .ok (.iinc 4 1, 3) := by decide +kernel
theorem dX11_understood_73 : decode cX11_understood 73 = .ok (.goto (-44), 3) := by decide +kernel
theorem dX11_understood_76 : decode cX11_understood 76 = .ok (.iload_n 3, 1) := by decide +kernel
theorem dX11_understood_77 : decode cX11_understood 77 = .ok (.ireturn, 1) := by decide +kernel
theorem dX11_powerAt_0 : decode cX11_powerAt 0 = .ok (.iconst 0, 1) := by decide +kernel
theorem dX11_powerAt_1 : decode cX11_powerAt 1 = .ok (.istore_n 3, 1) := by decide +kernel
theorem dX11_powerAt_2 : decode cX11_powerAt 2 = .ok (.iconst 0, 1) := by decide +kernel
theorem dX11_powerAt_3 : decode cX11_powerAt 3 = .ok (.istore 4, 2) := by decide +kernel
theorem dX11_powerAt_5 : decode cX11_powerAt 5 = .ok (.iload 4, 2) := by decide +kernel
theorem dX11_powerAt_7 : decode cX11_powerAt 7 = .ok (.bipush 16, 2) := by decide +kernel
theorem dX11_powerAt_9 : decode cX11_powerAt 9 = .ok (.if_icmp .ge 57, 3) := by decide +kernel
theorem dX11_powerAt_12 : decode cX11_powerAt 12 = .ok (.iload_n 2, 1) := by decide +kernel
theorem dX11_powerAt_13 : decode cX11_powerAt 13 = .ok (.iload 4, 2) := by decide +kernel
theorem dX11_powerAt_15 : decode cX11_powerAt 15 = .ok (.ishr, 1) := by decide +kernel
theorem dX11_powerAt_16 : decode cX11_powerAt 16 = .ok (.iconst 1, 1) := by decide +kernel
theorem dX11_powerAt_17 : decode cX11_powerAt 17 = .ok (.iand, 1) := by decide +kernel
theorem dX11_powerAt_18 : decode cX11_powerAt 18 = .ok (.iconst 1, 1) := by decide +kernel
theorem dX11_powerAt_19 : decode cX11_powerAt 19 = .ok (.if_icmp .ne 25, 3) := by decide +kernel
theorem dX11_powerAt_22 : decode cX11_powerAt 22 = .ok (.bipush 11, 2) := by decide +kernel
theorem dX11_powerAt_24 : decode cX11_powerAt 24 = .ok (.iconst 3, 1) := by decide +kernel
theorem dX11_powerAt_25 : decode cX11_powerAt 25 = .ok (.iload_n 1, 1) := by decide +kernel
theorem dX11_powerAt_26 : decode cX11_powerAt 26 = .ok (.iload 4, 2) := by decide +kernel
theorem dX11_powerAt_28 : decode cX11_powerAt 28 = .ok (.invokestatic 151, 3) := by decide +kernel
theorem dX11_powerAt_31 : decode cX11_powerAt 31 = .ok (.imul, 1) := by decide +kernel
theorem dX11_powerAt_32 : decode cX11_powerAt 32 = .ok (.iadd, 1) := by decide +kernel
theorem dX11_powerAt_33 : decode cX11_powerAt 33 = .ok (.aload_n 0, 1) := by decide +kernel
theorem dX11_powerAt_34 : decode cX11_powerAt 34 = .ok (.getfield 117, 3) := by decide +kernel
theorem dX11_powerAt_37 : decode cX11_powerAt 37 = .ok (.iload 4, 2) := by decide +kernel
theorem dX11_powerAt_39 : decode cX11_powerAt 39 = .ok (.iaload, 1) := by decide +kernel
theorem dX11_powerAt_40 : decode cX11_powerAt 40 = .ok (.iadd, 1) := by decide +kernel
theorem dX11_powerAt_41 : decode cX11_powerAt 41 = .ok (.goto 4, 3) := by decide +kernel
theorem dX11_powerAt_44 : decode cX11_powerAt 44 = .ok (.iconst 0, 1) := by decide +kernel
theorem dX11_powerAt_45 : decode cX11_powerAt 45 = .ok (.istore 5, 2) := by decide +kernel
theorem dX11_powerAt_47 : decode cX11_powerAt 47 = .ok (.iload 5, 2) := by decide +kernel
theorem dX11_powerAt_49 : decode cX11_powerAt 49 = .ok (.iload_n 3, 1) := by decide +kernel
theorem dX11_powerAt_50 : decode cX11_powerAt 50 = .ok (.if_icmp .le 8, 3) := by decide +kernel
theorem dX11_powerAt_53 : decode cX11_powerAt 53 = .ok (.iload 5, 2) := by decide +kernel
theorem dX11_powerAt_55 : decode cX11_powerAt 55 = .ok (.goto 4, 3) := by decide +kernel
theorem dX11_powerAt_58 : decode cX11_powerAt 58 = .ok (.iload_n 3, 1) := by decide +kernel
theorem dX11_powerAt_59 : decode cX11_powerAt 59 = .ok (.istore_n 3, 1) := by decide +kernel
theorem dX11_powerAt_60 : decode cX11_powerAt 60 = .ok (.iinc 4 1, 3) := by decide +kernel
theorem dX11_powerAt_63 : decode cX11_powerAt 63 = .ok (.goto (-58), 3) := by decide +kernel
theorem dX11_powerAt_66 : decode cX11_powerAt 66 = .ok (.iload_n 3, 1) := by decide +kernel
theorem dX11_powerAt_67 : decode cX11_powerAt 67 = .ok (.ireturn, 1) := by decide +kernel
theorem dX11_power_0 : decode cX11_power 0 = .ok (.iload_n 1, 1) := by decide +kernel
theorem dX11_power_1 : decode cX11_power 1 = .ok (.iconst (-1), 1) := by decide +kernel
theorem dX11_power_2 : decode cX11_power 2 = .ok (.if_icmp .eq 13, 3) := by decide +kernel
theorem dX11_power_5 : decode cX11_power 5 = .ok (.iload_n 1, 1) := by decide +kernel
theorem dX11_power_6 : decode cX11_power 6 = .ok (.invokestatic 320, 3) := by decide +kernel
theorem dX11_power_9 : decode cX11_power 9 = .ok (.ifCond .ne 6, 3) := by decide +kernel
theorem dX11_power_12 : decode cX11_power 12 = .ok (.bipush (-2), 2) := by decide +kernel
theorem dX11_power_14 : decode cX11_power 14 = .ok (.ireturn, 1) := by decide +kernel
theorem dX11_power_15 : decode cX11_power 15 = .ok (.iload_n 2, 1) := by decide +kernel
theorem dX11_power_16 : decode cX11_power 16 = .ok (.iconst 0, 1) := by decide +kernel
theorem dX11_power_17 : decode cX11_power 17 = .ok (.ldc_w 323, 3) := by decide +kernel
theorem dX11_power_20 : decode cX11_power 20 = .ok (.invokestatic 120, 3) := by decide +kernel
theorem dX11_power_23 : decode cX11_power 23 = .ok (.ifCond .ne 6, 3) := by decide +kernel
theorem dX11_power_26 : decode cX11_power 26 = .ok (.bipush (-3), 2) := by decide +kernel
theorem dX11_power_28 : decode cX11_power 28 = .ok (.ireturn, 1) := by decide +kernel
theorem dX11_power_29 : decode cX11_power 29 = .ok (.iload_n 1, 1) := by decide +kernel
theorem dX11_power_30 : decode cX11_power 30 = .ok (.iconst (-1), 1) := by decide +kernel
theorem dX11_power_31 : decode cX11_power 31 = .ok (.if_icmp .eq 10, 3) := by decide +kernel
theorem dX11_power_34 : decode cX11_power 34 = .ok (.aload_n 0, 1) := by decide +kernel
theorem dX11_power_35 : decode cX11_power 35 = .ok (.iload_n 1, 1) := by decide +kernel
theorem dX11_power_36 : decode cX11_power 36 = .ok (.iload_n 2, 1) := by decide +kernel
theorem dX11_power_37 : decode cX11_power 37 = .ok (.invokevirtual 324, 3) := by decide +kernel
theorem dX11_power_40 : decode cX11_power 40 = .ok (.ireturn, 1) := by decide +kernel
theorem dX11_power_41 : decode cX11_power 41 = .ok (.iconst 0, 1) := by decide +kernel
theorem dX11_power_42 : decode cX11_power 42 = .ok (.istore_n 3, 1) := by decide +kernel
theorem dX11_power_43 : decode cX11_power 43 = .ok (.iconst 1, 1) := by decide +kernel
theorem dX11_power_44 : decode cX11_power 44 = .ok (.istore 4, 2) := by decide +kernel
theorem dX11_power_46 : decode cX11_power 46 = .ok (.iload 4, 2) := by decide +kernel
theorem dX11_power_48 : decode cX11_power 48 = .ok (.bipush 16, 2) := by decide +kernel
theorem dX11_power_50 : decode cX11_power 50 = .ok (.if_icmp .ge 32, 3) := by decide +kernel
theorem dX11_power_53 : decode cX11_power 53 = .ok (.aload_n 0, 1) := by decide +kernel
theorem dX11_power_54 : decode cX11_power 54 = .ok (.iload 4, 2) := by decide +kernel
theorem dX11_power_56 : decode cX11_power 56 = .ok (.iload_n 2, 1) := by decide +kernel
theorem dX11_power_57 : decode cX11_power 57 = .ok (.invokevirtual 324, 3) := by decide +kernel
theorem dX11_power_60 : decode cX11_power 60 = .ok (.aload_n 0, 1) := by decide +kernel
theorem dX11_power_61 : decode cX11_power 61 = .ok (.iload_n 3, 1) := by decide +kernel
theorem dX11_power_62 : decode cX11_power 62 = .ok (.iload_n 2, 1) := by decide +kernel
theorem dX11_power_63 : decode cX11_power 63 = .ok (.invokevirtual 324, 3) := by decide +kernel
theorem dX11_power_66 : decode cX11_power 66 = .ok (.if_icmp .ge 8, 3) := by decide +kernel
theorem dX11_power_69 : decode cX11_power 69 = .ok (.iload 4, 2) := by decide +kernel
theorem dX11_power_71 : decode cX11_power 71 = .ok (.goto 4, 3) := by decide +kernel
theorem dX11_power_74 : decode cX11_power 74 = .ok (.iload_n 3, 1) := by decide +kernel
theorem dX11_power_75 : decode cX11_power 75 = .ok (.istore_n 3, 1) := by decide +kernel
theorem dX11_power_76 : decode cX11_power 76 = .ok (.iinc 4 1, 3) := by decide +kernel
theorem dX11_power_79 : decode cX11_power 79 = .ok (.goto (-33), 3) := by decide +kernel
theorem dX11_power_82 : decode cX11_power 82 = .ok (.bipush 16, 2) := by decide +kernel
theorem dX11_power_84 : decode cX11_power 84 = .ok (.aload_n 0, 1) := by decide +kernel
theorem dX11_power_85 : decode cX11_power 85 = .ok (.iload_n 3, 1) := by decide +kernel
theorem dX11_power_86 : decode cX11_power 86 = .ok (.iload_n 2, 1) := by decide +kernel
theorem dX11_power_87 : decode cX11_power 87 = .ok (.invokevirtual 324, 3) := by decide +kernel
theorem dX11_power_90 : decode cX11_power 90 = .ok (.imul, 1) := by decide +kernel
theorem dX11_power_91 : decode cX11_power 91 = .ok (.iload_n 3, 1) := by decide +kernel
theorem dX11_power_92 : decode cX11_power 92 = .ok (.iadd, 1) := by decide +kernel
theorem dX11_power_93 : decode cX11_power 93 = .ok (.ireturn, 1) := by decide +kernel
theorem dX11_positive_0 : decode cX11_positive 0 = .ok (.iconst 0, 1) := by decide +kernel
theorem dX11_positive_1 : decode cX11_positive 1 = .ok (.istore_n 1, 1) := by decide +kernel
theorem dX11_positive_2 : decode cX11_positive 2 = .ok (.iconst 0, 1) := by decide +kernel
theorem dX11_positive_3 : decode cX11_positive 3 = .ok (.istore_n 2, 1) := by decide +kernel
theorem dX11_positive_4 : decode cX11_positive 4 = .ok (.iload_n 2, 1) := by decide +kernel
theorem dX11_positive_5 : decode cX11_positive 5 = .ok (.aload_n 0, 1) := by decide +kernel
theorem dX11_positive_6 : decode cX11_positive 6 = .ok (.arraylength, 1) := by decide +kernel
theorem dX11_positive_7 : decode cX11_positive 7 = .ok (.if_icmp .ge 23, 3) := by decide +kernel
theorem dX11_positive_10 : decode cX11_positive 10 = .ok (.iload_n 1, 1) := by decide +kernel
theorem dX11_positive_11 : decode cX11_positive 11 = .ok (.aload_n 0, 1) := by decide +kernel
theorem dX11_positive_12 : decode cX11_positive 12 = .ok (.iload_n 2, 1) := by decide +kernel
theorem dX11_positive_13 : decode cX11_positive 13 = .ok (.iaload, 1) := by decide +kernel
theorem dX11_positive_14 : decode cX11_positive 14 = .ok (.ifCond .le 7, 3) := by decide +kernel
theorem dX11_positive_17 : decode cX11_positive 17 = .ok (.iconst 1, 1) := by decide +kernel
theorem dX11_positive_18 : decode cX11_positive 18 = .ok (.goto 4, 3) := by decide +kernel
theorem dX11_positive_21 : decode cX11_positive 21 = .ok (.iconst 0, 1) := by decide +kernel
theorem dX11_positive_22 : decode cX11_positive 22 = .ok (.iadd, 1) := by decide +kernel
theorem dX11_positive_23 : decode cX11_positive 23 = .ok (.istore_n 1, 1) := by decide +kernel
theorem dX11_positive_24 : decode cX11_positive 24 = .ok (.iinc 2 1, 3) := by decide +kernel
theorem dX11_positive_27 : decode cX11_positive 27 = .ok (.goto (-23), 3) := by decide +kernel
theorem dX11_positive_30 : decode cX11_positive 30 = .ok (.iload_n 1, 1) := by decide +kernel
theorem dX11_positive_31 : decode cX11_positive 31 = .ok (.ireturn, 1) := by decide +kernel
theorem dX11_count_0 : decode cX11_count 0 = .ok (.iload_n 1, 1) := by decide +kernel
theorem dX11_count_1 : decode cX11_count 1 = .ok (.tableswitch 84 0 6 #[43, 48, 53, 61, 69, 74, 79], 43) := by decide +kernel
theorem dX11_count_44 : decode cX11_count 44 = .ok (.aload_n 0, 1) := by decide +kernel
theorem dX11_count_45 : decode cX11_count 45 = .ok (.getfield 124, 3) := by decide +kernel
theorem dX11_count_48 : decode cX11_count 48 = .ok (.ireturn, 1) := by decide +kernel
theorem dX11_count_49 : decode cX11_count 49 = .ok (.aload_n 0, 1) := by decide +kernel
theorem dX11_count_50 : decode cX11_count 50 = .ok (.getfield 174, 3) := by decide +kernel
theorem dX11_count_53 : decode cX11_count 53 = .ok (.ireturn, 1) := by decide +kernel
theorem dX11_count_54 : decode cX11_count 54 = .ok (.aload_n 0, 1) := by decide +kernel
theorem dX11_count_55 : decode cX11_count 55 = .ok (.getfield 50, 3) := by decide +kernel
theorem dX11_count_58 : decode cX11_count 58 = .ok (.invokestatic 327, 3) := by decide +kernel
theorem dX11_count_61 : decode cX11_count 61 = .ok (.ireturn, 1) := by decide +kernel
theorem dX11_count_62 : decode cX11_count 62 = .ok (.aload_n 0, 1) := by decide +kernel
theorem dX11_count_63 : decode cX11_count 63 = .ok (.getfield 56, 3) := by decide +kernel
theorem dX11_count_66 : decode cX11_count 66 = .ok (.invokestatic 327, 3) := by decide +kernel
theorem dX11_count_69 : decode cX11_count 69 = .ok (.ireturn, 1) := by decide +kernel
theorem dX11_count_70 : decode cX11_count 70 = .ok (.aload_n 0, 1) := by decide +kernel
theorem dX11_count_71 : decode cX11_count 71 = .ok (.getfield 28, 3) := by decide +kernel
theorem dX11_count_74 : decode cX11_count 74 = .ok (.ireturn, 1) := by decide +kernel
theorem dX11_count_75 : decode cX11_count 75 = .ok (.aload_n 0, 1) := by decide +kernel
theorem dX11_count_76 : decode cX11_count 76 = .ok (.getfield 281, 3) := by decide +kernel
theorem dX11_count_79 : decode cX11_count 79 = .ok (.ireturn, 1) := by decide +kernel
theorem dX11_count_80 : decode cX11_count 80 = .ok (.aload_n 0, 1) := by decide +kernel
theorem dX11_count_81 : decode cX11_count 81 = .ok (.getfield 284, 3) := by decide +kernel
theorem dX11_count_84 : decode cX11_count 84 = .ok (.ireturn, 1) := by decide +kernel
theorem dX11_count_85 : decode cX11_count 85 = .ok (.bipush (-3), 2) := by decide +kernel
theorem dX11_count_87 : decode cX11_count 87 = .ok (.ireturn, 1) := by decide +kernel
theorem dJ6_bitCount_0f7a4_0 : decode cJ6_bitCount_0f7a4 0 = .ok (.iload_n 0, 1) := by decide +kernel
theorem dJ6_bitCount_0f7a4_1 : decode cJ6_bitCount_0f7a4 1 = .ok (.iload_n 0, 1) := by decide +kernel
theorem dJ6_bitCount_0f7a4_2 : decode cJ6_bitCount_0f7a4 2 = .ok (.iconst 1, 1) := by decide +kernel
theorem dJ6_bitCount_0f7a4_3 : decode cJ6_bitCount_0f7a4 3 = .ok (.iushr, 1) := by decide +kernel
theorem dJ6_bitCount_0f7a4_4 : decode cJ6_bitCount_0f7a4 4 = .ok (.ldc_w 265, 3) := by decide +kernel
theorem dJ6_bitCount_0f7a4_7 : decode cJ6_bitCount_0f7a4 7 = .ok (.iand, 1) := by decide +kernel
theorem dJ6_bitCount_0f7a4_8 : decode cJ6_bitCount_0f7a4 8 = .ok (.isub, 1) := by decide +kernel
theorem dJ6_bitCount_0f7a4_9 : decode cJ6_bitCount_0f7a4 9 = .ok (.istore_n 0, 1) := by decide +kernel
theorem dJ6_bitCount_0f7a4_10 : decode cJ6_bitCount_0f7a4 10 = .ok (.iload_n 0, 1) := by decide +kernel
theorem dJ6_bitCount_0f7a4_11 : decode cJ6_bitCount_0f7a4 11 = .ok (.ldc_w 266, 3) := by decide +kernel
theorem dJ6_bitCount_0f7a4_14 : decode cJ6_bitCount_0f7a4 14 = .ok (.iand, 1) := by decide +kernel
theorem dJ6_bitCount_0f7a4_15 : decode cJ6_bitCount_0f7a4 15 = .ok (.iload_n 0, 1) := by decide +kernel
theorem dJ6_bitCount_0f7a4_16 : decode cJ6_bitCount_0f7a4 16 = .ok (.iconst 2, 1) := by decide +kernel
theorem dJ6_bitCount_0f7a4_17 : decode cJ6_bitCount_0f7a4 17 = .ok (.iushr, 1) := by decide +kernel
theorem dJ6_bitCount_0f7a4_18 : decode cJ6_bitCount_0f7a4 18 = .ok (.ldc_w 266, 3) := by decide +kernel
theorem dJ6_bitCount_0f7a4_21 : decode cJ6_bitCount_0f7a4 21 = .ok (.iand, 1) := by decide +kernel
theorem dJ6_bitCount_0f7a4_22 : decode cJ6_bitCount_0f7a4 22 = .ok (.iadd, 1) := by decide +kernel
theorem dJ6_bitCount_0f7a4_23 : decode cJ6_bitCount_0f7a4 23 = .ok (.istore_n 0, 1) := by decide +kernel
theorem dJ6_bitCount_0f7a4_24 : decode cJ6_bitCount_0f7a4 24 = .ok (.iload_n 0, 1) := by decide +kernel
theorem dJ6_bitCount_0f7a4_25 : decode cJ6_bitCount_0f7a4 25 = .ok (.iload_n 0, 1) := by decide +kernel
theorem dJ6_bitCount_0f7a4_26 : decode cJ6_bitCount_0f7a4 26 = .ok (.iconst 4, 1) := by decide +kernel
theorem dJ6_bitCount_0f7a4_27 : decode cJ6_bitCount_0f7a4 27 = .ok (.iushr, 1) := by decide +kernel
theorem dJ6_bitCount_0f7a4_28 : decode cJ6_bitCount_0f7a4 28 = .ok (.iadd, 1) := by decide +kernel
theorem dJ6_bitCount_0f7a4_29 : decode cJ6_bitCount_0f7a4 29 = .ok (.ldc_w 267, 3) := by decide +kernel
theorem dJ6_bitCount_0f7a4_32 : decode cJ6_bitCount_0f7a4 32 = .ok (.iand, 1) := by decide +kernel
theorem dJ6_bitCount_0f7a4_33 : decode cJ6_bitCount_0f7a4 33 = .ok (.istore_n 0, 1) := by decide +kernel
theorem dJ6_bitCount_0f7a4_34 : decode cJ6_bitCount_0f7a4 34 = .ok (.iload_n 0, 1) := by decide +kernel
theorem dJ6_bitCount_0f7a4_35 : decode cJ6_bitCount_0f7a4 35 = .ok (.iload_n 0, 1) := by decide +kernel
theorem dJ6_bitCount_0f7a4_36 : decode cJ6_bitCount_0f7a4 36 = .ok (.bipush 8, 2) := by decide +kernel
theorem dJ6_bitCount_0f7a4_38 : decode cJ6_bitCount_0f7a4 38 = .ok (.iushr, 1) := by decide +kernel
theorem dJ6_bitCount_0f7a4_39 : decode cJ6_bitCount_0f7a4 39 = .ok (.iadd, 1) := by decide +kernel
theorem dJ6_bitCount_0f7a4_40 : decode cJ6_bitCount_0f7a4 40 = .ok (.istore_n 0, 1) := by decide +kernel
theorem dJ6_bitCount_0f7a4_41 : decode cJ6_bitCount_0f7a4 41 = .ok (.iload_n 0, 1) := by decide +kernel
theorem dJ6_bitCount_0f7a4_42 : decode cJ6_bitCount_0f7a4 42 = .ok (.iload_n 0, 1) := by decide +kernel
theorem dJ6_bitCount_0f7a4_43 : decode cJ6_bitCount_0f7a4 43 = .ok (.bipush 16, 2) := by decide +kernel
theorem dJ6_bitCount_0f7a4_45 : decode cJ6_bitCount_0f7a4 45 = .ok (.iushr, 1) := by decide +kernel
theorem dJ6_bitCount_0f7a4_46 : decode cJ6_bitCount_0f7a4 46 = .ok (.iadd, 1) := by decide +kernel
theorem dJ6_bitCount_0f7a4_47 : decode cJ6_bitCount_0f7a4 47 = .ok (.istore_n 0, 1) := by decide +kernel
theorem dJ6_bitCount_0f7a4_48 : decode cJ6_bitCount_0f7a4 48 = .ok (.iload_n 0, 1) := by decide +kernel
theorem dJ6_bitCount_0f7a4_49 : decode cJ6_bitCount_0f7a4 49 = .ok (.bipush 63, 2) := by decide +kernel
theorem dJ6_bitCount_0f7a4_51 : decode cJ6_bitCount_0f7a4 51 = .ok (.iand, 1) := by decide +kernel
theorem dJ6_bitCount_0f7a4_52 : decode cJ6_bitCount_0f7a4 52 = .ok (.ireturn, 1) := by decide +kernel
theorem dJ9_abs_0f7a4_0 : decode cJ9_abs_0f7a4 0 = .ok (.iload_n 0, 1) := by decide +kernel
theorem dJ9_abs_0f7a4_1 : decode cJ9_abs_0f7a4 1 = .ok (.ifCond .ge 8, 3) := by decide +kernel
theorem dJ9_abs_0f7a4_4 : decode cJ9_abs_0f7a4 4 = .ok (.iload_n 0, 1) := by decide +kernel
theorem dJ9_abs_0f7a4_5 : decode cJ9_abs_0f7a4 5 = .ok (.ineg, 1) := by decide +kernel
theorem dJ9_abs_0f7a4_6 : decode cJ9_abs_0f7a4 6 = .ok (.goto 4, 3) := by decide +kernel
theorem dJ9_abs_0f7a4_9 : decode cJ9_abs_0f7a4 9 = .ok (.iload_n 0, 1) := by decide +kernel
theorem dJ9_abs_0f7a4_10 : decode cJ9_abs_0f7a4 10 = .ok (.ireturn, 1) := by decide +kernel
theorem dJ9_max_7cf53_0 : decode cJ9_max_7cf53 0 = .ok (.iload_n 0, 1) := by decide +kernel
theorem dJ9_max_7cf53_1 : decode cJ9_max_7cf53 1 = .ok (.iload_n 1, 1) := by decide +kernel
theorem dJ9_max_7cf53_2 : decode cJ9_max_7cf53 2 = .ok (.if_icmp .lt 7, 3) := by decide +kernel
theorem dJ9_max_7cf53_5 : decode cJ9_max_7cf53 5 = .ok (.iload_n 0, 1) := by decide +kernel
theorem dJ9_max_7cf53_6 : decode cJ9_max_7cf53 6 = .ok (.goto 4, 3) := by decide +kernel
theorem dJ9_max_7cf53_9 : decode cJ9_max_7cf53 9 = .ok (.iload_n 1, 1) := by decide +kernel
theorem dJ9_max_7cf53_10 : decode cJ9_max_7cf53 10 = .ok (.ireturn, 1) := by decide +kernel
theorem dJ9_min_7cf53_0 : decode cJ9_min_7cf53 0 = .ok (.iload_n 0, 1) := by decide +kernel
theorem dJ9_min_7cf53_1 : decode cJ9_min_7cf53 1 = .ok (.iload_n 1, 1) := by decide +kernel
theorem dJ9_min_7cf53_2 : decode cJ9_min_7cf53 2 = .ok (.if_icmp .gt 7, 3) := by decide +kernel
theorem dJ9_min_7cf53_5 : decode cJ9_min_7cf53 5 = .ok (.iload_n 0, 1) := by decide +kernel
theorem dJ9_min_7cf53_6 : decode cJ9_min_7cf53 6 = .ok (.goto 4, 3) := by decide +kernel
theorem dJ9_min_7cf53_9 : decode cJ9_min_7cf53 9 = .ok (.iload_n 1, 1) := by decide +kernel
theorem dJ9_min_7cf53_10 : decode cJ9_min_7cf53 10 = .ok (.ireturn, 1) := by decide +kernel
theorem dJ0_length_8abf5_0 : decode cJ0_length_8abf5 0 = .ok (.aload_n 0, 1) := by decide +kernel
theorem dJ0_length_8abf5_1 : decode cJ0_length_8abf5 1 = .ok (.getfield 9, 3) := by decide +kernel
theorem dJ0_length_8abf5_4 : decode cJ0_length_8abf5 4 = .ok (.arraylength, 1) := by decide +kernel
theorem dJ0_length_8abf5_5 : decode cJ0_length_8abf5 5 = .ok (.aload_n 0, 1) := by decide +kernel
theorem dJ0_length_8abf5_6 : decode cJ0_length_8abf5 6 = .ok (.invokevirtual 335, 3) := by decide +kernel
theorem dJ0_length_8abf5_9 : decode cJ0_length_8abf5 9 = .ok (.ishr, 1) := by decide +kernel
theorem dJ0_length_8abf5_10 : decode cJ0_length_8abf5 10 = .ok (.ireturn, 1) := by decide +kernel
theorem dJ0_charAt_5068e_0 : decode cJ0_charAt_5068e 0 = .ok (.aload_n 0, 1) := by decide +kernel
theorem dJ0_charAt_5068e_1 : decode cJ0_charAt_5068e 1 = .ok (.invokevirtual 492, 3) := by decide +kernel
theorem dJ0_charAt_5068e_4 : decode cJ0_charAt_5068e 4 = .ok (.ifCond .eq 12, 3) := by decide +kernel
theorem dJ0_charAt_5068e_7 : decode cJ0_charAt_5068e 7 = .ok (.aload_n 0, 1) := by decide +kernel
theorem dJ0_charAt_5068e_8 : decode cJ0_charAt_5068e 8 = .ok (.getfield 9, 3) := by decide +kernel
theorem dJ0_charAt_5068e_11 : decode cJ0_charAt_5068e 11 = .ok (.iload_n 1, 1) := by decide +kernel
theorem dJ0_charAt_5068e_12 : decode cJ0_charAt_5068e 12 = .ok (.invokestatic 495, 3) := by decide +kernel
theorem dJ0_charAt_5068e_15 : decode cJ0_charAt_5068e 15 = .ok (.ireturn, 1) := by decide +kernel
theorem dJ0_charAt_5068e_16 : decode cJ0_charAt_5068e 16 = .ok (.aload_n 0, 1) := by decide +kernel
theorem dJ0_charAt_5068e_17 : decode cJ0_charAt_5068e 17 = .ok (.getfield 9, 3) := by decide +kernel
theorem dJ0_charAt_5068e_20 : decode cJ0_charAt_5068e 20 = .ok (.iload_n 1, 1) := by decide +kernel
theorem dJ0_charAt_5068e_21 : decode cJ0_charAt_5068e 21 = .ok (.invokestatic 498, 3) := by decide +kernel
theorem dJ0_charAt_5068e_24 : decode cJ0_charAt_5068e 24 = .ok (.ireturn, 1) := by decide +kernel
theorem dJ0_coder_7d493_0 : decode cJ0_coder_7d493 0 = .ok (.getstatic 38, 3) := by decide +kernel
theorem dJ0_coder_7d493_3 : decode cJ0_coder_7d493 3 = .ok (.ifCond .eq 10, 3) := by decide +kernel
theorem dJ0_coder_7d493_6 : decode cJ0_coder_7d493 6 = .ok (.aload_n 0, 1) := by decide +kernel
theorem dJ0_coder_7d493_7 : decode cJ0_coder_7d493 7 = .ok (.getfield 15, 3) := by decide +kernel
theorem dJ0_coder_7d493_10 : decode cJ0_coder_7d493 10 = .ok (.goto 4, 3) := by decide +kernel
theorem dJ0_coder_7d493_13 : decode cJ0_coder_7d493 13 = .ok (.iconst 1, 1) := by decide +kernel
theorem dJ0_coder_7d493_14 : decode cJ0_coder_7d493 14 = .ok (.ireturn, 1) := by decide +kernel
theorem dJ0_isLatin1_aae02_0 : decode cJ0_isLatin1_aae02 0 = .ok (.getstatic 38, 3) := by decide +kernel
theorem dJ0_isLatin1_aae02_3 : decode cJ0_isLatin1_aae02 3 = .ok (.ifCond .eq 14, 3) := by decide +kernel
theorem dJ0_isLatin1_aae02_6 : decode cJ0_isLatin1_aae02 6 = .ok (.aload_n 0, 1) := by decide +kernel
theorem dJ0_isLatin1_aae02_7 : decode cJ0_isLatin1_aae02 7 = .ok (.getfield 15, 3) := by decide +kernel
theorem dJ0_isLatin1_aae02_10 : decode cJ0_isLatin1_aae02 10 = .ok (.ifCond .ne 7, 3) := by decide +kernel
theorem dJ0_isLatin1_aae02_13 : decode cJ0_isLatin1_aae02 13 = .ok (.iconst 1, 1) := by decide +kernel
theorem dJ0_isLatin1_aae02_14 : decode cJ0_isLatin1_aae02 14 = .ok (.goto 4, 3) := by decide +kernel
theorem dJ0_isLatin1_aae02_17 : decode cJ0_isLatin1_aae02 17 = .ok (.iconst 0, 1) := by decide +kernel
theorem dJ0_isLatin1_aae02_18 : decode cJ0_isLatin1_aae02 18 = .ok (.ireturn, 1) := by decide +kernel
theorem dJ0_checkIndex_df160_0 : decode cJ0_checkIndex_df160 0 = .ok (.iload_n 0, 1) := by decide +kernel
theorem dJ0_checkIndex_df160_1 : decode cJ0_checkIndex_df160 1 = .ok (.iload_n 1, 1) := by decide +kernel
theorem dJ0_checkIndex_df160_2 : decode cJ0_checkIndex_df160 2 = .ok (.getstatic 1053, 3) := by decide +kernel
theorem dJ0_checkIndex_df160_5 : decode cJ0_checkIndex_df160 5 = .ok (.invokestatic 1059, 3) := by decide +kernel
theorem dJ0_checkIndex_df160_8 : decode cJ0_checkIndex_df160 8 = .ok (.pop, 1) := by decide +kernel
theorem dJ0_checkIndex_df160_9 : decode cJ0_checkIndex_df160 9 = .ok (.return_, 1) := by decide +kernel
theorem dJ1_charAt_3b067_0 : decode cJ1_charAt_3b067 0 = .ok (.iload_n 1, 1) := by decide +kernel
theorem dJ1_charAt_3b067_1 : decode cJ1_charAt_3b067 1 = .ok (.aload_n 0, 1) := by decide +kernel
theorem dJ1_charAt_3b067_2 : decode cJ1_charAt_3b067 2 = .ok (.arraylength, 1) := by decide +kernel
theorem dJ1_charAt_3b067_3 : decode cJ1_charAt_3b067 3 = .ok (.invokestatic 9, 3) := by decide +kernel
theorem dJ1_charAt_3b067_6 : decode cJ1_charAt_3b067 6 = .ok (.aload_n 0, 1) := by decide +kernel
theorem dJ1_charAt_3b067_7 : decode cJ1_charAt_3b067 7 = .ok (.iload_n 1, 1) := by decide +kernel
theorem dJ1_charAt_3b067_8 : decode cJ1_charAt_3b067 8 = .ok (.baload, 1) := by decide +kernel
theorem dJ1_charAt_3b067_9 : decode cJ1_charAt_3b067 9 = .ok (.sipush 255, 3) := by decide +kernel
theorem dJ1_charAt_3b067_12 : decode cJ1_charAt_3b067 12 = .ok (.iand, 1) := by decide +kernel
theorem dJ1_charAt_3b067_13 : decode cJ1_charAt_3b067 13 = .ok (.i2c, 1) := by decide +kernel
theorem dJ1_charAt_3b067_14 : decode cJ1_charAt_3b067 14 = .ok (.ireturn, 1) := by decide +kernel
theorem dJ2_getChar_3b067_0 : decode cJ2_getChar_3b067 0 = .ok (.getstatic 44, 3) := by decide +kernel
theorem dJ2_getChar_3b067_3 : decode cJ2_getChar_3b067 3 = .ok (.ifCond .ne 25, 3) := by decide +kernel
theorem dJ2_getChar_3b067_6 : decode cJ2_getChar_3b067 6 = .ok (.iload_n 1, 1) := by decide +kernel
theorem dJ2_getChar_3b067_7 : decode cJ2_getChar_3b067 7 = .ok (.ifCond .lt 11, 3) := by decide +kernel
theorem dJ2_getChar_3b067_10 : decode cJ2_getChar_3b067 10 = .ok (.iload_n 1, 1) := by decide +kernel
theorem dJ2_getChar_3b067_11 : decode cJ2_getChar_3b067 11 = .ok (.aload_n 0, 1) := by decide +kernel
theorem dJ2_getChar_3b067_12 : decode cJ2_getChar_3b067 12 = .ok (.invokestatic 48, 3) := by decide +kernel
theorem dJ2_getChar_3b067_15 : decode cJ2_getChar_3b067 15 = .ok (.if_icmp .lt 13, 3) := by decide +kernel
theorem dJ2_getChar_3b067_18 : decode cJ2_getChar_3b067 18 = .ok (.new 52, 3) := by decide +kernel
theorem dJ2_getChar_3b067_21 : decode cJ2_getChar_3b067 21 = .ok (.dup, 1) := by decide +kernel
theorem dJ2_getChar_3b067_22 : decode cJ2_getChar_3b067 22 = .ok (.ldc 54, 2) := by decide +kernel
theorem dJ2_getChar_3b067_24 : decode cJ2_getChar_3b067 24 = .ok (.invokespecial 56, 3) := by decide +kernel
theorem dJ2_getChar_3b067_27 : decode cJ2_getChar_3b067 27 = .ok (.athrow, 1) := by decide +kernel
theorem dJ2_getChar_3b067_28 : decode cJ2_getChar_3b067 28 = .ok (.iload_n 1, 1) := by decide +kernel
theorem dJ2_getChar_3b067_29 : decode cJ2_getChar_3b067 29 = .ok (.iconst 1, 1) := by decide +kernel
theorem dJ2_getChar_3b067_30 : decode cJ2_getChar_3b067 30 = .ok (.ishl, 1) := by decide +kernel
theorem dJ2_getChar_3b067_31 : decode cJ2_getChar_3b067 31 = .ok (.istore_n 1, 1) := by decide +kernel
theorem dJ2_getChar_3b067_32 : decode cJ2_getChar_3b067 32 = .ok (.aload_n 0, 1) := by decide +kernel
theorem dJ2_getChar_3b067_33 : decode cJ2_getChar_3b067 33 = .ok (.iload_n 1, 1) := by decide +kernel
theorem dJ2_getChar_3b067_34 : decode cJ2_getChar_3b067 34 = .ok (.iinc 1 1, 3) := by decide +kernel
theorem dJ2_getChar_3b067_37 : decode cJ2_getChar_3b067 37 = .ok (.baload, 1) := by decide +kernel
theorem dJ2_getChar_3b067_38 : decode cJ2_getChar_3b067 38 = .ok (.sipush 255, 3) := by decide +kernel
theorem dJ2_getChar_3b067_41 : decode cJ2_getChar_3b067 41 = .ok (.iand, 1) := by decide +kernel
theorem dJ2_getChar_3b067_42 : decode cJ2_getChar_3b067 42 = .ok (.getstatic 59, 3) := by decide +kernel
theorem dJ2_getChar_3b067_45 : decode cJ2_getChar_3b067 45 = .ok (.ishl, 1) := by decide +kernel
theorem dJ2_getChar_3b067_46 : decode cJ2_getChar_3b067 46 = .ok (.aload_n 0, 1) := by decide +kernel
theorem dJ2_getChar_3b067_47 : decode cJ2_getChar_3b067 47 = .ok (.iload_n 1, 1) := by decide +kernel
theorem dJ2_getChar_3b067_48 : decode cJ2_getChar_3b067 48 = .ok (.baload, 1) := by decide +kernel
theorem dJ2_getChar_3b067_49 : decode cJ2_getChar_3b067 49 = .ok (.sipush 255, 3) := by decide +kernel
theorem dJ2_getChar_3b067_52 : decode cJ2_getChar_3b067 52 = .ok (.iand, 1) := by decide +kernel
theorem dJ2_getChar_3b067_53 : decode cJ2_getChar_3b067 53 = .ok (.getstatic 63, 3) := by decide +kernel
theorem dJ2_getChar_3b067_56 : decode cJ2_getChar_3b067 56 = .ok (.ishl, 1) := by decide +kernel
theorem dJ2_getChar_3b067_57 : decode cJ2_getChar_3b067 57 = .ok (.ior, 1) := by decide +kernel
theorem dJ2_getChar_3b067_58 : decode cJ2_getChar_3b067 58 = .ok (.i2c, 1) := by decide +kernel
theorem dJ2_getChar_3b067_59 : decode cJ2_getChar_3b067 59 = .ok (.ireturn, 1) := by decide +kernel
theorem dJ2_length_9d52b_0 : decode cJ2_length_9d52b 0 = .ok (.aload_n 0, 1) := by decide +kernel
theorem dJ2_length_9d52b_1 : decode cJ2_length_9d52b 1 = .ok (.arraylength, 1) := by decide +kernel
theorem dJ2_length_9d52b_2 : decode cJ2_length_9d52b 2 = .ok (.iconst 1, 1) := by decide +kernel
theorem dJ2_length_9d52b_3 : decode cJ2_length_9d52b 3 = .ok (.ishr, 1) := by decide +kernel
theorem dJ2_length_9d52b_4 : decode cJ2_length_9d52b 4 = .ok (.ireturn, 1) := by decide +kernel
theorem dJ2_charAt_3b067_0 : decode cJ2_charAt_3b067 0 = .ok (.iload_n 1, 1) := by decide +kernel
theorem dJ2_charAt_3b067_1 : decode cJ2_charAt_3b067 1 = .ok (.aload_n 0, 1) := by decide +kernel
theorem dJ2_charAt_3b067_2 : decode cJ2_charAt_3b067 2 = .ok (.invokestatic 67, 3) := by decide +kernel
theorem dJ2_charAt_3b067_5 : decode cJ2_charAt_3b067 5 = .ok (.aload_n 0, 1) := by decide +kernel
theorem dJ2_charAt_3b067_6 : decode cJ2_charAt_3b067 6 = .ok (.iload_n 1, 1) := by decide +kernel
theorem dJ2_charAt_3b067_7 : decode cJ2_charAt_3b067 7 = .ok (.invokestatic 71, 3) := by decide +kernel
theorem dJ2_charAt_3b067_10 : decode cJ2_charAt_3b067 10 = .ok (.ireturn, 1) := by decide +kernel
theorem dJ2_checkIndex_2214a_0 : decode cJ2_checkIndex_2214a 0 = .ok (.iload_n 0, 1) := by decide +kernel
theorem dJ2_checkIndex_2214a_1 : decode cJ2_checkIndex_2214a 1 = .ok (.aload_n 1, 1) := by decide +kernel
theorem dJ2_checkIndex_2214a_2 : decode cJ2_checkIndex_2214a 2 = .ok (.invokestatic 48, 3) := by decide +kernel
theorem dJ2_checkIndex_2214a_5 : decode cJ2_checkIndex_2214a 5 = .ok (.invokestatic 414, 3) := by decide +kernel
theorem dJ2_checkIndex_2214a_8 : decode cJ2_checkIndex_2214a 8 = .ok (.return_, 1) := by decide +kernel
theorem dJ7_fill_53178_0 : decode cJ7_fill_53178 0 = .ok (.iconst 0, 1) := by decide +kernel
theorem dJ7_fill_53178_1 : decode cJ7_fill_53178 1 = .ok (.istore_n 2, 1) := by decide +kernel
theorem dJ7_fill_53178_2 : decode cJ7_fill_53178 2 = .ok (.aload_n 0, 1) := by decide +kernel
theorem dJ7_fill_53178_3 : decode cJ7_fill_53178 3 = .ok (.arraylength, 1) := by decide +kernel
theorem dJ7_fill_53178_4 : decode cJ7_fill_53178 4 = .ok (.istore_n 3, 1) := by decide +kernel
theorem dJ7_fill_53178_5 : decode cJ7_fill_53178 5 = .ok (.iload_n 2, 1) := by decide +kernel
theorem dJ7_fill_53178_6 : decode cJ7_fill_53178 6 = .ok (.iload_n 3, 1) := by decide +kernel
theorem dJ7_fill_53178_7 : decode cJ7_fill_53178 7 = .ok (.if_icmp .ge 13, 3) := by decide +kernel
theorem dJ7_fill_53178_10 : decode cJ7_fill_53178 10 = .ok (.aload_n 0, 1) := by decide +kernel
theorem dJ7_fill_53178_11 : decode cJ7_fill_53178 11 = .ok (.iload_n 2, 1) := by decide +kernel
theorem dJ7_fill_53178_12 : decode cJ7_fill_53178 12 = .ok (.iload_n 1, 1) := by decide +kernel
theorem dJ7_fill_53178_13 : decode cJ7_fill_53178 13 = .ok (.iastore, 1) := by decide +kernel
theorem dJ7_fill_53178_14 : decode cJ7_fill_53178 14 = .ok (.iinc 2 1, 3) := by decide +kernel
theorem dJ7_fill_53178_17 : decode cJ7_fill_53178 17 = .ok (.goto (-12), 3) := by decide +kernel
theorem dJ7_fill_53178_20 : decode cJ7_fill_53178 20 = .ok (.return_, 1) := by decide +kernel
theorem dJ3_checkIndex_8e157_0 : decode cJ3_checkIndex_8e157 0 = .ok (.iload_n 0, 1) := by decide +kernel
theorem dJ3_checkIndex_8e157_1 : decode cJ3_checkIndex_8e157 1 = .ok (.ifCond .lt 8, 3) := by decide +kernel
theorem dJ3_checkIndex_8e157_4 : decode cJ3_checkIndex_8e157 4 = .ok (.iload_n 0, 1) := by decide +kernel
theorem dJ3_checkIndex_8e157_5 : decode cJ3_checkIndex_8e157 5 = .ok (.iload_n 1, 1) := by decide +kernel
theorem dJ3_checkIndex_8e157_6 : decode cJ3_checkIndex_8e157 6 = .ok (.if_icmp .lt 10, 3) := by decide +kernel
theorem dJ3_checkIndex_8e157_9 : decode cJ3_checkIndex_8e157 9 = .ok (.aload_n 2, 1) := by decide +kernel
theorem dJ3_checkIndex_8e157_10 : decode cJ3_checkIndex_8e157 10 = .ok (.iload_n 0, 1) := by decide +kernel
theorem dJ3_checkIndex_8e157_11 : decode cJ3_checkIndex_8e157 11 = .ok (.iload_n 1, 1) := by decide +kernel
theorem dJ3_checkIndex_8e157_12 : decode cJ3_checkIndex_8e157 12 = .ok (.invokestatic 95, 3) := by decide +kernel
theorem dJ3_checkIndex_8e157_15 : decode cJ3_checkIndex_8e157 15 = .ok (.athrow, 1) := by decide +kernel
theorem dJ3_checkIndex_8e157_16 : decode cJ3_checkIndex_8e157 16 = .ok (.iload_n 0, 1) := by decide +kernel
theorem dJ3_checkIndex_8e157_17 : decode cJ3_checkIndex_8e157 17 = .ok (.ireturn, 1) := by decide +kernel
theorem dL_law_0 : decode cL_law 0 = .ok (.new 7, 3) := by decide +kernel
theorem dL_law_3 : decode cL_law 3 = .ok (.dup, 1) := by decide +kernel
theorem dL_law_4 : decode cL_law 4 = .ok (.invokespecial 9, 3) := by decide +kernel
theorem dL_law_7 : decode cL_law 7 = .ok (.astore_n 1, 1) := by decide +kernel
theorem dL_law_8 : decode cL_law 8 = .ok (.new 10, 3) := by decide +kernel
theorem dL_law_11 : decode cL_law 11 = .ok (.dup, 1) := by decide +kernel
theorem dL_law_12 : decode cL_law 12 = .ok (.invokespecial 12, 3) := by decide +kernel
theorem dL_law_15 : decode cL_law 15 = .ok (.astore_n 2, 1) := by decide +kernel
theorem dL_law_16 : decode cL_law 16 = .ok (.iconst 0, 1) := by decide +kernel
theorem dL_law_17 : decode cL_law 17 = .ok (.istore_n 3, 1) := by decide +kernel
theorem dL_law_18 : decode cL_law 18 = .ok (.iload_n 3, 1) := by decide +kernel
theorem dL_law_19 : decode cL_law 19 = .ok (.aload_n 0, 1) := by decide +kernel
theorem dL_law_20 : decode cL_law 20 = .ok (.arraylength, 1) := by decide +kernel
theorem dL_law_21 : decode cL_law 21 = .ok (.bipush 7, 2) := by decide +kernel
theorem dL_law_23 : decode cL_law 23 = .ok (.isub, 1) := by decide +kernel
theorem dL_law_24 : decode cL_law 24 = .ok (.if_icmp .gt 1073, 3) := by decide +kernel
theorem dL_law_27 : decode cL_law 27 = .ok (.aload_n 0, 1) := by decide +kernel
theorem dL_law_28 : decode cL_law 28 = .ok (.iload_n 3, 1) := by decide +kernel
theorem dL_law_29 : decode cL_law 29 = .ok (.iaload, 1) := by decide +kernel
theorem dL_law_30 : decode cL_law 30 = .ok (.bipush 31, 2) := by decide +kernel
theorem dL_law_32 : decode cL_law 32 = .ok (.iand, 1) := by decide +kernel
theorem dL_law_33 : decode cL_law 33 = .ok (.tableswitch 1058 0 24 #[115, 178, 211, 254, 267, 350, 433, 496, 509, 522, 535, 568, 611, 654, 745, 768, 801, 824, 857, 900, 923, 936, 969, 1002, 1035], 115) := by decide +kernel
theorem dL_law_148 : decode cL_law 148 = .ok (.aload_n 1, 1) := by decide +kernel
theorem dL_law_149 : decode cL_law 149 = .ok (.aload_n 0, 1) := by decide +kernel
theorem dL_law_150 : decode cL_law 150 = .ok (.iload_n 3, 1) := by decide +kernel
theorem dL_law_151 : decode cL_law 151 = .ok (.iconst 1, 1) := by decide +kernel
theorem dL_law_152 : decode cL_law 152 = .ok (.iadd, 1) := by decide +kernel
theorem dL_law_153 : decode cL_law 153 = .ok (.iaload, 1) := by decide +kernel
theorem dL_law_154 : decode cL_law 154 = .ok (.aload_n 0, 1) := by decide +kernel
theorem dL_law_155 : decode cL_law 155 = .ok (.iload_n 3, 1) := by decide +kernel
theorem dL_law_156 : decode cL_law 156 = .ok (.iconst 2, 1) := by decide +kernel
theorem dL_law_157 : decode cL_law 157 = .ok (.iadd, 1) := by decide +kernel
theorem dL_law_158 : decode cL_law 158 = .ok (.iaload, 1) := by decide +kernel
theorem dL_law_159 : decode cL_law 159 = .ok (.aload_n 0, 1) := by decide +kernel
theorem dL_law_160 : decode cL_law 160 = .ok (.iload_n 3, 1) := by decide +kernel
theorem dL_law_161 : decode cL_law 161 = .ok (.iconst 3, 1) := by decide +kernel
theorem dL_law_162 : decode cL_law 162 = .ok (.iadd, 1) := by decide +kernel
theorem dL_law_163 : decode cL_law 163 = .ok (.iaload, 1) := by decide +kernel
theorem dL_law_164 : decode cL_law 164 = .ok (.aload_n 0, 1) := by decide +kernel
theorem dL_law_165 : decode cL_law 165 = .ok (.iload_n 3, 1) := by decide +kernel
theorem dL_law_166 : decode cL_law 166 = .ok (.iconst 4, 1) := by decide +kernel
theorem dL_law_167 : decode cL_law 167 = .ok (.iadd, 1) := by decide +kernel
theorem dL_law_168 : decode cL_law 168 = .ok (.iaload, 1) := by decide +kernel
theorem dL_law_169 : decode cL_law 169 = .ok (.aload_n 0, 1) := by decide +kernel
theorem dL_law_170 : decode cL_law 170 = .ok (.iload_n 3, 1) := by decide +kernel
theorem dL_law_171 : decode cL_law 171 = .ok (.iconst 5, 1) := by decide +kernel
theorem dL_law_172 : decode cL_law 172 = .ok (.iadd, 1) := by decide +kernel
theorem dL_law_173 : decode cL_law 173 = .ok (.iaload, 1) := by decide +kernel
theorem dL_law_174 : decode cL_law 174 = .ok (.invokevirtual 13, 3) := by decide +kernel
theorem dL_law_177 : decode cL_law 177 = .ok (.aload_n 2, 1) := by decide +kernel
theorem dL_law_178 : decode cL_law 178 = .ok (.aload_n 0, 1) := by decide +kernel
theorem dL_law_179 : decode cL_law 179 = .ok (.iload_n 3, 1) := by decide +kernel
theorem dL_law_180 : decode cL_law 180 = .ok (.iconst 1, 1) := by decide +kernel
theorem dL_law_181 : decode cL_law 181 = .ok (.iadd, 1) := by decide +kernel
theorem dL_law_182 : decode cL_law 182 = .ok (.iaload, 1) := by decide +kernel
theorem dL_law_183 : decode cL_law 183 = .ok (.aload_n 0, 1) := by decide +kernel
theorem dL_law_184 : decode cL_law 184 = .ok (.iload_n 3, 1) := by decide +kernel
theorem dL_law_185 : decode cL_law 185 = .ok (.iconst 2, 1) := by decide +kernel
theorem dL_law_186 : decode cL_law 186 = .ok (.iadd, 1) := by decide +kernel
theorem dL_law_187 : decode cL_law 187 = .ok (.iaload, 1) := by decide +kernel
theorem dL_law_188 : decode cL_law 188 = .ok (.aload_n 0, 1) := by decide +kernel
theorem dL_law_189 : decode cL_law 189 = .ok (.iload_n 3, 1) := by decide +kernel
theorem dL_law_190 : decode cL_law 190 = .ok (.iconst 3, 1) := by decide +kernel
theorem dL_law_191 : decode cL_law 191 = .ok (.iadd, 1) := by decide +kernel
theorem dL_law_192 : decode cL_law 192 = .ok (.iaload, 1) := by decide +kernel
theorem dL_law_193 : decode cL_law 193 = .ok (.aload_n 0, 1) := by decide +kernel
theorem dL_law_194 : decode cL_law 194 = .ok (.iload_n 3, 1) := by decide +kernel
theorem dL_law_195 : decode cL_law 195 = .ok (.iconst 4, 1) := by decide +kernel
theorem dL_law_196 : decode cL_law 196 = .ok (.iadd, 1) := by decide +kernel
theorem dL_law_197 : decode cL_law 197 = .ok (.iaload, 1) := by decide +kernel
theorem dL_law_198 : decode cL_law 198 = .ok (.aload_n 0, 1) := by decide +kernel
theorem dL_law_199 : decode cL_law 199 = .ok (.iload_n 3, 1) := by decide +kernel
theorem dL_law_200 : decode cL_law 200 = .ok (.iconst 5, 1) := by decide +kernel
theorem dL_law_201 : decode cL_law 201 = .ok (.iadd, 1) := by decide +kernel
theorem dL_law_202 : decode cL_law 202 = .ok (.iaload, 1) := by decide +kernel
theorem dL_law_203 : decode cL_law 203 = .ok (.invokevirtual 17, 3) := by decide +kernel
theorem dL_law_206 : decode cL_law 206 = .ok (.if_icmp .eq 885, 3) := by decide +kernel
theorem dL_law_209 : decode cL_law 209 = .ok (.iconst 0, 1) := by decide +kernel
theorem dL_law_210 : decode cL_law 210 = .ok (.ireturn, 1) := by decide +kernel
theorem dL_law_211 : decode cL_law 211 = .ok (.aload_n 1, 1) := by decide +kernel
theorem dL_law_212 : decode cL_law 212 = .ok (.aload_n 0, 1) := by decide +kernel
theorem dL_law_213 : decode cL_law 213 = .ok (.iload_n 3, 1) := by decide +kernel
theorem dL_law_214 : decode cL_law 214 = .ok (.iconst 1, 1) := by decide +kernel
theorem dL_law_215 : decode cL_law 215 = .ok (.iadd, 1) := by decide +kernel
theorem dL_law_216 : decode cL_law 216 = .ok (.iaload, 1) := by decide +kernel
theorem dL_law_217 : decode cL_law 217 = .ok (.aload_n 0, 1) := by decide +kernel
theorem dL_law_218 : decode cL_law 218 = .ok (.iload_n 3, 1) := by decide +kernel
theorem dL_law_219 : decode cL_law 219 = .ok (.iconst 2, 1) := by decide +kernel
theorem dL_law_220 : decode cL_law 220 = .ok (.iadd, 1) := by decide +kernel
theorem dL_law_221 : decode cL_law 221 = .ok (.iaload, 1) := by decide +kernel
theorem dL_law_222 : decode cL_law 222 = .ok (.invokevirtual 18, 3) := by decide +kernel
theorem dL_law_225 : decode cL_law 225 = .ok (.aload_n 2, 1) := by decide +kernel
theorem dL_law_226 : decode cL_law 226 = .ok (.aload_n 0, 1) := by decide +kernel
theorem dL_law_227 : decode cL_law 227 = .ok (.iload_n 3, 1) := by decide +kernel
theorem dL_law_228 : decode cL_law 228 = .ok (.iconst 1, 1) := by decide +kernel
theorem dL_law_229 : decode cL_law 229 = .ok (.iadd, 1) := by decide +kernel
theorem dL_law_230 : decode cL_law 230 = .ok (.iaload, 1) := by decide +kernel
theorem dL_law_231 : decode cL_law 231 = .ok (.aload_n 0, 1) := by decide +kernel
theorem dL_law_232 : decode cL_law 232 = .ok (.iload_n 3, 1) := by decide +kernel
theorem dL_law_233 : decode cL_law 233 = .ok (.iconst 2, 1) := by decide +kernel
theorem dL_law_234 : decode cL_law 234 = .ok (.iadd, 1) := by decide +kernel
theorem dL_law_235 : decode cL_law 235 = .ok (.iaload, 1) := by decide +kernel
theorem dL_law_236 : decode cL_law 236 = .ok (.invokevirtual 22, 3) := by decide +kernel
theorem dL_law_239 : decode cL_law 239 = .ok (.if_icmp .eq 852, 3) := by decide +kernel
theorem dL_law_242 : decode cL_law 242 = .ok (.iconst 0, 1) := by decide +kernel
theorem dL_law_243 : decode cL_law 243 = .ok (.ireturn, 1) := by decide +kernel
theorem dL_law_244 : decode cL_law 244 = .ok (.aload_n 1, 1) := by decide +kernel
theorem dL_law_245 : decode cL_law 245 = .ok (.aload_n 0, 1) := by decide +kernel
theorem dL_law_246 : decode cL_law 246 = .ok (.iload_n 3, 1) := by decide +kernel
theorem dL_law_247 : decode cL_law 247 = .ok (.iconst 1, 1) := by decide +kernel
theorem dL_law_248 : decode cL_law 248 = .ok (.iadd, 1) := by decide +kernel
theorem dL_law_249 : decode cL_law 249 = .ok (.iaload, 1) := by decide +kernel
theorem dL_law_250 : decode cL_law 250 = .ok (.aload_n 0, 1) := by decide +kernel
theorem dL_law_251 : decode cL_law 251 = .ok (.iload_n 3, 1) := by decide +kernel
theorem dL_law_252 : decode cL_law 252 = .ok (.iconst 2, 1) := by decide +kernel
theorem dL_law_253 : decode cL_law 253 = .ok (.iadd, 1) := by decide +kernel
theorem dL_law_254 : decode cL_law 254 = .ok (.iaload, 1) := by decide +kernel
theorem dL_law_255 : decode cL_law 255 = .ok (.aload_n 0, 1) := by decide +kernel
theorem dL_law_256 : decode cL_law 256 = .ok (.iload_n 3, 1) := by decide +kernel
theorem dL_law_257 : decode cL_law 257 = .ok (.iconst 3, 1) := by decide +kernel
theorem dL_law_258 : decode cL_law 258 = .ok (.iadd, 1) := by decide +kernel
theorem dL_law_259 : decode cL_law 259 = .ok (.iaload, 1) := by decide +kernel
theorem dL_law_260 : decode cL_law 260 = .ok (.invokevirtual 23, 3) := by decide +kernel
theorem dL_law_263 : decode cL_law 263 = .ok (.aload_n 2, 1) := by decide +kernel
theorem dL_law_264 : decode cL_law 264 = .ok (.aload_n 0, 1) := by decide +kernel
theorem dL_law_265 : decode cL_law 265 = .ok (.iload_n 3, 1) := by decide +kernel
theorem dL_law_266 : decode cL_law 266 = .ok (.iconst 1, 1) := by decide +kernel
theorem dL_law_267 : decode cL_law 267 = .ok (.iadd, 1) := by decide +kernel
theorem dL_law_268 : decode cL_law 268 = .ok (.iaload, 1) := by decide +kernel
theorem dL_law_269 : decode cL_law 269 = .ok (.aload_n 0, 1) := by decide +kernel
theorem dL_law_270 : decode cL_law 270 = .ok (.iload_n 3, 1) := by decide +kernel
theorem dL_law_271 : decode cL_law 271 = .ok (.iconst 2, 1) := by decide +kernel
theorem dL_law_272 : decode cL_law 272 = .ok (.iadd, 1) := by decide +kernel
theorem dL_law_273 : decode cL_law 273 = .ok (.iaload, 1) := by decide +kernel
theorem dL_law_274 : decode cL_law 274 = .ok (.aload_n 0, 1) := by decide +kernel
theorem dL_law_275 : decode cL_law 275 = .ok (.iload_n 3, 1) := by decide +kernel
theorem dL_law_276 : decode cL_law 276 = .ok (.iconst 3, 1) := by decide +kernel
theorem dL_law_277 : decode cL_law 277 = .ok (.iadd, 1) := by decide +kernel
theorem dL_law_278 : decode cL_law 278 = .ok (.iaload, 1) := by decide +kernel
theorem dL_law_279 : decode cL_law 279 = .ok (.invokevirtual 27, 3) := by decide +kernel
theorem dL_law_282 : decode cL_law 282 = .ok (.if_icmp .eq 809, 3) := by decide +kernel
theorem dL_law_285 : decode cL_law 285 = .ok (.iconst 0, 1) := by decide +kernel
theorem dL_law_286 : decode cL_law 286 = .ok (.ireturn, 1) := by decide +kernel
theorem dL_law_287 : decode cL_law 287 = .ok (.aload_n 1, 1) := by decide +kernel
theorem dL_law_288 : decode cL_law 288 = .ok (.invokevirtual 28, 3) := by decide +kernel
theorem dL_law_291 : decode cL_law 291 = .ok (.aload_n 2, 1) := by decide +kernel
theorem dL_law_292 : decode cL_law 292 = .ok (.invokevirtual 32, 3) := by decide +kernel
theorem dL_law_295 : decode cL_law 295 = .ok (.if_icmp .eq 796, 3) := by decide +kernel
theorem dL_law_298 : decode cL_law 298 = .ok (.iconst 0, 1) := by decide +kernel
theorem dL_law_299 : decode cL_law 299 = .ok (.ireturn, 1) := by decide +kernel
theorem dL_law_300 : decode cL_law 300 = .ok (.aload_n 1, 1) := by decide +kernel
theorem dL_law_301 : decode cL_law 301 = .ok (.aload_n 0, 1) := by decide +kernel
theorem dL_law_302 : decode cL_law 302 = .ok (.iload_n 3, 1) := by decide +kernel
theorem dL_law_303 : decode cL_law 303 = .ok (.iconst 1, 1) := by decide +kernel
theorem dL_law_304 : decode cL_law 304 = .ok (.iadd, 1) := by decide +kernel
theorem dL_law_305 : decode cL_law 305 = .ok (.iaload, 1) := by decide +kernel
theorem dL_law_306 : decode cL_law 306 = .ok (.aload_n 0, 1) := by decide +kernel
theorem dL_law_307 : decode cL_law 307 = .ok (.iload_n 3, 1) := by decide +kernel
theorem dL_law_308 : decode cL_law 308 = .ok (.iconst 2, 1) := by decide +kernel
theorem dL_law_309 : decode cL_law 309 = .ok (.iadd, 1) := by decide +kernel
theorem dL_law_310 : decode cL_law 310 = .ok (.iaload, 1) := by decide +kernel
theorem dL_law_311 : decode cL_law 311 = .ok (.i2l, 1) := by decide +kernel
theorem dL_law_312 : decode cL_law 312 = .ok (.bipush 32, 2) := by decide +kernel
theorem dL_law_314 : decode cL_law 314 = .ok (.lshl, 1) := by decide +kernel
theorem dL_law_315 : decode cL_law 315 = .ok (.aload_n 0, 1) := by decide +kernel
theorem dL_law_316 : decode cL_law 316 = .ok (.iload_n 3, 1) := by decide +kernel
theorem dL_law_317 : decode cL_law 317 = .ok (.iconst 3, 1) := by decide +kernel
theorem dL_law_318 : decode cL_law 318 = .ok (.iadd, 1) := by decide +kernel
theorem dL_law_319 : decode cL_law 319 = .ok (.iaload, 1) := by decide +kernel
theorem dL_law_320 : decode cL_law 320 = .ok (.i2l, 1) := by decide +kernel
theorem dL_law_321 : decode cL_law 321 = .ok (.ldc2_w 33, 3) := by decide +kernel
theorem dL_law_324 : decode cL_law 324 = .ok (.land, 1) := by decide +kernel
theorem dL_law_325 : decode cL_law 325 = .ok (.lor, 1) := by decide +kernel
theorem dL_law_326 : decode cL_law 326 = .ok (.aload_n 0, 1) := by decide +kernel
theorem dL_law_327 : decode cL_law 327 = .ok (.iload_n 3, 1) := by decide +kernel
theorem dL_law_328 : decode cL_law 328 = .ok (.iconst 4, 1) := by decide +kernel
theorem dL_law_329 : decode cL_law 329 = .ok (.iadd, 1) := by decide +kernel
theorem dL_law_330 : decode cL_law 330 = .ok (.iaload, 1) := by decide +kernel
theorem dL_law_331 : decode cL_law 331 = .ok (.aload_n 0, 1) := by decide +kernel
theorem dL_law_332 : decode cL_law 332 = .ok (.iload_n 3, 1) := by decide +kernel
theorem dL_law_333 : decode cL_law 333 = .ok (.iconst 5, 1) := by decide +kernel
theorem dL_law_334 : decode cL_law 334 = .ok (.iadd, 1) := by decide +kernel
theorem dL_law_335 : decode cL_law 335 = .ok (.iaload, 1) := by decide +kernel
theorem dL_law_336 : decode cL_law 336 = .ok (.invokevirtual 35, 3) := by decide +kernel
theorem dL_law_339 : decode cL_law 339 = .ok (.aload_n 2, 1) := by decide +kernel
theorem dL_law_340 : decode cL_law 340 = .ok (.aload_n 0, 1) := by decide +kernel
theorem dL_law_341 : decode cL_law 341 = .ok (.iload_n 3, 1) := by decide +kernel
theorem dL_law_342 : decode cL_law 342 = .ok (.iconst 1, 1) := by decide +kernel
theorem dL_law_343 : decode cL_law 343 = .ok (.iadd, 1) := by decide +kernel
theorem dL_law_344 : decode cL_law 344 = .ok (.iaload, 1) := by decide +kernel
theorem dL_law_345 : decode cL_law 345 = .ok (.aload_n 0, 1) := by decide +kernel
theorem dL_law_346 : decode cL_law 346 = .ok (.iload_n 3, 1) := by decide +kernel
theorem dL_law_347 : decode cL_law 347 = .ok (.iconst 2, 1) := by decide +kernel
theorem dL_law_348 : decode cL_law 348 = .ok (.iadd, 1) := by decide +kernel
theorem dL_law_349 : decode cL_law 349 = .ok (.iaload, 1) := by decide +kernel
theorem dL_law_350 : decode cL_law 350 = .ok (.i2l, 1) := by decide +kernel
theorem dL_law_351 : decode cL_law 351 = .ok (.bipush 32, 2) := by decide +kernel
theorem dL_law_353 : decode cL_law 353 = .ok (.lshl, 1) := by decide +kernel
theorem dL_law_354 : decode cL_law 354 = .ok (.aload_n 0, 1) := by decide +kernel
theorem dL_law_355 : decode cL_law 355 = .ok (.iload_n 3, 1) := by decide +kernel
theorem dL_law_356 : decode cL_law 356 = .ok (.iconst 3, 1) := by decide +kernel
theorem dL_law_357 : decode cL_law 357 = .ok (.iadd, 1) := by decide +kernel
theorem dL_law_358 : decode cL_law 358 = .ok (.iaload, 1) := by decide +kernel
theorem dL_law_359 : decode cL_law 359 = .ok (.i2l, 1) := by decide +kernel
theorem dL_law_360 : decode cL_law 360 = .ok (.ldc2_w 33, 3) := by decide +kernel
theorem dL_law_363 : decode cL_law 363 = .ok (.land, 1) := by decide +kernel
theorem dL_law_364 : decode cL_law 364 = .ok (.lor, 1) := by decide +kernel
theorem dL_law_365 : decode cL_law 365 = .ok (.aload_n 0, 1) := by decide +kernel
theorem dL_law_366 : decode cL_law 366 = .ok (.iload_n 3, 1) := by decide +kernel
theorem dL_law_367 : decode cL_law 367 = .ok (.iconst 4, 1) := by decide +kernel
theorem dL_law_368 : decode cL_law 368 = .ok (.iadd, 1) := by decide +kernel
theorem dL_law_369 : decode cL_law 369 = .ok (.iaload, 1) := by decide +kernel
theorem dL_law_370 : decode cL_law 370 = .ok (.aload_n 0, 1) := by decide +kernel
theorem dL_law_371 : decode cL_law 371 = .ok (.iload_n 3, 1) := by decide +kernel
theorem dL_law_372 : decode cL_law 372 = .ok (.iconst 5, 1) := by decide +kernel
theorem dL_law_373 : decode cL_law 373 = .ok (.iadd, 1) := by decide +kernel
theorem dL_law_374 : decode cL_law 374 = .ok (.iaload, 1) := by decide +kernel
theorem dL_law_375 : decode cL_law 375 = .ok (.invokevirtual 39, 3) := by decide +kernel
theorem dL_law_378 : decode cL_law 378 = .ok (.if_icmp .eq 713, 3) := by decide +kernel
theorem dL_law_381 : decode cL_law 381 = .ok (.iconst 0, 1) := by decide +kernel
theorem dL_law_382 : decode cL_law 382 = .ok (.ireturn, 1) := by decide +kernel
theorem dL_law_383 : decode cL_law 383 = .ok (.aload_n 1, 1) := by decide +kernel
theorem dL_law_384 : decode cL_law 384 = .ok (.aload_n 0, 1) := by decide +kernel
theorem dL_law_385 : decode cL_law 385 = .ok (.iload_n 3, 1) := by decide +kernel
theorem dL_law_386 : decode cL_law 386 = .ok (.iconst 1, 1) := by decide +kernel
theorem dL_law_387 : decode cL_law 387 = .ok (.iadd, 1) := by decide +kernel
theorem dL_law_388 : decode cL_law 388 = .ok (.iaload, 1) := by decide +kernel
theorem dL_law_389 : decode cL_law 389 = .ok (.aload_n 0, 1) := by decide +kernel
theorem dL_law_390 : decode cL_law 390 = .ok (.iload_n 3, 1) := by decide +kernel
theorem dL_law_391 : decode cL_law 391 = .ok (.iconst 2, 1) := by decide +kernel
theorem dL_law_392 : decode cL_law 392 = .ok (.iadd, 1) := by decide +kernel
theorem dL_law_393 : decode cL_law 393 = .ok (.iaload, 1) := by decide +kernel
theorem dL_law_394 : decode cL_law 394 = .ok (.i2l, 1) := by decide +kernel
theorem dL_law_395 : decode cL_law 395 = .ok (.bipush 32, 2) := by decide +kernel
theorem dL_law_397 : decode cL_law 397 = .ok (.lshl, 1) := by decide +kernel
theorem dL_law_398 : decode cL_law 398 = .ok (.aload_n 0, 1) := by decide +kernel
theorem dL_law_399 : decode cL_law 399 = .ok (.iload_n 3, 1) := by decide +kernel
theorem dL_law_400 : decode cL_law 400 = .ok (.iconst 3, 1) := by decide +kernel
theorem dL_law_401 : decode cL_law 401 = .ok (.iadd, 1) := by decide +kernel
theorem dL_law_402 : decode cL_law 402 = .ok (.iaload, 1) := by decide +kernel
theorem dL_law_403 : decode cL_law 403 = .ok (.i2l, 1) := by decide +kernel
theorem dL_law_404 : decode cL_law 404 = .ok (.ldc2_w 33, 3) := by decide +kernel
theorem dL_law_407 : decode cL_law 407 = .ok (.land, 1) := by decide +kernel
theorem dL_law_408 : decode cL_law 408 = .ok (.lor, 1) := by decide +kernel
theorem dL_law_409 : decode cL_law 409 = .ok (.aload_n 0, 1) := by decide +kernel
theorem dL_law_410 : decode cL_law 410 = .ok (.iload_n 3, 1) := by decide +kernel
theorem dL_law_411 : decode cL_law 411 = .ok (.iconst 4, 1) := by decide +kernel
theorem dL_law_412 : decode cL_law 412 = .ok (.iadd, 1) := by decide +kernel
theorem dL_law_413 : decode cL_law 413 = .ok (.iaload, 1) := by decide +kernel
theorem dL_law_414 : decode cL_law 414 = .ok (.aload_n 0, 1) := by decide +kernel
theorem dL_law_415 : decode cL_law 415 = .ok (.iload_n 3, 1) := by decide +kernel
theorem dL_law_416 : decode cL_law 416 = .ok (.iconst 5, 1) := by decide +kernel
theorem dL_law_417 : decode cL_law 417 = .ok (.iadd, 1) := by decide +kernel
theorem dL_law_418 : decode cL_law 418 = .ok (.iaload, 1) := by decide +kernel
theorem dL_law_419 : decode cL_law 419 = .ok (.invokevirtual 40, 3) := by decide +kernel
theorem dL_law_422 : decode cL_law 422 = .ok (.aload_n 2, 1) := by decide +kernel
theorem dL_law_423 : decode cL_law 423 = .ok (.aload_n 0, 1) := by decide +kernel
theorem dL_law_424 : decode cL_law 424 = .ok (.iload_n 3, 1) := by decide +kernel
theorem dL_law_425 : decode cL_law 425 = .ok (.iconst 1, 1) := by decide +kernel
theorem dL_law_426 : decode cL_law 426 = .ok (.iadd, 1) := by decide +kernel
theorem dL_law_427 : decode cL_law 427 = .ok (.iaload, 1) := by decide +kernel
theorem dL_law_428 : decode cL_law 428 = .ok (.aload_n 0, 1) := by decide +kernel
theorem dL_law_429 : decode cL_law 429 = .ok (.iload_n 3, 1) := by decide +kernel
theorem dL_law_430 : decode cL_law 430 = .ok (.iconst 2, 1) := by decide +kernel
theorem dL_law_431 : decode cL_law 431 = .ok (.iadd, 1) := by decide +kernel
theorem dL_law_432 : decode cL_law 432 = .ok (.iaload, 1) := by decide +kernel
theorem dL_law_433 : decode cL_law 433 = .ok (.i2l, 1) := by decide +kernel
theorem dL_law_434 : decode cL_law 434 = .ok (.bipush 32, 2) := by decide +kernel
theorem dL_law_436 : decode cL_law 436 = .ok (.lshl, 1) := by decide +kernel
theorem dL_law_437 : decode cL_law 437 = .ok (.aload_n 0, 1) := by decide +kernel
theorem dL_law_438 : decode cL_law 438 = .ok (.iload_n 3, 1) := by decide +kernel
theorem dL_law_439 : decode cL_law 439 = .ok (.iconst 3, 1) := by decide +kernel
theorem dL_law_440 : decode cL_law 440 = .ok (.iadd, 1) := by decide +kernel
theorem dL_law_441 : decode cL_law 441 = .ok (.iaload, 1) := by decide +kernel
theorem dL_law_442 : decode cL_law 442 = .ok (.i2l, 1) := by decide +kernel
theorem dL_law_443 : decode cL_law 443 = .ok (.ldc2_w 33, 3) := by decide +kernel
theorem dL_law_446 : decode cL_law 446 = .ok (.land, 1) := by decide +kernel
theorem dL_law_447 : decode cL_law 447 = .ok (.lor, 1) := by decide +kernel
theorem dL_law_448 : decode cL_law 448 = .ok (.aload_n 0, 1) := by decide +kernel
theorem dL_law_449 : decode cL_law 449 = .ok (.iload_n 3, 1) := by decide +kernel
theorem dL_law_450 : decode cL_law 450 = .ok (.iconst 4, 1) := by decide +kernel
theorem dL_law_451 : decode cL_law 451 = .ok (.iadd, 1) := by decide +kernel
theorem dL_law_452 : decode cL_law 452 = .ok (.iaload, 1) := by decide +kernel
theorem dL_law_453 : decode cL_law 453 = .ok (.aload_n 0, 1) := by decide +kernel
theorem dL_law_454 : decode cL_law 454 = .ok (.iload_n 3, 1) := by decide +kernel
theorem dL_law_455 : decode cL_law 455 = .ok (.iconst 5, 1) := by decide +kernel
theorem dL_law_456 : decode cL_law 456 = .ok (.iadd, 1) := by decide +kernel
theorem dL_law_457 : decode cL_law 457 = .ok (.iaload, 1) := by decide +kernel
theorem dL_law_458 : decode cL_law 458 = .ok (.invokevirtual 43, 3) := by decide +kernel
theorem dL_law_461 : decode cL_law 461 = .ok (.if_icmp .eq 630, 3) := by decide +kernel
theorem dL_law_464 : decode cL_law 464 = .ok (.iconst 0, 1) := by decide +kernel
theorem dL_law_465 : decode cL_law 465 = .ok (.ireturn, 1) := by decide +kernel
theorem dL_law_466 : decode cL_law 466 = .ok (.aload_n 1, 1) := by decide +kernel
theorem dL_law_467 : decode cL_law 467 = .ok (.aload_n 0, 1) := by decide +kernel
theorem dL_law_468 : decode cL_law 468 = .ok (.iload_n 3, 1) := by decide +kernel
theorem dL_law_469 : decode cL_law 469 = .ok (.iconst 1, 1) := by decide +kernel
theorem dL_law_470 : decode cL_law 470 = .ok (.iadd, 1) := by decide +kernel
theorem dL_law_471 : decode cL_law 471 = .ok (.iaload, 1) := by decide +kernel
theorem dL_law_472 : decode cL_law 472 = .ok (.i2l, 1) := by decide +kernel
theorem dL_law_473 : decode cL_law 473 = .ok (.bipush 32, 2) := by decide +kernel
theorem dL_law_475 : decode cL_law 475 = .ok (.lshl, 1) := by decide +kernel
theorem dL_law_476 : decode cL_law 476 = .ok (.aload_n 0, 1) := by decide +kernel
theorem dL_law_477 : decode cL_law 477 = .ok (.iload_n 3, 1) := by decide +kernel
theorem dL_law_478 : decode cL_law 478 = .ok (.iconst 2, 1) := by decide +kernel
theorem dL_law_479 : decode cL_law 479 = .ok (.iadd, 1) := by decide +kernel
theorem dL_law_480 : decode cL_law 480 = .ok (.iaload, 1) := by decide +kernel
theorem dL_law_481 : decode cL_law 481 = .ok (.i2l, 1) := by decide +kernel
theorem dL_law_482 : decode cL_law 482 = .ok (.ldc2_w 33, 3) := by decide +kernel
theorem dL_law_485 : decode cL_law 485 = .ok (.land, 1) := by decide +kernel
theorem dL_law_486 : decode cL_law 486 = .ok (.lor, 1) := by decide +kernel
theorem dL_law_487 : decode cL_law 487 = .ok (.aload_n 0, 1) := by decide +kernel
theorem dL_law_488 : decode cL_law 488 = .ok (.iload_n 3, 1) := by decide +kernel
theorem dL_law_489 : decode cL_law 489 = .ok (.iconst 3, 1) := by decide +kernel
theorem dL_law_490 : decode cL_law 490 = .ok (.iadd, 1) := by decide +kernel
theorem dL_law_491 : decode cL_law 491 = .ok (.iaload, 1) := by decide +kernel
theorem dL_law_492 : decode cL_law 492 = .ok (.invokevirtual 44, 3) := by decide +kernel
theorem dL_law_495 : decode cL_law 495 = .ok (.aload_n 2, 1) := by decide +kernel
theorem dL_law_496 : decode cL_law 496 = .ok (.aload_n 0, 1) := by decide +kernel
theorem dL_law_497 : decode cL_law 497 = .ok (.iload_n 3, 1) := by decide +kernel
theorem dL_law_498 : decode cL_law 498 = .ok (.iconst 1, 1) := by decide +kernel
theorem dL_law_499 : decode cL_law 499 = .ok (.iadd, 1) := by decide +kernel
theorem dL_law_500 : decode cL_law 500 = .ok (.iaload, 1) := by decide +kernel
theorem dL_law_501 : decode cL_law 501 = .ok (.i2l, 1) := by decide +kernel
theorem dL_law_502 : decode cL_law 502 = .ok (.bipush 32, 2) := by decide +kernel
theorem dL_law_504 : decode cL_law 504 = .ok (.lshl, 1) := by decide +kernel
theorem dL_law_505 : decode cL_law 505 = .ok (.aload_n 0, 1) := by decide +kernel
theorem dL_law_506 : decode cL_law 506 = .ok (.iload_n 3, 1) := by decide +kernel
theorem dL_law_507 : decode cL_law 507 = .ok (.iconst 2, 1) := by decide +kernel
theorem dL_law_508 : decode cL_law 508 = .ok (.iadd, 1) := by decide +kernel
theorem dL_law_509 : decode cL_law 509 = .ok (.iaload, 1) := by decide +kernel
theorem dL_law_510 : decode cL_law 510 = .ok (.i2l, 1) := by decide +kernel
theorem dL_law_511 : decode cL_law 511 = .ok (.ldc2_w 33, 3) := by decide +kernel
theorem dL_law_514 : decode cL_law 514 = .ok (.land, 1) := by decide +kernel
theorem dL_law_515 : decode cL_law 515 = .ok (.lor, 1) := by decide +kernel
theorem dL_law_516 : decode cL_law 516 = .ok (.aload_n 0, 1) := by decide +kernel
theorem dL_law_517 : decode cL_law 517 = .ok (.iload_n 3, 1) := by decide +kernel
theorem dL_law_518 : decode cL_law 518 = .ok (.iconst 3, 1) := by decide +kernel
theorem dL_law_519 : decode cL_law 519 = .ok (.iadd, 1) := by decide +kernel
theorem dL_law_520 : decode cL_law 520 = .ok (.iaload, 1) := by decide +kernel
theorem dL_law_521 : decode cL_law 521 = .ok (.invokevirtual 48, 3) := by decide +kernel
theorem dL_law_524 : decode cL_law 524 = .ok (.if_icmp .eq 567, 3) := by decide +kernel
theorem dL_law_527 : decode cL_law 527 = .ok (.iconst 0, 1) := by decide +kernel
theorem dL_law_528 : decode cL_law 528 = .ok (.ireturn, 1) := by decide +kernel
theorem dL_law_529 : decode cL_law 529 = .ok (.aload_n 1, 1) := by decide +kernel
theorem dL_law_530 : decode cL_law 530 = .ok (.invokevirtual 49, 3) := by decide +kernel
theorem dL_law_533 : decode cL_law 533 = .ok (.aload_n 2, 1) := by decide +kernel
theorem dL_law_534 : decode cL_law 534 = .ok (.invokevirtual 52, 3) := by decide +kernel
theorem dL_law_537 : decode cL_law 537 = .ok (.if_icmp .eq 554, 3) := by decide +kernel
theorem dL_law_540 : decode cL_law 540 = .ok (.iconst 0, 1) := by decide +kernel
theorem dL_law_541 : decode cL_law 541 = .ok (.ireturn, 1) := by decide +kernel
theorem dL_law_542 : decode cL_law 542 = .ok (.aload_n 1, 1) := by decide +kernel
theorem dL_law_543 : decode cL_law 543 = .ok (.invokevirtual 53, 3) := by decide +kernel
theorem dL_law_546 : decode cL_law 546 = .ok (.aload_n 2, 1) := by decide +kernel
theorem dL_law_547 : decode cL_law 547 = .ok (.invokevirtual 56, 3) := by decide +kernel
theorem dL_law_550 : decode cL_law 550 = .ok (.if_icmp .eq 541, 3) := by decide +kernel
theorem dL_law_553 : decode cL_law 553 = .ok (.iconst 0, 1) := by decide +kernel
theorem dL_law_554 : decode cL_law 554 = .ok (.ireturn, 1) := by decide +kernel
theorem dL_law_555 : decode cL_law 555 = .ok (.aload_n 1, 1) := by decide +kernel
theorem dL_law_556 : decode cL_law 556 = .ok (.invokevirtual 57, 3) := by decide +kernel
theorem dL_law_559 : decode cL_law 559 = .ok (.aload_n 2, 1) := by decide +kernel
theorem dL_law_560 : decode cL_law 560 = .ok (.invokevirtual 60, 3) := by decide +kernel
theorem dL_law_563 : decode cL_law 563 = .ok (.if_icmp .eq 528, 3) := by decide +kernel
theorem dL_law_566 : decode cL_law 566 = .ok (.iconst 0, 1) := by decide +kernel
theorem dL_law_567 : decode cL_law 567 = .ok (.ireturn, 1) := by decide +kernel
theorem dL_law_568 : decode cL_law 568 = .ok (.aload_n 1, 1) := by decide +kernel
theorem dL_law_569 : decode cL_law 569 = .ok (.aload_n 0, 1) := by decide +kernel
theorem dL_law_570 : decode cL_law 570 = .ok (.iload_n 3, 1) := by decide +kernel
theorem dL_law_571 : decode cL_law 571 = .ok (.iconst 1, 1) := by decide +kernel
theorem dL_law_572 : decode cL_law 572 = .ok (.iadd, 1) := by decide +kernel
theorem dL_law_573 : decode cL_law 573 = .ok (.iaload, 1) := by decide +kernel
theorem dL_law_574 : decode cL_law 574 = .ok (.aload_n 0, 1) := by decide +kernel
theorem dL_law_575 : decode cL_law 575 = .ok (.iload_n 3, 1) := by decide +kernel
theorem dL_law_576 : decode cL_law 576 = .ok (.iconst 2, 1) := by decide +kernel
theorem dL_law_577 : decode cL_law 577 = .ok (.iadd, 1) := by decide +kernel
theorem dL_law_578 : decode cL_law 578 = .ok (.iaload, 1) := by decide +kernel
theorem dL_law_579 : decode cL_law 579 = .ok (.invokevirtual 61, 3) := by decide +kernel
theorem dL_law_582 : decode cL_law 582 = .ok (.aload_n 2, 1) := by decide +kernel
theorem dL_law_583 : decode cL_law 583 = .ok (.aload_n 0, 1) := by decide +kernel
theorem dL_law_584 : decode cL_law 584 = .ok (.iload_n 3, 1) := by decide +kernel
theorem dL_law_585 : decode cL_law 585 = .ok (.iconst 1, 1) := by decide +kernel
theorem dL_law_586 : decode cL_law 586 = .ok (.iadd, 1) := by decide +kernel
theorem dL_law_587 : decode cL_law 587 = .ok (.iaload, 1) := by decide +kernel
theorem dL_law_588 : decode cL_law 588 = .ok (.aload_n 0, 1) := by decide +kernel
theorem dL_law_589 : decode cL_law 589 = .ok (.iload_n 3, 1) := by decide +kernel
theorem dL_law_590 : decode cL_law 590 = .ok (.iconst 2, 1) := by decide +kernel
theorem dL_law_591 : decode cL_law 591 = .ok (.iadd, 1) := by decide +kernel
theorem dL_law_592 : decode cL_law 592 = .ok (.iaload, 1) := by decide +kernel
theorem dL_law_593 : decode cL_law 593 = .ok (.invokevirtual 64, 3) := by decide +kernel
theorem dL_law_596 : decode cL_law 596 = .ok (.if_icmp .eq 495, 3) := by decide +kernel
theorem dL_law_599 : decode cL_law 599 = .ok (.iconst 0, 1) := by decide +kernel
theorem dL_law_600 : decode cL_law 600 = .ok (.ireturn, 1) := by decide +kernel
theorem dL_law_601 : decode cL_law 601 = .ok (.aload_n 1, 1) := by decide +kernel
theorem dL_law_602 : decode cL_law 602 = .ok (.aload_n 0, 1) := by decide +kernel
theorem dL_law_603 : decode cL_law 603 = .ok (.iload_n 3, 1) := by decide +kernel
theorem dL_law_604 : decode cL_law 604 = .ok (.iconst 1, 1) := by decide +kernel
theorem dL_law_605 : decode cL_law 605 = .ok (.iadd, 1) := by decide +kernel
theorem dL_law_606 : decode cL_law 606 = .ok (.iaload, 1) := by decide +kernel
theorem dL_law_607 : decode cL_law 607 = .ok (.aload_n 0, 1) := by decide +kernel
theorem dL_law_608 : decode cL_law 608 = .ok (.iload_n 3, 1) := by decide +kernel
theorem dL_law_609 : decode cL_law 609 = .ok (.iconst 2, 1) := by decide +kernel
theorem dL_law_610 : decode cL_law 610 = .ok (.iadd, 1) := by decide +kernel
theorem dL_law_611 : decode cL_law 611 = .ok (.iaload, 1) := by decide +kernel
theorem dL_law_612 : decode cL_law 612 = .ok (.aload_n 0, 1) := by decide +kernel
theorem dL_law_613 : decode cL_law 613 = .ok (.iload_n 3, 1) := by decide +kernel
theorem dL_law_614 : decode cL_law 614 = .ok (.iconst 3, 1) := by decide +kernel
theorem dL_law_615 : decode cL_law 615 = .ok (.iadd, 1) := by decide +kernel
theorem dL_law_616 : decode cL_law 616 = .ok (.iaload, 1) := by decide +kernel
theorem dL_law_617 : decode cL_law 617 = .ok (.invokevirtual 65, 3) := by decide +kernel
theorem dL_law_620 : decode cL_law 620 = .ok (.aload_n 2, 1) := by decide +kernel
theorem dL_law_621 : decode cL_law 621 = .ok (.aload_n 0, 1) := by decide +kernel
theorem dL_law_622 : decode cL_law 622 = .ok (.iload_n 3, 1) := by decide +kernel
theorem dL_law_623 : decode cL_law 623 = .ok (.iconst 1, 1) := by decide +kernel
theorem dL_law_624 : decode cL_law 624 = .ok (.iadd, 1) := by decide +kernel
theorem dL_law_625 : decode cL_law 625 = .ok (.iaload, 1) := by decide +kernel
theorem dL_law_626 : decode cL_law 626 = .ok (.aload_n 0, 1) := by decide +kernel
theorem dL_law_627 : decode cL_law 627 = .ok (.iload_n 3, 1) := by decide +kernel
theorem dL_law_628 : decode cL_law 628 = .ok (.iconst 2, 1) := by decide +kernel
theorem dL_law_629 : decode cL_law 629 = .ok (.iadd, 1) := by decide +kernel
theorem dL_law_630 : decode cL_law 630 = .ok (.iaload, 1) := by decide +kernel
theorem dL_law_631 : decode cL_law 631 = .ok (.aload_n 0, 1) := by decide +kernel
theorem dL_law_632 : decode cL_law 632 = .ok (.iload_n 3, 1) := by decide +kernel
theorem dL_law_633 : decode cL_law 633 = .ok (.iconst 3, 1) := by decide +kernel
theorem dL_law_634 : decode cL_law 634 = .ok (.iadd, 1) := by decide +kernel
theorem dL_law_635 : decode cL_law 635 = .ok (.iaload, 1) := by decide +kernel
theorem dL_law_636 : decode cL_law 636 = .ok (.invokevirtual 68, 3) := by decide +kernel
theorem dL_law_639 : decode cL_law 639 = .ok (.if_icmp .eq 452, 3) := by decide +kernel
theorem dL_law_642 : decode cL_law 642 = .ok (.iconst 0, 1) := by decide +kernel
theorem dL_law_643 : decode cL_law 643 = .ok (.ireturn, 1) := by decide +kernel
theorem dL_law_644 : decode cL_law 644 = .ok (.aload_n 1, 1) := by decide +kernel
theorem dL_law_645 : decode cL_law 645 = .ok (.aload_n 0, 1) := by decide +kernel
theorem dL_law_646 : decode cL_law 646 = .ok (.iload_n 3, 1) := by decide +kernel
theorem dL_law_647 : decode cL_law 647 = .ok (.iconst 1, 1) := by decide +kernel
theorem dL_law_648 : decode cL_law 648 = .ok (.iadd, 1) := by decide +kernel
theorem dL_law_649 : decode cL_law 649 = .ok (.iaload, 1) := by decide +kernel
theorem dL_law_650 : decode cL_law 650 = .ok (.aload_n 0, 1) := by decide +kernel
theorem dL_law_651 : decode cL_law 651 = .ok (.iload_n 3, 1) := by decide +kernel
theorem dL_law_652 : decode cL_law 652 = .ok (.iconst 2, 1) := by decide +kernel
theorem dL_law_653 : decode cL_law 653 = .ok (.iadd, 1) := by decide +kernel
theorem dL_law_654 : decode cL_law 654 = .ok (.iaload, 1) := by decide +kernel
theorem dL_law_655 : decode cL_law 655 = .ok (.aload_n 0, 1) := by decide +kernel
theorem dL_law_656 : decode cL_law 656 = .ok (.iload_n 3, 1) := by decide +kernel
theorem dL_law_657 : decode cL_law 657 = .ok (.iconst 3, 1) := by decide +kernel
theorem dL_law_658 : decode cL_law 658 = .ok (.iadd, 1) := by decide +kernel
theorem dL_law_659 : decode cL_law 659 = .ok (.iaload, 1) := by decide +kernel
theorem dL_law_660 : decode cL_law 660 = .ok (.invokevirtual 69, 3) := by decide +kernel
theorem dL_law_663 : decode cL_law 663 = .ok (.aload_n 2, 1) := by decide +kernel
theorem dL_law_664 : decode cL_law 664 = .ok (.aload_n 0, 1) := by decide +kernel
theorem dL_law_665 : decode cL_law 665 = .ok (.iload_n 3, 1) := by decide +kernel
theorem dL_law_666 : decode cL_law 666 = .ok (.iconst 1, 1) := by decide +kernel
theorem dL_law_667 : decode cL_law 667 = .ok (.iadd, 1) := by decide +kernel
theorem dL_law_668 : decode cL_law 668 = .ok (.iaload, 1) := by decide +kernel
theorem dL_law_669 : decode cL_law 669 = .ok (.aload_n 0, 1) := by decide +kernel
theorem dL_law_670 : decode cL_law 670 = .ok (.iload_n 3, 1) := by decide +kernel
theorem dL_law_671 : decode cL_law 671 = .ok (.iconst 2, 1) := by decide +kernel
theorem dL_law_672 : decode cL_law 672 = .ok (.iadd, 1) := by decide +kernel
theorem dL_law_673 : decode cL_law 673 = .ok (.iaload, 1) := by decide +kernel
theorem dL_law_674 : decode cL_law 674 = .ok (.aload_n 0, 1) := by decide +kernel
theorem dL_law_675 : decode cL_law 675 = .ok (.iload_n 3, 1) := by decide +kernel
theorem dL_law_676 : decode cL_law 676 = .ok (.iconst 3, 1) := by decide +kernel
theorem dL_law_677 : decode cL_law 677 = .ok (.iadd, 1) := by decide +kernel
theorem dL_law_678 : decode cL_law 678 = .ok (.iaload, 1) := by decide +kernel
theorem dL_law_679 : decode cL_law 679 = .ok (.invokevirtual 72, 3) := by decide +kernel
theorem dL_law_682 : decode cL_law 682 = .ok (.if_icmp .eq 409, 3) := by decide +kernel
theorem dL_law_685 : decode cL_law 685 = .ok (.iconst 0, 1) := by decide +kernel
theorem dL_law_686 : decode cL_law 686 = .ok (.ireturn, 1) := by decide +kernel
theorem dL_law_687 : decode cL_law 687 = .ok (.aload_n 1, 1) := by decide +kernel
theorem dL_law_688 : decode cL_law 688 = .ok (.aload_n 0, 1) := by decide +kernel
theorem dL_law_689 : decode cL_law 689 = .ok (.iload_n 3, 1) := by decide +kernel
theorem dL_law_690 : decode cL_law 690 = .ok (.iconst 1, 1) := by decide +kernel
theorem dL_law_691 : decode cL_law 691 = .ok (.iadd, 1) := by decide +kernel
theorem dL_law_692 : decode cL_law 692 = .ok (.iaload, 1) := by decide +kernel
theorem dL_law_693 : decode cL_law 693 = .ok (.aload_n 0, 1) := by decide +kernel
theorem dL_law_694 : decode cL_law 694 = .ok (.iload_n 3, 1) := by decide +kernel
theorem dL_law_695 : decode cL_law 695 = .ok (.iconst 2, 1) := by decide +kernel
theorem dL_law_696 : decode cL_law 696 = .ok (.iadd, 1) := by decide +kernel
theorem dL_law_697 : decode cL_law 697 = .ok (.iaload, 1) := by decide +kernel
theorem dL_law_698 : decode cL_law 698 = .ok (.aload_n 0, 1) := by decide +kernel
theorem dL_law_699 : decode cL_law 699 = .ok (.iload_n 3, 1) := by decide +kernel
theorem dL_law_700 : decode cL_law 700 = .ok (.iconst 3, 1) := by decide +kernel
theorem dL_law_701 : decode cL_law 701 = .ok (.iadd, 1) := by decide +kernel
theorem dL_law_702 : decode cL_law 702 = .ok (.iaload, 1) := by decide +kernel
theorem dL_law_703 : decode cL_law 703 = .ok (.aload_n 0, 1) := by decide +kernel
theorem dL_law_704 : decode cL_law 704 = .ok (.iload_n 3, 1) := by decide +kernel
theorem dL_law_705 : decode cL_law 705 = .ok (.iconst 4, 1) := by decide +kernel
theorem dL_law_706 : decode cL_law 706 = .ok (.iadd, 1) := by decide +kernel
theorem dL_law_707 : decode cL_law 707 = .ok (.iaload, 1) := by decide +kernel
theorem dL_law_708 : decode cL_law 708 = .ok (.aload_n 0, 1) := by decide +kernel
theorem dL_law_709 : decode cL_law 709 = .ok (.iload_n 3, 1) := by decide +kernel
theorem dL_law_710 : decode cL_law 710 = .ok (.iconst 5, 1) := by decide +kernel
theorem dL_law_711 : decode cL_law 711 = .ok (.iadd, 1) := by decide +kernel
theorem dL_law_712 : decode cL_law 712 = .ok (.iaload, 1) := by decide +kernel
theorem dL_law_713 : decode cL_law 713 = .ok (.aload_n 0, 1) := by decide +kernel
theorem dL_law_714 : decode cL_law 714 = .ok (.iload_n 3, 1) := by decide +kernel
theorem dL_law_715 : decode cL_law 715 = .ok (.bipush 6, 2) := by decide +kernel
theorem dL_law_717 : decode cL_law 717 = .ok (.iadd, 1) := by decide +kernel
theorem dL_law_718 : decode cL_law 718 = .ok (.iaload, 1) := by decide +kernel
theorem dL_law_719 : decode cL_law 719 = .ok (.ifCond .eq 7, 3) := by decide +kernel
theorem dL_law_722 : decode cL_law 722 = .ok (.iconst 1, 1) := by decide +kernel
theorem dL_law_723 : decode cL_law 723 = .ok (.goto 4, 3) := by decide +kernel
theorem dL_law_726 : decode cL_law 726 = .ok (.iconst 0, 1) := by decide +kernel
theorem dL_law_727 : decode cL_law 727 = .ok (.invokevirtual 73, 3) := by decide +kernel
theorem dL_law_730 : decode cL_law 730 = .ok (.aload_n 2, 1) := by decide +kernel
theorem dL_law_731 : decode cL_law 731 = .ok (.aload_n 0, 1) := by decide +kernel
theorem dL_law_732 : decode cL_law 732 = .ok (.iload_n 3, 1) := by decide +kernel
theorem dL_law_733 : decode cL_law 733 = .ok (.iconst 1, 1) := by decide +kernel
theorem dL_law_734 : decode cL_law 734 = .ok (.iadd, 1) := by decide +kernel
theorem dL_law_735 : decode cL_law 735 = .ok (.iaload, 1) := by decide +kernel
theorem dL_law_736 : decode cL_law 736 = .ok (.aload_n 0, 1) := by decide +kernel
theorem dL_law_737 : decode cL_law 737 = .ok (.iload_n 3, 1) := by decide +kernel
theorem dL_law_738 : decode cL_law 738 = .ok (.iconst 2, 1) := by decide +kernel
theorem dL_law_739 : decode cL_law 739 = .ok (.iadd, 1) := by decide +kernel
theorem dL_law_740 : decode cL_law 740 = .ok (.iaload, 1) := by decide +kernel
theorem dL_law_741 : decode cL_law 741 = .ok (.aload_n 0, 1) := by decide +kernel
theorem dL_law_742 : decode cL_law 742 = .ok (.iload_n 3, 1) := by decide +kernel
theorem dL_law_743 : decode cL_law 743 = .ok (.iconst 3, 1) := by decide +kernel
theorem dL_law_744 : decode cL_law 744 = .ok (.iadd, 1) := by decide +kernel
theorem dL_law_745 : decode cL_law 745 = .ok (.iaload, 1) := by decide +kernel
theorem dL_law_746 : decode cL_law 746 = .ok (.aload_n 0, 1) := by decide +kernel
theorem dL_law_747 : decode cL_law 747 = .ok (.iload_n 3, 1) := by decide +kernel
theorem dL_law_748 : decode cL_law 748 = .ok (.iconst 4, 1) := by decide +kernel
theorem dL_law_749 : decode cL_law 749 = .ok (.iadd, 1) := by decide +kernel
theorem dL_law_750 : decode cL_law 750 = .ok (.iaload, 1) := by decide +kernel
theorem dL_law_751 : decode cL_law 751 = .ok (.aload_n 0, 1) := by decide +kernel
theorem dL_law_752 : decode cL_law 752 = .ok (.iload_n 3, 1) := by decide +kernel
theorem dL_law_753 : decode cL_law 753 = .ok (.iconst 5, 1) := by decide +kernel
theorem dL_law_754 : decode cL_law 754 = .ok (.iadd, 1) := by decide +kernel
theorem dL_law_755 : decode cL_law 755 = .ok (.iaload, 1) := by decide +kernel
theorem dL_law_756 : decode cL_law 756 = .ok (.aload_n 0, 1) := by decide +kernel
theorem dL_law_757 : decode cL_law 757 = .ok (.iload_n 3, 1) := by decide +kernel
theorem dL_law_758 : decode cL_law 758 = .ok (.bipush 6, 2) := by decide +kernel
theorem dL_law_760 : decode cL_law 760 = .ok (.iadd, 1) := by decide +kernel
theorem dL_law_761 : decode cL_law 761 = .ok (.iaload, 1) := by decide +kernel
theorem dL_law_762 : decode cL_law 762 = .ok (.ifCond .eq 7, 3) := by decide +kernel
theorem dL_law_765 : decode cL_law 765 = .ok (.iconst 1, 1) := by decide +kernel
theorem dL_law_766 : decode cL_law 766 = .ok (.goto 4, 3) := by decide +kernel
theorem dL_law_769 : decode cL_law 769 = .ok (.iconst 0, 1) := by decide +kernel
theorem dL_law_770 : decode cL_law 770 = .ok (.invokevirtual 77, 3) := by decide +kernel
theorem dL_law_773 : decode cL_law 773 = .ok (.if_icmp .eq 318, 3) := by decide +kernel
theorem dL_law_776 : decode cL_law 776 = .ok (.iconst 0, 1) := by decide +kernel
theorem dL_law_777 : decode cL_law 777 = .ok (.ireturn, 1) := by decide +kernel
theorem dL_law_778 : decode cL_law 778 = .ok (.aload_n 1, 1) := by decide +kernel
theorem dL_law_779 : decode cL_law 779 = .ok (.aload_n 0, 1) := by decide +kernel
theorem dL_law_780 : decode cL_law 780 = .ok (.iload_n 3, 1) := by decide +kernel
theorem dL_law_781 : decode cL_law 781 = .ok (.iconst 1, 1) := by decide +kernel
theorem dL_law_782 : decode cL_law 782 = .ok (.iadd, 1) := by decide +kernel
theorem dL_law_783 : decode cL_law 783 = .ok (.iaload, 1) := by decide +kernel
theorem dL_law_784 : decode cL_law 784 = .ok (.invokevirtual 78, 3) := by decide +kernel
theorem dL_law_787 : decode cL_law 787 = .ok (.aload_n 2, 1) := by decide +kernel
theorem dL_law_788 : decode cL_law 788 = .ok (.aload_n 0, 1) := by decide +kernel
theorem dL_law_789 : decode cL_law 789 = .ok (.iload_n 3, 1) := by decide +kernel
theorem dL_law_790 : decode cL_law 790 = .ok (.iconst 1, 1) := by decide +kernel
theorem dL_law_791 : decode cL_law 791 = .ok (.iadd, 1) := by decide +kernel
theorem dL_law_792 : decode cL_law 792 = .ok (.iaload, 1) := by decide +kernel
theorem dL_law_793 : decode cL_law 793 = .ok (.invokevirtual 82, 3) := by decide +kernel
theorem dL_law_796 : decode cL_law 796 = .ok (.if_icmp .eq 295, 3) := by decide +kernel
theorem dL_law_799 : decode cL_law 799 = .ok (.iconst 0, 1) := by decide +kernel
theorem dL_law_800 : decode cL_law 800 = .ok (.ireturn, 1) := by decide +kernel
theorem dL_law_801 : decode cL_law 801 = .ok (.aload_n 1, 1) := by decide +kernel
theorem dL_law_802 : decode cL_law 802 = .ok (.aload_n 0, 1) := by decide +kernel
theorem dL_law_803 : decode cL_law 803 = .ok (.iload_n 3, 1) := by decide +kernel
theorem dL_law_804 : decode cL_law 804 = .ok (.iconst 1, 1) := by decide +kernel
theorem dL_law_805 : decode cL_law 805 = .ok (.iadd, 1) := by decide +kernel
theorem dL_law_806 : decode cL_law 806 = .ok (.iaload, 1) := by decide +kernel
theorem dL_law_807 : decode cL_law 807 = .ok (.aload_n 0, 1) := by decide +kernel
theorem dL_law_808 : decode cL_law 808 = .ok (.iload_n 3, 1) := by decide +kernel
theorem dL_law_809 : decode cL_law 809 = .ok (.iconst 2, 1) := by decide +kernel
theorem dL_law_810 : decode cL_law 810 = .ok (.iadd, 1) := by decide +kernel
theorem dL_law_811 : decode cL_law 811 = .ok (.iaload, 1) := by decide +kernel
theorem dL_law_812 : decode cL_law 812 = .ok (.invokevirtual 83, 3) := by decide +kernel
theorem dL_law_815 : decode cL_law 815 = .ok (.aload_n 2, 1) := by decide +kernel
theorem dL_law_816 : decode cL_law 816 = .ok (.aload_n 0, 1) := by decide +kernel
theorem dL_law_817 : decode cL_law 817 = .ok (.iload_n 3, 1) := by decide +kernel
theorem dL_law_818 : decode cL_law 818 = .ok (.iconst 1, 1) := by decide +kernel
theorem dL_law_819 : decode cL_law 819 = .ok (.iadd, 1) := by decide +kernel
theorem dL_law_820 : decode cL_law 820 = .ok (.iaload, 1) := by decide +kernel
theorem dL_law_821 : decode cL_law 821 = .ok (.aload_n 0, 1) := by decide +kernel
theorem dL_law_822 : decode cL_law 822 = .ok (.iload_n 3, 1) := by decide +kernel
theorem dL_law_823 : decode cL_law 823 = .ok (.iconst 2, 1) := by decide +kernel
theorem dL_law_824 : decode cL_law 824 = .ok (.iadd, 1) := by decide +kernel
theorem dL_law_825 : decode cL_law 825 = .ok (.iaload, 1) := by decide +kernel
theorem dL_law_826 : decode cL_law 826 = .ok (.invokevirtual 86, 3) := by decide +kernel
theorem dL_law_829 : decode cL_law 829 = .ok (.if_icmp .eq 262, 3) := by decide +kernel
theorem dL_law_832 : decode cL_law 832 = .ok (.iconst 0, 1) := by decide +kernel
theorem dL_law_833 : decode cL_law 833 = .ok (.ireturn, 1) := by decide +kernel
theorem dL_law_834 : decode cL_law 834 = .ok (.aload_n 1, 1) := by decide +kernel
theorem dL_law_835 : decode cL_law 835 = .ok (.aload_n 0, 1) := by decide +kernel
theorem dL_law_836 : decode cL_law 836 = .ok (.iload_n 3, 1) := by decide +kernel
theorem dL_law_837 : decode cL_law 837 = .ok (.iconst 1, 1) := by decide +kernel
theorem dL_law_838 : decode cL_law 838 = .ok (.iadd, 1) := by decide +kernel
theorem dL_law_839 : decode cL_law 839 = .ok (.iaload, 1) := by decide +kernel
theorem dL_law_840 : decode cL_law 840 = .ok (.invokevirtual 87, 3) := by decide +kernel
theorem dL_law_843 : decode cL_law 843 = .ok (.aload_n 2, 1) := by decide +kernel
theorem dL_law_844 : decode cL_law 844 = .ok (.aload_n 0, 1) := by decide +kernel
theorem dL_law_845 : decode cL_law 845 = .ok (.iload_n 3, 1) := by decide +kernel
theorem dL_law_846 : decode cL_law 846 = .ok (.iconst 1, 1) := by decide +kernel
theorem dL_law_847 : decode cL_law 847 = .ok (.iadd, 1) := by decide +kernel
theorem dL_law_848 : decode cL_law 848 = .ok (.iaload, 1) := by decide +kernel
theorem dL_law_849 : decode cL_law 849 = .ok (.invokevirtual 90, 3) := by decide +kernel
theorem dL_law_852 : decode cL_law 852 = .ok (.if_icmp .eq 239, 3) := by decide +kernel
theorem dL_law_855 : decode cL_law 855 = .ok (.iconst 0, 1) := by decide +kernel
theorem dL_law_856 : decode cL_law 856 = .ok (.ireturn, 1) := by decide +kernel
theorem dL_law_857 : decode cL_law 857 = .ok (.aload_n 1, 1) := by decide +kernel
theorem dL_law_858 : decode cL_law 858 = .ok (.aload_n 0, 1) := by decide +kernel
theorem dL_law_859 : decode cL_law 859 = .ok (.iload_n 3, 1) := by decide +kernel
theorem dL_law_860 : decode cL_law 860 = .ok (.iconst 1, 1) := by decide +kernel
theorem dL_law_861 : decode cL_law 861 = .ok (.iadd, 1) := by decide +kernel
theorem dL_law_862 : decode cL_law 862 = .ok (.iaload, 1) := by decide +kernel
theorem dL_law_863 : decode cL_law 863 = .ok (.aload_n 0, 1) := by decide +kernel
theorem dL_law_864 : decode cL_law 864 = .ok (.iload_n 3, 1) := by decide +kernel
theorem dL_law_865 : decode cL_law 865 = .ok (.iconst 2, 1) := by decide +kernel
theorem dL_law_866 : decode cL_law 866 = .ok (.iadd, 1) := by decide +kernel
theorem dL_law_867 : decode cL_law 867 = .ok (.iaload, 1) := by decide +kernel
theorem dL_law_868 : decode cL_law 868 = .ok (.invokevirtual 91, 3) := by decide +kernel
theorem dL_law_871 : decode cL_law 871 = .ok (.aload_n 2, 1) := by decide +kernel
theorem dL_law_872 : decode cL_law 872 = .ok (.aload_n 0, 1) := by decide +kernel
theorem dL_law_873 : decode cL_law 873 = .ok (.iload_n 3, 1) := by decide +kernel
theorem dL_law_874 : decode cL_law 874 = .ok (.iconst 1, 1) := by decide +kernel
theorem dL_law_875 : decode cL_law 875 = .ok (.iadd, 1) := by decide +kernel
theorem dL_law_876 : decode cL_law 876 = .ok (.iaload, 1) := by decide +kernel
theorem dL_law_877 : decode cL_law 877 = .ok (.aload_n 0, 1) := by decide +kernel
theorem dL_law_878 : decode cL_law 878 = .ok (.iload_n 3, 1) := by decide +kernel
theorem dL_law_879 : decode cL_law 879 = .ok (.iconst 2, 1) := by decide +kernel
theorem dL_law_880 : decode cL_law 880 = .ok (.iadd, 1) := by decide +kernel
theorem dL_law_881 : decode cL_law 881 = .ok (.iaload, 1) := by decide +kernel
theorem dL_law_882 : decode cL_law 882 = .ok (.invokevirtual 94, 3) := by decide +kernel
theorem dL_law_885 : decode cL_law 885 = .ok (.if_icmp .eq 206, 3) := by decide +kernel
theorem dL_law_888 : decode cL_law 888 = .ok (.iconst 0, 1) := by decide +kernel
theorem dL_law_889 : decode cL_law 889 = .ok (.ireturn, 1) := by decide +kernel
theorem dL_law_890 : decode cL_law 890 = .ok (.aload_n 1, 1) := by decide +kernel
theorem dL_law_891 : decode cL_law 891 = .ok (.aload_n 0, 1) := by decide +kernel
theorem dL_law_892 : decode cL_law 892 = .ok (.iload_n 3, 1) := by decide +kernel
theorem dL_law_893 : decode cL_law 893 = .ok (.iconst 1, 1) := by decide +kernel
theorem dL_law_894 : decode cL_law 894 = .ok (.iadd, 1) := by decide +kernel
theorem dL_law_895 : decode cL_law 895 = .ok (.iaload, 1) := by decide +kernel
theorem dL_law_896 : decode cL_law 896 = .ok (.aload_n 0, 1) := by decide +kernel
theorem dL_law_897 : decode cL_law 897 = .ok (.iload_n 3, 1) := by decide +kernel
theorem dL_law_898 : decode cL_law 898 = .ok (.iconst 2, 1) := by decide +kernel
theorem dL_law_899 : decode cL_law 899 = .ok (.iadd, 1) := by decide +kernel
theorem dL_law_900 : decode cL_law 900 = .ok (.iaload, 1) := by decide +kernel
theorem dL_law_901 : decode cL_law 901 = .ok (.aload_n 0, 1) := by decide +kernel
theorem dL_law_902 : decode cL_law 902 = .ok (.iload_n 3, 1) := by decide +kernel
theorem dL_law_903 : decode cL_law 903 = .ok (.iconst 3, 1) := by decide +kernel
theorem dL_law_904 : decode cL_law 904 = .ok (.iadd, 1) := by decide +kernel
theorem dL_law_905 : decode cL_law 905 = .ok (.iaload, 1) := by decide +kernel
theorem dL_law_906 : decode cL_law 906 = .ok (.invokevirtual 95, 3) := by decide +kernel
theorem dL_law_909 : decode cL_law 909 = .ok (.aload_n 2, 1) := by decide +kernel
theorem dL_law_910 : decode cL_law 910 = .ok (.aload_n 0, 1) := by decide +kernel
theorem dL_law_911 : decode cL_law 911 = .ok (.iload_n 3, 1) := by decide +kernel
theorem dL_law_912 : decode cL_law 912 = .ok (.iconst 1, 1) := by decide +kernel
theorem dL_law_913 : decode cL_law 913 = .ok (.iadd, 1) := by decide +kernel
theorem dL_law_914 : decode cL_law 914 = .ok (.iaload, 1) := by decide +kernel
theorem dL_law_915 : decode cL_law 915 = .ok (.aload_n 0, 1) := by decide +kernel
theorem dL_law_916 : decode cL_law 916 = .ok (.iload_n 3, 1) := by decide +kernel
theorem dL_law_917 : decode cL_law 917 = .ok (.iconst 2, 1) := by decide +kernel
theorem dL_law_918 : decode cL_law 918 = .ok (.iadd, 1) := by decide +kernel
theorem dL_law_919 : decode cL_law 919 = .ok (.iaload, 1) := by decide +kernel
theorem dL_law_920 : decode cL_law 920 = .ok (.aload_n 0, 1) := by decide +kernel
theorem dL_law_921 : decode cL_law 921 = .ok (.iload_n 3, 1) := by decide +kernel
theorem dL_law_922 : decode cL_law 922 = .ok (.iconst 3, 1) := by decide +kernel
theorem dL_law_923 : decode cL_law 923 = .ok (.iadd, 1) := by decide +kernel
theorem dL_law_924 : decode cL_law 924 = .ok (.iaload, 1) := by decide +kernel
theorem dL_law_925 : decode cL_law 925 = .ok (.invokevirtual 98, 3) := by decide +kernel
theorem dL_law_928 : decode cL_law 928 = .ok (.if_icmp .eq 163, 3) := by decide +kernel
theorem dL_law_931 : decode cL_law 931 = .ok (.iconst 0, 1) := by decide +kernel
theorem dL_law_932 : decode cL_law 932 = .ok (.ireturn, 1) := by decide +kernel
theorem dL_law_933 : decode cL_law 933 = .ok (.aload_n 1, 1) := by decide +kernel
theorem dL_law_934 : decode cL_law 934 = .ok (.aload_n 0, 1) := by decide +kernel
theorem dL_law_935 : decode cL_law 935 = .ok (.iload_n 3, 1) := by decide +kernel
theorem dL_law_936 : decode cL_law 936 = .ok (.iconst 1, 1) := by decide +kernel
theorem dL_law_937 : decode cL_law 937 = .ok (.iadd, 1) := by decide +kernel
theorem dL_law_938 : decode cL_law 938 = .ok (.iaload, 1) := by decide +kernel
theorem dL_law_939 : decode cL_law 939 = .ok (.invokevirtual 99, 3) := by decide +kernel
theorem dL_law_942 : decode cL_law 942 = .ok (.aload_n 2, 1) := by decide +kernel
theorem dL_law_943 : decode cL_law 943 = .ok (.aload_n 0, 1) := by decide +kernel
theorem dL_law_944 : decode cL_law 944 = .ok (.iload_n 3, 1) := by decide +kernel
theorem dL_law_945 : decode cL_law 945 = .ok (.iconst 1, 1) := by decide +kernel
theorem dL_law_946 : decode cL_law 946 = .ok (.iadd, 1) := by decide +kernel
theorem dL_law_947 : decode cL_law 947 = .ok (.iaload, 1) := by decide +kernel
theorem dL_law_948 : decode cL_law 948 = .ok (.invokevirtual 102, 3) := by decide +kernel
theorem dL_law_951 : decode cL_law 951 = .ok (.if_icmp .eq 140, 3) := by decide +kernel
theorem dL_law_954 : decode cL_law 954 = .ok (.iconst 0, 1) := by decide +kernel
theorem dL_law_955 : decode cL_law 955 = .ok (.ireturn, 1) := by decide +kernel
theorem dL_law_956 : decode cL_law 956 = .ok (.aload_n 1, 1) := by decide +kernel
theorem dL_law_957 : decode cL_law 957 = .ok (.invokevirtual 103, 3) := by decide +kernel
theorem dL_law_960 : decode cL_law 960 = .ok (.aload_n 2, 1) := by decide +kernel
theorem dL_law_961 : decode cL_law 961 = .ok (.invokevirtual 106, 3) := by decide +kernel
theorem dL_law_964 : decode cL_law 964 = .ok (.if_icmp .eq 127, 3) := by decide +kernel
theorem dL_law_967 : decode cL_law 967 = .ok (.iconst 0, 1) := by decide +kernel
theorem dL_law_968 : decode cL_law 968 = .ok (.ireturn, 1) := by decide +kernel
theorem dL_law_969 : decode cL_law 969 = .ok (.aload_n 1, 1) := by decide +kernel
theorem dL_law_970 : decode cL_law 970 = .ok (.aload_n 0, 1) := by decide +kernel
theorem dL_law_971 : decode cL_law 971 = .ok (.iload_n 3, 1) := by decide +kernel
theorem dL_law_972 : decode cL_law 972 = .ok (.iconst 1, 1) := by decide +kernel
theorem dL_law_973 : decode cL_law 973 = .ok (.iadd, 1) := by decide +kernel
theorem dL_law_974 : decode cL_law 974 = .ok (.iaload, 1) := by decide +kernel
theorem dL_law_975 : decode cL_law 975 = .ok (.aload_n 0, 1) := by decide +kernel
theorem dL_law_976 : decode cL_law 976 = .ok (.iload_n 3, 1) := by decide +kernel
theorem dL_law_977 : decode cL_law 977 = .ok (.iconst 2, 1) := by decide +kernel
theorem dL_law_978 : decode cL_law 978 = .ok (.iadd, 1) := by decide +kernel
theorem dL_law_979 : decode cL_law 979 = .ok (.iaload, 1) := by decide +kernel
theorem dL_law_980 : decode cL_law 980 = .ok (.invokevirtual 107, 3) := by decide +kernel
theorem dL_law_983 : decode cL_law 983 = .ok (.aload_n 2, 1) := by decide +kernel
theorem dL_law_984 : decode cL_law 984 = .ok (.aload_n 0, 1) := by decide +kernel
theorem dL_law_985 : decode cL_law 985 = .ok (.iload_n 3, 1) := by decide +kernel
theorem dL_law_986 : decode cL_law 986 = .ok (.iconst 1, 1) := by decide +kernel
theorem dL_law_987 : decode cL_law 987 = .ok (.iadd, 1) := by decide +kernel
theorem dL_law_988 : decode cL_law 988 = .ok (.iaload, 1) := by decide +kernel
theorem dL_law_989 : decode cL_law 989 = .ok (.aload_n 0, 1) := by decide +kernel
theorem dL_law_990 : decode cL_law 990 = .ok (.iload_n 3, 1) := by decide +kernel
theorem dL_law_991 : decode cL_law 991 = .ok (.iconst 2, 1) := by decide +kernel
theorem dL_law_992 : decode cL_law 992 = .ok (.iadd, 1) := by decide +kernel
theorem dL_law_993 : decode cL_law 993 = .ok (.iaload, 1) := by decide +kernel
theorem dL_law_994 : decode cL_law 994 = .ok (.invokevirtual 110, 3) := by decide +kernel
theorem dL_law_997 : decode cL_law 997 = .ok (.if_icmp .eq 94, 3) := by decide +kernel
theorem dL_law_1000 : decode cL_law 1000 = .ok (.iconst 0, 1) := by decide +kernel
theorem dL_law_1001 : decode cL_law 1001 = .ok (.ireturn, 1) := by decide +kernel
theorem dL_law_1002 : decode cL_law 1002 = .ok (.aload_n 1, 1) := by decide +kernel
theorem dL_law_1003 : decode cL_law 1003 = .ok (.aload_n 0, 1) := by decide +kernel
theorem dL_law_1004 : decode cL_law 1004 = .ok (.iload_n 3, 1) := by decide +kernel
theorem dL_law_1005 : decode cL_law 1005 = .ok (.iconst 1, 1) := by decide +kernel
theorem dL_law_1006 : decode cL_law 1006 = .ok (.iadd, 1) := by decide +kernel
theorem dL_law_1007 : decode cL_law 1007 = .ok (.iaload, 1) := by decide +kernel
theorem dL_law_1008 : decode cL_law 1008 = .ok (.aload_n 0, 1) := by decide +kernel
theorem dL_law_1009 : decode cL_law 1009 = .ok (.iload_n 3, 1) := by decide +kernel
theorem dL_law_1010 : decode cL_law 1010 = .ok (.iconst 2, 1) := by decide +kernel
theorem dL_law_1011 : decode cL_law 1011 = .ok (.iadd, 1) := by decide +kernel
theorem dL_law_1012 : decode cL_law 1012 = .ok (.iaload, 1) := by decide +kernel
theorem dL_law_1013 : decode cL_law 1013 = .ok (.invokevirtual 111, 3) := by decide +kernel
theorem dL_law_1016 : decode cL_law 1016 = .ok (.aload_n 2, 1) := by decide +kernel
theorem dL_law_1017 : decode cL_law 1017 = .ok (.aload_n 0, 1) := by decide +kernel
theorem dL_law_1018 : decode cL_law 1018 = .ok (.iload_n 3, 1) := by decide +kernel
theorem dL_law_1019 : decode cL_law 1019 = .ok (.iconst 1, 1) := by decide +kernel
theorem dL_law_1020 : decode cL_law 1020 = .ok (.iadd, 1) := by decide +kernel
theorem dL_law_1021 : decode cL_law 1021 = .ok (.iaload, 1) := by decide +kernel
theorem dL_law_1022 : decode cL_law 1022 = .ok (.aload_n 0, 1) := by decide +kernel
theorem dL_law_1023 : decode cL_law 1023 = .ok (.iload_n 3, 1) := by decide +kernel
theorem dL_law_1024 : decode cL_law 1024 = .ok (.iconst 2, 1) := by decide +kernel
theorem dL_law_1025 : decode cL_law 1025 = .ok (.iadd, 1) := by decide +kernel
theorem dL_law_1026 : decode cL_law 1026 = .ok (.iaload, 1) := by decide +kernel
theorem dL_law_1027 : decode cL_law 1027 = .ok (.invokevirtual 114, 3) := by decide +kernel
theorem dL_law_1030 : decode cL_law 1030 = .ok (.if_icmp .eq 61, 3) := by decide +kernel
theorem dL_law_1033 : decode cL_law 1033 = .ok (.iconst 0, 1) := by decide +kernel
theorem dL_law_1034 : decode cL_law 1034 = .ok (.ireturn, 1) := by decide +kernel
theorem dL_law_1035 : decode cL_law 1035 = .ok (.aload_n 1, 1) := by decide +kernel
theorem dL_law_1036 : decode cL_law 1036 = .ok (.aload_n 0, 1) := by decide +kernel
theorem dL_law_1037 : decode cL_law 1037 = .ok (.iload_n 3, 1) := by decide +kernel
theorem dL_law_1038 : decode cL_law 1038 = .ok (.iconst 1, 1) := by decide +kernel
theorem dL_law_1039 : decode cL_law 1039 = .ok (.iadd, 1) := by decide +kernel
theorem dL_law_1040 : decode cL_law 1040 = .ok (.iaload, 1) := by decide +kernel
theorem dL_law_1041 : decode cL_law 1041 = .ok (.aload_n 0, 1) := by decide +kernel
theorem dL_law_1042 : decode cL_law 1042 = .ok (.iload_n 3, 1) := by decide +kernel
theorem dL_law_1043 : decode cL_law 1043 = .ok (.iconst 2, 1) := by decide +kernel
theorem dL_law_1044 : decode cL_law 1044 = .ok (.iadd, 1) := by decide +kernel
theorem dL_law_1045 : decode cL_law 1045 = .ok (.iaload, 1) := by decide +kernel
theorem dL_law_1046 : decode cL_law 1046 = .ok (.invokevirtual 115, 3) := by decide +kernel
theorem dL_law_1049 : decode cL_law 1049 = .ok (.aload_n 2, 1) := by decide +kernel
theorem dL_law_1050 : decode cL_law 1050 = .ok (.aload_n 0, 1) := by decide +kernel
theorem dL_law_1051 : decode cL_law 1051 = .ok (.iload_n 3, 1) := by decide +kernel
theorem dL_law_1052 : decode cL_law 1052 = .ok (.iconst 1, 1) := by decide +kernel
theorem dL_law_1053 : decode cL_law 1053 = .ok (.iadd, 1) := by decide +kernel
theorem dL_law_1054 : decode cL_law 1054 = .ok (.iaload, 1) := by decide +kernel
theorem dL_law_1055 : decode cL_law 1055 = .ok (.aload_n 0, 1) := by decide +kernel
theorem dL_law_1056 : decode cL_law 1056 = .ok (.iload_n 3, 1) := by decide +kernel
theorem dL_law_1057 : decode cL_law 1057 = .ok (.iconst 2, 1) := by decide +kernel
theorem dL_law_1058 : decode cL_law 1058 = .ok (.iadd, 1) := by decide +kernel
theorem dL_law_1059 : decode cL_law 1059 = .ok (.iaload, 1) := by decide +kernel
theorem dL_law_1060 : decode cL_law 1060 = .ok (.invokevirtual 118, 3) := by decide +kernel
theorem dL_law_1063 : decode cL_law 1063 = .ok (.if_icmp .eq 28, 3) := by decide +kernel
theorem dL_law_1066 : decode cL_law 1066 = .ok (.iconst 0, 1) := by decide +kernel
theorem dL_law_1067 : decode cL_law 1067 = .ok (.ireturn, 1) := by decide +kernel
theorem dL_law_1068 : decode cL_law 1068 = .ok (.aload_n 1, 1) := by decide +kernel
theorem dL_law_1069 : decode cL_law 1069 = .ok (.aload_n 0, 1) := by decide +kernel
theorem dL_law_1070 : decode cL_law 1070 = .ok (.iload_n 3, 1) := by decide +kernel
theorem dL_law_1071 : decode cL_law 1071 = .ok (.iconst 1, 1) := by decide +kernel
theorem dL_law_1072 : decode cL_law 1072 = .ok (.iadd, 1) := by decide +kernel
theorem dL_law_1073 : decode cL_law 1073 = .ok (.iaload, 1) := by decide +kernel
theorem dL_law_1074 : decode cL_law 1074 = .ok (.invokevirtual 119, 3) := by decide +kernel
theorem dL_law_1077 : decode cL_law 1077 = .ok (.aload_n 2, 1) := by decide +kernel
theorem dL_law_1078 : decode cL_law 1078 = .ok (.aload_n 0, 1) := by decide +kernel
theorem dL_law_1079 : decode cL_law 1079 = .ok (.iload_n 3, 1) := by decide +kernel
theorem dL_law_1080 : decode cL_law 1080 = .ok (.iconst 1, 1) := by decide +kernel
theorem dL_law_1081 : decode cL_law 1081 = .ok (.iadd, 1) := by decide +kernel
theorem dL_law_1082 : decode cL_law 1082 = .ok (.iaload, 1) := by decide +kernel
theorem dL_law_1083 : decode cL_law 1083 = .ok (.invokevirtual 122, 3) := by decide +kernel
theorem dL_law_1086 : decode cL_law 1086 = .ok (.if_icmp .eq 5, 3) := by decide +kernel
theorem dL_law_1089 : decode cL_law 1089 = .ok (.iconst 0, 1) := by decide +kernel
theorem dL_law_1090 : decode cL_law 1090 = .ok (.ireturn, 1) := by decide +kernel
theorem dL_law_1091 : decode cL_law 1091 = .ok (.iinc 3 7, 3) := by decide +kernel
theorem dL_law_1094 : decode cL_law 1094 = .ok (.goto (-1076), 3) := by decide +kernel
theorem dL_law_1097 : decode cL_law 1097 = .ok (.iconst 1, 1) := by decide +kernel
theorem dL_law_1098 : decode cL_law 1098 = .ok (.ireturn, 1) := by decide +kernel
