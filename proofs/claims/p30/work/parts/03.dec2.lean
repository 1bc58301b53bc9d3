theorem dL_fill_26 : decode cL_fill 26 = .ok (.iload 5, 2) := by decide +kernel
theorem dL_fill_28 : decode cL_fill 28 = .ok (.iadd, 1) := by decide +kernel
theorem dL_fill_29 : decode cL_fill 29 = .ok (.invokestatic 20, 3) := by decide +kernel
theorem dL_fill_32 : decode cL_fill 32 = .ok (.istore 6, 2) := by decide +kernel
theorem dL_fill_34 : decode cL_fill 34 = .ok (.iload 6, 2) := by decide +kernel
theorem dL_fill_36 : decode cL_fill 36 = .ok (.bipush 12, 2) := by decide +kernel
theorem dL_fill_38 : decode cL_fill 38 = .ok (.invokestatic 26, 3) := by decide +kernel
theorem dL_fill_41 : decode cL_fill 41 = .ok (.istore 7, 2) := by decide +kernel
theorem dL_fill_43 : decode cL_fill 43 = .ok (.iconst 1, 1) := by decide +kernel
theorem dL_fill_44 : decode cL_fill 44 = .ok (.iload 6, 2) := by decide +kernel
theorem dL_fill_46 : decode cL_fill 46 = .ok (.iconst 4, 1) := by decide +kernel
theorem dL_fill_47 : decode cL_fill 47 = .ok (.ishr, 1) := by decide +kernel
theorem dL_fill_48 : decode cL_fill 48 = .ok (.iload 6, 2) := by decide +kernel
theorem dL_fill_50 : decode cL_fill 50 = .ok (.bipush 24, 2) := by decide +kernel
theorem dL_fill_52 : decode cL_fill 52 = .ok (.ishr, 1) := by decide +kernel
theorem dL_fill_53 : decode cL_fill 53 = .ok (.iconst 3, 1) := by decide +kernel
theorem dL_fill_54 : decode cL_fill 54 = .ok (.invokestatic 26, 3) := by decide +kernel
theorem dL_fill_57 : decode cL_fill 57 = .ok (.ifCond .ne 7, 3) := by decide +kernel
theorem dL_fill_60 : decode cL_fill 60 = .ok (.iconst 5, 1) := by decide +kernel
theorem dL_fill_61 : decode cL_fill 61 = .ok (.goto 6, 3) := by decide +kernel
theorem dL_fill_64 : decode cL_fill 64 = .ok (.sipush 999, 3) := by decide +kernel
theorem dL_fill_67 : decode cL_fill 67 = .ok (.invokestatic 26, 3) := by decide +kernel
theorem dL_fill_70 : decode cL_fill 70 = .ok (.iadd, 1) := by decide +kernel
theorem dL_fill_71 : decode cL_fill 71 = .ok (.istore 8, 2) := by decide +kernel
theorem dL_fill_73 : decode cL_fill 73 = .ok (.aload_n 0, 1) := by decide +kernel
theorem dL_fill_74 : decode cL_fill 74 = .ok (.iload_n 2, 1) := by decide +kernel
theorem dL_fill_75 : decode cL_fill 75 = .ok (.iload 7, 2) := by decide +kernel
theorem dL_fill_77 : decode cL_fill 77 = .ok (.invokestatic 29, 3) := by decide +kernel
theorem dL_fill_80 : decode cL_fill 80 = .ok (.istore 9, 2) := by decide +kernel
theorem dL_fill_82 : decode cL_fill 82 = .ok (.aload_n 0, 1) := by decide +kernel
theorem dL_fill_83 : decode cL_fill 83 = .ok (.iload_n 2, 1) := by decide +kernel
theorem dL_fill_84 : decode cL_fill 84 = .ok (.iconst 0, 1) := by decide +kernel
theorem dL_fill_85 : decode cL_fill 85 = .ok (.invokevirtual 10, 3) := by decide +kernel
theorem dL_fill_88 : decode cL_fill 88 = .ok (.istore 10, 2) := by decide +kernel
theorem dL_fill_90 : decode cL_fill 90 = .ok (.iload 9, 2) := by decide +kernel
theorem dL_fill_92 : decode cL_fill 92 = .ok (.ifCond .lt 20, 3) := by decide +kernel
theorem dL_fill_95 : decode cL_fill 95 = .ok (.aload_n 0, 1) := by decide +kernel
theorem dL_fill_96 : decode cL_fill 96 = .ok (.iload_n 2, 1) := by decide +kernel
theorem dL_fill_97 : decode cL_fill 97 = .ok (.iload 9, 2) := by decide +kernel
theorem dL_fill_99 : decode cL_fill 99 = .ok (.iconst 1, 1) := by decide +kernel
theorem dL_fill_100 : decode cL_fill 100 = .ok (.invokevirtual 16, 3) := by decide +kernel
theorem dL_fill_103 : decode cL_fill 103 = .ok (.iload 8, 2) := by decide +kernel
theorem dL_fill_105 : decode cL_fill 105 = .ok (.if_icmp .ne 7, 3) := by decide +kernel
theorem dL_fill_108 : decode cL_fill 108 = .ok (.iconst 1, 1) := by decide +kernel
theorem dL_fill_109 : decode cL_fill 109 = .ok (.goto 4, 3) := by decide +kernel
theorem dL_fill_112 : decode cL_fill 112 = .ok (.iconst 0, 1) := by decide +kernel
theorem dL_fill_113 : decode cL_fill 113 = .ok (.istore 11, 2) := by decide +kernel
theorem dL_fill_115 : decode cL_fill 115 = .ok (.aload_n 0, 1) := by decide +kernel
theorem dL_fill_116 : decode cL_fill 116 = .ok (.iload_n 2, 1) := by decide +kernel
theorem dL_fill_117 : decode cL_fill 117 = .ok (.iload 7, 2) := by decide +kernel
theorem dL_fill_119 : decode cL_fill 119 = .ok (.iload 8, 2) := by decide +kernel
theorem dL_fill_121 : decode cL_fill 121 = .ok (.invokevirtual 33, 3) := by decide +kernel
theorem dL_fill_124 : decode cL_fill 124 = .ok (.istore 12, 2) := by decide +kernel
theorem dL_fill_126 : decode cL_fill 126 = .ok (.iload 11, 2) := by decide +kernel
theorem dL_fill_128 : decode cL_fill 128 = .ok (.ifCond .eq 18, 3) := by decide +kernel
theorem dL_fill_131 : decode cL_fill 131 = .ok (.iload 12, 2) := by decide +kernel
theorem dL_fill_133 : decode cL_fill 133 = .ok (.bipush (-5), 2) := by decide +kernel
theorem dL_fill_135 : decode cL_fill 135 = .ok (.if_icmp .ne 7, 3) := by decide +kernel
theorem dL_fill_138 : decode cL_fill 138 = .ok (.iconst 1, 1) := by decide +kernel
theorem dL_fill_139 : decode cL_fill 139 = .ok (.goto 38, 3) := by decide +kernel
theorem dL_fill_142 : decode cL_fill 142 = .ok (.iconst 0, 1) := by decide +kernel
theorem dL_fill_143 : decode cL_fill 143 = .ok (.goto 34, 3) := by decide +kernel
theorem dL_fill_146 : decode cL_fill 146 = .ok (.aload_n 0, 1) := by decide +kernel
theorem dL_fill_147 : decode cL_fill 147 = .ok (.iload_n 2, 1) := by decide +kernel
theorem dL_fill_148 : decode cL_fill 148 = .ok (.iload 12, 2) := by decide +kernel
theorem dL_fill_150 : decode cL_fill 150 = .ok (.iconst 0, 1) := by decide +kernel
theorem dL_fill_151 : decode cL_fill 151 = .ok (.invokevirtual 16, 3) := by decide +kernel
theorem dL_fill_154 : decode cL_fill 154 = .ok (.iload 7, 2) := by decide +kernel
theorem dL_fill_156 : decode cL_fill 156 = .ok (.if_icmp .ne 20, 3) := by decide +kernel
theorem dL_fill_159 : decode cL_fill 159 = .ok (.aload_n 0, 1) := by decide +kernel
theorem dL_fill_160 : decode cL_fill 160 = .ok (.iload_n 2, 1) := by decide +kernel
theorem dL_fill_161 : decode cL_fill 161 = .ok (.iload 12, 2) := by decide +kernel
theorem dL_fill_163 : decode cL_fill 163 = .ok (.iconst 1, 1) := by decide +kernel
theorem dL_fill_164 : decode cL_fill 164 = .ok (.invokevirtual 16, 3) := by decide +kernel
theorem dL_fill_167 : decode cL_fill 167 = .ok (.iload 8, 2) := by decide +kernel
theorem dL_fill_169 : decode cL_fill 169 = .ok (.if_icmp .ne 7, 3) := by decide +kernel
theorem dL_fill_172 : decode cL_fill 172 = .ok (.iconst 1, 1) := by decide +kernel
theorem dL_fill_173 : decode cL_fill 173 = .ok (.goto 4, 3) := by decide +kernel
theorem dL_fill_176 : decode cL_fill 176 = .ok (.iconst 0, 1) := by decide +kernel
theorem dL_fill_177 : decode cL_fill 177 = .ok (.istore 13, 2) := by decide +kernel
theorem dL_fill_179 : decode cL_fill 179 = .ok (.iload 13, 2) := by decide +kernel
theorem dL_fill_181 : decode cL_fill 181 = .ok (.ifCond .eq 34, 3) := by decide +kernel
theorem dL_fill_184 : decode cL_fill 184 = .ok (.aload_n 0, 1) := by decide +kernel
theorem dL_fill_185 : decode cL_fill 185 = .ok (.iload_n 2, 1) := by decide +kernel
theorem dL_fill_186 : decode cL_fill 186 = .ok (.iconst 0, 1) := by decide +kernel
theorem dL_fill_187 : decode cL_fill 187 = .ok (.invokevirtual 10, 3) := by decide +kernel
theorem dL_fill_190 : decode cL_fill 190 = .ok (.iload 9, 2) := by decide +kernel
theorem dL_fill_192 : decode cL_fill 192 = .ok (.ifCond .ge 10, 3) := by decide +kernel
theorem dL_fill_195 : decode cL_fill 195 = .ok (.iload 10, 2) := by decide +kernel
theorem dL_fill_197 : decode cL_fill 197 = .ok (.iconst 1, 1) := by decide +kernel
theorem dL_fill_198 : decode cL_fill 198 = .ok (.iadd, 1) := by decide +kernel
theorem dL_fill_199 : decode cL_fill 199 = .ok (.goto 5, 3) := by decide +kernel
theorem dL_fill_202 : decode cL_fill 202 = .ok (.iload 10, 2) := by decide +kernel
theorem dL_fill_204 : decode cL_fill 204 = .ok (.if_icmp .ne 11, 3) := by decide +kernel
theorem dL_fill_207 : decode cL_fill 207 = .ok (.aload_n 0, 1) := by decide +kernel
theorem dL_fill_208 : decode cL_fill 208 = .ok (.iload_n 2, 1) := by decide +kernel
theorem dL_fill_209 : decode cL_fill 209 = .ok (.invokestatic 36, 3) := by decide +kernel
theorem dL_fill_212 : decode cL_fill 212 = .ok (.ifCond .ne 5, 3) := by decide +kernel
theorem dL_fill_215 : decode cL_fill 215 = .ok (.iconst 0, 1) := by decide +kernel
theorem dL_fill_216 : decode cL_fill 216 = .ok (.ireturn, 1) := by decide +kernel
theorem dL_fill_217 : decode cL_fill 217 = .ok (.iload 6, 2) := by decide +kernel
theorem dL_fill_219 : decode cL_fill 219 = .ok (.bipush 15, 2) := by decide +kernel
theorem dL_fill_221 : decode cL_fill 221 = .ok (.ishr, 1) := by decide +kernel
theorem dL_fill_222 : decode cL_fill 222 = .ok (.bipush 9, 2) := by decide +kernel
theorem dL_fill_224 : decode cL_fill 224 = .ok (.invokestatic 26, 3) := by decide +kernel
theorem dL_fill_227 : decode cL_fill 227 = .ok (.ifCond .ne 42, 3) := by decide +kernel
theorem dL_fill_230 : decode cL_fill 230 = .ok (.aload_n 0, 1) := by decide +kernel
theorem dL_fill_231 : decode cL_fill 231 = .ok (.iload_n 2, 1) := by decide +kernel
theorem dL_fill_232 : decode cL_fill 232 = .ok (.iload 7, 2) := by decide +kernel
theorem dL_fill_234 : decode cL_fill 234 = .ok (.invokevirtual 40, 3) := by decide +kernel
theorem dL_fill_237 : decode cL_fill 237 = .ok (.aload_n 0, 1) := by decide +kernel
theorem dL_fill_238 : decode cL_fill 238 = .ok (.iload_n 2, 1) := by decide +kernel
theorem dL_fill_239 : decode cL_fill 239 = .ok (.iconst 0, 1) := by decide +kernel
theorem dL_fill_240 : decode cL_fill 240 = .ok (.invokevirtual 10, 3) := by decide +kernel
theorem dL_fill_243 : decode cL_fill 243 = .ok (.if_icmp .ne 24, 3) := by decide +kernel
theorem dL_fill_246 : decode cL_fill 246 = .ok (.aload_n 0, 1) := by decide +kernel
theorem dL_fill_247 : decode cL_fill 247 = .ok (.iload_n 2, 1) := by decide +kernel
theorem dL_fill_248 : decode cL_fill 248 = .ok (.iload 7, 2) := by decide +kernel
theorem dL_fill_250 : decode cL_fill 250 = .ok (.invokestatic 29, 3) := by decide +kernel
theorem dL_fill_253 : decode cL_fill 253 = .ok (.ifCond .ge 14, 3) := by decide +kernel
theorem dL_fill_256 : decode cL_fill 256 = .ok (.aload_n 0, 1) := by decide +kernel
theorem dL_fill_257 : decode cL_fill 257 = .ok (.iload_n 2, 1) := by decide +kernel
theorem dL_fill_258 : decode cL_fill 258 = .ok (.iload 7, 2) := by decide +kernel
theorem dL_fill_260 : decode cL_fill 260 = .ok (.invokevirtual 40, 3) := by decide +kernel
theorem dL_fill_263 : decode cL_fill 263 = .ok (.iconst (-1), 1) := by decide +kernel
theorem dL_fill_264 : decode cL_fill 264 = .ok (.if_icmp .eq 5, 3) := by decide +kernel
theorem dL_fill_267 : decode cL_fill 267 = .ok (.iconst 0, 1) := by decide +kernel
theorem dL_fill_268 : decode cL_fill 268 = .ok (.ireturn, 1) := by decide +kernel
theorem dL_fill_269 : decode cL_fill 269 = .ok (.iinc 5 1, 3) := by decide +kernel
theorem dL_fill_272 : decode cL_fill 272 = .ok (.goto (-255), 3) := by decide +kernel
theorem dL_fill_275 : decode cL_fill 275 = .ok (.iconst 1, 1) := by decide +kernel
theorem dL_fill_276 : decode cL_fill 276 = .ok (.ireturn, 1) := by decide +kernel
theorem dL_reckon_0 : decode cL_reckon 0 = .ok (.iconst 1, 1) := by decide +kernel
theorem dL_reckon_1 : decode cL_reckon 1 = .ok (.istore_n 2, 1) := by decide +kernel
theorem dL_reckon_2 : decode cL_reckon 2 = .ok (.iconst 0, 1) := by decide +kernel
theorem dL_reckon_3 : decode cL_reckon 3 = .ok (.istore_n 3, 1) := by decide +kernel
theorem dL_reckon_4 : decode cL_reckon 4 = .ok (.iload_n 3, 1) := by decide +kernel
theorem dL_reckon_5 : decode cL_reckon 5 = .ok (.bipush 60, 2) := by decide +kernel
theorem dL_reckon_7 : decode cL_reckon 7 = .ok (.if_icmp .ge 146, 3) := by decide +kernel
theorem dL_reckon_10 : decode cL_reckon 10 = .ok (.iconst 0, 1) := by decide +kernel
theorem dL_reckon_11 : decode cL_reckon 11 = .ok (.istore 4, 2) := by decide +kernel
theorem dL_reckon_13 : decode cL_reckon 13 = .ok (.iconst 0, 1) := by decide +kernel
theorem dL_reckon_14 : decode cL_reckon 14 = .ok (.istore 5, 2) := by decide +kernel
theorem dL_reckon_16 : decode cL_reckon 16 = .ok (.iconst 0, 1) := by decide +kernel
theorem dL_reckon_17 : decode cL_reckon 17 = .ok (.istore 6, 2) := by decide +kernel
theorem dL_reckon_19 : decode cL_reckon 19 = .ok (.iload 6, 2) := by decide +kernel
theorem dL_reckon_21 : decode cL_reckon 21 = .ok (.bipush 6, 2) := by decide +kernel
theorem dL_reckon_23 : decode cL_reckon 23 = .ok (.if_icmp .ge 73, 3) := by decide +kernel
theorem dL_reckon_26 : decode cL_reckon 26 = .ok (.iload_n 3, 1) := by decide +kernel
theorem dL_reckon_27 : decode cL_reckon 27 = .ok (.bipush 12, 2) := by decide +kernel
theorem dL_reckon_29 : decode cL_reckon 29 = .ok (.if_icmp .ge 67, 3) := by decide +kernel
theorem dL_reckon_32 : decode cL_reckon 32 = .ok (.aload_n 0, 1) := by decide +kernel
theorem dL_reckon_33 : decode cL_reckon 33 = .ok (.iload 6, 2) := by decide +kernel
theorem dL_reckon_35 : decode cL_reckon 35 = .ok (.iload_n 3, 1) := by decide +kernel
theorem dL_reckon_36 : decode cL_reckon 36 = .ok (.invokestatic 29, 3) := by decide +kernel
theorem dL_reckon_39 : decode cL_reckon 39 = .ok (.istore 7, 2) := by decide +kernel
theorem dL_reckon_41 : decode cL_reckon 41 = .ok (.iload 4, 2) := by decide +kernel
theorem dL_reckon_43 : decode cL_reckon 43 = .ok (.iload 7, 2) := by decide +kernel
theorem dL_reckon_45 : decode cL_reckon 45 = .ok (.ifCond .ge 7, 3) := by decide +kernel
theorem dL_reckon_48 : decode cL_reckon 48 = .ok (.iconst 0, 1) := by decide +kernel
theorem dL_reckon_49 : decode cL_reckon 49 = .ok (.goto 20, 3) := by decide +kernel
theorem dL_reckon_52 : decode cL_reckon 52 = .ok (.aload_n 0, 1) := by decide +kernel
theorem dL_reckon_53 : decode cL_reckon 53 = .ok (.iload 6, 2) := by decide +kernel
theorem dL_reckon_55 : decode cL_reckon 55 = .ok (.iconst 1, 1) := by decide +kernel
theorem dL_reckon_56 : decode cL_reckon 56 = .ok (.invokevirtual 10, 3) := by decide +kernel
theorem dL_reckon_59 : decode cL_reckon 59 = .ok (.aload_n 0, 1) := by decide +kernel
theorem dL_reckon_60 : decode cL_reckon 60 = .ok (.iload 6, 2) := by decide +kernel
theorem dL_reckon_62 : decode cL_reckon 62 = .ok (.iload 7, 2) := by decide +kernel
theorem dL_reckon_64 : decode cL_reckon 64 = .ok (.iconst 1, 1) := by decide +kernel
theorem dL_reckon_65 : decode cL_reckon 65 = .ok (.invokevirtual 16, 3) := by decide +kernel
theorem dL_reckon_68 : decode cL_reckon 68 = .ok (.imul, 1) := by decide +kernel
theorem dL_reckon_69 : decode cL_reckon 69 = .ok (.iadd, 1) := by decide +kernel
theorem dL_reckon_70 : decode cL_reckon 70 = .ok (.istore 4, 2) := by decide +kernel
theorem dL_reckon_72 : decode cL_reckon 72 = .ok (.iload 5, 2) := by decide +kernel
theorem dL_reckon_74 : decode cL_reckon 74 = .ok (.iload 7, 2) := by decide +kernel
theorem dL_reckon_76 : decode cL_reckon 76 = .ok (.ifCond .ge 7, 3) := by decide +kernel
theorem dL_reckon_79 : decode cL_reckon 79 = .ok (.iconst 0, 1) := by decide +kernel
theorem dL_reckon_80 : decode cL_reckon 80 = .ok (.goto 7, 3) := by decide +kernel
theorem dL_reckon_83 : decode cL_reckon 83 = .ok (.iconst 1, 1) := by decide +kernel
theorem dL_reckon_84 : decode cL_reckon 84 = .ok (.iload 6, 2) := by decide +kernel
theorem dL_reckon_86 : decode cL_reckon 86 = .ok (.ishl, 1) := by decide +kernel
theorem dL_reckon_87 : decode cL_reckon 87 = .ok (.ior, 1) := by decide +kernel
theorem dL_reckon_88 : decode cL_reckon 88 = .ok (.istore 5, 2) := by decide +kernel
theorem dL_reckon_90 : decode cL_reckon 90 = .ok (.iinc 6 1, 3) := by decide +kernel
theorem dL_reckon_93 : decode cL_reckon 93 = .ok (.goto (-74), 3) := by decide +kernel
theorem dL_reckon_96 : decode cL_reckon 96 = .ok (.iload_n 2, 1) := by decide +kernel
theorem dL_reckon_97 : decode cL_reckon 97 = .ok (.ifCond .eq 29, 3) := by decide +kernel
theorem dL_reckon_100 : decode cL_reckon 100 = .ok (.aload_n 0, 1) := by decide +kernel
theorem dL_reckon_101 : decode cL_reckon 101 = .ok (.iload_n 3, 1) := by decide +kernel
theorem dL_reckon_102 : decode cL_reckon 102 = .ok (.iconst 1, 1) := by decide +kernel
theorem dL_reckon_103 : decode cL_reckon 103 = .ok (.invokevirtual 43, 3) := by decide +kernel
theorem dL_reckon_106 : decode cL_reckon 106 = .ok (.iload 4, 2) := by decide +kernel
theorem dL_reckon_108 : decode cL_reckon 108 = .ok (.if_icmp .ne 18, 3) := by decide +kernel
theorem dL_reckon_111 : decode cL_reckon 111 = .ok (.aload_n 0, 1) := by decide +kernel
theorem dL_reckon_112 : decode cL_reckon 112 = .ok (.iload_n 3, 1) := by decide +kernel
theorem dL_reckon_113 : decode cL_reckon 113 = .ok (.iconst 2, 1) := by decide +kernel
theorem dL_reckon_114 : decode cL_reckon 114 = .ok (.invokevirtual 43, 3) := by decide +kernel
theorem dL_reckon_117 : decode cL_reckon 117 = .ok (.iload 5, 2) := by decide +kernel
theorem dL_reckon_119 : decode cL_reckon 119 = .ok (.if_icmp .ne 7, 3) := by decide +kernel
theorem dL_reckon_122 : decode cL_reckon 122 = .ok (.iconst 1, 1) := by decide +kernel
theorem dL_reckon_123 : decode cL_reckon 123 = .ok (.goto 4, 3) := by decide +kernel
theorem dL_reckon_126 : decode cL_reckon 126 = .ok (.iconst 0, 1) := by decide +kernel
theorem dL_reckon_127 : decode cL_reckon 127 = .ok (.istore_n 2, 1) := by decide +kernel
theorem dL_reckon_128 : decode cL_reckon 128 = .ok (.aload_n 1, 1) := by decide +kernel
theorem dL_reckon_129 : decode cL_reckon 129 = .ok (.iload_n 3, 1) := by decide +kernel
theorem dL_reckon_130 : decode cL_reckon 130 = .ok (.aload_n 0, 1) := by decide +kernel
theorem dL_reckon_131 : decode cL_reckon 131 = .ok (.iload_n 3, 1) := by decide +kernel
theorem dL_reckon_132 : decode cL_reckon 132 = .ok (.iconst 0, 1) := by decide +kernel
theorem dL_reckon_133 : decode cL_reckon 133 = .ok (.invokevirtual 43, 3) := by decide +kernel
theorem dL_reckon_136 : decode cL_reckon 136 = .ok (.iconst 1, 1) := by decide +kernel
theorem dL_reckon_137 : decode cL_reckon 137 = .ok (.if_icmp .ne 7, 3) := by decide +kernel
theorem dL_reckon_140 : decode cL_reckon 140 = .ok (.iconst 0, 1) := by decide +kernel
theorem dL_reckon_141 : decode cL_reckon 141 = .ok (.goto 5, 3) := by decide +kernel
theorem dL_reckon_144 : decode cL_reckon 144 = .ok (.iload 4, 2) := by decide +kernel
theorem dL_reckon_146 : decode cL_reckon 146 = .ok (.iastore, 1) := by decide +kernel
theorem dL_reckon_147 : decode cL_reckon 147 = .ok (.iinc 3 1, 3) := by decide +kernel
theorem dL_reckon_150 : decode cL_reckon 150 = .ok (.goto (-146), 3) := by decide +kernel
theorem dL_reckon_153 : decode cL_reckon 153 = .ok (.iload_n 2, 1) := by decide +kernel
theorem dL_reckon_154 : decode cL_reckon 154 = .ok (.ireturn, 1) := by decide +kernel
theorem dL_areWanted_0 : decode cL_areWanted 0 = .ok (.aload_n 0, 1) := by decide +kernel
theorem dL_areWanted_1 : decode cL_areWanted 1 = .ok (.iconst 2, 1) := by decide +kernel
theorem dL_areWanted_2 : decode cL_areWanted 2 = .ok (.invokevirtual 46, 3) := by decide +kernel
theorem dL_areWanted_5 : decode cL_areWanted 5 = .ok (.istore_n 2, 1) := by decide +kernel
theorem dL_areWanted_6 : decode cL_areWanted 6 = .ok (.iconst 0, 1) := by decide +kernel
theorem dL_areWanted_7 : decode cL_areWanted 7 = .ok (.istore_n 3, 1) := by decide +kernel
theorem dL_areWanted_8 : decode cL_areWanted 8 = .ok (.iconst 0, 1) := by decide +kernel
theorem dL_areWanted_9 : decode cL_areWanted 9 = .ok (.istore 4, 2) := by decide +kernel
theorem dL_areWanted_11 : decode cL_areWanted 11 = .ok (.iload 4, 2) := by decide +kernel
theorem dL_areWanted_13 : decode cL_areWanted 13 = .ok (.bipush 12, 2) := by decide +kernel
theorem dL_areWanted_15 : decode cL_areWanted 15 = .ok (.if_icmp .ge 140, 3) := by decide +kernel
theorem dL_areWanted_18 : decode cL_areWanted 18 = .ok (.iconst 0, 1) := by decide +kernel
theorem dL_areWanted_19 : decode cL_areWanted 19 = .ok (.istore 5, 2) := by decide +kernel
theorem dL_areWanted_21 : decode cL_areWanted 21 = .ok (.iconst 0, 1) := by decide +kernel
theorem dL_areWanted_22 : decode cL_areWanted 22 = .ok (.istore 6, 2) := by decide +kernel
theorem dL_areWanted_24 : decode cL_areWanted 24 = .ok (.iload 6, 2) := by decide +kernel
theorem dL_areWanted_26 : decode cL_areWanted 26 = .ok (.bipush 12, 2) := by decide +kernel
theorem dL_areWanted_28 : decode cL_areWanted 28 = .ok (.if_icmp .ge 48, 3) := by decide +kernel
theorem dL_areWanted_31 : decode cL_areWanted 31 = .ok (.iload 5, 2) := by decide +kernel
theorem dL_areWanted_33 : decode cL_areWanted 33 = .ok (.aload_n 1, 1) := by decide +kernel
theorem dL_areWanted_34 : decode cL_areWanted 34 = .ok (.iload 6, 2) := by decide +kernel
theorem dL_areWanted_36 : decode cL_areWanted 36 = .ok (.iaload, 1) := by decide +kernel
theorem dL_areWanted_37 : decode cL_areWanted 37 = .ok (.aload_n 1, 1) := by decide +kernel
theorem dL_areWanted_38 : decode cL_areWanted 38 = .ok (.iload 4, 2) := by decide +kernel
theorem dL_areWanted_40 : decode cL_areWanted 40 = .ok (.iaload, 1) := by decide +kernel
theorem dL_areWanted_41 : decode cL_areWanted 41 = .ok (.if_icmp .gt 21, 3) := by decide +kernel
theorem dL_areWanted_44 : decode cL_areWanted 44 = .ok (.aload_n 1, 1) := by decide +kernel
theorem dL_areWanted_45 : decode cL_areWanted 45 = .ok (.iload 6, 2) := by decide +kernel
theorem dL_areWanted_47 : decode cL_areWanted 47 = .ok (.iaload, 1) := by decide +kernel
theorem dL_areWanted_48 : decode cL_areWanted 48 = .ok (.aload_n 1, 1) := by decide +kernel
theorem dL_areWanted_49 : decode cL_areWanted 49 = .ok (.iload 4, 2) := by decide +kernel
theorem dL_areWanted_51 : decode cL_areWanted 51 = .ok (.iaload, 1) := by decide +kernel
theorem dL_areWanted_52 : decode cL_areWanted 52 = .ok (.if_icmp .ne 14, 3) := by decide +kernel
theorem dL_areWanted_55 : decode cL_areWanted 55 = .ok (.iload 6, 2) := by decide +kernel
theorem dL_areWanted_57 : decode cL_areWanted 57 = .ok (.iload 4, 2) := by decide +kernel
theorem dL_areWanted_59 : decode cL_areWanted 59 = .ok (.if_icmp .ge 7, 3) := by decide +kernel
theorem dL_areWanted_62 : decode cL_areWanted 62 = .ok (.iconst 1, 1) := by decide +kernel
theorem dL_areWanted_63 : decode cL_areWanted 63 = .ok (.goto 4, 3) := by decide +kernel
theorem dL_areWanted_66 : decode cL_areWanted 66 = .ok (.iconst 0, 1) := by decide +kernel
theorem dL_areWanted_67 : decode cL_areWanted 67 = .ok (.iadd, 1) := by decide +kernel
theorem dL_areWanted_68 : decode cL_areWanted 68 = .ok (.istore 5, 2) := by decide +kernel
theorem dL_areWanted_70 : decode cL_areWanted 70 = .ok (.iinc 6 1, 3) := by decide +kernel
theorem dL_areWanted_73 : decode cL_areWanted 73 = .ok (.goto (-49), 3) := by decide +kernel
theorem dL_areWanted_76 : decode cL_areWanted 76 = .ok (.aload_n 1, 1) := by decide +kernel
theorem dL_areWanted_77 : decode cL_areWanted 77 = .ok (.iload 4, 2) := by decide +kernel
theorem dL_areWanted_79 : decode cL_areWanted 79 = .ok (.iaload, 1) := by decide +kernel
theorem dL_areWanted_80 : decode cL_areWanted 80 = .ok (.ifCond .le 13, 3) := by decide +kernel
theorem dL_areWanted_83 : decode cL_areWanted 83 = .ok (.iload 5, 2) := by decide +kernel
theorem dL_areWanted_85 : decode cL_areWanted 85 = .ok (.iload_n 2, 1) := by decide +kernel
theorem dL_areWanted_86 : decode cL_areWanted 86 = .ok (.if_icmp .ge 7, 3) := by decide +kernel
theorem dL_areWanted_89 : decode cL_areWanted 89 = .ok (.iconst 1, 1) := by decide +kernel
theorem dL_areWanted_90 : decode cL_areWanted 90 = .ok (.goto 4, 3) := by decide +kernel
theorem dL_areWanted_93 : decode cL_areWanted 93 = .ok (.iconst 0, 1) := by decide +kernel
theorem dL_areWanted_94 : decode cL_areWanted 94 = .ok (.istore 6, 2) := by decide +kernel
theorem dL_areWanted_96 : decode cL_areWanted 96 = .ok (.iload_n 3, 1) := by decide +kernel
theorem dL_areWanted_97 : decode cL_areWanted 97 = .ok (.iload 6, 2) := by decide +kernel
theorem dL_areWanted_99 : decode cL_areWanted 99 = .ok (.ifCond .eq 7, 3) := by decide +kernel
theorem dL_areWanted_102 : decode cL_areWanted 102 = .ok (.iconst 1, 1) := by decide +kernel
theorem dL_areWanted_103 : decode cL_areWanted 103 = .ok (.goto 4, 3) := by decide +kernel
theorem dL_areWanted_106 : decode cL_areWanted 106 = .ok (.iconst 0, 1) := by decide +kernel
theorem dL_areWanted_107 : decode cL_areWanted 107 = .ok (.iadd, 1) := by decide +kernel
theorem dL_areWanted_108 : decode cL_areWanted 108 = .ok (.istore_n 3, 1) := by decide +kernel
theorem dL_areWanted_109 : decode cL_areWanted 109 = .ok (.aload_n 0, 1) := by decide +kernel
theorem dL_areWanted_110 : decode cL_areWanted 110 = .ok (.iload 4, 2) := by decide +kernel
theorem dL_areWanted_112 : decode cL_areWanted 112 = .ok (.iconst 3, 1) := by decide +kernel
theorem dL_areWanted_113 : decode cL_areWanted 113 = .ok (.invokevirtual 43, 3) := by decide +kernel
theorem dL_areWanted_116 : decode cL_areWanted 116 = .ok (.iload 6, 2) := by decide +kernel
theorem dL_areWanted_118 : decode cL_areWanted 118 = .ok (.ifCond .eq 8, 3) := by decide +kernel
theorem dL_areWanted_121 : decode cL_areWanted 121 = .ok (.iload 5, 2) := by decide +kernel
theorem dL_areWanted_123 : decode cL_areWanted 123 = .ok (.goto 5, 3) := by decide +kernel
theorem dL_areWanted_126 : decode cL_areWanted 126 = .ok (.bipush (-5), 2) := by decide +kernel
theorem dL_areWanted_128 : decode cL_areWanted 128 = .ok (.if_icmp .ne 19, 3) := by decide +kernel
theorem dL_areWanted_131 : decode cL_areWanted 131 = .ok (.iload 6, 2) := by decide +kernel
theorem dL_areWanted_133 : decode cL_areWanted 133 = .ok (.ifCond .eq 16, 3) := by decide +kernel
theorem dL_areWanted_136 : decode cL_areWanted 136 = .ok (.aload_n 0, 1) := by decide +kernel
theorem dL_areWanted_137 : decode cL_areWanted 137 = .ok (.iload 5, 2) := by decide +kernel
theorem dL_areWanted_139 : decode cL_areWanted 139 = .ok (.invokevirtual 50, 3) := by decide +kernel
theorem dL_areWanted_142 : decode cL_areWanted 142 = .ok (.iload 4, 2) := by decide +kernel
theorem dL_areWanted_144 : decode cL_areWanted 144 = .ok (.if_icmp .eq 5, 3) := by decide +kernel
theorem dL_areWanted_147 : decode cL_areWanted 147 = .ok (.iconst 0, 1) := by decide +kernel
theorem dL_areWanted_148 : decode cL_areWanted 148 = .ok (.ireturn, 1) := by decide +kernel
theorem dL_areWanted_149 : decode cL_areWanted 149 = .ok (.iinc 4 1, 3) := by decide +kernel
theorem dL_areWanted_152 : decode cL_areWanted 152 = .ok (.goto (-141), 3) := by decide +kernel
theorem dL_areWanted_155 : decode cL_areWanted 155 = .ok (.aload_n 0, 1) := by decide +kernel
theorem dL_areWanted_156 : decode cL_areWanted 156 = .ok (.iconst 4, 1) := by decide +kernel
theorem dL_areWanted_157 : decode cL_areWanted 157 = .ok (.invokevirtual 46, 3) := by decide +kernel
theorem dL_areWanted_160 : decode cL_areWanted 160 = .ok (.iload_n 3, 1) := by decide +kernel
theorem dL_areWanted_161 : decode cL_areWanted 161 = .ok (.if_icmp .ne 29, 3) := by decide +kernel
theorem dL_areWanted_164 : decode cL_areWanted 164 = .ok (.aload_n 0, 1) := by decide +kernel
theorem dL_areWanted_165 : decode cL_areWanted 165 = .ok (.iload_n 3, 1) := by decide +kernel
theorem dL_areWanted_166 : decode cL_areWanted 166 = .ok (.invokevirtual 50, 3) := by decide +kernel
theorem dL_areWanted_169 : decode cL_areWanted 169 = .ok (.bipush (-5), 2) := by decide +kernel
theorem dL_areWanted_171 : decode cL_areWanted 171 = .ok (.if_icmp .ne 19, 3) := by decide +kernel
theorem dL_areWanted_174 : decode cL_areWanted 174 = .ok (.aload_n 0, 1) := by decide +kernel
theorem dL_areWanted_175 : decode cL_areWanted 175 = .ok (.bipush 59, 2) := by decide +kernel
theorem dL_areWanted_177 : decode cL_areWanted 177 = .ok (.iconst 3, 1) := by decide +kernel
theorem dL_areWanted_178 : decode cL_areWanted 178 = .ok (.invokevirtual 43, 3) := by decide +kernel
theorem dL_areWanted_181 : decode cL_areWanted 181 = .ok (.bipush (-5), 2) := by decide +kernel
theorem dL_areWanted_183 : decode cL_areWanted 183 = .ok (.if_icmp .ne 7, 3) := by decide +kernel
theorem dL_areWanted_186 : decode cL_areWanted 186 = .ok (.iconst 1, 1) := by decide +kernel
theorem dL_areWanted_187 : decode cL_areWanted 187 = .ok (.goto 4, 3) := by decide +kernel
theorem dL_areWanted_190 : decode cL_areWanted 190 = .ok (.iconst 0, 1) := by decide +kernel
theorem dL_areWanted_191 : decode cL_areWanted 191 = .ok (.ireturn, 1) := by decide +kernel
theorem dL_read_0 : decode cL_read 0 = .ok (.aload_n 0, 1) := by decide +kernel
theorem dL_read_1 : decode cL_read 1 = .ok (.iload_n 1, 1) := by decide +kernel
theorem dL_read_2 : decode cL_read 2 = .ok (.iload_n 2, 1) := by decide +kernel
theorem dL_read_3 : decode cL_read 3 = .ok (.invokevirtual 53, 3) := by decide +kernel
theorem dL_read_6 : decode cL_read 6 = .ok (.istore 4, 2) := by decide +kernel
theorem dL_read_8 : decode cL_read 8 = .ok (.iconst 0, 1) := by decide +kernel
theorem dL_read_9 : decode cL_read 9 = .ok (.istore 5, 2) := by decide +kernel
theorem dL_read_11 : decode cL_read 11 = .ok (.iload 4, 2) := by decide +kernel
theorem dL_read_13 : decode cL_read 13 = .ok (.ifCond .ne 61, 3) := by decide +kernel
theorem dL_read_16 : decode cL_read 16 = .ok (.iload 5, 2) := by decide +kernel
theorem dL_read_18 : decode cL_read 18 = .ok (.sipush 240, 3) := by decide +kernel
theorem dL_read_21 : decode cL_read 21 = .ok (.if_icmp .ge 53, 3) := by decide +kernel
theorem dL_read_24 : decode cL_read 24 = .ok (.aload_n 0, 1) := by decide +kernel
theorem dL_read_25 : decode cL_read 25 = .ok (.iload_n 3, 1) := by decide +kernel
theorem dL_read_26 : decode cL_read 26 = .ok (.invokevirtual 57, 3) := by decide +kernel
theorem dL_read_29 : decode cL_read 29 = .ok (.istore 6, 2) := by decide +kernel
theorem dL_read_31 : decode cL_read 31 = .ok (.aload_n 0, 1) := by decide +kernel
theorem dL_read_32 : decode cL_read 32 = .ok (.bipush 6, 2) := by decide +kernel
theorem dL_read_34 : decode cL_read 34 = .ok (.invokevirtual 60, 3) := by decide +kernel
theorem dL_read_37 : decode cL_read 37 = .ok (.istore 4, 2) := by decide +kernel
theorem dL_read_39 : decode cL_read 39 = .ok (.iload 5, 2) := by decide +kernel
theorem dL_read_41 : decode cL_read 41 = .ok (.iload 6, 2) := by decide +kernel
theorem dL_read_43 : decode cL_read 43 = .ok (.iadd, 1) := by decide +kernel
theorem dL_read_44 : decode cL_read 44 = .ok (.istore 5, 2) := by decide +kernel
theorem dL_read_46 : decode cL_read 46 = .ok (.iload 6, 2) := by decide +kernel
theorem dL_read_48 : decode cL_read 48 = .ok (.iconst 1, 1) := by decide +kernel
theorem dL_read_49 : decode cL_read 49 = .ok (.if_icmp .lt 20, 3) := by decide +kernel
theorem dL_read_52 : decode cL_read 52 = .ok (.iload 6, 2) := by decide +kernel
theorem dL_read_54 : decode cL_read 54 = .ok (.iload_n 3, 1) := by decide +kernel
theorem dL_read_55 : decode cL_read 55 = .ok (.if_icmp .gt 14, 3) := by decide +kernel
theorem dL_read_58 : decode cL_read 58 = .ok (.iload 4, 2) := by decide +kernel
theorem dL_read_60 : decode cL_read 60 = .ok (.ifCond .ne 11, 3) := by decide +kernel
theorem dL_read_63 : decode cL_read 63 = .ok (.iload 6, 2) := by decide +kernel
theorem dL_read_65 : decode cL_read 65 = .ok (.iload_n 3, 1) := by decide +kernel
theorem dL_read_66 : decode cL_read 66 = .ok (.if_icmp .ge 5, 3) := by decide +kernel
theorem dL_read_69 : decode cL_read 69 = .ok (.iconst (-1), 1) := by decide +kernel
theorem dL_read_70 : decode cL_read 70 = .ok (.ireturn, 1) := by decide +kernel
theorem dL_read_71 : decode cL_read 71 = .ok (.goto (-60), 3) := by decide +kernel
theorem dL_read_74 : decode cL_read 74 = .ok (.iload 4, 2) := by decide +kernel
theorem dL_read_76 : decode cL_read 76 = .ok (.iconst 1, 1) := by decide +kernel
theorem dL_read_77 : decode cL_read 77 = .ok (.if_icmp .ne 65, 3) := by decide +kernel
theorem dL_read_80 : decode cL_read 80 = .ok (.aload_n 0, 1) := by decide +kernel
theorem dL_read_81 : decode cL_read 81 = .ok (.iconst 0, 1) := by decide +kernel
theorem dL_read_82 : decode cL_read 82 = .ok (.invokevirtual 60, 3) := by decide +kernel
theorem dL_read_85 : decode cL_read 85 = .ok (.iload 5, 2) := by decide +kernel
theorem dL_read_87 : decode cL_read 87 = .ok (.if_icmp .ne 55, 3) := by decide +kernel
theorem dL_read_90 : decode cL_read 90 = .ok (.aload_n 0, 1) := by decide +kernel
theorem dL_read_91 : decode cL_read 91 = .ok (.bipush 10, 2) := by decide +kernel
theorem dL_read_93 : decode cL_read 93 = .ok (.invokevirtual 60, 3) := by decide +kernel
theorem dL_read_96 : decode cL_read 96 = .ok (.ifCond .ne 46, 3) := by decide +kernel
theorem dL_read_99 : decode cL_read 99 = .ok (.aload_n 0, 1) := by decide +kernel
theorem dL_read_100 : decode cL_read 100 = .ok (.bipush 11, 2) := by decide +kernel
theorem dL_read_102 : decode cL_read 102 = .ok (.invokevirtual 60, 3) := by decide +kernel
theorem dL_read_105 : decode cL_read 105 = .ok (.ifCond .ne 37, 3) := by decide +kernel
theorem dL_read_108 : decode cL_read 108 = .ok (.aload_n 0, 1) := by decide +kernel
theorem dL_read_109 : decode cL_read 109 = .ok (.bipush 12, 2) := by decide +kernel
theorem dL_read_111 : decode cL_read 111 = .ok (.invokevirtual 60, 3) := by decide +kernel
theorem dL_read_114 : decode cL_read 114 = .ok (.ifCond .ne 28, 3) := by decide +kernel
theorem dL_read_117 : decode cL_read 117 = .ok (.aload_n 0, 1) := by decide +kernel
theorem dL_read_118 : decode cL_read 118 = .ok (.bipush 7, 2) := by decide +kernel
theorem dL_read_120 : decode cL_read 120 = .ok (.invokevirtual 60, 3) := by decide +kernel
theorem dL_read_123 : decode cL_read 123 = .ok (.bipush (-5), 2) := by decide +kernel
theorem dL_read_125 : decode cL_read 125 = .ok (.if_icmp .ne 17, 3) := by decide +kernel
theorem dL_read_128 : decode cL_read 128 = .ok (.aload_n 0, 1) := by decide +kernel
theorem dL_read_129 : decode cL_read 129 = .ok (.iconst 1, 1) := by decide +kernel
theorem dL_read_130 : decode cL_read 130 = .ok (.invokevirtual 57, 3) := by decide +kernel
theorem dL_read_133 : decode cL_read 133 = .ok (.bipush (-5), 2) := by decide +kernel
theorem dL_read_135 : decode cL_read 135 = .ok (.if_icmp .ne 7, 3) := by decide +kernel
theorem dL_read_138 : decode cL_read 138 = .ok (.iconst 1, 1) := by decide +kernel
theorem dL_read_139 : decode cL_read 139 = .ok (.goto 4, 3) := by decide +kernel
theorem dL_read_142 : decode cL_read 142 = .ok (.iconst 0, 1) := by decide +kernel
theorem dL_read_143 : decode cL_read 143 = .ok (.istore 6, 2) := by decide +kernel
theorem dL_read_145 : decode cL_read 145 = .ok (.aload_n 0, 1) := by decide +kernel
theorem dL_read_146 : decode cL_read 146 = .ok (.iconst 5, 1) := by decide +kernel
theorem dL_read_147 : decode cL_read 147 = .ok (.invokevirtual 60, 3) := by decide +kernel
theorem dL_read_150 : decode cL_read 150 = .ok (.istore 7, 2) := by decide +kernel
theorem dL_read_152 : decode cL_read 152 = .ok (.iload 6, 2) := by decide +kernel
theorem dL_read_154 : decode cL_read 154 = .ok (.ifCond .eq 28, 3) := by decide +kernel
theorem dL_read_157 : decode cL_read 157 = .ok (.iload 7, 2) := by decide +kernel
theorem dL_read_159 : decode cL_read 159 = .ok (.aload_n 0, 1) := by decide +kernel
theorem dL_read_160 : decode cL_read 160 = .ok (.iconst 4, 1) := by decide +kernel
theorem dL_read_161 : decode cL_read 161 = .ok (.invokevirtual 46, 3) := by decide +kernel
theorem dL_read_164 : decode cL_read 164 = .ok (.if_icmp .ne 18, 3) := by decide +kernel
theorem dL_read_167 : decode cL_read 167 = .ok (.aload_n 0, 1) := by decide +kernel
theorem dL_read_168 : decode cL_read 168 = .ok (.iload 7, 2) := by decide +kernel
theorem dL_read_170 : decode cL_read 170 = .ok (.invokevirtual 63, 3) := by decide +kernel
theorem dL_read_173 : decode cL_read 173 = .ok (.bipush (-5), 2) := by decide +kernel
theorem dL_read_175 : decode cL_read 175 = .ok (.if_icmp .ne 7, 3) := by decide +kernel
theorem dL_read_178 : decode cL_read 178 = .ok (.iconst 1, 1) := by decide +kernel
theorem dL_read_179 : decode cL_read 179 = .ok (.goto 4, 3) := by decide +kernel
theorem dL_read_182 : decode cL_read 182 = .ok (.iconst 0, 1) := by decide +kernel
theorem dL_read_183 : decode cL_read 183 = .ok (.istore 6, 2) := by decide +kernel
theorem dL_read_185 : decode cL_read 185 = .ok (.iconst 0, 1) := by decide +kernel
theorem dL_read_186 : decode cL_read 186 = .ok (.istore 8, 2) := by decide +kernel
theorem dL_read_188 : decode cL_read 188 = .ok (.iload 8, 2) := by decide +kernel
theorem dL_read_190 : decode cL_read 190 = .ok (.iload 7, 2) := by decide +kernel
theorem dL_read_192 : decode cL_read 192 = .ok (.if_icmp .ge 51, 3) := by decide +kernel
theorem dL_read_195 : decode cL_read 195 = .ok (.iload 6, 2) := by decide +kernel
theorem dL_read_197 : decode cL_read 197 = .ok (.ifCond .eq 46, 3) := by decide +kernel
theorem dL_read_200 : decode cL_read 200 = .ok (.aload_n 0, 1) := by decide +kernel
theorem dL_read_201 : decode cL_read 201 = .ok (.aload_n 0, 1) := by decide +kernel
theorem dL_read_202 : decode cL_read 202 = .ok (.iload 8, 2) := by decide +kernel
theorem dL_read_204 : decode cL_read 204 = .ok (.invokevirtual 63, 3) := by decide +kernel
theorem dL_read_207 : decode cL_read 207 = .ok (.iconst 3, 1) := by decide +kernel
theorem dL_read_208 : decode cL_read 208 = .ok (.invokevirtual 43, 3) := by decide +kernel
theorem dL_read_211 : decode cL_read 211 = .ok (.ifCond .lt 23, 3) := by decide +kernel
theorem dL_read_214 : decode cL_read 214 = .ok (.aload_n 0, 1) := by decide +kernel
theorem dL_read_215 : decode cL_read 215 = .ok (.aload_n 0, 1) := by decide +kernel
theorem dL_read_216 : decode cL_read 216 = .ok (.iload 8, 2) := by decide +kernel
theorem dL_read_218 : decode cL_read 218 = .ok (.invokevirtual 63, 3) := by decide +kernel
theorem dL_read_221 : decode cL_read 221 = .ok (.iconst 3, 1) := by decide +kernel
theorem dL_read_222 : decode cL_read 222 = .ok (.invokevirtual 66, 3) := by decide +kernel
theorem dL_read_225 : decode cL_read 225 = .ok (.iload 8, 2) := by decide +kernel
theorem dL_read_227 : decode cL_read 227 = .ok (.if_icmp .ne 7, 3) := by decide +kernel
theorem dL_read_230 : decode cL_read 230 = .ok (.iconst 1, 1) := by decide +kernel
theorem dL_read_231 : decode cL_read 231 = .ok (.goto 4, 3) := by decide +kernel
theorem dL_read_234 : decode cL_read 234 = .ok (.iconst 0, 1) := by decide +kernel
theorem dL_read_235 : decode cL_read 235 = .ok (.istore 6, 2) := by decide +kernel
theorem dL_read_237 : decode cL_read 237 = .ok (.iinc 8 1, 3) := by decide +kernel
theorem dL_read_240 : decode cL_read 240 = .ok (.goto (-52), 3) := by decide +kernel
theorem dL_read_243 : decode cL_read 243 = .ok (.aload_n 0, 1) := by decide +kernel
theorem dL_read_244 : decode cL_read 244 = .ok (.iconst 3, 1) := by decide +kernel
theorem dL_read_245 : decode cL_read 245 = .ok (.invokevirtual 60, 3) := by decide +kernel
theorem dL_read_248 : decode cL_read 248 = .ok (.istore 8, 2) := by decide +kernel
theorem dL_read_250 : decode cL_read 250 = .ok (.iload 6, 2) := by decide +kernel
theorem dL_read_252 : decode cL_read 252 = .ok (.ifCond .eq 66, 3) := by decide +kernel
theorem dL_read_255 : decode cL_read 255 = .ok (.iload 8, 2) := by decide +kernel
theorem dL_read_257 : decode cL_read 257 = .ok (.iload 5, 2) := by decide +kernel
theorem dL_read_259 : decode cL_read 259 = .ok (.iconst 3, 1) := by decide +kernel
theorem dL_read_260 : decode cL_read 260 = .ok (.aload_n 0, 1) := by decide +kernel
theorem dL_read_261 : decode cL_read 261 = .ok (.iconst 2, 1) := by decide +kernel
theorem dL_read_262 : decode cL_read 262 = .ok (.invokevirtual 60, 3) := by decide +kernel
theorem dL_read_265 : decode cL_read 265 = .ok (.imul, 1) := by decide +kernel
theorem dL_read_266 : decode cL_read 266 = .ok (.iadd, 1) := by decide +kernel
theorem dL_read_267 : decode cL_read 267 = .ok (.if_icmp .ne 51, 3) := by decide +kernel
theorem dL_read_270 : decode cL_read 270 = .ok (.aload_n 0, 1) := by decide +kernel
theorem dL_read_271 : decode cL_read 271 = .ok (.iload_n 1, 1) := by decide +kernel
theorem dL_read_272 : decode cL_read 272 = .ok (.iload_n 2, 1) := by decide +kernel
theorem dL_read_273 : decode cL_read 273 = .ok (.iconst 0, 1) := by decide +kernel
theorem dL_read_274 : decode cL_read 274 = .ok (.invokevirtual 69, 3) := by decide +kernel
theorem dL_read_277 : decode cL_read 277 = .ok (.iload 5, 2) := by decide +kernel
theorem dL_read_279 : decode cL_read 279 = .ok (.if_icmp .ne 39, 3) := by decide +kernel
theorem dL_read_282 : decode cL_read 282 = .ok (.aload_n 0, 1) := by decide +kernel
theorem dL_read_283 : decode cL_read 283 = .ok (.iload_n 1, 1) := by decide +kernel
theorem dL_read_284 : decode cL_read 284 = .ok (.iload_n 2, 1) := by decide +kernel
theorem dL_read_285 : decode cL_read 285 = .ok (.iconst 1, 1) := by decide +kernel
theorem dL_read_286 : decode cL_read 286 = .ok (.invokevirtual 69, 3) := by decide +kernel
theorem dL_read_289 : decode cL_read 289 = .ok (.iload 8, 2) := by decide +kernel
theorem dL_read_291 : decode cL_read 291 = .ok (.if_icmp .ne 27, 3) := by decide +kernel
theorem dL_read_294 : decode cL_read 294 = .ok (.aload_n 0, 1) := by decide +kernel
theorem dL_read_295 : decode cL_read 295 = .ok (.iload_n 1, 1) := by decide +kernel
theorem dL_read_296 : decode cL_read 296 = .ok (.iload_n 2, 1) := by decide +kernel
theorem dL_read_297 : decode cL_read 297 = .ok (.iconst 2, 1) := by decide +kernel
theorem dL_read_298 : decode cL_read 298 = .ok (.invokevirtual 69, 3) := by decide +kernel
theorem dL_read_301 : decode cL_read 301 = .ok (.ifCond .ne 17, 3) := by decide +kernel
theorem dL_read_304 : decode cL_read 304 = .ok (.aload_n 0, 1) := by decide +kernel
theorem dL_read_305 : decode cL_read 305 = .ok (.iload_n 1, 1) := by decide +kernel
theorem dL_read_306 : decode cL_read 306 = .ok (.iload_n 2, 1) := by decide +kernel
theorem dL_read_307 : decode cL_read 307 = .ok (.iconst 3, 1) := by decide +kernel
theorem dL_read_308 : decode cL_read 308 = .ok (.invokevirtual 69, 3) := by decide +kernel
theorem dL_read_311 : decode cL_read 311 = .ok (.ifCond .ne 7, 3) := by decide +kernel
theorem dL_read_314 : decode cL_read 314 = .ok (.iconst 1, 1) := by decide +kernel
theorem dL_read_315 : decode cL_read 315 = .ok (.goto 4, 3) := by decide +kernel
theorem dL_read_318 : decode cL_read 318 = .ok (.iconst 0, 1) := by decide +kernel
theorem dL_read_319 : decode cL_read 319 = .ok (.istore 6, 2) := by decide +kernel
theorem dL_read_321 : decode cL_read 321 = .ok (.iload 6, 2) := by decide +kernel
theorem dL_read_323 : decode cL_read 323 = .ok (.ifCond .eq 40, 3) := by decide +kernel
theorem dL_read_326 : decode cL_read 326 = .ok (.aload_n 0, 1) := by decide +kernel
theorem dL_read_327 : decode cL_read 327 = .ok (.iconst 0, 1) := by decide +kernel
theorem dL_read_328 : decode cL_read 328 = .ok (.iconst 0, 1) := by decide +kernel
theorem dL_read_329 : decode cL_read 329 = .ok (.iconst 1, 1) := by decide +kernel
theorem dL_read_330 : decode cL_read 330 = .ok (.invokevirtual 33, 3) := by decide +kernel
theorem dL_read_333 : decode cL_read 333 = .ok (.bipush (-4), 2) := by decide +kernel
theorem dL_read_335 : decode cL_read 335 = .ok (.if_icmp .ne 28, 3) := by decide +kernel
theorem dL_read_338 : decode cL_read 338 = .ok (.aload_n 0, 1) := by decide +kernel
theorem dL_read_339 : decode cL_read 339 = .ok (.iconst 0, 1) := by decide +kernel
theorem dL_read_340 : decode cL_read 340 = .ok (.iconst 1, 1) := by decide +kernel
theorem dL_read_341 : decode cL_read 341 = .ok (.invokevirtual 53, 3) := by decide +kernel
theorem dL_read_344 : decode cL_read 344 = .ok (.bipush (-4), 2) := by decide +kernel
theorem dL_read_346 : decode cL_read 346 = .ok (.if_icmp .ne 17, 3) := by decide +kernel
theorem dL_read_349 : decode cL_read 349 = .ok (.aload_n 0, 1) := by decide +kernel
theorem dL_read_350 : decode cL_read 350 = .ok (.iconst 0, 1) := by decide +kernel
theorem dL_read_351 : decode cL_read 351 = .ok (.invokevirtual 60, 3) := by decide +kernel
theorem dL_read_354 : decode cL_read 354 = .ok (.iload 5, 2) := by decide +kernel
theorem dL_read_356 : decode cL_read 356 = .ok (.if_icmp .ne 7, 3) := by decide +kernel
theorem dL_read_359 : decode cL_read 359 = .ok (.iconst 1, 1) := by decide +kernel
theorem dL_read_360 : decode cL_read 360 = .ok (.goto 4, 3) := by decide +kernel
theorem dL_read_363 : decode cL_read 363 = .ok (.iconst 0, 1) := by decide +kernel
theorem dL_read_364 : decode cL_read 364 = .ok (.istore 6, 2) := by decide +kernel
theorem dL_read_366 : decode cL_read 366 = .ok (.iload 6, 2) := by decide +kernel
theorem dL_read_368 : decode cL_read 368 = .ok (.ifCond .eq 27, 3) := by decide +kernel
theorem dL_read_371 : decode cL_read 371 = .ok (.aload_n 0, 1) := by decide +kernel
theorem dL_read_372 : decode cL_read 372 = .ok (.invokevirtual 73, 3) := by decide +kernel
theorem dL_read_375 : decode cL_read 375 = .ok (.iload 7, 2) := by decide +kernel
theorem dL_read_377 : decode cL_read 377 = .ok (.if_icmp .ne 18, 3) := by decide +kernel
theorem dL_read_380 : decode cL_read 380 = .ok (.aload_n 0, 1) := by decide +kernel
theorem dL_read_381 : decode cL_read 381 = .ok (.iconst 0, 1) := by decide +kernel
theorem dL_read_382 : decode cL_read 382 = .ok (.invokevirtual 60, 3) := by decide +kernel
theorem dL_read_385 : decode cL_read 385 = .ok (.bipush (-4), 2) := by decide +kernel
theorem dL_read_387 : decode cL_read 387 = .ok (.if_icmp .ne 8, 3) := by decide +kernel
theorem dL_read_390 : decode cL_read 390 = .ok (.iload 8, 2) := by decide +kernel
theorem dL_read_392 : decode cL_read 392 = .ok (.goto 4, 3) := by decide +kernel
theorem dL_read_395 : decode cL_read 395 = .ok (.iconst (-1), 1) := by decide +kernel
theorem dL_read_396 : decode cL_read 396 = .ok (.ireturn, 1) := by decide +kernel
theorem dL_law_0 : decode cL_law 0 = .ok (.new 11, 3) := by decide +kernel
theorem dL_law_3 : decode cL_law 3 = .ok (.dup, 1) := by decide +kernel
theorem dL_law_4 : decode cL_law 4 = .ok (.invokespecial 77, 3) := by decide +kernel
theorem dL_law_7 : decode cL_law 7 = .ok (.astore_n 1, 1) := by decide +kernel
theorem dL_law_8 : decode cL_law 8 = .ok (.bipush 64, 2) := by decide +kernel
theorem dL_law_10 : decode cL_law 10 = .ok (.newarray .int, 2) := by decide +kernel
theorem dL_law_12 : decode cL_law 12 = .ok (.astore_n 2, 1) := by decide +kernel
theorem dL_law_13 : decode cL_law 13 = .ok (.iconst 1, 1) := by decide +kernel
theorem dL_law_14 : decode cL_law 14 = .ok (.aload_n 0, 1) := by decide +kernel
theorem dL_law_15 : decode cL_law 15 = .ok (.iconst 0, 1) := by decide +kernel
theorem dL_law_16 : decode cL_law 16 = .ok (.invokestatic 20, 3) := by decide +kernel
theorem dL_law_19 : decode cL_law 19 = .ok (.iconst 4, 1) := by decide +kernel
theorem dL_law_20 : decode cL_law 20 = .ok (.invokestatic 26, 3) := by decide +kernel
theorem dL_law_23 : decode cL_law 23 = .ok (.iadd, 1) := by decide +kernel
theorem dL_law_24 : decode cL_law 24 = .ok (.istore_n 3, 1) := by decide +kernel
theorem dL_law_25 : decode cL_law 25 = .ok (.aload_n 1, 1) := by decide +kernel
theorem dL_law_26 : decode cL_law 26 = .ok (.iconst 0, 1) := by decide +kernel
theorem dL_law_27 : decode cL_law 27 = .ok (.iconst 0, 1) := by decide +kernel
theorem dL_law_28 : decode cL_law 28 = .ok (.invokevirtual 53, 3) := by decide +kernel
theorem dL_law_31 : decode cL_law 31 = .ok (.bipush (-4), 2) := by decide +kernel
theorem dL_law_33 : decode cL_law 33 = .ok (.if_icmp .ne 20, 3) := by decide +kernel
theorem dL_law_36 : decode cL_law 36 = .ok (.aload_n 1, 1) := by decide +kernel
theorem dL_law_37 : decode cL_law 37 = .ok (.invokevirtual 78, 3) := by decide +kernel
theorem dL_law_40 : decode cL_law 40 = .ok (.bipush (-4), 2) := by decide +kernel
theorem dL_law_42 : decode cL_law 42 = .ok (.if_icmp .ne 11, 3) := by decide +kernel
theorem dL_law_45 : decode cL_law 45 = .ok (.aload_n 1, 1) := by decide +kernel
theorem dL_law_46 : decode cL_law 46 = .ok (.iconst 4, 1) := by decide +kernel
theorem dL_law_47 : decode cL_law 47 = .ok (.invokevirtual 46, 3) := by decide +kernel
theorem dL_law_50 : decode cL_law 50 = .ok (.ifCond .eq 5, 3) := by decide +kernel
theorem dL_law_53 : decode cL_law 53 = .ok (.iconst 0, 1) := by decide +kernel
theorem dL_law_54 : decode cL_law 54 = .ok (.ireturn, 1) := by decide +kernel
theorem dL_law_55 : decode cL_law 55 = .ok (.iconst 0, 1) := by decide +kernel
theorem dL_law_56 : decode cL_law 56 = .ok (.istore 4, 2) := by decide +kernel
theorem dL_law_58 : decode cL_law 58 = .ok (.iload 4, 2) := by decide +kernel
theorem dL_law_60 : decode cL_law 60 = .ok (.iload_n 3, 1) := by decide +kernel
theorem dL_law_61 : decode cL_law 61 = .ok (.if_icmp .ge 54, 3) := by decide +kernel
theorem dL_law_64 : decode cL_law 64 = .ok (.aload_n 1, 1) := by decide +kernel
theorem dL_law_65 : decode cL_law 65 = .ok (.aload_n 0, 1) := by decide +kernel
theorem dL_law_66 : decode cL_law 66 = .ok (.iload 4, 2) := by decide +kernel
theorem dL_law_68 : decode cL_law 68 = .ok (.bipush 8, 2) := by decide +kernel
theorem dL_law_70 : decode cL_law 70 = .ok (.bipush 12, 2) := by decide +kernel
theorem dL_law_72 : decode cL_law 72 = .ok (.iload 4, 2) := by decide +kernel
theorem dL_law_74 : decode cL_law 74 = .ok (.imul, 1) := by decide +kernel
theorem dL_law_75 : decode cL_law 75 = .ok (.iadd, 1) := by decide +kernel
theorem dL_law_76 : decode cL_law 76 = .ok (.invokestatic 81, 3) := by decide +kernel
theorem dL_law_79 : decode cL_law 79 = .ok (.ifCond .eq 28, 3) := by decide +kernel
theorem dL_law_82 : decode cL_law 82 = .ok (.aload_n 1, 1) := by decide +kernel
theorem dL_law_83 : decode cL_law 83 = .ok (.iload 4, 2) := by decide +kernel
theorem dL_law_85 : decode cL_law 85 = .ok (.iconst 1, 1) := by decide +kernel
theorem dL_law_86 : decode cL_law 86 = .ok (.aload_n 0, 1) := by decide +kernel
theorem dL_law_87 : decode cL_law 87 = .ok (.bipush 60, 2) := by decide +kernel
theorem dL_law_89 : decode cL_law 89 = .ok (.iload 4, 2) := by decide +kernel
theorem dL_law_91 : decode cL_law 91 = .ok (.iadd, 1) := by decide +kernel
theorem dL_law_92 : decode cL_law 92 = .ok (.invokestatic 20, 3) := by decide +kernel
theorem dL_law_95 : decode cL_law 95 = .ok (.bipush 9, 2) := by decide +kernel
theorem dL_law_97 : decode cL_law 97 = .ok (.invokestatic 26, 3) := by decide +kernel
theorem dL_law_100 : decode cL_law 100 = .ok (.iadd, 1) := by decide +kernel
theorem dL_law_101 : decode cL_law 101 = .ok (.invokevirtual 85, 3) := by decide +kernel
theorem dL_law_104 : decode cL_law 104 = .ok (.ifCond .eq 5, 3) := by decide +kernel
theorem dL_law_107 : decode cL_law 107 = .ok (.iconst 0, 1) := by decide +kernel
theorem dL_law_108 : decode cL_law 108 = .ok (.ireturn, 1) := by decide +kernel
theorem dL_law_109 : decode cL_law 109 = .ok (.iinc 4 1, 3) := by decide +kernel
theorem dL_law_112 : decode cL_law 112 = .ok (.goto (-54), 3) := by decide +kernel
theorem dL_law_115 : decode cL_law 115 = .ok (.aload_n 0, 1) := by decide +kernel
theorem dL_law_116 : decode cL_law 116 = .ok (.iconst 1, 1) := by decide +kernel
theorem dL_law_117 : decode cL_law 117 = .ok (.invokestatic 20, 3) := by decide +kernel
theorem dL_law_120 : decode cL_law 120 = .ok (.istore 4, 2) := by decide +kernel
theorem dL_law_122 : decode cL_law 122 = .ok (.iconst 1, 1) := by decide +kernel
theorem dL_law_123 : decode cL_law 123 = .ok (.iload 4, 2) := by decide +kernel
theorem dL_law_125 : decode cL_law 125 = .ok (.bipush 10, 2) := by decide +kernel
theorem dL_law_127 : decode cL_law 127 = .ok (.invokestatic 26, 3) := by decide +kernel
theorem dL_law_130 : decode cL_law 130 = .ok (.iadd, 1) := by decide +kernel
theorem dL_law_131 : decode cL_law 131 = .ok (.istore 5, 2) := by decide +kernel
theorem dL_law_133 : decode cL_law 133 = .ok (.aload_n 1, 1) := by decide +kernel
theorem dL_law_134 : decode cL_law 134 = .ok (.iload 5, 2) := by decide +kernel
theorem dL_law_136 : decode cL_law 136 = .ok (.invokevirtual 88, 3) := by decide +kernel
theorem dL_law_139 : decode cL_law 139 = .ok (.iload 5, 2) := by decide +kernel
theorem dL_law_141 : decode cL_law 141 = .ok (.iconst 3, 1) := by decide +kernel
theorem dL_law_142 : decode cL_law 142 = .ok (.if_icmp .ne 8, 3) := by decide +kernel
theorem dL_law_145 : decode cL_law 145 = .ok (.bipush (-5), 2) := by decide +kernel
theorem dL_law_147 : decode cL_law 147 = .ok (.goto 4, 3) := by decide +kernel
theorem dL_law_150 : decode cL_law 150 = .ok (.iconst 3, 1) := by decide +kernel
theorem dL_law_151 : decode cL_law 151 = .ok (.if_icmp .ne 12, 3) := by decide +kernel
theorem dL_law_154 : decode cL_law 154 = .ok (.aload_n 1, 1) := by decide +kernel
theorem dL_law_155 : decode cL_law 155 = .ok (.iconst 1, 1) := by decide +kernel
theorem dL_law_156 : decode cL_law 156 = .ok (.invokevirtual 46, 3) := by decide +kernel
theorem dL_law_159 : decode cL_law 159 = .ok (.iload_n 3, 1) := by decide +kernel
theorem dL_law_160 : decode cL_law 160 = .ok (.if_icmp .eq 5, 3) := by decide +kernel
theorem dL_law_163 : decode cL_law 163 = .ok (.iconst 0, 1) := by decide +kernel
theorem dL_law_164 : decode cL_law 164 = .ok (.ireturn, 1) := by decide +kernel
theorem dL_law_165 : decode cL_law 165 = .ok (.iconst 0, 1) := by decide +kernel
theorem dL_law_166 : decode cL_law 166 = .ok (.istore 6, 2) := by decide +kernel
theorem dL_law_168 : decode cL_law 168 = .ok (.iload 6, 2) := by decide +kernel
theorem dL_law_170 : decode cL_law 170 = .ok (.bipush 12, 2) := by decide +kernel
theorem dL_law_172 : decode cL_law 172 = .ok (.if_icmp .ge 56, 3) := by decide +kernel
theorem dL_law_175 : decode cL_law 175 = .ok (.iload 4, 2) := by decide +kernel
theorem dL_law_177 : decode cL_law 177 = .ok (.bipush 8, 2) := by decide +kernel
theorem dL_law_179 : decode cL_law 179 = .ok (.iload 6, 2) := by decide +kernel
theorem dL_law_181 : decode cL_law 181 = .ok (.iadd, 1) := by decide +kernel
theorem dL_law_182 : decode cL_law 182 = .ok (.ishr, 1) := by decide +kernel
theorem dL_law_183 : decode cL_law 183 = .ok (.iconst 4, 1) := by decide +kernel
theorem dL_law_184 : decode cL_law 184 = .ok (.invokestatic 26, 3) := by decide +kernel
theorem dL_law_187 : decode cL_law 187 = .ok (.ifCond .ne 35, 3) := by decide +kernel
theorem dL_law_190 : decode cL_law 190 = .ok (.aload_n 1, 1) := by decide +kernel
theorem dL_law_191 : decode cL_law 191 = .ok (.iload 6, 2) := by decide +kernel
theorem dL_law_193 : decode cL_law 193 = .ok (.invokevirtual 91, 3) := by decide +kernel
theorem dL_law_196 : decode cL_law 196 = .ok (.aload_n 1, 1) := by decide +kernel
theorem dL_law_197 : decode cL_law 197 = .ok (.iload 6, 2) := by decide +kernel
theorem dL_law_199 : decode cL_law 199 = .ok (.iconst 2, 1) := by decide +kernel
theorem dL_law_200 : decode cL_law 200 = .ok (.invokevirtual 43, 3) := by decide +kernel
theorem dL_law_203 : decode cL_law 203 = .ok (.invokestatic 94, 3) := by decide +kernel
theorem dL_law_206 : decode cL_law 206 = .ok (.if_icmp .ne 14, 3) := by decide +kernel
theorem dL_law_209 : decode cL_law 209 = .ok (.aload_n 1, 1) := by decide +kernel
theorem dL_law_210 : decode cL_law 210 = .ok (.iload 6, 2) := by decide +kernel
theorem dL_law_212 : decode cL_law 212 = .ok (.invokevirtual 91, 3) := by decide +kernel
theorem dL_law_215 : decode cL_law 215 = .ok (.bipush (-5), 2) := by decide +kernel
theorem dL_law_217 : decode cL_law 217 = .ok (.if_icmp .eq 5, 3) := by decide +kernel
theorem dL_law_220 : decode cL_law 220 = .ok (.iconst 0, 1) := by decide +kernel
theorem dL_law_221 : decode cL_law 221 = .ok (.ireturn, 1) := by decide +kernel
theorem dL_law_222 : decode cL_law 222 = .ok (.iinc 6 1, 3) := by decide +kernel
theorem dL_law_225 : decode cL_law 225 = .ok (.goto (-57), 3) := by decide +kernel
theorem dL_law_228 : decode cL_law 228 = .ok (.aload_n 1, 1) := by decide +kernel
theorem dL_law_229 : decode cL_law 229 = .ok (.aload_n 2, 1) := by decide +kernel
theorem dL_law_230 : decode cL_law 230 = .ok (.invokestatic 97, 3) := by decide +kernel
theorem dL_law_233 : decode cL_law 233 = .ok (.ifCond .eq 11, 3) := by decide +kernel
theorem dL_law_236 : decode cL_law 236 = .ok (.aload_n 1, 1) := by decide +kernel
theorem dL_law_237 : decode cL_law 237 = .ok (.aload_n 2, 1) := by decide +kernel
theorem dL_law_238 : decode cL_law 238 = .ok (.invokestatic 101, 3) := by decide +kernel
theorem dL_law_241 : decode cL_law 241 = .ok (.ifCond .ne 5, 3) := by decide +kernel
theorem dL_law_244 : decode cL_law 244 = .ok (.iconst 0, 1) := by decide +kernel
theorem dL_law_245 : decode cL_law 245 = .ok (.ireturn, 1) := by decide +kernel
theorem dL_law_246 : decode cL_law 246 = .ok (.iconst (-1), 1) := by decide +kernel
theorem dL_law_247 : decode cL_law 247 = .ok (.istore 6, 2) := by decide +kernel
theorem dL_law_249 : decode cL_law 249 = .ok (.iconst 0, 1) := by decide +kernel
theorem dL_law_250 : decode cL_law 250 = .ok (.istore 7, 2) := by decide +kernel
theorem dL_law_252 : decode cL_law 252 = .ok (.iconst 0, 1) := by decide +kernel
theorem dL_law_253 : decode cL_law 253 = .ok (.istore 8, 2) := by decide +kernel
theorem dL_law_255 : decode cL_law 255 = .ok (.iload 8, 2) := by decide +kernel
theorem dL_law_257 : decode cL_law 257 = .ok (.bipush 6, 2) := by decide +kernel
theorem dL_law_259 : decode cL_law 259 = .ok (.if_icmp .ge 73, 3) := by decide +kernel
theorem dL_law_262 : decode cL_law 262 = .ok (.aload_n 1, 1) := by decide +kernel
theorem dL_law_263 : decode cL_law 263 = .ok (.iload 8, 2) := by decide +kernel
theorem dL_law_265 : decode cL_law 265 = .ok (.iconst 2, 1) := by decide +kernel
theorem dL_law_266 : decode cL_law 266 = .ok (.idiv, 1) := by decide +kernel
theorem dL_law_267 : decode cL_law 267 = .ok (.iload 8, 2) := by decide +kernel
theorem dL_law_269 : decode cL_law 269 = .ok (.iconst 2, 1) := by decide +kernel
theorem dL_law_270 : decode cL_law 270 = .ok (.irem, 1) := by decide +kernel
theorem dL_law_271 : decode cL_law 271 = .ok (.iconst 1, 1) := by decide +kernel
theorem dL_law_272 : decode cL_law 272 = .ok (.if_icmp .ne 7, 3) := by decide +kernel
theorem dL_law_275 : decode cL_law 275 = .ok (.iconst 1, 1) := by decide +kernel
theorem dL_law_276 : decode cL_law 276 = .ok (.goto 4, 3) := by decide +kernel
theorem dL_law_279 : decode cL_law 279 = .ok (.iconst 0, 1) := by decide +kernel
theorem dL_law_280 : decode cL_law 280 = .ok (.iconst 1, 1) := by decide +kernel
theorem dL_law_281 : decode cL_law 281 = .ok (.aload_n 0, 1) := by decide +kernel
theorem dL_law_282 : decode cL_law 282 = .ok (.iconst 2, 1) := by decide +kernel
theorem dL_law_283 : decode cL_law 283 = .ok (.invokestatic 20, 3) := by decide +kernel
theorem dL_law_286 : decode cL_law 286 = .ok (.iload 8, 2) := by decide +kernel
theorem dL_law_288 : decode cL_law 288 = .ok (.ishr, 1) := by decide +kernel
theorem dL_law_289 : decode cL_law 289 = .ok (.iconst 5, 1) := by decide +kernel
theorem dL_law_290 : decode cL_law 290 = .ok (.invokestatic 26, 3) := by decide +kernel
theorem dL_law_293 : decode cL_law 293 = .ok (.iadd, 1) := by decide +kernel
theorem dL_law_294 : decode cL_law 294 = .ok (.invokestatic 104, 3) := by decide +kernel
theorem dL_law_297 : decode cL_law 297 = .ok (.istore 9, 2) := by decide +kernel
theorem dL_law_299 : decode cL_law 299 = .ok (.iload 9, 2) := by decide +kernel
theorem dL_law_301 : decode cL_law 301 = .ok (.ifCond .ge 5, 3) := by decide +kernel
theorem dL_law_304 : decode cL_law 304 = .ok (.iconst 0, 1) := by decide +kernel
theorem dL_law_305 : decode cL_law 305 = .ok (.ireturn, 1) := by decide +kernel
theorem dL_law_306 : decode cL_law 306 = .ok (.iload 6, 2) := by decide +kernel
theorem dL_law_308 : decode cL_law 308 = .ok (.ifCond .lt 10, 3) := by decide +kernel
theorem dL_law_311 : decode cL_law 311 = .ok (.iload 9, 2) := by decide +kernel
theorem dL_law_313 : decode cL_law 313 = .ok (.iload 7, 2) := by decide +kernel
theorem dL_law_315 : decode cL_law 315 = .ok (.if_icmp .ge 11, 3) := by decide +kernel
theorem dL_law_318 : decode cL_law 318 = .ok (.iload 8, 2) := by decide +kernel
theorem dL_law_320 : decode cL_law 320 = .ok (.istore 6, 2) := by decide +kernel
theorem dL_law_322 : decode cL_law 322 = .ok (.iload 9, 2) := by decide +kernel
theorem dL_law_324 : decode cL_law 324 = .ok (.istore 7, 2) := by decide +kernel
theorem dL_law_326 : decode cL_law 326 = .ok (.iinc 8 1, 3) := by decide +kernel
theorem dL_law_329 : decode cL_law 329 = .ok (.goto (-74), 3) := by decide +kernel
theorem dL_law_332 : decode cL_law 332 = .ok (.aload_n 1, 1) := by decide +kernel
theorem dL_law_333 : decode cL_law 333 = .ok (.invokevirtual 78, 3) := by decide +kernel
theorem dL_law_336 : decode cL_law 336 = .ok (.iload 6, 2) := by decide +kernel
theorem dL_law_338 : decode cL_law 338 = .ok (.if_icmp .ne 43, 3) := by decide +kernel
theorem dL_law_341 : decode cL_law 341 = .ok (.aload_n 1, 1) := by decide +kernel
theorem dL_law_342 : decode cL_law 342 = .ok (.iconst 5, 1) := by decide +kernel
theorem dL_law_343 : decode cL_law 343 = .ok (.invokevirtual 46, 3) := by decide +kernel
theorem dL_law_346 : decode cL_law 346 = .ok (.ifCond .ne 35, 3) := by decide +kernel
theorem dL_law_349 : decode cL_law 349 = .ok (.aload_n 1, 1) := by decide +kernel
theorem dL_law_350 : decode cL_law 350 = .ok (.bipush 6, 2) := by decide +kernel
theorem dL_law_352 : decode cL_law 352 = .ok (.invokevirtual 46, 3) := by decide +kernel
theorem dL_law_355 : decode cL_law 355 = .ok (.bipush 6, 2) := by decide +kernel
theorem dL_law_357 : decode cL_law 357 = .ok (.if_icmp .ne 24, 3) := by decide +kernel
theorem dL_law_360 : decode cL_law 360 = .ok (.aload_n 1, 1) := by decide +kernel
theorem dL_law_361 : decode cL_law 361 = .ok (.bipush 7, 2) := by decide +kernel
theorem dL_law_363 : decode cL_law 363 = .ok (.invokevirtual 46, 3) := by decide +kernel
theorem dL_law_366 : decode cL_law 366 = .ok (.ifCond .ne 15, 3) := by decide +kernel
theorem dL_law_369 : decode cL_law 369 = .ok (.aload_n 1, 1) := by decide +kernel
theorem dL_law_370 : decode cL_law 370 = .ok (.aload_n 2, 1) := by decide +kernel
theorem dL_law_371 : decode cL_law 371 = .ok (.invokestatic 97, 3) := by decide +kernel
theorem dL_law_374 : decode cL_law 374 = .ok (.ifCond .eq 7, 3) := by decide +kernel
theorem dL_law_377 : decode cL_law 377 = .ok (.iconst 1, 1) := by decide +kernel
theorem dL_law_378 : decode cL_law 378 = .ok (.goto 4, 3) := by decide +kernel
theorem dL_law_381 : decode cL_law 381 = .ok (.iconst 0, 1) := by decide +kernel
theorem dL_law_382 : decode cL_law 382 = .ok (.ireturn, 1) := by decide +kernel
