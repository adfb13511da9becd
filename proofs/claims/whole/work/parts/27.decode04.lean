theorem dX11_reckon_83 : decode cX11_reckon 83 = .ok (.goto 7, 3) := by decide +kernel
theorem dX11_reckon_86 : decode cX11_reckon 86 = .ok (.lload_n 2, 1) := by decide +kernel
theorem dX11_reckon_87 : decode cX11_reckon 87 = .ok (.lload 4, 2) := by decide +kernel
theorem dX11_reckon_89 : decode cX11_reckon 89 = .ok (.ldiv, 1) := by decide +kernel
theorem dX11_reckon_90 : decode cX11_reckon 90 = .ok (.lreturn, 1) := by decide +kernel
theorem dX11_reckon_91 : decode cX11_reckon 91 = .ok (.aload_n 0, 1) := by decide +kernel
theorem dX11_reckon_92 : decode cX11_reckon 92 = .ok (.lload 4, 2) := by decide +kernel
theorem dX11_reckon_94 : decode cX11_reckon 94 = .ok (.lconst 0, 1) := by decide +kernel
theorem dX11_reckon_95 : decode cX11_reckon 95 = .ok (.lcmp, 1) := by decide +kernel
theorem dX11_reckon_96 : decode cX11_reckon 96 = .ok (.ifCond .ne 7, 3) := by decide +kernel
theorem dX11_reckon_99 : decode cX11_reckon 99 = .ok (.iconst 1, 1) := by decide +kernel
theorem dX11_reckon_100 : decode cX11_reckon 100 = .ok (.goto 4, 3) := by decide +kernel
theorem dX11_reckon_103 : decode cX11_reckon 103 = .ok (.iconst 0, 1) := by decide +kernel
theorem dX11_reckon_104 : decode cX11_reckon 104 = .ok (.putfield 395, 3) := by decide +kernel
theorem dX11_reckon_107 : decode cX11_reckon 107 = .ok (.aload_n 0, 1) := by decide +kernel
theorem dX11_reckon_108 : decode cX11_reckon 108 = .ok (.getfield 395, 3) := by decide +kernel
theorem dX11_reckon_111 : decode cX11_reckon 111 = .ok (.ifCond .eq 7, 3) := by decide +kernel
theorem dX11_reckon_114 : decode cX11_reckon 114 = .ok (.lconst 0, 1) := by decide +kernel
theorem dX11_reckon_115 : decode cX11_reckon 115 = .ok (.goto 7, 3) := by decide +kernel
theorem dX11_reckon_118 : decode cX11_reckon 118 = .ok (.lload_n 2, 1) := by decide +kernel
theorem dX11_reckon_119 : decode cX11_reckon 119 = .ok (.lload 4, 2) := by decide +kernel
theorem dX11_reckon_121 : decode cX11_reckon 121 = .ok (.lrem, 1) := by decide +kernel
theorem dX11_reckon_122 : decode cX11_reckon 122 = .ok (.lreturn, 1) := by decide +kernel
theorem dX11_reckon_123 : decode cX11_reckon 123 = .ok (.lload_n 2, 1) := by decide +kernel
theorem dX11_reckon_124 : decode cX11_reckon 124 = .ok (.lload 4, 2) := by decide +kernel
theorem dX11_reckon_126 : decode cX11_reckon 126 = .ok (.lcmp, 1) := by decide +kernel
theorem dX11_reckon_127 : decode cX11_reckon 127 = .ok (.ifCond .ge 7, 3) := by decide +kernel
theorem dX11_reckon_130 : decode cX11_reckon 130 = .ok (.lconst 1, 1) := by decide +kernel
theorem dX11_reckon_131 : decode cX11_reckon 131 = .ok (.goto 4, 3) := by decide +kernel
theorem dX11_reckon_134 : decode cX11_reckon 134 = .ok (.lconst 0, 1) := by decide +kernel
theorem dX11_reckon_135 : decode cX11_reckon 135 = .ok (.lreturn, 1) := by decide +kernel
theorem dX11_reckon_136 : decode cX11_reckon 136 = .ok (.lload_n 2, 1) := by decide +kernel
theorem dX11_reckon_137 : decode cX11_reckon 137 = .ok (.lload 4, 2) := by decide +kernel
theorem dX11_reckon_139 : decode cX11_reckon 139 = .ok (.lcmp, 1) := by decide +kernel
theorem dX11_reckon_140 : decode cX11_reckon 140 = .ok (.ifCond .le 7, 3) := by decide +kernel
theorem dX11_reckon_143 : decode cX11_reckon 143 = .ok (.lconst 1, 1) := by decide +kernel
theorem dX11_reckon_144 : decode cX11_reckon 144 = .ok (.goto 4, 3) := by decide +kernel
theorem dX11_reckon_147 : decode cX11_reckon 147 = .ok (.lconst 0, 1) := by decide +kernel
theorem dX11_reckon_148 : decode cX11_reckon 148 = .ok (.lreturn, 1) := by decide +kernel
theorem dX11_reckon_149 : decode cX11_reckon 149 = .ok (.lload_n 2, 1) := by decide +kernel
theorem dX11_reckon_150 : decode cX11_reckon 150 = .ok (.lload 4, 2) := by decide +kernel
theorem dX11_reckon_152 : decode cX11_reckon 152 = .ok (.lcmp, 1) := by decide +kernel
theorem dX11_reckon_153 : decode cX11_reckon 153 = .ok (.ifCond .ne 7, 3) := by decide +kernel
theorem dX11_reckon_156 : decode cX11_reckon 156 = .ok (.lconst 1, 1) := by decide +kernel
theorem dX11_reckon_157 : decode cX11_reckon 157 = .ok (.goto 4, 3) := by decide +kernel
theorem dX11_reckon_160 : decode cX11_reckon 160 = .ok (.lconst 0, 1) := by decide +kernel
theorem dX11_reckon_161 : decode cX11_reckon 161 = .ok (.lreturn, 1) := by decide +kernel
theorem dX11_reckonAll_0 : decode cX11_reckonAll 0 = .ok (.aload_n 0, 1) := by decide +kernel
theorem dX11_reckonAll_1 : decode cX11_reckonAll 1 = .ok (.iconst 0, 1) := by decide +kernel
theorem dX11_reckonAll_2 : decode cX11_reckonAll 2 = .ok (.putfield 395, 3) := by decide +kernel
theorem dX11_reckonAll_5 : decode cX11_reckonAll 5 = .ok (.iconst 0, 1) := by decide +kernel
theorem dX11_reckonAll_6 : decode cX11_reckonAll 6 = .ok (.istore_n 3, 1) := by decide +kernel
theorem dX11_reckonAll_7 : decode cX11_reckonAll 7 = .ok (.iload_n 1, 1) := by decide +kernel
theorem dX11_reckonAll_8 : decode cX11_reckonAll 8 = .ok (.istore 4, 2) := by decide +kernel
theorem dX11_reckonAll_10 : decode cX11_reckonAll 10 = .ok (.iload 4, 2) := by decide +kernel
theorem dX11_reckonAll_12 : decode cX11_reckonAll 12 = .ok (.iload_n 2, 1) := by decide +kernel
theorem dX11_reckonAll_13 : decode cX11_reckonAll 13 = .ok (.if_icmp .ge 351, 3) := by decide +kernel
theorem dX11_reckonAll_16 : decode cX11_reckonAll 16 = .ok (.aload_n 0, 1) := by decide +kernel
theorem dX11_reckonAll_17 : decode cX11_reckonAll 17 = .ok (.getfield 395, 3) := by decide +kernel
theorem dX11_reckonAll_20 : decode cX11_reckonAll 20 = .ok (.ifCond .ne 344, 3) := by decide +kernel
theorem dX11_reckonAll_23 : decode cX11_reckonAll 23 = .ok (.aload_n 0, 1) := by decide +kernel
theorem dX11_reckonAll_24 : decode cX11_reckonAll 24 = .ok (.getfield 321, 3) := by decide +kernel
theorem dX11_reckonAll_27 : decode cX11_reckonAll 27 = .ok (.ifCond .eq 13, 3) := by decide +kernel
theorem dX11_reckonAll_30 : decode cX11_reckonAll 30 = .ok (.aload_n 0, 1) := by decide +kernel
theorem dX11_reckonAll_31 : decode cX11_reckonAll 31 = .ok (.getfield 45, 3) := by decide +kernel
theorem dX11_reckonAll_34 : decode cX11_reckonAll 34 = .ok (.iload 4, 2) := by decide +kernel
theorem dX11_reckonAll_36 : decode cX11_reckonAll 36 = .ok (.iaload, 1) := by decide +kernel
theorem dX11_reckonAll_37 : decode cX11_reckonAll 37 = .ok (.goto 20, 3) := by decide +kernel
theorem dX11_reckonAll_40 : decode cX11_reckonAll 40 = .ok (.aload_n 0, 1) := by decide +kernel
theorem dX11_reckonAll_41 : decode cX11_reckonAll 41 = .ok (.getfield 13, 3) := by decide +kernel
theorem dX11_reckonAll_44 : decode cX11_reckonAll 44 = .ok (.aload_n 0, 1) := by decide +kernel
theorem dX11_reckonAll_45 : decode cX11_reckonAll 45 = .ok (.getfield 398, 3) := by decide +kernel
theorem dX11_reckonAll_48 : decode cX11_reckonAll 48 = .ok (.bipush 98, 2) := by decide +kernel
theorem dX11_reckonAll_50 : decode cX11_reckonAll 50 = .ok (.iadd, 1) := by decide +kernel
theorem dX11_reckonAll_51 : decode cX11_reckonAll 51 = .ok (.iconst 2, 1) := by decide +kernel
theorem dX11_reckonAll_52 : decode cX11_reckonAll 52 = .ok (.iload 4, 2) := by decide +kernel
theorem dX11_reckonAll_54 : decode cX11_reckonAll 54 = .ok (.imul, 1) := by decide +kernel
theorem dX11_reckonAll_55 : decode cX11_reckonAll 55 = .ok (.iadd, 1) := by decide +kernel
theorem dX11_reckonAll_56 : decode cX11_reckonAll 56 = .ok (.iaload, 1) := by decide +kernel
theorem dX11_reckonAll_57 : decode cX11_reckonAll 57 = .ok (.istore 5, 2) := by decide +kernel
theorem dX11_reckonAll_59 : decode cX11_reckonAll 59 = .ok (.aload_n 0, 1) := by decide +kernel
theorem dX11_reckonAll_60 : decode cX11_reckonAll 60 = .ok (.getfield 321, 3) := by decide +kernel
theorem dX11_reckonAll_63 : decode cX11_reckonAll 63 = .ok (.ifCond .eq 13, 3) := by decide +kernel
theorem dX11_reckonAll_66 : decode cX11_reckonAll 66 = .ok (.aload_n 0, 1) := by decide +kernel
theorem dX11_reckonAll_67 : decode cX11_reckonAll 67 = .ok (.getfield 48, 3) := by decide +kernel
theorem dX11_reckonAll_70 : decode cX11_reckonAll 70 = .ok (.iload 4, 2) := by decide +kernel
theorem dX11_reckonAll_72 : decode cX11_reckonAll 72 = .ok (.iaload, 1) := by decide +kernel
theorem dX11_reckonAll_73 : decode cX11_reckonAll 73 = .ok (.goto 22, 3) := by decide +kernel
theorem dX11_reckonAll_76 : decode cX11_reckonAll 76 = .ok (.aload_n 0, 1) := by decide +kernel
theorem dX11_reckonAll_77 : decode cX11_reckonAll 77 = .ok (.getfield 13, 3) := by decide +kernel
theorem dX11_reckonAll_80 : decode cX11_reckonAll 80 = .ok (.aload_n 0, 1) := by decide +kernel
theorem dX11_reckonAll_81 : decode cX11_reckonAll 81 = .ok (.getfield 398, 3) := by decide +kernel
theorem dX11_reckonAll_84 : decode cX11_reckonAll 84 = .ok (.bipush 98, 2) := by decide +kernel
theorem dX11_reckonAll_86 : decode cX11_reckonAll 86 = .ok (.iadd, 1) := by decide +kernel
theorem dX11_reckonAll_87 : decode cX11_reckonAll 87 = .ok (.iconst 2, 1) := by decide +kernel
theorem dX11_reckonAll_88 : decode cX11_reckonAll 88 = .ok (.iload 4, 2) := by decide +kernel
theorem dX11_reckonAll_90 : decode cX11_reckonAll 90 = .ok (.imul, 1) := by decide +kernel
theorem dX11_reckonAll_91 : decode cX11_reckonAll 91 = .ok (.iadd, 1) := by decide +kernel
theorem dX11_reckonAll_92 : decode cX11_reckonAll 92 = .ok (.iconst 1, 1) := by decide +kernel
theorem dX11_reckonAll_93 : decode cX11_reckonAll 93 = .ok (.iadd, 1) := by decide +kernel
theorem dX11_reckonAll_94 : decode cX11_reckonAll 94 = .ok (.iaload, 1) := by decide +kernel
theorem dX11_reckonAll_95 : decode cX11_reckonAll 95 = .ok (.istore 6, 2) := by decide +kernel
theorem dX11_reckonAll_97 : decode cX11_reckonAll 97 = .ok (.iinc 4 1, 3) := by decide +kernel
theorem dX11_reckonAll_100 : decode cX11_reckonAll 100 = .ok (.iload 5, 2) := by decide +kernel
theorem dX11_reckonAll_102 : decode cX11_reckonAll 102 = .ok (.bipush 20, 2) := by decide +kernel
theorem dX11_reckonAll_104 : decode cX11_reckonAll 104 = .ok (.if_icmp .ge 118, 3) := by decide +kernel
theorem dX11_reckonAll_107 : decode cX11_reckonAll 107 = .ok (.aload_n 0, 1) := by decide +kernel
theorem dX11_reckonAll_108 : decode cX11_reckonAll 108 = .ok (.getfield 105, 3) := by decide +kernel
theorem dX11_reckonAll_111 : decode cX11_reckonAll 111 = .ok (.iload_n 3, 1) := by decide +kernel
theorem dX11_reckonAll_112 : decode cX11_reckonAll 112 = .ok (.iload 5, 2) := by decide +kernel
theorem dX11_reckonAll_114 : decode cX11_reckonAll 114 = .ok (.ifCond .ne 9, 3) := by decide +kernel
theorem dX11_reckonAll_117 : decode cX11_reckonAll 117 = .ok (.iload 6, 2) := by decide +kernel
theorem dX11_reckonAll_119 : decode cX11_reckonAll 119 = .ok (.i2l, 1) := by decide +kernel
theorem dX11_reckonAll_120 : decode cX11_reckonAll 120 = .ok (.goto 95, 3) := by decide +kernel
theorem dX11_reckonAll_123 : decode cX11_reckonAll 123 = .ok (.aload_n 0, 1) := by decide +kernel
theorem dX11_reckonAll_124 : decode cX11_reckonAll 124 = .ok (.getfield 321, 3) := by decide +kernel
theorem dX11_reckonAll_127 : decode cX11_reckonAll 127 = .ok (.ifCond .ne 13, 3) := by decide +kernel
theorem dX11_reckonAll_130 : decode cX11_reckonAll 130 = .ok (.aload_n 0, 1) := by decide +kernel
theorem dX11_reckonAll_131 : decode cX11_reckonAll 131 = .ok (.getfield 99, 3) := by decide +kernel
theorem dX11_reckonAll_134 : decode cX11_reckonAll 134 = .ok (.iload 5, 2) := by decide +kernel
theorem dX11_reckonAll_136 : decode cX11_reckonAll 136 = .ok (.laload, 1) := by decide +kernel
theorem dX11_reckonAll_137 : decode cX11_reckonAll 137 = .ok (.goto 78, 3) := by decide +kernel
theorem dX11_reckonAll_140 : decode cX11_reckonAll 140 = .ok (.iload 5, 2) := by decide +kernel
theorem dX11_reckonAll_142 : decode cX11_reckonAll 142 = .ok (.iconst 5, 1) := by decide +kernel
theorem dX11_reckonAll_143 : decode cX11_reckonAll 143 = .ok (.if_icmp .ge 13, 3) := by decide +kernel
theorem dX11_reckonAll_146 : decode cX11_reckonAll 146 = .ok (.aload_n 0, 1) := by decide +kernel
theorem dX11_reckonAll_147 : decode cX11_reckonAll 147 = .ok (.getfield 102, 3) := by decide +kernel
theorem dX11_reckonAll_150 : decode cX11_reckonAll 150 = .ok (.iload 5, 2) := by decide +kernel
theorem dX11_reckonAll_152 : decode cX11_reckonAll 152 = .ok (.laload, 1) := by decide +kernel
theorem dX11_reckonAll_153 : decode cX11_reckonAll 153 = .ok (.goto 62, 3) := by decide +kernel
theorem dX11_reckonAll_156 : decode cX11_reckonAll 156 = .ok (.iload 5, 2) := by decide +kernel
theorem dX11_reckonAll_158 : decode cX11_reckonAll 158 = .ok (.iconst 5, 1) := by decide +kernel
theorem dX11_reckonAll_159 : decode cX11_reckonAll 159 = .ok (.if_icmp .ne 30, 3) := by decide +kernel
theorem dX11_reckonAll_162 : decode cX11_reckonAll 162 = .ok (.aload_n 0, 1) := by decide +kernel
theorem dX11_reckonAll_163 : decode cX11_reckonAll 163 = .ok (.iload 6, 2) := by decide +kernel
theorem dX11_reckonAll_165 : decode cX11_reckonAll 165 = .ok (.invokevirtual 214, 3) := by decide +kernel
theorem dX11_reckonAll_168 : decode cX11_reckonAll 168 = .ok (.ifCond .eq 16, 3) := by decide +kernel
theorem dX11_reckonAll_171 : decode cX11_reckonAll 171 = .ok (.aload_n 0, 1) := by decide +kernel
theorem dX11_reckonAll_172 : decode cX11_reckonAll 172 = .ok (.getfield 13, 3) := by decide +kernel
theorem dX11_reckonAll_175 : decode cX11_reckonAll 175 = .ok (.bipush 17, 2) := by decide +kernel
theorem dX11_reckonAll_177 : decode cX11_reckonAll 177 = .ok (.iload 6, 2) := by decide +kernel
theorem dX11_reckonAll_179 : decode cX11_reckonAll 179 = .ok (.iadd, 1) := by decide +kernel
theorem dX11_reckonAll_180 : decode cX11_reckonAll 180 = .ok (.iaload, 1) := by decide +kernel
theorem dX11_reckonAll_181 : decode cX11_reckonAll 181 = .ok (.goto 4, 3) := by decide +kernel
theorem dX11_reckonAll_184 : decode cX11_reckonAll 184 = .ok (.iconst (-1), 1) := by decide +kernel
theorem dX11_reckonAll_185 : decode cX11_reckonAll 185 = .ok (.i2l, 1) := by decide +kernel
theorem dX11_reckonAll_186 : decode cX11_reckonAll 186 = .ok (.goto 29, 3) := by decide +kernel
theorem dX11_reckonAll_189 : decode cX11_reckonAll 189 = .ok (.aload_n 0, 1) := by decide +kernel
theorem dX11_reckonAll_190 : decode cX11_reckonAll 190 = .ok (.iload 6, 2) := by decide +kernel
theorem dX11_reckonAll_192 : decode cX11_reckonAll 192 = .ok (.invokevirtual 199, 3) := by decide +kernel
theorem dX11_reckonAll_195 : decode cX11_reckonAll 195 = .ok (.ifCond .eq 17, 3) := by decide +kernel
theorem dX11_reckonAll_198 : decode cX11_reckonAll 198 = .ok (.aload_n 0, 1) := by decide +kernel
theorem dX11_reckonAll_199 : decode cX11_reckonAll 199 = .ok (.getfield 13, 3) := by decide +kernel
theorem dX11_reckonAll_202 : decode cX11_reckonAll 202 = .ok (.bipush 33, 2) := by decide +kernel
theorem dX11_reckonAll_204 : decode cX11_reckonAll 204 = .ok (.iload 6, 2) := by decide +kernel
theorem dX11_reckonAll_206 : decode cX11_reckonAll 206 = .ok (.iadd, 1) := by decide +kernel
theorem dX11_reckonAll_207 : decode cX11_reckonAll 207 = .ok (.iaload, 1) := by decide +kernel
theorem dX11_reckonAll_208 : decode cX11_reckonAll 208 = .ok (.i2l, 1) := by decide +kernel
theorem dX11_reckonAll_209 : decode cX11_reckonAll 209 = .ok (.goto 6, 3) := by decide +kernel
theorem dX11_reckonAll_212 : decode cX11_reckonAll 212 = .ok (.ldc2_w 271, 3) := by decide +kernel
theorem dX11_reckonAll_215 : decode cX11_reckonAll 215 = .ok (.lastore, 1) := by decide +kernel
theorem dX11_reckonAll_216 : decode cX11_reckonAll 216 = .ok (.iinc 3 1, 3) := by decide +kernel
theorem dX11_reckonAll_219 : decode cX11_reckonAll 219 = .ok (.goto 142, 3) := by decide +kernel
theorem dX11_reckonAll_222 : decode cX11_reckonAll 222 = .ok (.iload 5, 2) := by decide +kernel
theorem dX11_reckonAll_224 : decode cX11_reckonAll 224 = .ok (.bipush 28, 2) := by decide +kernel
theorem dX11_reckonAll_226 : decode cX11_reckonAll 226 = .ok (.if_icmp .ge 73, 3) := by decide +kernel
theorem dX11_reckonAll_229 : decode cX11_reckonAll 229 = .ok (.iinc 3 (-1), 3) := by decide +kernel
theorem dX11_reckonAll_232 : decode cX11_reckonAll 232 = .ok (.aload_n 0, 1) := by decide +kernel
theorem dX11_reckonAll_233 : decode cX11_reckonAll 233 = .ok (.getfield 105, 3) := by decide +kernel
theorem dX11_reckonAll_236 : decode cX11_reckonAll 236 = .ok (.iload_n 3, 1) := by decide +kernel
theorem dX11_reckonAll_237 : decode cX11_reckonAll 237 = .ok (.iconst 1, 1) := by decide +kernel
theorem dX11_reckonAll_238 : decode cX11_reckonAll 238 = .ok (.isub, 1) := by decide +kernel
theorem dX11_reckonAll_239 : decode cX11_reckonAll 239 = .ok (.aload_n 0, 1) := by decide +kernel
theorem dX11_reckonAll_240 : decode cX11_reckonAll 240 = .ok (.iload 5, 2) := by decide +kernel
theorem dX11_reckonAll_242 : decode cX11_reckonAll 242 = .ok (.aload_n 0, 1) := by decide +kernel
theorem dX11_reckonAll_243 : decode cX11_reckonAll 243 = .ok (.getfield 105, 3) := by decide +kernel
theorem dX11_reckonAll_246 : decode cX11_reckonAll 246 = .ok (.iload_n 3, 1) := by decide +kernel
theorem dX11_reckonAll_247 : decode cX11_reckonAll 247 = .ok (.iconst 1, 1) := by decide +kernel
theorem dX11_reckonAll_248 : decode cX11_reckonAll 248 = .ok (.isub, 1) := by decide +kernel
theorem dX11_reckonAll_249 : decode cX11_reckonAll 249 = .ok (.laload, 1) := by decide +kernel
theorem dX11_reckonAll_250 : decode cX11_reckonAll 250 = .ok (.aload_n 0, 1) := by decide +kernel
theorem dX11_reckonAll_251 : decode cX11_reckonAll 251 = .ok (.getfield 105, 3) := by decide +kernel
theorem dX11_reckonAll_254 : decode cX11_reckonAll 254 = .ok (.iload_n 3, 1) := by decide +kernel
theorem dX11_reckonAll_255 : decode cX11_reckonAll 255 = .ok (.laload, 1) := by decide +kernel
theorem dX11_reckonAll_256 : decode cX11_reckonAll 256 = .ok (.invokevirtual 401, 3) := by decide +kernel
theorem dX11_reckonAll_259 : decode cX11_reckonAll 259 = .ok (.lastore, 1) := by decide +kernel
theorem dX11_reckonAll_260 : decode cX11_reckonAll 260 = .ok (.aload_n 0, 1) := by decide +kernel
theorem dX11_reckonAll_261 : decode cX11_reckonAll 261 = .ok (.aload_n 0, 1) := by decide +kernel
theorem dX11_reckonAll_262 : decode cX11_reckonAll 262 = .ok (.getfield 395, 3) := by decide +kernel
theorem dX11_reckonAll_265 : decode cX11_reckonAll 265 = .ok (.ifCond .ne 23, 3) := by decide +kernel
theorem dX11_reckonAll_268 : decode cX11_reckonAll 268 = .ok (.aload_n 0, 1) := by decide +kernel
theorem dX11_reckonAll_269 : decode cX11_reckonAll 269 = .ok (.getfield 105, 3) := by decide +kernel
theorem dX11_reckonAll_272 : decode cX11_reckonAll 272 = .ok (.iload_n 3, 1) := by decide +kernel
theorem dX11_reckonAll_273 : decode cX11_reckonAll 273 = .ok (.iconst 1, 1) := by decide +kernel
theorem dX11_reckonAll_274 : decode cX11_reckonAll 274 = .ok (.isub, 1) := by decide +kernel
theorem dX11_reckonAll_275 : decode cX11_reckonAll 275 = .ok (.laload, 1) := by decide +kernel
theorem dX11_reckonAll_276 : decode cX11_reckonAll 276 = .ok (.ldc2_w 405, 3) := by decide +kernel
theorem dX11_reckonAll_279 : decode cX11_reckonAll 279 = .ok (.ldc2_w 407, 3) := by decide +kernel
theorem dX11_reckonAll_282 : decode cX11_reckonAll 282 = .ok (.invokestatic 169, 3) := by decide +kernel
theorem dX11_reckonAll_285 : decode cX11_reckonAll 285 = .ok (.ifCond .ne 7, 3) := by decide +kernel
theorem dX11_reckonAll_288 : decode cX11_reckonAll 288 = .ok (.iconst 1, 1) := by decide +kernel
theorem dX11_reckonAll_289 : decode cX11_reckonAll 289 = .ok (.goto 4, 3) := by decide +kernel
theorem dX11_reckonAll_292 : decode cX11_reckonAll 292 = .ok (.iconst 0, 1) := by decide +kernel
theorem dX11_reckonAll_293 : decode cX11_reckonAll 293 = .ok (.putfield 395, 3) := by decide +kernel
theorem dX11_reckonAll_296 : decode cX11_reckonAll 296 = .ok (.goto 65, 3) := by decide +kernel
theorem dX11_reckonAll_299 : decode cX11_reckonAll 299 = .ok (.iload 5, 2) := by decide +kernel
theorem dX11_reckonAll_301 : decode cX11_reckonAll 301 = .ok (.bipush 28, 2) := by decide +kernel
theorem dX11_reckonAll_303 : decode cX11_reckonAll 303 = .ok (.if_icmp .ne 24, 3) := by decide +kernel
theorem dX11_reckonAll_306 : decode cX11_reckonAll 306 = .ok (.aload_n 0, 1) := by decide +kernel
theorem dX11_reckonAll_307 : decode cX11_reckonAll 307 = .ok (.getfield 105, 3) := by decide +kernel
theorem dX11_reckonAll_310 : decode cX11_reckonAll 310 = .ok (.iload_n 3, 1) := by decide +kernel
theorem dX11_reckonAll_311 : decode cX11_reckonAll 311 = .ok (.iconst 1, 1) := by decide +kernel
theorem dX11_reckonAll_312 : decode cX11_reckonAll 312 = .ok (.isub, 1) := by decide +kernel
theorem dX11_reckonAll_313 : decode cX11_reckonAll 313 = .ok (.lconst 1, 1) := by decide +kernel
theorem dX11_reckonAll_314 : decode cX11_reckonAll 314 = .ok (.aload_n 0, 1) := by decide +kernel
theorem dX11_reckonAll_315 : decode cX11_reckonAll 315 = .ok (.getfield 105, 3) := by decide +kernel
theorem dX11_reckonAll_318 : decode cX11_reckonAll 318 = .ok (.iload_n 3, 1) := by decide +kernel
theorem dX11_reckonAll_319 : decode cX11_reckonAll 319 = .ok (.iconst 1, 1) := by decide +kernel
theorem dX11_reckonAll_320 : decode cX11_reckonAll 320 = .ok (.isub, 1) := by decide +kernel
theorem dX11_reckonAll_321 : decode cX11_reckonAll 321 = .ok (.laload, 1) := by decide +kernel
theorem dX11_reckonAll_322 : decode cX11_reckonAll 322 = .ok (.lsub, 1) := by decide +kernel
theorem dX11_reckonAll_323 : decode cX11_reckonAll 323 = .ok (.lastore, 1) := by decide +kernel
theorem dX11_reckonAll_324 : decode cX11_reckonAll 324 = .ok (.goto 37, 3) := by decide +kernel
theorem dX11_reckonAll_327 : decode cX11_reckonAll 327 = .ok (.aload_n 0, 1) := by decide +kernel
theorem dX11_reckonAll_328 : decode cX11_reckonAll 328 = .ok (.getfield 105, 3) := by decide +kernel
theorem dX11_reckonAll_331 : decode cX11_reckonAll 331 = .ok (.iload_n 3, 1) := by decide +kernel
theorem dX11_reckonAll_332 : decode cX11_reckonAll 332 = .ok (.iconst 1, 1) := by decide +kernel
theorem dX11_reckonAll_333 : decode cX11_reckonAll 333 = .ok (.isub, 1) := by decide +kernel
theorem dX11_reckonAll_334 : decode cX11_reckonAll 334 = .ok (.laload, 1) := by decide +kernel
theorem dX11_reckonAll_335 : decode cX11_reckonAll 335 = .ok (.iload 5, 2) := by decide +kernel
theorem dX11_reckonAll_337 : decode cX11_reckonAll 337 = .ok (.bipush 29, 2) := by decide +kernel
theorem dX11_reckonAll_339 : decode cX11_reckonAll 339 = .ok (.if_icmp .ne 7, 3) := by decide +kernel
theorem dX11_reckonAll_342 : decode cX11_reckonAll 342 = .ok (.lconst 0, 1) := by decide +kernel
theorem dX11_reckonAll_343 : decode cX11_reckonAll 343 = .ok (.goto 4, 3) := by decide +kernel
theorem dX11_reckonAll_346 : decode cX11_reckonAll 346 = .ok (.lconst 1, 1) := by decide +kernel
theorem dX11_reckonAll_347 : decode cX11_reckonAll 347 = .ok (.lcmp, 1) := by decide +kernel
theorem dX11_reckonAll_348 : decode cX11_reckonAll 348 = .ok (.ifCond .ne 10, 3) := by decide +kernel
theorem dX11_reckonAll_351 : decode cX11_reckonAll 351 = .ok (.iload 6, 2) := by decide +kernel
theorem dX11_reckonAll_353 : decode cX11_reckonAll 353 = .ok (.istore 4, 2) := by decide +kernel
theorem dX11_reckonAll_355 : decode cX11_reckonAll 355 = .ok (.goto 6, 3) := by decide +kernel
theorem dX11_reckonAll_358 : decode cX11_reckonAll 358 = .ok (.iinc 3 (-1), 3) := by decide +kernel
theorem dX11_reckonAll_361 : decode cX11_reckonAll 361 = .ok (.goto (-351), 3) := by decide +kernel
theorem dX11_reckonAll_364 : decode cX11_reckonAll 364 = .ok (.aload_n 0, 1) := by decide +kernel
theorem dX11_reckonAll_365 : decode cX11_reckonAll 365 = .ok (.iload_n 3, 1) := by decide +kernel
theorem dX11_reckonAll_366 : decode cX11_reckonAll 366 = .ok (.ifCond .le 12, 3) := by decide +kernel
theorem dX11_reckonAll_369 : decode cX11_reckonAll 369 = .ok (.aload_n 0, 1) := by decide +kernel
theorem dX11_reckonAll_370 : decode cX11_reckonAll 370 = .ok (.getfield 105, 3) := by decide +kernel
theorem dX11_reckonAll_373 : decode cX11_reckonAll 373 = .ok (.iconst 0, 1) := by decide +kernel
theorem dX11_reckonAll_374 : decode cX11_reckonAll 374 = .ok (.laload, 1) := by decide +kernel
theorem dX11_reckonAll_375 : decode cX11_reckonAll 375 = .ok (.goto 4, 3) := by decide +kernel
theorem dX11_reckonAll_378 : decode cX11_reckonAll 378 = .ok (.lconst 0, 1) := by decide +kernel
theorem dX11_reckonAll_379 : decode cX11_reckonAll 379 = .ok (.putfield 409, 3) := by decide +kernel
theorem dX11_reckonAll_382 : decode cX11_reckonAll 382 = .ok (.return_, 1) := by decide +kernel
theorem dX11_isSo_0 : decode cX11_isSo 0 = .ok (.aload_n 0, 1) := by decide +kernel
theorem dX11_isSo_1 : decode cX11_isSo 1 = .ok (.getfield 13, 3) := by decide +kernel
theorem dX11_isSo_4 : decode cX11_isSo 4 = .ok (.iload_n 1, 1) := by decide +kernel
theorem dX11_isSo_5 : decode cX11_isSo 5 = .ok (.iconst 5, 1) := by decide +kernel
theorem dX11_isSo_6 : decode cX11_isSo 6 = .ok (.iadd, 1) := by decide +kernel
theorem dX11_isSo_7 : decode cX11_isSo 7 = .ok (.iaload, 1) := by decide +kernel
theorem dX11_isSo_8 : decode cX11_isSo 8 = .ok (.aload_n 0, 1) := by decide +kernel
theorem dX11_isSo_9 : decode cX11_isSo 9 = .ok (.getfield 13, 3) := by decide +kernel
theorem dX11_isSo_12 : decode cX11_isSo 12 = .ok (.iload_n 1, 1) := by decide +kernel
theorem dX11_isSo_13 : decode cX11_isSo 13 = .ok (.bipush 6, 2) := by decide +kernel
theorem dX11_isSo_15 : decode cX11_isSo 15 = .ok (.iadd, 1) := by decide +kernel
theorem dX11_isSo_16 : decode cX11_isSo 16 = .ok (.iaload, 1) := by decide +kernel
theorem dX11_isSo_17 : decode cX11_isSo 17 = .ok (.if_icmp .ge 42, 3) := by decide +kernel
theorem dX11_isSo_20 : decode cX11_isSo 20 = .ok (.aload_n 0, 1) := by decide +kernel
theorem dX11_isSo_21 : decode cX11_isSo 21 = .ok (.aload_n 0, 1) := by decide +kernel
theorem dX11_isSo_22 : decode cX11_isSo 22 = .ok (.getfield 13, 3) := by decide +kernel
theorem dX11_isSo_25 : decode cX11_isSo 25 = .ok (.iload_n 1, 1) := by decide +kernel
theorem dX11_isSo_26 : decode cX11_isSo 26 = .ok (.iconst 5, 1) := by decide +kernel
theorem dX11_isSo_27 : decode cX11_isSo 27 = .ok (.iadd, 1) := by decide +kernel
theorem dX11_isSo_28 : decode cX11_isSo 28 = .ok (.iaload, 1) := by decide +kernel
theorem dX11_isSo_29 : decode cX11_isSo 29 = .ok (.aload_n 0, 1) := by decide +kernel
theorem dX11_isSo_30 : decode cX11_isSo 30 = .ok (.getfield 13, 3) := by decide +kernel
theorem dX11_isSo_33 : decode cX11_isSo 33 = .ok (.iload_n 1, 1) := by decide +kernel
theorem dX11_isSo_34 : decode cX11_isSo 34 = .ok (.bipush 6, 2) := by decide +kernel
theorem dX11_isSo_36 : decode cX11_isSo 36 = .ok (.iadd, 1) := by decide +kernel
theorem dX11_isSo_37 : decode cX11_isSo 37 = .ok (.iaload, 1) := by decide +kernel
theorem dX11_isSo_38 : decode cX11_isSo 38 = .ok (.invokevirtual 412, 3) := by decide +kernel
theorem dX11_isSo_41 : decode cX11_isSo 41 = .ok (.aload_n 0, 1) := by decide +kernel
theorem dX11_isSo_42 : decode cX11_isSo 42 = .ok (.getfield 395, 3) := by decide +kernel
theorem dX11_isSo_45 : decode cX11_isSo 45 = .ok (.ifCond .ne 12, 3) := by decide +kernel
theorem dX11_isSo_48 : decode cX11_isSo 48 = .ok (.aload_n 0, 1) := by decide +kernel
theorem dX11_isSo_49 : decode cX11_isSo 49 = .ok (.getfield 409, 3) := by decide +kernel
theorem dX11_isSo_52 : decode cX11_isSo 52 = .ok (.lconst 0, 1) := by decide +kernel
theorem dX11_isSo_53 : decode cX11_isSo 53 = .ok (.lcmp, 1) := by decide +kernel
theorem dX11_isSo_54 : decode cX11_isSo 54 = .ok (.ifCond .ne 5, 3) := by decide +kernel
theorem dX11_isSo_57 : decode cX11_isSo 57 = .ok (.iconst 0, 1) := by decide +kernel
theorem dX11_isSo_58 : decode cX11_isSo 58 = .ok (.ireturn, 1) := by decide +kernel
theorem dX11_isSo_59 : decode cX11_isSo 59 = .ok (.aload_n 0, 1) := by decide +kernel
theorem dX11_isSo_60 : decode cX11_isSo 60 = .ok (.getfield 13, 3) := by decide +kernel
theorem dX11_isSo_63 : decode cX11_isSo 63 = .ok (.iload_n 1, 1) := by decide +kernel
theorem dX11_isSo_64 : decode cX11_isSo 64 = .ok (.iaload, 1) := by decide +kernel
theorem dX11_isSo_65 : decode cX11_isSo 65 = .ok (.iconst 3, 1) := by decide +kernel
theorem dX11_isSo_66 : decode cX11_isSo 66 = .ok (.if_icmp .eq 44, 3) := by decide +kernel
theorem dX11_isSo_69 : decode cX11_isSo 69 = .ok (.aload_n 0, 1) := by decide +kernel
theorem dX11_isSo_70 : decode cX11_isSo 70 = .ok (.aload_n 0, 1) := by decide +kernel
theorem dX11_isSo_71 : decode cX11_isSo 71 = .ok (.getfield 13, 3) := by decide +kernel
theorem dX11_isSo_74 : decode cX11_isSo 74 = .ok (.iload_n 1, 1) := by decide +kernel
theorem dX11_isSo_75 : decode cX11_isSo 75 = .ok (.iconst 3, 1) := by decide +kernel
theorem dX11_isSo_76 : decode cX11_isSo 76 = .ok (.iadd, 1) := by decide +kernel
theorem dX11_isSo_77 : decode cX11_isSo 77 = .ok (.iaload, 1) := by decide +kernel
theorem dX11_isSo_78 : decode cX11_isSo 78 = .ok (.aload_n 0, 1) := by decide +kernel
theorem dX11_isSo_79 : decode cX11_isSo 79 = .ok (.getfield 13, 3) := by decide +kernel
theorem dX11_isSo_82 : decode cX11_isSo 82 = .ok (.iload_n 1, 1) := by decide +kernel
theorem dX11_isSo_83 : decode cX11_isSo 83 = .ok (.iconst 4, 1) := by decide +kernel
theorem dX11_isSo_84 : decode cX11_isSo 84 = .ok (.iadd, 1) := by decide +kernel
theorem dX11_isSo_85 : decode cX11_isSo 85 = .ok (.iaload, 1) := by decide +kernel
theorem dX11_isSo_86 : decode cX11_isSo 86 = .ok (.invokevirtual 412, 3) := by decide +kernel
theorem dX11_isSo_89 : decode cX11_isSo 89 = .ok (.aload_n 0, 1) := by decide +kernel
theorem dX11_isSo_90 : decode cX11_isSo 90 = .ok (.aload_n 0, 1) := by decide +kernel
theorem dX11_isSo_91 : decode cX11_isSo 91 = .ok (.getfield 409, 3) := by decide +kernel
theorem dX11_isSo_94 : decode cX11_isSo 94 = .ok (.putfield 415, 3) := by decide +kernel
theorem dX11_isSo_97 : decode cX11_isSo 97 = .ok (.aload_n 0, 1) := by decide +kernel
theorem dX11_isSo_98 : decode cX11_isSo 98 = .ok (.getfield 395, 3) := by decide +kernel
theorem dX11_isSo_101 : decode cX11_isSo 101 = .ok (.ifCond .ne 7, 3) := by decide +kernel
theorem dX11_isSo_104 : decode cX11_isSo 104 = .ok (.iconst 1, 1) := by decide +kernel
theorem dX11_isSo_105 : decode cX11_isSo 105 = .ok (.goto 4, 3) := by decide +kernel
theorem dX11_isSo_108 : decode cX11_isSo 108 = .ok (.iconst 0, 1) := by decide +kernel
theorem dX11_isSo_109 : decode cX11_isSo 109 = .ok (.ireturn, 1) := by decide +kernel
theorem dX11_isSo_110 : decode cX11_isSo 110 = .ok (.iconst 1, 1) := by decide +kernel
theorem dX11_isSo_111 : decode cX11_isSo 111 = .ok (.ireturn, 1) := by decide +kernel
theorem dX11_setDead_0 : decode cX11_setDead 0 = .ok (.aload_n 0, 1) := by decide +kernel
theorem dX11_setDead_1 : decode cX11_setDead 1 = .ok (.getfield 99, 3) := by decide +kernel
theorem dX11_setDead_4 : decode cX11_setDead 4 = .ok (.iconst 1, 1) := by decide +kernel
theorem dX11_setDead_5 : decode cX11_setDead 5 = .ok (.iload_n 1, 1) := by decide +kernel
theorem dX11_setDead_6 : decode cX11_setDead 6 = .ok (.i2l, 1) := by decide +kernel
theorem dX11_setDead_7 : decode cX11_setDead 7 = .ok (.lastore, 1) := by decide +kernel
theorem dX11_setDead_8 : decode cX11_setDead 8 = .ok (.aload_n 0, 1) := by decide +kernel
theorem dX11_setDead_9 : decode cX11_setDead 9 = .ok (.getfield 99, 3) := by decide +kernel
theorem dX11_setDead_12 : decode cX11_setDead 12 = .ok (.iconst 2, 1) := by decide +kernel
theorem dX11_setDead_13 : decode cX11_setDead 13 = .ok (.aload_n 0, 1) := by decide +kernel
theorem dX11_setDead_14 : decode cX11_setDead 14 = .ok (.getfield 13, 3) := by decide +kernel
theorem dX11_setDead_17 : decode cX11_setDead 17 = .ok (.bipush 42, 2) := by decide +kernel
theorem dX11_setDead_19 : decode cX11_setDead 19 = .ok (.iload_n 1, 1) := by decide +kernel
theorem dX11_setDead_20 : decode cX11_setDead 20 = .ok (.iadd, 1) := by decide +kernel
theorem dX11_setDead_21 : decode cX11_setDead 21 = .ok (.iaload, 1) := by decide +kernel
theorem dX11_setDead_22 : decode cX11_setDead 22 = .ok (.i2l, 1) := by decide +kernel
theorem dX11_setDead_23 : decode cX11_setDead 23 = .ok (.lastore, 1) := by decide +kernel
theorem dX11_setDead_24 : decode cX11_setDead 24 = .ok (.aload_n 0, 1) := by decide +kernel
theorem dX11_setDead_25 : decode cX11_setDead 25 = .ok (.getfield 99, 3) := by decide +kernel
theorem dX11_setDead_28 : decode cX11_setDead 28 = .ok (.iconst 3, 1) := by decide +kernel
theorem dX11_setDead_29 : decode cX11_setDead 29 = .ok (.iload_n 2, 1) := by decide +kernel
theorem dX11_setDead_30 : decode cX11_setDead 30 = .ok (.i2l, 1) := by decide +kernel
theorem dX11_setDead_31 : decode cX11_setDead 31 = .ok (.lastore, 1) := by decide +kernel
theorem dX11_setDead_32 : decode cX11_setDead 32 = .ok (.aload_n 0, 1) := by decide +kernel
theorem dX11_setDead_33 : decode cX11_setDead 33 = .ok (.getfield 99, 3) := by decide +kernel
theorem dX11_setDead_36 : decode cX11_setDead 36 = .ok (.iconst 4, 1) := by decide +kernel
theorem dX11_setDead_37 : decode cX11_setDead 37 = .ok (.aload_n 0, 1) := by decide +kernel
theorem dX11_setDead_38 : decode cX11_setDead 38 = .ok (.getfield 13, 3) := by decide +kernel
theorem dX11_setDead_41 : decode cX11_setDead 41 = .ok (.bipush 17, 2) := by decide +kernel
theorem dX11_setDead_43 : decode cX11_setDead 43 = .ok (.iload_n 1, 1) := by decide +kernel
theorem dX11_setDead_44 : decode cX11_setDead 44 = .ok (.iadd, 1) := by decide +kernel
theorem dX11_setDead_45 : decode cX11_setDead 45 = .ok (.iaload, 1) := by decide +kernel
theorem dX11_setDead_46 : decode cX11_setDead 46 = .ok (.i2l, 1) := by decide +kernel
theorem dX11_setDead_47 : decode cX11_setDead 47 = .ok (.lastore, 1) := by decide +kernel
theorem dX11_setDead_48 : decode cX11_setDead 48 = .ok (.aload_n 0, 1) := by decide +kernel
theorem dX11_setDead_49 : decode cX11_setDead 49 = .ok (.getfield 99, 3) := by decide +kernel
theorem dX11_setDead_52 : decode cX11_setDead 52 = .ok (.iconst 5, 1) := by decide +kernel
theorem dX11_setDead_53 : decode cX11_setDead 53 = .ok (.aload_n 0, 1) := by decide +kernel
theorem dX11_setDead_54 : decode cX11_setDead 54 = .ok (.getfield 13, 3) := by decide +kernel
theorem dX11_setDead_57 : decode cX11_setDead 57 = .ok (.bipush 33, 2) := by decide +kernel
theorem dX11_setDead_59 : decode cX11_setDead 59 = .ok (.aload_n 0, 1) := by decide +kernel
theorem dX11_setDead_60 : decode cX11_setDead 60 = .ok (.getfield 13, 3) := by decide +kernel
theorem dX11_setDead_63 : decode cX11_setDead 63 = .ok (.bipush 42, 2) := by decide +kernel
theorem dX11_setDead_65 : decode cX11_setDead 65 = .ok (.iload_n 1, 1) := by decide +kernel
theorem dX11_setDead_66 : decode cX11_setDead 66 = .ok (.iadd, 1) := by decide +kernel
theorem dX11_setDead_67 : decode cX11_setDead 67 = .ok (.iaload, 1) := by decide +kernel
theorem dX11_setDead_68 : decode cX11_setDead 68 = .ok (.iadd, 1) := by decide +kernel
theorem dX11_setDead_69 : decode cX11_setDead 69 = .ok (.iaload, 1) := by decide +kernel
theorem dX11_setDead_70 : decode cX11_setDead 70 = .ok (.i2l, 1) := by decide +kernel
theorem dX11_setDead_71 : decode cX11_setDead 71 = .ok (.lastore, 1) := by decide +kernel
theorem dX11_setDead_72 : decode cX11_setDead 72 = .ok (.aload_n 0, 1) := by decide +kernel
theorem dX11_setDead_73 : decode cX11_setDead 73 = .ok (.getfield 99, 3) := by decide +kernel
theorem dX11_setDead_76 : decode cX11_setDead 76 = .ok (.bipush 6, 2) := by decide +kernel
theorem dX11_setDead_78 : decode cX11_setDead 78 = .ok (.iload_n 2, 1) := by decide +kernel
theorem dX11_setDead_79 : decode cX11_setDead 79 = .ok (.iconst (-1), 1) := by decide +kernel
theorem dX11_setDead_80 : decode cX11_setDead 80 = .ok (.if_icmp .ne 9, 3) := by decide +kernel
theorem dX11_setDead_83 : decode cX11_setDead 83 = .ok (.ldc2_w 271, 3) := by decide +kernel
theorem dX11_setDead_86 : decode cX11_setDead 86 = .ok (.goto 13, 3) := by decide +kernel
theorem dX11_setDead_89 : decode cX11_setDead 89 = .ok (.aload_n 0, 1) := by decide +kernel
theorem dX11_setDead_90 : decode cX11_setDead 90 = .ok (.getfield 13, 3) := by decide +kernel
theorem dX11_setDead_93 : decode cX11_setDead 93 = .ok (.bipush 37, 2) := by decide +kernel
theorem dX11_setDead_95 : decode cX11_setDead 95 = .ok (.iload_n 2, 1) := by decide +kernel
theorem dX11_setDead_96 : decode cX11_setDead 96 = .ok (.iadd, 1) := by decide +kernel
theorem dX11_setDead_97 : decode cX11_setDead 97 = .ok (.iaload, 1) := by decide +kernel
theorem dX11_setDead_98 : decode cX11_setDead 98 = .ok (.i2l, 1) := by decide +kernel
theorem dX11_setDead_99 : decode cX11_setDead 99 = .ok (.lastore, 1) := by decide +kernel
theorem dX11_setDead_100 : decode cX11_setDead 100 = .ok (.aload_n 0, 1) := by decide +kernel
theorem dX11_setDead_101 : decode cX11_setDead 101 = .ok (.getfield 99, 3) := by decide +kernel
theorem dX11_setDead_104 : decode cX11_setDead 104 = .ok (.bipush 7, 2) := by decide +kernel
theorem dX11_setDead_106 : decode cX11_setDead 106 = .ok (.iload_n 2, 1) := by decide +kernel
theorem dX11_setDead_107 : decode cX11_setDead 107 = .ok (.iconst (-1), 1) := by decide +kernel
theorem dX11_setDead_108 : decode cX11_setDead 108 = .ok (.if_icmp .ne 9, 3) := by decide +kernel
theorem dX11_setDead_111 : decode cX11_setDead 111 = .ok (.ldc2_w 271, 3) := by decide +kernel
theorem dX11_setDead_114 : decode cX11_setDead 114 = .ok (.goto 9, 3) := by decide +kernel
theorem dX11_setDead_117 : decode cX11_setDead 117 = .ok (.aload_n 0, 1) := by decide +kernel
theorem dX11_setDead_118 : decode cX11_setDead 118 = .ok (.iload_n 2, 1) := by decide +kernel
theorem dX11_setDead_119 : decode cX11_setDead 119 = .ok (.invokevirtual 191, 3) := by decide +kernel
theorem dX11_setDead_122 : decode cX11_setDead 122 = .ok (.i2l, 1) := by decide +kernel
theorem dX11_setDead_123 : decode cX11_setDead 123 = .ok (.lastore, 1) := by decide +kernel
theorem dX11_setDead_124 : decode cX11_setDead 124 = .ok (.return_, 1) := by decide +kernel
theorem dX11_tells_0 : decode cX11_tells 0 = .ok (.aload_n 0, 1) := by decide +kernel
theorem dX11_tells_1 : decode cX11_tells 1 = .ok (.getfield 13, 3) := by decide +kernel
theorem dX11_tells_4 : decode cX11_tells 4 = .ok (.iconst 5, 1) := by decide +kernel
theorem dX11_tells_5 : decode cX11_tells 5 = .ok (.iaload, 1) := by decide +kernel
theorem dX11_tells_6 : decode cX11_tells 6 = .ok (.iconst (-1), 1) := by decide +kernel
theorem dX11_tells_7 : decode cX11_tells 7 = .ok (.if_icmp .ne 5, 3) := by decide +kernel
theorem dX11_tells_10 : decode cX11_tells 10 = .ok (.lload_n 2, 1) := by decide +kernel
theorem dX11_tells_11 : decode cX11_tells 11 = .ok (.lreturn, 1) := by decide +kernel
theorem dX11_tells_12 : decode cX11_tells 12 = .ok (.aload_n 0, 1) := by decide +kernel
theorem dX11_tells_13 : decode cX11_tells 13 = .ok (.bipush 110, 2) := by decide +kernel
theorem dX11_tells_15 : decode cX11_tells 15 = .ok (.sipush 900, 3) := by decide +kernel
theorem dX11_tells_18 : decode cX11_tells 18 = .ok (.aload_n 0, 1) := by decide +kernel
theorem dX11_tells_19 : decode cX11_tells 19 = .ok (.getfield 13, 3) := by decide +kernel
theorem dX11_tells_22 : decode cX11_tells 22 = .ok (.iconst 5, 1) := by decide +kernel
theorem dX11_tells_23 : decode cX11_tells 23 = .ok (.iaload, 1) := by decide +kernel
theorem dX11_tells_24 : decode cX11_tells 24 = .ok (.imul, 1) := by decide +kernel
theorem dX11_tells_25 : decode cX11_tells 25 = .ok (.iadd, 1) := by decide +kernel
theorem dX11_tells_26 : decode cX11_tells 26 = .ok (.putfield 398, 3) := by decide +kernel
theorem dX11_tells_29 : decode cX11_tells 29 = .ok (.aload_n 0, 1) := by decide +kernel
theorem dX11_tells_30 : decode cX11_tells 30 = .ok (.getfield 99, 3) := by decide +kernel
theorem dX11_tells_33 : decode cX11_tells 33 = .ok (.bipush 8, 2) := by decide +kernel
theorem dX11_tells_35 : decode cX11_tells 35 = .ok (.aload_n 0, 1) := by decide +kernel
theorem dX11_tells_36 : decode cX11_tells 36 = .ok (.getfield 13, 3) := by decide +kernel
theorem dX11_tells_39 : decode cX11_tells 39 = .ok (.bipush 6, 2) := by decide +kernel
theorem dX11_tells_41 : decode cX11_tells 41 = .ok (.iaload, 1) := by decide +kernel
theorem dX11_tells_42 : decode cX11_tells 42 = .ok (.i2l, 1) := by decide +kernel
theorem dX11_tells_43 : decode cX11_tells 43 = .ok (.lastore, 1) := by decide +kernel
theorem dX11_tells_44 : decode cX11_tells 44 = .ok (.aload_n 0, 1) := by decide +kernel
theorem dX11_tells_45 : decode cX11_tells 45 = .ok (.getfield 99, 3) := by decide +kernel
theorem dX11_tells_48 : decode cX11_tells 48 = .ok (.bipush 9, 2) := by decide +kernel
theorem dX11_tells_50 : decode cX11_tells 50 = .ok (.aload_n 0, 1) := by decide +kernel
theorem dX11_tells_51 : decode cX11_tells 51 = .ok (.getfield 13, 3) := by decide +kernel
theorem dX11_tells_54 : decode cX11_tells 54 = .ok (.bipush 8, 2) := by decide +kernel
theorem dX11_tells_56 : decode cX11_tells 56 = .ok (.iaload, 1) := by decide +kernel
theorem dX11_tells_57 : decode cX11_tells 57 = .ok (.i2l, 1) := by decide +kernel
theorem dX11_tells_58 : decode cX11_tells 58 = .ok (.lastore, 1) := by decide +kernel
theorem dX11_tells_59 : decode cX11_tells 59 = .ok (.lload_n 2, 1) := by decide +kernel
theorem dX11_tells_60 : decode cX11_tells 60 = .ok (.lstore 4, 2) := by decide +kernel
theorem dX11_tells_62 : decode cX11_tells 62 = .ok (.iconst 0, 1) := by decide +kernel
theorem dX11_tells_63 : decode cX11_tells 63 = .ok (.istore 6, 2) := by decide +kernel
theorem dX11_tells_65 : decode cX11_tells 65 = .ok (.iload 6, 2) := by decide +kernel
theorem dX11_tells_67 : decode cX11_tells 67 = .ok (.aload_n 0, 1) := by decide +kernel
theorem dX11_tells_68 : decode cX11_tells 68 = .ok (.getfield 13, 3) := by decide +kernel
theorem dX11_tells_71 : decode cX11_tells 71 = .ok (.aload_n 0, 1) := by decide +kernel
theorem dX11_tells_72 : decode cX11_tells 72 = .ok (.getfield 398, 3) := by decide +kernel
theorem dX11_tells_75 : decode cX11_tells 75 = .ok (.iconst 1, 1) := by decide +kernel
theorem dX11_tells_76 : decode cX11_tells 76 = .ok (.iadd, 1) := by decide +kernel
theorem dX11_tells_77 : decode cX11_tells 77 = .ok (.iaload, 1) := by decide +kernel
theorem dX11_tells_78 : decode cX11_tells 78 = .ok (.if_icmp .ge 58, 3) := by decide +kernel
theorem dX11_tells_81 : decode cX11_tells 81 = .ok (.aload_n 0, 1) := by decide +kernel
theorem dX11_tells_82 : decode cX11_tells 82 = .ok (.getfield 398, 3) := by decide +kernel
theorem dX11_tells_85 : decode cX11_tells 85 = .ok (.iconst 2, 1) := by decide +kernel
theorem dX11_tells_86 : decode cX11_tells 86 = .ok (.iadd, 1) := by decide +kernel
theorem dX11_tells_87 : decode cX11_tells 87 = .ok (.bipush 8, 2) := by decide +kernel
theorem dX11_tells_89 : decode cX11_tells 89 = .ok (.iload 6, 2) := by decide +kernel
theorem dX11_tells_91 : decode cX11_tells 91 = .ok (.imul, 1) := by decide +kernel
theorem dX11_tells_92 : decode cX11_tells 92 = .ok (.iadd, 1) := by decide +kernel
theorem dX11_tells_93 : decode cX11_tells 93 = .ok (.istore 7, 2) := by decide +kernel
theorem dX11_tells_95 : decode cX11_tells 95 = .ok (.aload_n 0, 1) := by decide +kernel
theorem dX11_tells_96 : decode cX11_tells 96 = .ok (.getfield 13, 3) := by decide +kernel
theorem dX11_tells_99 : decode cX11_tells 99 = .ok (.iload 7, 2) := by decide +kernel
theorem dX11_tells_101 : decode cX11_tells 101 = .ok (.iaload, 1) := by decide +kernel
theorem dX11_tells_102 : decode cX11_tells 102 = .ok (.iload_n 1, 1) := by decide +kernel
theorem dX11_tells_103 : decode cX11_tells 103 = .ok (.if_icmp .ne 27, 3) := by decide +kernel
theorem dX11_tells_106 : decode cX11_tells 106 = .ok (.aload_n 0, 1) := by decide +kernel
theorem dX11_tells_107 : decode cX11_tells 107 = .ok (.iload 7, 2) := by decide +kernel
theorem dX11_tells_109 : decode cX11_tells 109 = .ok (.invokevirtual 418, 3) := by decide +kernel
theorem dX11_tells_112 : decode cX11_tells 112 = .ok (.ifCond .eq 18, 3) := by decide +kernel
theorem dX11_tells_115 : decode cX11_tells 115 = .ok (.iload_n 1, 1) := by decide +kernel
theorem dX11_tells_116 : decode cX11_tells 116 = .ok (.iconst 3, 1) := by decide +kernel
theorem dX11_tells_117 : decode cX11_tells 117 = .ok (.if_icmp .ne 7, 3) := by decide +kernel
theorem dX11_tells_120 : decode cX11_tells 120 = .ok (.lconst 1, 1) := by decide +kernel
theorem dX11_tells_121 : decode cX11_tells 121 = .ok (.goto 7, 3) := by decide +kernel
theorem dX11_tells_124 : decode cX11_tells 124 = .ok (.aload_n 0, 1) := by decide +kernel
theorem dX11_tells_125 : decode cX11_tells 125 = .ok (.getfield 415, 3) := by decide +kernel
theorem dX11_tells_128 : decode cX11_tells 128 = .ok (.lstore 4, 2) := by decide +kernel
theorem dX11_tells_130 : decode cX11_tells 130 = .ok (.iinc 6 1, 3) := by decide +kernel
theorem dX11_tells_133 : decode cX11_tells 133 = .ok (.goto (-68), 3) := by decide +kernel
theorem dX11_tells_136 : decode cX11_tells 136 = .ok (.lload 4, 2) := by decide +kernel
theorem dX11_tells_138 : decode cX11_tells 138 = .ok (.lreturn, 1) := by decide +kernel
theorem dX11_pricedAt_0 : decode cX11_pricedAt 0 = .ok (.aload_n 0, 1) := by decide +kernel
theorem dX11_pricedAt_1 : decode cX11_pricedAt 1 = .ok (.iload_n 1, 1) := by decide +kernel
theorem dX11_pricedAt_2 : decode cX11_pricedAt 2 = .ok (.aload_n 0, 1) := by decide +kernel
theorem dX11_pricedAt_3 : decode cX11_pricedAt 3 = .ok (.getfield 13, 3) := by decide +kernel
theorem dX11_pricedAt_6 : decode cX11_pricedAt 6 = .ok (.bipush 9, 2) := by decide +kernel
theorem dX11_pricedAt_8 : decode cX11_pricedAt 8 = .ok (.iload_n 1, 1) := by decide +kernel
theorem dX11_pricedAt_9 : decode cX11_pricedAt 9 = .ok (.iadd, 1) := by decide +kernel
theorem dX11_pricedAt_10 : decode cX11_pricedAt 10 = .ok (.iaload, 1) := by decide +kernel
theorem dX11_pricedAt_11 : decode cX11_pricedAt 11 = .ok (.invokevirtual 421, 3) := by decide +kernel
theorem dX11_pricedAt_14 : decode cX11_pricedAt 14 = .ok (.aload_n 0, 1) := by decide +kernel
theorem dX11_pricedAt_15 : decode cX11_pricedAt 15 = .ok (.iconst 0, 1) := by decide +kernel
theorem dX11_pricedAt_16 : decode cX11_pricedAt 16 = .ok (.ldc2_w 424, 3) := by decide +kernel
theorem dX11_pricedAt_19 : decode cX11_pricedAt 19 = .ok (.invokevirtual 426, 3) := by decide +kernel
theorem dX11_pricedAt_22 : decode cX11_pricedAt 22 = .ok (.iconst 1, 1) := by decide +kernel
theorem dX11_pricedAt_23 : decode cX11_pricedAt 23 = .ok (.bipush 99, 2) := by decide +kernel
theorem dX11_pricedAt_25 : decode cX11_pricedAt 25 = .ok (.invokestatic 430, 3) := by decide +kernel
theorem dX11_pricedAt_28 : decode cX11_pricedAt 28 = .ok (.ireturn, 1) := by decide +kernel
theorem dX11_lastsOf_0 : decode cX11_lastsOf 0 = .ok (.aload_n 0, 1) := by decide +kernel
theorem dX11_lastsOf_1 : decode cX11_lastsOf 1 = .ok (.iload_n 1, 1) := by decide +kernel
theorem dX11_lastsOf_2 : decode cX11_lastsOf 2 = .ok (.aload_n 0, 1) := by decide +kernel
theorem dX11_lastsOf_3 : decode cX11_lastsOf 3 = .ok (.getfield 13, 3) := by decide +kernel
theorem dX11_lastsOf_6 : decode cX11_lastsOf 6 = .ok (.bipush 9, 2) := by decide +kernel
theorem dX11_lastsOf_8 : decode cX11_lastsOf 8 = .ok (.iload_n 1, 1) := by decide +kernel
theorem dX11_lastsOf_9 : decode cX11_lastsOf 9 = .ok (.iadd, 1) := by decide +kernel
theorem dX11_lastsOf_10 : decode cX11_lastsOf 10 = .ok (.iaload, 1) := by decide +kernel
theorem dX11_lastsOf_11 : decode cX11_lastsOf 11 = .ok (.invokevirtual 421, 3) := by decide +kernel
theorem dX11_lastsOf_14 : decode cX11_lastsOf 14 = .ok (.aload_n 0, 1) := by decide +kernel
theorem dX11_lastsOf_15 : decode cX11_lastsOf 15 = .ok (.iconst 1, 1) := by decide +kernel
theorem dX11_lastsOf_16 : decode cX11_lastsOf 16 = .ok (.ldc2_w 230, 3) := by decide +kernel
theorem dX11_lastsOf_19 : decode cX11_lastsOf 19 = .ok (.invokevirtual 426, 3) := by decide +kernel
theorem dX11_lastsOf_22 : decode cX11_lastsOf 22 = .ok (.iconst 1, 1) := by decide +kernel
theorem dX11_lastsOf_23 : decode cX11_lastsOf 23 = .ok (.bipush 20, 2) := by decide +kernel
theorem dX11_lastsOf_25 : decode cX11_lastsOf 25 = .ok (.invokestatic 430, 3) := by decide +kernel
theorem dX11_lastsOf_28 : decode cX11_lastsOf 28 = .ok (.ireturn, 1) := by decide +kernel
theorem dX11_earnsOf_0 : decode cX11_earnsOf 0 = .ok (.iconst 1, 1) := by decide +kernel
theorem dX11_earnsOf_1 : decode cX11_earnsOf 1 = .ok (.istore_n 2, 1) := by decide +kernel
theorem dX11_earnsOf_2 : decode cX11_earnsOf 2 = .ok (.iload_n 2, 1) := by decide +kernel
theorem dX11_earnsOf_3 : decode cX11_earnsOf 3 = .ok (.bipush 8, 2) := by decide +kernel
theorem dX11_earnsOf_5 : decode cX11_earnsOf 5 = .ok (.if_icmp .ge 18, 3) := by decide +kernel
theorem dX11_earnsOf_8 : decode cX11_earnsOf 8 = .ok (.aload_n 0, 1) := by decide +kernel
theorem dX11_earnsOf_9 : decode cX11_earnsOf 9 = .ok (.getfield 99, 3) := by decide +kernel
theorem dX11_earnsOf_12 : decode cX11_earnsOf 12 = .ok (.iload_n 2, 1) := by decide +kernel
theorem dX11_earnsOf_13 : decode cX11_earnsOf 13 = .ok (.ldc2_w 271, 3) := by decide +kernel
theorem dX11_earnsOf_16 : decode cX11_earnsOf 16 = .ok (.lastore, 1) := by decide +kernel
theorem dX11_earnsOf_17 : decode cX11_earnsOf 17 = .ok (.iinc 2 1, 3) := by decide +kernel
theorem dX11_earnsOf_20 : decode cX11_earnsOf 20 = .ok (.goto (-18), 3) := by decide +kernel
theorem dX11_earnsOf_23 : decode cX11_earnsOf 23 = .ok (.aload_n 0, 1) := by decide +kernel
theorem dX11_earnsOf_24 : decode cX11_earnsOf 24 = .ok (.getfield 99, 3) := by decide +kernel
theorem dX11_earnsOf_27 : decode cX11_earnsOf 27 = .ok (.iconst 2, 1) := by decide +kernel
theorem dX11_earnsOf_28 : decode cX11_earnsOf 28 = .ok (.iload_n 1, 1) := by decide +kernel
theorem dX11_earnsOf_29 : decode cX11_earnsOf 29 = .ok (.i2l, 1) := by decide +kernel
theorem dX11_earnsOf_30 : decode cX11_earnsOf 30 = .ok (.lastore, 1) := by decide +kernel
theorem dX11_earnsOf_31 : decode cX11_earnsOf 31 = .ok (.aload_n 0, 1) := by decide +kernel
theorem dX11_earnsOf_32 : decode cX11_earnsOf 32 = .ok (.getfield 99, 3) := by decide +kernel
theorem dX11_earnsOf_35 : decode cX11_earnsOf 35 = .ok (.iconst 5, 1) := by decide +kernel
theorem dX11_earnsOf_36 : decode cX11_earnsOf 36 = .ok (.aload_n 0, 1) := by decide +kernel
theorem dX11_earnsOf_37 : decode cX11_earnsOf 37 = .ok (.getfield 13, 3) := by decide +kernel
theorem dX11_earnsOf_40 : decode cX11_earnsOf 40 = .ok (.bipush 33, 2) := by decide +kernel
theorem dX11_earnsOf_42 : decode cX11_earnsOf 42 = .ok (.iload_n 1, 1) := by decide +kernel
theorem dX11_earnsOf_43 : decode cX11_earnsOf 43 = .ok (.iadd, 1) := by decide +kernel
theorem dX11_earnsOf_44 : decode cX11_earnsOf 44 = .ok (.iaload, 1) := by decide +kernel
theorem dX11_earnsOf_45 : decode cX11_earnsOf 45 = .ok (.i2l, 1) := by decide +kernel
theorem dX11_earnsOf_46 : decode cX11_earnsOf 46 = .ok (.lastore, 1) := by decide +kernel
theorem dX11_earnsOf_47 : decode cX11_earnsOf 47 = .ok (.aload_n 0, 1) := by decide +kernel
theorem dX11_earnsOf_48 : decode cX11_earnsOf 48 = .ok (.iconst 2, 1) := by decide +kernel
theorem dX11_earnsOf_49 : decode cX11_earnsOf 49 = .ok (.ldc2_w 230, 3) := by decide +kernel
theorem dX11_earnsOf_52 : decode cX11_earnsOf 52 = .ok (.invokevirtual 426, 3) := by decide +kernel
theorem dX11_earnsOf_55 : decode cX11_earnsOf 55 = .ok (.iconst 0, 1) := by decide +kernel
theorem dX11_earnsOf_56 : decode cX11_earnsOf 56 = .ok (.bipush 99, 2) := by decide +kernel
theorem dX11_earnsOf_58 : decode cX11_earnsOf 58 = .ok (.invokestatic 430, 3) := by decide +kernel
theorem dX11_earnsOf_61 : decode cX11_earnsOf 61 = .ok (.ireturn, 1) := by decide +kernel
theorem dX11_isBarred_0 : decode cX11_isBarred 0 = .ok (.aload_n 0, 1) := by decide +kernel
theorem dX11_isBarred_1 : decode cX11_isBarred 1 = .ok (.iload_n 1, 1) := by decide +kernel
theorem dX11_isBarred_2 : decode cX11_isBarred 2 = .ok (.iload_n 2, 1) := by decide +kernel
theorem dX11_isBarred_3 : decode cX11_isBarred 3 = .ok (.invokevirtual 421, 3) := by decide +kernel
theorem dX11_isBarred_6 : decode cX11_isBarred 6 = .ok (.aload_n 0, 1) := by decide +kernel
theorem dX11_isBarred_7 : decode cX11_isBarred 7 = .ok (.iconst 3, 1) := by decide +kernel
theorem dX11_isBarred_8 : decode cX11_isBarred 8 = .ok (.lconst 0, 1) := by decide +kernel
theorem dX11_isBarred_9 : decode cX11_isBarred 9 = .ok (.invokevirtual 426, 3) := by decide +kernel
theorem dX11_isBarred_12 : decode cX11_isBarred 12 = .ok (.lconst 1, 1) := by decide +kernel
theorem dX11_isBarred_13 : decode cX11_isBarred 13 = .ok (.lcmp, 1) := by decide +kernel
theorem dX11_isBarred_14 : decode cX11_isBarred 14 = .ok (.ifCond .ne 7, 3) := by decide +kernel
theorem dX11_isBarred_17 : decode cX11_isBarred 17 = .ok (.iconst 1, 1) := by decide +kernel
theorem dX11_isBarred_18 : decode cX11_isBarred 18 = .ok (.goto 4, 3) := by decide +kernel
theorem dX11_isBarred_21 : decode cX11_isBarred 21 = .ok (.iconst 0, 1) := by decide +kernel
theorem dX11_isBarred_22 : decode cX11_isBarred 22 = .ok (.ireturn, 1) := by decide +kernel
theorem dX11_canRenew_0 : decode cX11_canRenew 0 = .ok (.aload_n 0, 1) := by decide +kernel
theorem dX11_canRenew_1 : decode cX11_canRenew 1 = .ok (.iload_n 1, 1) := by decide +kernel
theorem dX11_canRenew_2 : decode cX11_canRenew 2 = .ok (.invokevirtual 182, 3) := by decide +kernel
theorem dX11_canRenew_5 : decode cX11_canRenew 5 = .ok (.ifCond .eq 32, 3) := by decide +kernel
theorem dX11_canRenew_8 : decode cX11_canRenew 8 = .ok (.aload_n 0, 1) := by decide +kernel
theorem dX11_canRenew_9 : decode cX11_canRenew 9 = .ok (.getfield 13, 3) := by decide +kernel
theorem dX11_canRenew_12 : decode cX11_canRenew 12 = .ok (.bipush 33, 2) := by decide +kernel
theorem dX11_canRenew_14 : decode cX11_canRenew 14 = .ok (.aload_n 0, 1) := by decide +kernel
theorem dX11_canRenew_15 : decode cX11_canRenew 15 = .ok (.getfield 13, 3) := by decide +kernel
theorem dX11_canRenew_18 : decode cX11_canRenew 18 = .ok (.bipush 42, 2) := by decide +kernel
theorem dX11_canRenew_20 : decode cX11_canRenew 20 = .ok (.iload_n 1, 1) := by decide +kernel
theorem dX11_canRenew_21 : decode cX11_canRenew 21 = .ok (.iadd, 1) := by decide +kernel
theorem dX11_canRenew_22 : decode cX11_canRenew 22 = .ok (.iaload, 1) := by decide +kernel
theorem dX11_canRenew_23 : decode cX11_canRenew 23 = .ok (.iadd, 1) := by decide +kernel
theorem dX11_canRenew_24 : decode cX11_canRenew 24 = .ok (.iaload, 1) := by decide +kernel
theorem dX11_canRenew_25 : decode cX11_canRenew 25 = .ok (.aload_n 0, 1) := by decide +kernel
theorem dX11_canRenew_26 : decode cX11_canRenew 26 = .ok (.iload_n 1, 1) := by decide +kernel
theorem dX11_canRenew_27 : decode cX11_canRenew 27 = .ok (.invokevirtual 196, 3) := by decide +kernel
theorem dX11_canRenew_30 : decode cX11_canRenew 30 = .ok (.if_icmp .lt 7, 3) := by decide +kernel
theorem dX11_canRenew_33 : decode cX11_canRenew 33 = .ok (.iconst 1, 1) := by decide +kernel
theorem dX11_canRenew_34 : decode cX11_canRenew 34 = .ok (.goto 4, 3) := by decide +kernel
theorem dX11_canRenew_37 : decode cX11_canRenew 37 = .ok (.iconst 0, 1) := by decide +kernel
theorem dX11_canRenew_38 : decode cX11_canRenew 38 = .ok (.ireturn, 1) := by decide +kernel
theorem dX11_renewIt_0 : decode cX11_renewIt 0 = .ok (.aload_n 0, 1) := by decide +kernel
theorem dX11_renewIt_1 : decode cX11_renewIt 1 = .ok (.iload_n 1, 1) := by decide +kernel
theorem dX11_renewIt_2 : decode cX11_renewIt 2 = .ok (.invokevirtual 196, 3) := by decide +kernel
theorem dX11_renewIt_5 : decode cX11_renewIt 5 = .ok (.istore_n 2, 1) := by decide +kernel
theorem dX11_renewIt_6 : decode cX11_renewIt 6 = .ok (.aload_n 0, 1) := by decide +kernel
theorem dX11_renewIt_7 : decode cX11_renewIt 7 = .ok (.iload_n 1, 1) := by decide +kernel
theorem dX11_renewIt_8 : decode cX11_renewIt 8 = .ok (.invokevirtual 217, 3) := by decide +kernel
theorem dX11_renewIt_11 : decode cX11_renewIt 11 = .ok (.istore_n 3, 1) := by decide +kernel
theorem dX11_renewIt_12 : decode cX11_renewIt 12 = .ok (.aload_n 0, 1) := by decide +kernel
theorem dX11_renewIt_13 : decode cX11_renewIt 13 = .ok (.getfield 13, 3) := by decide +kernel
theorem dX11_renewIt_16 : decode cX11_renewIt 16 = .ok (.bipush 33, 2) := by decide +kernel
theorem dX11_renewIt_18 : decode cX11_renewIt 18 = .ok (.aload_n 0, 1) := by decide +kernel
theorem dX11_renewIt_19 : decode cX11_renewIt 19 = .ok (.getfield 13, 3) := by decide +kernel
theorem dX11_renewIt_22 : decode cX11_renewIt 22 = .ok (.bipush 42, 2) := by decide +kernel
theorem dX11_renewIt_24 : decode cX11_renewIt 24 = .ok (.iload_n 1, 1) := by decide +kernel
theorem dX11_renewIt_25 : decode cX11_renewIt 25 = .ok (.iadd, 1) := by decide +kernel
theorem dX11_renewIt_26 : decode cX11_renewIt 26 = .ok (.iaload, 1) := by decide +kernel
theorem dX11_renewIt_27 : decode cX11_renewIt 27 = .ok (.iadd, 1) := by decide +kernel
theorem dX11_renewIt_28 : decode cX11_renewIt 28 = .ok (.dup2, 1) := by decide +kernel
theorem dX11_renewIt_29 : decode cX11_renewIt 29 = .ok (.iaload, 1) := by decide +kernel
theorem dX11_renewIt_30 : decode cX11_renewIt 30 = .ok (.iload_n 2, 1) := by decide +kernel
theorem dX11_renewIt_31 : decode cX11_renewIt 31 = .ok (.isub, 1) := by decide +kernel
theorem dX11_renewIt_32 : decode cX11_renewIt 32 = .ok (.iastore, 1) := by decide +kernel
theorem dX11_renewIt_33 : decode cX11_renewIt 33 = .ok (.aload_n 0, 1) := by decide +kernel
theorem dX11_renewIt_34 : decode cX11_renewIt 34 = .ok (.getfield 13, 3) := by decide +kernel
theorem dX11_renewIt_37 : decode cX11_renewIt 37 = .ok (.bipush 17, 2) := by decide +kernel
theorem dX11_renewIt_39 : decode cX11_renewIt 39 = .ok (.iload_n 1, 1) := by decide +kernel
theorem dX11_renewIt_40 : decode cX11_renewIt 40 = .ok (.iadd, 1) := by decide +kernel
theorem dX11_renewIt_41 : decode cX11_renewIt 41 = .ok (.aload_n 0, 1) := by decide +kernel
theorem dX11_renewIt_42 : decode cX11_renewIt 42 = .ok (.getfield 13, 3) := by decide +kernel
theorem dX11_renewIt_45 : decode cX11_renewIt 45 = .ok (.bipush 17, 2) := by decide +kernel
theorem dX11_renewIt_47 : decode cX11_renewIt 47 = .ok (.iload_n 1, 1) := by decide +kernel
theorem dX11_renewIt_48 : decode cX11_renewIt 48 = .ok (.iadd, 1) := by decide +kernel
theorem dX11_renewIt_49 : decode cX11_renewIt 49 = .ok (.iaload, 1) := by decide +kernel
theorem dX11_renewIt_50 : decode cX11_renewIt 50 = .ok (.iload_n 3, 1) := by decide +kernel
theorem dX11_renewIt_51 : decode cX11_renewIt 51 = .ok (.iadd, 1) := by decide +kernel
theorem dX11_renewIt_52 : decode cX11_renewIt 52 = .ok (.i2l, 1) := by decide +kernel
theorem dX11_renewIt_53 : decode cX11_renewIt 53 = .ok (.iconst 0, 1) := by decide +kernel
theorem dX11_renewIt_54 : decode cX11_renewIt 54 = .ok (.bipush 99, 2) := by decide +kernel
theorem dX11_renewIt_56 : decode cX11_renewIt 56 = .ok (.invokestatic 430, 3) := by decide +kernel
theorem dX11_renewIt_59 : decode cX11_renewIt 59 = .ok (.iastore, 1) := by decide +kernel
theorem dX11_renewIt_60 : decode cX11_renewIt 60 = .ok (.iload_n 2, 1) := by decide +kernel
theorem dX11_renewIt_61 : decode cX11_renewIt 61 = .ok (.ireturn, 1) := by decide +kernel
theorem dX11_renewNow_0 : decode cX11_renewNow 0 = .ok (.aload_n 0, 1) := by decide +kernel
theorem dX11_renewNow_1 : decode cX11_renewNow 1 = .ok (.iload_n 1, 1) := by decide +kernel
theorem dX11_renewNow_2 : decode cX11_renewNow 2 = .ok (.invokevirtual 214, 3) := by decide +kernel
theorem dX11_renewNow_5 : decode cX11_renewNow 5 = .ok (.ifCond .ne 6, 3) := by decide +kernel
theorem dX11_renewNow_8 : decode cX11_renewNow 8 = .ok (.bipush (-2), 2) := by decide +kernel
theorem dX11_renewNow_10 : decode cX11_renewNow 10 = .ok (.ireturn, 1) := by decide +kernel
theorem dX11_renewNow_11 : decode cX11_renewNow 11 = .ok (.aload_n 0, 1) := by decide +kernel
theorem dX11_renewNow_12 : decode cX11_renewNow 12 = .ok (.iload_n 1, 1) := by decide +kernel
theorem dX11_renewNow_13 : decode cX11_renewNow 13 = .ok (.invokevirtual 434, 3) := by decide +kernel
theorem dX11_renewNow_16 : decode cX11_renewNow 16 = .ok (.ifCond .ne 6, 3) := by decide +kernel
theorem dX11_renewNow_19 : decode cX11_renewNow 19 = .ok (.bipush (-3), 2) := by decide +kernel
theorem dX11_renewNow_21 : decode cX11_renewNow 21 = .ok (.ireturn, 1) := by decide +kernel
theorem dX11_renewNow_22 : decode cX11_renewNow 22 = .ok (.aload_n 0, 1) := by decide +kernel
theorem dX11_renewNow_23 : decode cX11_renewNow 23 = .ok (.iconst 0, 1) := by decide +kernel
theorem dX11_renewNow_24 : decode cX11_renewNow 24 = .ok (.invokevirtual 437, 3) := by decide +kernel
theorem dX11_renewNow_27 : decode cX11_renewNow 27 = .ok (.aload_n 0, 1) := by decide +kernel
theorem dX11_renewNow_28 : decode cX11_renewNow 28 = .ok (.iload_n 1, 1) := by decide +kernel
theorem dX11_renewNow_29 : decode cX11_renewNow 29 = .ok (.invokevirtual 440, 3) := by decide +kernel
theorem dX11_renewNow_32 : decode cX11_renewNow 32 = .ok (.ireturn, 1) := by decide +kernel
theorem dX11_renew_0 : decode cX11_renew 0 = .ok (.aload_n 0, 1) := by decide +kernel
theorem dX11_renew_1 : decode cX11_renew 1 = .ok (.iconst 0, 1) := by decide +kernel
theorem dX11_renew_2 : decode cX11_renew 2 = .ok (.putfield 149, 3) := by decide +kernel
theorem dX11_renew_5 : decode cX11_renew 5 = .ok (.aload_n 0, 1) := by decide +kernel
theorem dX11_renew_6 : decode cX11_renew 6 = .ok (.aload_n 0, 1) := by decide +kernel
theorem dX11_renew_7 : decode cX11_renew 7 = .ok (.iload_n 1, 1) := by decide +kernel
theorem dX11_renew_8 : decode cX11_renew 8 = .ok (.invokevirtual 443, 3) := by decide +kernel
theorem dX11_renew_11 : decode cX11_renew 11 = .ok (.invokevirtual 158, 3) := by decide +kernel
theorem dX11_renew_14 : decode cX11_renew 14 = .ok (.ireturn, 1) := by decide +kernel
theorem dX11_canLodge_0 : decode cX11_canLodge 0 = .ok (.aload_n 0, 1) := by decide +kernel
theorem dX11_canLodge_1 : decode cX11_canLodge 1 = .ok (.getfield 13, 3) := by decide +kernel
theorem dX11_canLodge_4 : decode cX11_canLodge 4 = .ok (.bipush 9, 2) := by decide +kernel
theorem dX11_canLodge_6 : decode cX11_canLodge 6 = .ok (.iload_n 1, 1) := by decide +kernel
theorem dX11_canLodge_7 : decode cX11_canLodge 7 = .ok (.iadd, 1) := by decide +kernel
theorem dX11_canLodge_8 : decode cX11_canLodge 8 = .ok (.iaload, 1) := by decide +kernel
theorem dX11_canLodge_9 : decode cX11_canLodge 9 = .ok (.iload_n 2, 1) := by decide +kernel
theorem dX11_canLodge_10 : decode cX11_canLodge 10 = .ok (.if_icmp .eq 24, 3) := by decide +kernel
theorem dX11_canLodge_13 : decode cX11_canLodge 13 = .ok (.aload_n 0, 1) := by decide +kernel
theorem dX11_canLodge_14 : decode cX11_canLodge 14 = .ok (.iload_n 2, 1) := by decide +kernel
theorem dX11_canLodge_15 : decode cX11_canLodge 15 = .ok (.invokevirtual 191, 3) := by decide +kernel
theorem dX11_canLodge_18 : decode cX11_canLodge 18 = .ok (.ifCond .le 16, 3) := by decide +kernel
theorem dX11_canLodge_21 : decode cX11_canLodge 21 = .ok (.aload_n 0, 1) := by decide +kernel
theorem dX11_canLodge_22 : decode cX11_canLodge 22 = .ok (.iload_n 1, 1) := by decide +kernel
theorem dX11_canLodge_23 : decode cX11_canLodge 23 = .ok (.iload_n 2, 1) := by decide +kernel
theorem dX11_canLodge_24 : decode cX11_canLodge 24 = .ok (.invokevirtual 220, 3) := by decide +kernel
theorem dX11_canLodge_27 : decode cX11_canLodge 27 = .ok (.ifCond .ne 7, 3) := by decide +kernel
theorem dX11_canLodge_30 : decode cX11_canLodge 30 = .ok (.iconst 1, 1) := by decide +kernel
theorem dX11_canLodge_31 : decode cX11_canLodge 31 = .ok (.goto 4, 3) := by decide +kernel
theorem dX11_canLodge_34 : decode cX11_canLodge 34 = .ok (.iconst 0, 1) := by decide +kernel
theorem dX11_canLodge_35 : decode cX11_canLodge 35 = .ok (.ireturn, 1) := by decide +kernel
theorem dX11_lodgeIt_0 : decode cX11_lodgeIt 0 = .ok (.aload_n 0, 1) := by decide +kernel
theorem dX11_lodgeIt_1 : decode cX11_lodgeIt 1 = .ok (.getfield 13, 3) := by decide +kernel
theorem dX11_lodgeIt_4 : decode cX11_lodgeIt 4 = .ok (.bipush 17, 2) := by decide +kernel
theorem dX11_lodgeIt_6 : decode cX11_lodgeIt 6 = .ok (.iload_n 1, 1) := by decide +kernel
theorem dX11_lodgeIt_7 : decode cX11_lodgeIt 7 = .ok (.iadd, 1) := by decide +kernel
theorem dX11_lodgeIt_8 : decode cX11_lodgeIt 8 = .ok (.aload_n 0, 1) := by decide +kernel
theorem dX11_lodgeIt_9 : decode cX11_lodgeIt 9 = .ok (.iload_n 1, 1) := by decide +kernel
theorem dX11_lodgeIt_10 : decode cX11_lodgeIt 10 = .ok (.invokevirtual 182, 3) := by decide +kernel
theorem dX11_lodgeIt_13 : decode cX11_lodgeIt 13 = .ok (.ifCond .eq 15, 3) := by decide +kernel
theorem dX11_lodgeIt_16 : decode cX11_lodgeIt 16 = .ok (.aload_n 0, 1) := by decide +kernel
theorem dX11_lodgeIt_17 : decode cX11_lodgeIt 17 = .ok (.getfield 13, 3) := by decide +kernel
theorem dX11_lodgeIt_20 : decode cX11_lodgeIt 20 = .ok (.bipush 17, 2) := by decide +kernel
theorem dX11_lodgeIt_22 : decode cX11_lodgeIt 22 = .ok (.iload_n 1, 1) := by decide +kernel
theorem dX11_lodgeIt_23 : decode cX11_lodgeIt 23 = .ok (.iadd, 1) := by decide +kernel
theorem dX11_lodgeIt_24 : decode cX11_lodgeIt 24 = .ok (.iaload, 1) := by decide +kernel
theorem dX11_lodgeIt_25 : decode cX11_lodgeIt 25 = .ok (.goto 4, 3) := by decide +kernel
theorem dX11_lodgeIt_28 : decode cX11_lodgeIt 28 = .ok (.iconst 1, 1) := by decide +kernel
theorem dX11_lodgeIt_29 : decode cX11_lodgeIt 29 = .ok (.iastore, 1) := by decide +kernel
theorem dX11_lodgeIt_30 : decode cX11_lodgeIt 30 = .ok (.aload_n 0, 1) := by decide +kernel
theorem dX11_lodgeIt_31 : decode cX11_lodgeIt 31 = .ok (.getfield 13, 3) := by decide +kernel
theorem dX11_lodgeIt_34 : decode cX11_lodgeIt 34 = .ok (.bipush 9, 2) := by decide +kernel
theorem dX11_lodgeIt_36 : decode cX11_lodgeIt 36 = .ok (.iload_n 1, 1) := by decide +kernel
theorem dX11_lodgeIt_37 : decode cX11_lodgeIt 37 = .ok (.iadd, 1) := by decide +kernel
theorem dX11_lodgeIt_38 : decode cX11_lodgeIt 38 = .ok (.iload_n 2, 1) := by decide +kernel
theorem dX11_lodgeIt_39 : decode cX11_lodgeIt 39 = .ok (.iastore, 1) := by decide +kernel
theorem dX11_lodgeIt_40 : decode cX11_lodgeIt 40 = .ok (.return_, 1) := by decide +kernel
theorem dX11_lodgeNow_0 : decode cX11_lodgeNow 0 = .ok (.aload_n 0, 1) := by decide +kernel
theorem dX11_lodgeNow_1 : decode cX11_lodgeNow 1 = .ok (.iload_n 1, 1) := by decide +kernel
theorem dX11_lodgeNow_2 : decode cX11_lodgeNow 2 = .ok (.invokevirtual 214, 3) := by decide +kernel
theorem dX11_lodgeNow_5 : decode cX11_lodgeNow 5 = .ok (.ifCond .eq 11, 3) := by decide +kernel
theorem dX11_lodgeNow_8 : decode cX11_lodgeNow 8 = .ok (.aload_n 0, 1) := by decide +kernel
theorem dX11_lodgeNow_9 : decode cX11_lodgeNow 9 = .ok (.iload_n 2, 1) := by decide +kernel
theorem dX11_lodgeNow_10 : decode cX11_lodgeNow 10 = .ok (.invokevirtual 188, 3) := by decide +kernel
theorem dX11_lodgeNow_13 : decode cX11_lodgeNow 13 = .ok (.ifCond .ne 6, 3) := by decide +kernel
theorem dX11_lodgeNow_16 : decode cX11_lodgeNow 16 = .ok (.bipush (-2), 2) := by decide +kernel
theorem dX11_lodgeNow_18 : decode cX11_lodgeNow 18 = .ok (.ireturn, 1) := by decide +kernel
theorem dX11_lodgeNow_19 : decode cX11_lodgeNow 19 = .ok (.aload_n 0, 1) := by decide +kernel
theorem dX11_lodgeNow_20 : decode cX11_lodgeNow 20 = .ok (.iload_n 1, 1) := by decide +kernel
theorem dX11_lodgeNow_21 : decode cX11_lodgeNow 21 = .ok (.iload_n 2, 1) := by decide +kernel
theorem dX11_lodgeNow_22 : decode cX11_lodgeNow 22 = .ok (.invokevirtual 446, 3) := by decide +kernel
theorem dX11_lodgeNow_25 : decode cX11_lodgeNow 25 = .ok (.ifCond .ne 6, 3) := by decide +kernel
theorem dX11_lodgeNow_28 : decode cX11_lodgeNow 28 = .ok (.bipush (-3), 2) := by decide +kernel
theorem dX11_lodgeNow_30 : decode cX11_lodgeNow 30 = .ok (.ireturn, 1) := by decide +kernel
theorem dX11_lodgeNow_31 : decode cX11_lodgeNow 31 = .ok (.aload_n 0, 1) := by decide +kernel
theorem dX11_lodgeNow_32 : decode cX11_lodgeNow 32 = .ok (.iconst 1, 1) := by decide +kernel
theorem dX11_lodgeNow_33 : decode cX11_lodgeNow 33 = .ok (.invokevirtual 437, 3) := by decide +kernel
theorem dX11_lodgeNow_36 : decode cX11_lodgeNow 36 = .ok (.aload_n 0, 1) := by decide +kernel
theorem dX11_lodgeNow_37 : decode cX11_lodgeNow 37 = .ok (.iload_n 1, 1) := by decide +kernel
theorem dX11_lodgeNow_38 : decode cX11_lodgeNow 38 = .ok (.iload_n 2, 1) := by decide +kernel
theorem dX11_lodgeNow_39 : decode cX11_lodgeNow 39 = .ok (.invokevirtual 449, 3) := by decide +kernel
theorem dX11_lodgeNow_42 : decode cX11_lodgeNow 42 = .ok (.aload_n 0, 1) := by decide +kernel
theorem dX11_lodgeNow_43 : decode cX11_lodgeNow 43 = .ok (.iload_n 2, 1) := by decide +kernel
theorem dX11_lodgeNow_44 : decode cX11_lodgeNow 44 = .ok (.invokevirtual 191, 3) := by decide +kernel
theorem dX11_lodgeNow_47 : decode cX11_lodgeNow 47 = .ok (.ireturn, 1) := by decide +kernel
theorem dX11_lodge_0 : decode cX11_lodge 0 = .ok (.aload_n 0, 1) := by decide +kernel
theorem dX11_lodge_1 : decode cX11_lodge 1 = .ok (.iconst 0, 1) := by decide +kernel
theorem dX11_lodge_2 : decode cX11_lodge 2 = .ok (.putfield 149, 3) := by decide +kernel
theorem dX11_lodge_5 : decode cX11_lodge 5 = .ok (.aload_n 0, 1) := by decide +kernel
theorem dX11_lodge_6 : decode cX11_lodge 6 = .ok (.aload_n 0, 1) := by decide +kernel
theorem dX11_lodge_7 : decode cX11_lodge 7 = .ok (.iload_n 1, 1) := by decide +kernel
theorem dX11_lodge_8 : decode cX11_lodge 8 = .ok (.iload_n 2, 1) := by decide +kernel
theorem dX11_lodge_9 : decode cX11_lodge 9 = .ok (.invokevirtual 452, 3) := by decide +kernel
theorem dX11_lodge_12 : decode cX11_lodge 12 = .ok (.invokevirtual 158, 3) := by decide +kernel
theorem dX11_lodge_15 : decode cX11_lodge 15 = .ok (.ireturn, 1) := by decide +kernel
theorem dX11_canKnock_0 : decode cX11_canKnock 0 = .ok (.aload_n 0, 1) := by decide +kernel
theorem dX11_canKnock_1 : decode cX11_canKnock 1 = .ok (.iload_n 1, 1) := by decide +kernel
theorem dX11_canKnock_2 : decode cX11_canKnock 2 = .ok (.invokevirtual 182, 3) := by decide +kernel
theorem dX11_canKnock_5 : decode cX11_canKnock 5 = .ok (.ifCond .eq 19, 3) := by decide +kernel
theorem dX11_canKnock_8 : decode cX11_canKnock 8 = .ok (.aload_n 0, 1) := by decide +kernel
theorem dX11_canKnock_9 : decode cX11_canKnock 9 = .ok (.getfield 13, 3) := by decide +kernel
theorem dX11_canKnock_12 : decode cX11_canKnock 12 = .ok (.bipush 25, 2) := by decide +kernel
theorem dX11_canKnock_14 : decode cX11_canKnock 14 = .ok (.iload_n 1, 1) := by decide +kernel
theorem dX11_canKnock_15 : decode cX11_canKnock 15 = .ok (.iadd, 1) := by decide +kernel
theorem dX11_canKnock_16 : decode cX11_canKnock 16 = .ok (.iaload, 1) := by decide +kernel
theorem dX11_canKnock_17 : decode cX11_canKnock 17 = .ok (.ifCond .ne 7, 3) := by decide +kernel
theorem dX11_canKnock_20 : decode cX11_canKnock 20 = .ok (.iconst 1, 1) := by decide +kernel
theorem dX11_canKnock_21 : decode cX11_canKnock 21 = .ok (.goto 4, 3) := by decide +kernel
theorem dX11_canKnock_24 : decode cX11_canKnock 24 = .ok (.iconst 0, 1) := by decide +kernel
theorem dX11_canKnock_25 : decode cX11_canKnock 25 = .ok (.ireturn, 1) := by decide +kernel
theorem dX11_knockIt_0 : decode cX11_knockIt 0 = .ok (.aload_n 0, 1) := by decide +kernel
theorem dX11_knockIt_1 : decode cX11_knockIt 1 = .ok (.getfield 13, 3) := by decide +kernel
theorem dX11_knockIt_4 : decode cX11_knockIt 4 = .ok (.bipush 25, 2) := by decide +kernel
theorem dX11_knockIt_6 : decode cX11_knockIt 6 = .ok (.iload_n 1, 1) := by decide +kernel
theorem dX11_knockIt_7 : decode cX11_knockIt 7 = .ok (.iadd, 1) := by decide +kernel
theorem dX11_knockIt_8 : decode cX11_knockIt 8 = .ok (.iconst 1, 1) := by decide +kernel
theorem dX11_knockIt_9 : decode cX11_knockIt 9 = .ok (.iastore, 1) := by decide +kernel
theorem dX11_knockIt_10 : decode cX11_knockIt 10 = .ok (.aload_n 0, 1) := by decide +kernel
theorem dX11_knockIt_11 : decode cX11_knockIt 11 = .ok (.getfield 13, 3) := by decide +kernel
theorem dX11_knockIt_14 : decode cX11_knockIt 14 = .ok (.bipush 17, 2) := by decide +kernel
theorem dX11_knockIt_16 : decode cX11_knockIt 16 = .ok (.iload_n 1, 1) := by decide +kernel
theorem dX11_knockIt_17 : decode cX11_knockIt 17 = .ok (.iadd, 1) := by decide +kernel
theorem dX11_knockIt_18 : decode cX11_knockIt 18 = .ok (.aload_n 0, 1) := by decide +kernel
theorem dX11_knockIt_19 : decode cX11_knockIt 19 = .ok (.getfield 13, 3) := by decide +kernel
theorem dX11_knockIt_22 : decode cX11_knockIt 22 = .ok (.bipush 17, 2) := by decide +kernel
theorem dX11_knockIt_24 : decode cX11_knockIt 24 = .ok (.iload_n 1, 1) := by decide +kernel
theorem dX11_knockIt_25 : decode cX11_knockIt 25 = .ok (.iadd, 1) := by decide +kernel
theorem dX11_knockIt_26 : decode cX11_knockIt 26 = .ok (.iaload, 1) := by decide +kernel
theorem dX11_knockIt_27 : decode cX11_knockIt 27 = .ok (.iconst 1, 1) := by decide +kernel
theorem dX11_knockIt_28 : decode cX11_knockIt 28 = .ok (.iadd, 1) := by decide +kernel
theorem dX11_knockIt_29 : decode cX11_knockIt 29 = .ok (.i2l, 1) := by decide +kernel
theorem dX11_knockIt_30 : decode cX11_knockIt 30 = .ok (.iconst 0, 1) := by decide +kernel
theorem dX11_knockIt_31 : decode cX11_knockIt 31 = .ok (.bipush 99, 2) := by decide +kernel
theorem dX11_knockIt_33 : decode cX11_knockIt 33 = .ok (.invokestatic 430, 3) := by decide +kernel
theorem dX11_knockIt_36 : decode cX11_knockIt 36 = .ok (.iastore, 1) := by decide +kernel
theorem dX11_knockIt_37 : decode cX11_knockIt 37 = .ok (.return_, 1) := by decide +kernel
theorem dX11_knockNow_0 : decode cX11_knockNow 0 = .ok (.aload_n 0, 1) := by decide +kernel
theorem dX11_knockNow_1 : decode cX11_knockNow 1 = .ok (.iload_n 1, 1) := by decide +kernel
theorem dX11_knockNow_2 : decode cX11_knockNow 2 = .ok (.invokevirtual 214, 3) := by decide +kernel
theorem dX11_knockNow_5 : decode cX11_knockNow 5 = .ok (.ifCond .ne 6, 3) := by decide +kernel
theorem dX11_knockNow_8 : decode cX11_knockNow 8 = .ok (.bipush (-2), 2) := by decide +kernel
theorem dX11_knockNow_10 : decode cX11_knockNow 10 = .ok (.ireturn, 1) := by decide +kernel
theorem dX11_knockNow_11 : decode cX11_knockNow 11 = .ok (.aload_n 0, 1) := by decide +kernel
theorem dX11_knockNow_12 : decode cX11_knockNow 12 = .ok (.iload_n 1, 1) := by decide +kernel
theorem dX11_knockNow_13 : decode cX11_knockNow 13 = .ok (.invokevirtual 455, 3) := by decide +kernel
theorem dX11_knockNow_16 : decode cX11_knockNow 16 = .ok (.ifCond .ne 6, 3) := by decide +kernel
theorem dX11_knockNow_19 : decode cX11_knockNow 19 = .ok (.bipush (-3), 2) := by decide +kernel
theorem dX11_knockNow_21 : decode cX11_knockNow 21 = .ok (.ireturn, 1) := by decide +kernel
theorem dX11_knockNow_22 : decode cX11_knockNow 22 = .ok (.aload_n 0, 1) := by decide +kernel
theorem dX11_knockNow_23 : decode cX11_knockNow 23 = .ok (.iconst 2, 1) := by decide +kernel
theorem dX11_knockNow_24 : decode cX11_knockNow 24 = .ok (.invokevirtual 437, 3) := by decide +kernel
theorem dX11_knockNow_27 : decode cX11_knockNow 27 = .ok (.aload_n 0, 1) := by decide +kernel
theorem dX11_knockNow_28 : decode cX11_knockNow 28 = .ok (.iload_n 1, 1) := by decide +kernel
theorem dX11_knockNow_29 : decode cX11_knockNow 29 = .ok (.invokevirtual 458, 3) := by decide +kernel
theorem dX11_knockNow_32 : decode cX11_knockNow 32 = .ok (.aload_n 0, 1) := by decide +kernel
theorem dX11_knockNow_33 : decode cX11_knockNow 33 = .ok (.getfield 13, 3) := by decide +kernel
theorem dX11_knockNow_36 : decode cX11_knockNow 36 = .ok (.bipush 17, 2) := by decide +kernel
theorem dX11_knockNow_38 : decode cX11_knockNow 38 = .ok (.iload_n 1, 1) := by decide +kernel
theorem dX11_knockNow_39 : decode cX11_knockNow 39 = .ok (.iadd, 1) := by decide +kernel
theorem dX11_knockNow_40 : decode cX11_knockNow 40 = .ok (.iaload, 1) := by decide +kernel
theorem dX11_knockNow_41 : decode cX11_knockNow 41 = .ok (.ireturn, 1) := by decide +kernel
theorem dX11_knock_0 : decode cX11_knock 0 = .ok (.aload_n 0, 1) := by decide +kernel
theorem dX11_knock_1 : decode cX11_knock 1 = .ok (.iconst 0, 1) := by decide +kernel
theorem dX11_knock_2 : decode cX11_knock 2 = .ok (.putfield 149, 3) := by decide +kernel
theorem dX11_knock_5 : decode cX11_knock 5 = .ok (.aload_n 0, 1) := by decide +kernel
theorem dX11_knock_6 : decode cX11_knock 6 = .ok (.aload_n 0, 1) := by decide +kernel
theorem dX11_knock_7 : decode cX11_knock 7 = .ok (.iload_n 1, 1) := by decide +kernel
theorem dX11_knock_8 : decode cX11_knock 8 = .ok (.invokevirtual 461, 3) := by decide +kernel
theorem dX11_knock_11 : decode cX11_knock 11 = .ok (.invokevirtual 158, 3) := by decide +kernel
theorem dX11_knock_14 : decode cX11_knock 14 = .ok (.ireturn, 1) := by decide +kernel
theorem dX11_passIt_0 : decode cX11_passIt 0 = .ok (.iconst 0, 1) := by decide +kernel
theorem dX11_passIt_1 : decode cX11_passIt 1 = .ok (.istore_n 1, 1) := by decide +kernel
theorem dX11_passIt_2 : decode cX11_passIt 2 = .ok (.iload_n 1, 1) := by decide +kernel
theorem dX11_passIt_3 : decode cX11_passIt 3 = .ok (.aload_n 0, 1) := by decide +kernel
theorem dX11_passIt_4 : decode cX11_passIt 4 = .ok (.getfield 13, 3) := by decide +kernel
theorem dX11_passIt_7 : decode cX11_passIt 7 = .ok (.iconst 1, 1) := by decide +kernel
theorem dX11_passIt_8 : decode cX11_passIt 8 = .ok (.iaload, 1) := by decide +kernel
theorem dX11_passIt_9 : decode cX11_passIt 9 = .ok (.if_icmp .ge 20, 3) := by decide +kernel
theorem dX11_passIt_12 : decode cX11_passIt 12 = .ok (.aload_n 0, 1) := by decide +kernel
theorem dX11_passIt_13 : decode cX11_passIt 13 = .ok (.getfield 108, 3) := by decide +kernel
theorem dX11_passIt_16 : decode cX11_passIt 16 = .ok (.iload_n 1, 1) := by decide +kernel
theorem dX11_passIt_17 : decode cX11_passIt 17 = .ok (.aload_n 0, 1) := by decide +kernel
theorem dX11_passIt_18 : decode cX11_passIt 18 = .ok (.iload_n 1, 1) := by decide +kernel
theorem dX11_passIt_19 : decode cX11_passIt 19 = .ok (.invokevirtual 202, 3) := by decide +kernel
theorem dX11_passIt_22 : decode cX11_passIt 22 = .ok (.iastore, 1) := by decide +kernel
theorem dX11_passIt_23 : decode cX11_passIt 23 = .ok (.iinc 1 1, 3) := by decide +kernel
theorem dX11_passIt_26 : decode cX11_passIt 26 = .ok (.goto (-24), 3) := by decide +kernel
theorem dX11_passIt_29 : decode cX11_passIt 29 = .ok (.iconst 0, 1) := by decide +kernel
theorem dX11_passIt_30 : decode cX11_passIt 30 = .ok (.istore_n 1, 1) := by decide +kernel
theorem dX11_passIt_31 : decode cX11_passIt 31 = .ok (.iload_n 1, 1) := by decide +kernel
theorem dX11_passIt_32 : decode cX11_passIt 32 = .ok (.aload_n 0, 1) := by decide +kernel
theorem dX11_passIt_33 : decode cX11_passIt 33 = .ok (.getfield 13, 3) := by decide +kernel
theorem dX11_passIt_36 : decode cX11_passIt 36 = .ok (.iconst 1, 1) := by decide +kernel
theorem dX11_passIt_37 : decode cX11_passIt 37 = .ok (.iaload, 1) := by decide +kernel
theorem dX11_passIt_38 : decode cX11_passIt 38 = .ok (.if_icmp .ge 42, 3) := by decide +kernel
theorem dX11_passIt_41 : decode cX11_passIt 41 = .ok (.aload_n 0, 1) := by decide +kernel
theorem dX11_passIt_42 : decode cX11_passIt 42 = .ok (.getfield 13, 3) := by decide +kernel
theorem dX11_passIt_45 : decode cX11_passIt 45 = .ok (.bipush 33, 2) := by decide +kernel
theorem dX11_passIt_47 : decode cX11_passIt 47 = .ok (.iload_n 1, 1) := by decide +kernel
theorem dX11_passIt_48 : decode cX11_passIt 48 = .ok (.iadd, 1) := by decide +kernel
theorem dX11_passIt_49 : decode cX11_passIt 49 = .ok (.aload_n 0, 1) := by decide +kernel
theorem dX11_passIt_50 : decode cX11_passIt 50 = .ok (.getfield 13, 3) := by decide +kernel
theorem dX11_passIt_53 : decode cX11_passIt 53 = .ok (.bipush 33, 2) := by decide +kernel
theorem dX11_passIt_55 : decode cX11_passIt 55 = .ok (.iload_n 1, 1) := by decide +kernel
theorem dX11_passIt_56 : decode cX11_passIt 56 = .ok (.iadd, 1) := by decide +kernel
theorem dX11_passIt_57 : decode cX11_passIt 57 = .ok (.iaload, 1) := by decide +kernel
theorem dX11_passIt_58 : decode cX11_passIt 58 = .ok (.aload_n 0, 1) := by decide +kernel
theorem dX11_passIt_59 : decode cX11_passIt 59 = .ok (.getfield 108, 3) := by decide +kernel
theorem dX11_passIt_62 : decode cX11_passIt 62 = .ok (.iload_n 1, 1) := by decide +kernel
theorem dX11_passIt_63 : decode cX11_passIt 63 = .ok (.iaload, 1) := by decide +kernel
theorem dX11_passIt_64 : decode cX11_passIt 64 = .ok (.iadd, 1) := by decide +kernel
theorem dX11_passIt_65 : decode cX11_passIt 65 = .ok (.i2l, 1) := by decide +kernel
theorem dX11_passIt_66 : decode cX11_passIt 66 = .ok (.iconst 0, 1) := by decide +kernel
theorem dX11_passIt_67 : decode cX11_passIt 67 = .ok (.sipush 999, 3) := by decide +kernel
theorem dX11_passIt_70 : decode cX11_passIt 70 = .ok (.invokestatic 430, 3) := by decide +kernel
theorem dX11_passIt_73 : decode cX11_passIt 73 = .ok (.iastore, 1) := by decide +kernel
theorem dX11_passIt_74 : decode cX11_passIt 74 = .ok (.iinc 1 1, 3) := by decide +kernel
theorem dX11_passIt_77 : decode cX11_passIt 77 = .ok (.goto (-46), 3) := by decide +kernel
theorem dX11_passIt_80 : decode cX11_passIt 80 = .ok (.iconst 0, 1) := by decide +kernel
theorem dX11_passIt_81 : decode cX11_passIt 81 = .ok (.istore_n 1, 1) := by decide +kernel
theorem dX11_passIt_82 : decode cX11_passIt 82 = .ok (.iconst 0, 1) := by decide +kernel
theorem dX11_passIt_83 : decode cX11_passIt 83 = .ok (.istore_n 2, 1) := by decide +kernel
theorem dX11_passIt_84 : decode cX11_passIt 84 = .ok (.iload_n 2, 1) := by decide +kernel
theorem dX11_passIt_85 : decode cX11_passIt 85 = .ok (.aload_n 0, 1) := by decide +kernel
theorem dX11_passIt_86 : decode cX11_passIt 86 = .ok (.getfield 13, 3) := by decide +kernel
theorem dX11_passIt_89 : decode cX11_passIt 89 = .ok (.iconst 2, 1) := by decide +kernel
theorem dX11_passIt_90 : decode cX11_passIt 90 = .ok (.iaload, 1) := by decide +kernel
theorem dX11_passIt_91 : decode cX11_passIt 91 = .ok (.if_icmp .ge 84, 3) := by decide +kernel
theorem dX11_passIt_94 : decode cX11_passIt 94 = .ok (.aload_n 0, 1) := by decide +kernel
theorem dX11_passIt_95 : decode cX11_passIt 95 = .ok (.iload_n 2, 1) := by decide +kernel
theorem dX11_passIt_96 : decode cX11_passIt 96 = .ok (.invokevirtual 182, 3) := by decide +kernel
theorem dX11_passIt_99 : decode cX11_passIt 99 = .ok (.ifCond .eq 70, 3) := by decide +kernel
theorem dX11_passIt_102 : decode cX11_passIt 102 = .ok (.aload_n 0, 1) := by decide +kernel
theorem dX11_passIt_103 : decode cX11_passIt 103 = .ok (.getfield 13, 3) := by decide +kernel
theorem dX11_passIt_106 : decode cX11_passIt 106 = .ok (.bipush 17, 2) := by decide +kernel
theorem dX11_passIt_108 : decode cX11_passIt 108 = .ok (.iload_n 2, 1) := by decide +kernel
theorem dX11_passIt_109 : decode cX11_passIt 109 = .ok (.iadd, 1) := by decide +kernel
theorem dX11_passIt_110 : decode cX11_passIt 110 = .ok (.dup2, 1) := by decide +kernel
theorem dX11_passIt_111 : decode cX11_passIt 111 = .ok (.iaload, 1) := by decide +kernel
theorem dX11_passIt_112 : decode cX11_passIt 112 = .ok (.iconst 1, 1) := by decide +kernel
theorem dX11_passIt_113 : decode cX11_passIt 113 = .ok (.isub, 1) := by decide +kernel
theorem dX11_passIt_114 : decode cX11_passIt 114 = .ok (.iastore, 1) := by decide +kernel
theorem dX11_passIt_115 : decode cX11_passIt 115 = .ok (.iload_n 1, 1) := by decide +kernel
theorem dX11_passIt_116 : decode cX11_passIt 116 = .ok (.aload_n 0, 1) := by decide +kernel
theorem dX11_passIt_117 : decode cX11_passIt 117 = .ok (.getfield 13, 3) := by decide +kernel
theorem dX11_passIt_120 : decode cX11_passIt 120 = .ok (.bipush 17, 2) := by decide +kernel
theorem dX11_passIt_122 : decode cX11_passIt 122 = .ok (.iload_n 2, 1) := by decide +kernel
theorem dX11_passIt_123 : decode cX11_passIt 123 = .ok (.iadd, 1) := by decide +kernel
theorem dX11_passIt_124 : decode cX11_passIt 124 = .ok (.iaload, 1) := by decide +kernel
theorem dX11_passIt_125 : decode cX11_passIt 125 = .ok (.ifCond .ne 7, 3) := by decide +kernel
theorem dX11_passIt_128 : decode cX11_passIt 128 = .ok (.iconst 1, 1) := by decide +kernel
theorem dX11_passIt_129 : decode cX11_passIt 129 = .ok (.goto 4, 3) := by decide +kernel
theorem dX11_passIt_132 : decode cX11_passIt 132 = .ok (.iconst 0, 1) := by decide +kernel
theorem dX11_passIt_133 : decode cX11_passIt 133 = .ok (.iadd, 1) := by decide +kernel
theorem dX11_passIt_134 : decode cX11_passIt 134 = .ok (.istore_n 1, 1) := by decide +kernel
theorem dX11_passIt_135 : decode cX11_passIt 135 = .ok (.aload_n 0, 1) := by decide +kernel
theorem dX11_passIt_136 : decode cX11_passIt 136 = .ok (.getfield 13, 3) := by decide +kernel
theorem dX11_passIt_139 : decode cX11_passIt 139 = .ok (.bipush 9, 2) := by decide +kernel
theorem dX11_passIt_141 : decode cX11_passIt 141 = .ok (.iload_n 2, 1) := by decide +kernel
theorem dX11_passIt_142 : decode cX11_passIt 142 = .ok (.iadd, 1) := by decide +kernel
theorem dX11_passIt_143 : decode cX11_passIt 143 = .ok (.aload_n 0, 1) := by decide +kernel
theorem dX11_passIt_144 : decode cX11_passIt 144 = .ok (.getfield 13, 3) := by decide +kernel
theorem dX11_passIt_147 : decode cX11_passIt 147 = .ok (.bipush 17, 2) := by decide +kernel
theorem dX11_passIt_149 : decode cX11_passIt 149 = .ok (.iload_n 2, 1) := by decide +kernel
theorem dX11_passIt_150 : decode cX11_passIt 150 = .ok (.iadd, 1) := by decide +kernel
theorem dX11_passIt_151 : decode cX11_passIt 151 = .ok (.iaload, 1) := by decide +kernel
theorem dX11_passIt_152 : decode cX11_passIt 152 = .ok (.ifCond .ne 7, 3) := by decide +kernel
theorem dX11_passIt_155 : decode cX11_passIt 155 = .ok (.iconst (-1), 1) := by decide +kernel
theorem dX11_passIt_156 : decode cX11_passIt 156 = .ok (.goto 12, 3) := by decide +kernel
theorem dX11_passIt_159 : decode cX11_passIt 159 = .ok (.aload_n 0, 1) := by decide +kernel
theorem dX11_passIt_160 : decode cX11_passIt 160 = .ok (.getfield 13, 3) := by decide +kernel
theorem dX11_passIt_163 : decode cX11_passIt 163 = .ok (.bipush 9, 2) := by decide +kernel
theorem dX11_passIt_165 : decode cX11_passIt 165 = .ok (.iload_n 2, 1) := by decide +kernel
theorem dX11_passIt_166 : decode cX11_passIt 166 = .ok (.iadd, 1) := by decide +kernel
theorem dX11_passIt_167 : decode cX11_passIt 167 = .ok (.iaload, 1) := by decide +kernel
theorem dX11_passIt_168 : decode cX11_passIt 168 = .ok (.iastore, 1) := by decide +kernel
theorem dX11_passIt_169 : decode cX11_passIt 169 = .ok (.iinc 2 1, 3) := by decide +kernel
theorem dX11_passIt_172 : decode cX11_passIt 172 = .ok (.goto (-88), 3) := by decide +kernel
theorem dX11_passIt_175 : decode cX11_passIt 175 = .ok (.aload_n 0, 1) := by decide +kernel
theorem dX11_passIt_176 : decode cX11_passIt 176 = .ok (.getfield 13, 3) := by decide +kernel
theorem dX11_passIt_179 : decode cX11_passIt 179 = .ok (.bipush 6, 2) := by decide +kernel
theorem dX11_passIt_181 : decode cX11_passIt 181 = .ok (.dup2, 1) := by decide +kernel
theorem dX11_passIt_182 : decode cX11_passIt 182 = .ok (.iaload, 1) := by decide +kernel
theorem dX11_passIt_183 : decode cX11_passIt 183 = .ok (.iconst 1, 1) := by decide +kernel
theorem dX11_passIt_184 : decode cX11_passIt 184 = .ok (.iadd, 1) := by decide +kernel
theorem dX11_passIt_185 : decode cX11_passIt 185 = .ok (.iastore, 1) := by decide +kernel
theorem dX11_passIt_186 : decode cX11_passIt 186 = .ok (.iload_n 1, 1) := by decide +kernel
theorem dX11_passIt_187 : decode cX11_passIt 187 = .ok (.ireturn, 1) := by decide +kernel
theorem dX11_passNow_0 : decode cX11_passNow 0 = .ok (.aload_n 0, 1) := by decide +kernel
theorem dX11_passNow_1 : decode cX11_passNow 1 = .ok (.getfield 13, 3) := by decide +kernel
theorem dX11_passNow_4 : decode cX11_passNow 4 = .ok (.bipush 6, 2) := by decide +kernel
theorem dX11_passNow_6 : decode cX11_passNow 6 = .ok (.iaload, 1) := by decide +kernel
theorem dX11_passNow_7 : decode cX11_passNow 7 = .ok (.sipush 999, 3) := by decide +kernel
theorem dX11_passNow_10 : decode cX11_passNow 10 = .ok (.if_icmp .ne 6, 3) := by decide +kernel
theorem dX11_passNow_13 : decode cX11_passNow 13 = .ok (.bipush (-3), 2) := by decide +kernel
theorem dX11_passNow_15 : decode cX11_passNow 15 = .ok (.ireturn, 1) := by decide +kernel
theorem dX11_passNow_16 : decode cX11_passNow 16 = .ok (.aload_n 0, 1) := by decide +kernel
theorem dX11_passNow_17 : decode cX11_passNow 17 = .ok (.iconst 3, 1) := by decide +kernel
theorem dX11_passNow_18 : decode cX11_passNow 18 = .ok (.invokevirtual 437, 3) := by decide +kernel
theorem dX11_passNow_21 : decode cX11_passNow 21 = .ok (.aload_n 0, 1) := by decide +kernel
theorem dX11_passNow_22 : decode cX11_passNow 22 = .ok (.invokevirtual 464, 3) := by decide +kernel
theorem dX11_passNow_25 : decode cX11_passNow 25 = .ok (.pop, 1) := by decide +kernel
theorem dX11_passNow_26 : decode cX11_passNow 26 = .ok (.aload_n 0, 1) := by decide +kernel
theorem dX11_passNow_27 : decode cX11_passNow 27 = .ok (.getfield 13, 3) := by decide +kernel
theorem dX11_passNow_30 : decode cX11_passNow 30 = .ok (.bipush 6, 2) := by decide +kernel
theorem dX11_passNow_32 : decode cX11_passNow 32 = .ok (.iaload, 1) := by decide +kernel
theorem dX11_passNow_33 : decode cX11_passNow 33 = .ok (.ireturn, 1) := by decide +kernel
theorem dX11_pass_0 : decode cX11_pass 0 = .ok (.aload_n 0, 1) := by decide +kernel
theorem dX11_pass_1 : decode cX11_pass 1 = .ok (.iconst 0, 1) := by decide +kernel
theorem dX11_pass_2 : decode cX11_pass 2 = .ok (.putfield 149, 3) := by decide +kernel
theorem dX11_pass_5 : decode cX11_pass 5 = .ok (.aload_n 0, 1) := by decide +kernel
theorem dX11_pass_6 : decode cX11_pass 6 = .ok (.aload_n 0, 1) := by decide +kernel
theorem dX11_pass_7 : decode cX11_pass 7 = .ok (.invokevirtual 467, 3) := by decide +kernel
theorem dX11_pass_10 : decode cX11_pass 10 = .ok (.invokevirtual 158, 3) := by decide +kernel
theorem dX11_pass_13 : decode cX11_pass 13 = .ok (.ireturn, 1) := by decide +kernel
theorem dX11_inside_0 : decode cX11_inside 0 = .ok (.aload_n 0, 1) := by decide +kernel
theorem dX11_inside_1 : decode cX11_inside 1 = .ok (.iconst 0, 1) := by decide +kernel
theorem dX11_inside_2 : decode cX11_inside 2 = .ok (.putfield 149, 3) := by decide +kernel
theorem dX11_inside_5 : decode cX11_inside 5 = .ok (.iload_n 1, 1) := by decide +kernel
theorem dX11_inside_6 : decode cX11_inside 6 = .ok (.i2l, 1) := by decide +kernel
theorem dX11_inside_7 : decode cX11_inside 7 = .ok (.lconst 0, 1) := by decide +kernel
theorem dX11_inside_8 : decode cX11_inside 8 = .ok (.ldc2_w 208, 3) := by decide +kernel
theorem dX11_inside_11 : decode cX11_inside 11 = .ok (.invokestatic 169, 3) := by decide +kernel
theorem dX11_inside_14 : decode cX11_inside 14 = .ok (.ifCond .ne 5, 3) := by decide +kernel
theorem dX11_inside_17 : decode cX11_inside 17 = .ok (.iconst (-1), 1) := by decide +kernel
theorem dX11_inside_18 : decode cX11_inside 18 = .ok (.ireturn, 1) := by decide +kernel
theorem dX11_inside_19 : decode cX11_inside 19 = .ok (.iconst 0, 1) := by decide +kernel
theorem dX11_inside_20 : decode cX11_inside 20 = .ok (.istore_n 2, 1) := by decide +kernel
theorem dX11_inside_21 : decode cX11_inside 21 = .ok (.iconst 0, 1) := by decide +kernel
theorem dX11_inside_22 : decode cX11_inside 22 = .ok (.istore_n 3, 1) := by decide +kernel
theorem dX11_inside_23 : decode cX11_inside 23 = .ok (.iload_n 3, 1) := by decide +kernel
theorem dX11_inside_24 : decode cX11_inside 24 = .ok (.aload_n 0, 1) := by decide +kernel
theorem dX11_inside_25 : decode cX11_inside 25 = .ok (.getfield 13, 3) := by decide +kernel
theorem dX11_inside_28 : decode cX11_inside 28 = .ok (.iconst 2, 1) := by decide +kernel
theorem dX11_inside_29 : decode cX11_inside 29 = .ok (.iaload, 1) := by decide +kernel
theorem dX11_inside_30 : decode cX11_inside 30 = .ok (.if_icmp .ge 32, 3) := by decide +kernel
theorem dX11_inside_33 : decode cX11_inside 33 = .ok (.iload_n 2, 1) := by decide +kernel
theorem dX11_inside_34 : decode cX11_inside 34 = .ok (.aload_n 0, 1) := by decide +kernel
theorem dX11_inside_35 : decode cX11_inside 35 = .ok (.getfield 13, 3) := by decide +kernel
theorem dX11_inside_38 : decode cX11_inside 38 = .ok (.bipush 17, 2) := by decide +kernel
theorem dX11_inside_40 : decode cX11_inside 40 = .ok (.iload_n 3, 1) := by decide +kernel
theorem dX11_inside_41 : decode cX11_inside 41 = .ok (.iadd, 1) := by decide +kernel
theorem dX11_inside_42 : decode cX11_inside 42 = .ok (.iaload, 1) := by decide +kernel
theorem dX11_inside_43 : decode cX11_inside 43 = .ok (.iload_n 1, 1) := by decide +kernel
theorem dX11_inside_44 : decode cX11_inside 44 = .ok (.if_icmp .le 9, 3) := by decide +kernel
theorem dX11_inside_47 : decode cX11_inside 47 = .ok (.iconst 1, 1) := by decide +kernel
theorem dX11_inside_48 : decode cX11_inside 48 = .ok (.iload_n 3, 1) := by decide +kernel
theorem dX11_inside_49 : decode cX11_inside 49 = .ok (.ishl, 1) := by decide +kernel
theorem dX11_inside_50 : decode cX11_inside 50 = .ok (.goto 4, 3) := by decide +kernel
theorem dX11_inside_53 : decode cX11_inside 53 = .ok (.iconst 0, 1) := by decide +kernel
theorem dX11_inside_54 : decode cX11_inside 54 = .ok (.ior, 1) := by decide +kernel
theorem dX11_inside_55 : decode cX11_inside 55 = .ok (.istore_n 2, 1) := by decide +kernel
theorem dX11_inside_56 : decode cX11_inside 56 = .ok (.iinc 3 1, 3) := by decide +kernel
theorem dX11_inside_59 : decode cX11_inside 59 = .ok (.goto (-36), 3) := by decide +kernel
theorem dX11_inside_62 : decode cX11_inside 62 = .ok (.iload_n 2, 1) := by decide +kernel
theorem dX11_inside_63 : decode cX11_inside 63 = .ok (.ireturn, 1) := by decide +kernel
theorem dX11_empty_0 : decode cX11_empty 0 = .ok (.aload_n 0, 1) := by decide +kernel
theorem dX11_empty_1 : decode cX11_empty 1 = .ok (.iconst 0, 1) := by decide +kernel
theorem dX11_empty_2 : decode cX11_empty 2 = .ok (.putfield 149, 3) := by decide +kernel
theorem dX11_empty_5 : decode cX11_empty 5 = .ok (.iconst 0, 1) := by decide +kernel
theorem dX11_empty_6 : decode cX11_empty 6 = .ok (.istore_n 1, 1) := by decide +kernel
theorem dX11_empty_7 : decode cX11_empty 7 = .ok (.iconst 0, 1) := by decide +kernel
theorem dX11_empty_8 : decode cX11_empty 8 = .ok (.istore_n 2, 1) := by decide +kernel
theorem dX11_empty_9 : decode cX11_empty 9 = .ok (.iload_n 2, 1) := by decide +kernel
theorem dX11_empty_10 : decode cX11_empty 10 = .ok (.aload_n 0, 1) := by decide +kernel
theorem dX11_empty_11 : decode cX11_empty 11 = .ok (.getfield 13, 3) := by decide +kernel
theorem dX11_empty_14 : decode cX11_empty 14 = .ok (.iconst 2, 1) := by decide +kernel
theorem dX11_empty_15 : decode cX11_empty 15 = .ok (.iaload, 1) := by decide +kernel
theorem dX11_empty_16 : decode cX11_empty 16 = .ok (.if_icmp .ge 36, 3) := by decide +kernel
theorem dX11_empty_19 : decode cX11_empty 19 = .ok (.aload_n 0, 1) := by decide +kernel
theorem dX11_empty_20 : decode cX11_empty 20 = .ok (.getfield 13, 3) := by decide +kernel
theorem dX11_empty_23 : decode cX11_empty 23 = .ok (.bipush 17, 2) := by decide +kernel
theorem dX11_empty_25 : decode cX11_empty 25 = .ok (.iload_n 2, 1) := by decide +kernel
theorem dX11_empty_26 : decode cX11_empty 26 = .ok (.iadd, 1) := by decide +kernel
theorem dX11_empty_27 : decode cX11_empty 27 = .ok (.iaload, 1) := by decide +kernel
theorem dX11_empty_28 : decode cX11_empty 28 = .ok (.iload_n 1, 1) := by decide +kernel
theorem dX11_empty_29 : decode cX11_empty 29 = .ok (.if_icmp .le 15, 3) := by decide +kernel
theorem dX11_empty_32 : decode cX11_empty 32 = .ok (.aload_n 0, 1) := by decide +kernel
theorem dX11_empty_33 : decode cX11_empty 33 = .ok (.getfield 13, 3) := by decide +kernel
theorem dX11_empty_36 : decode cX11_empty 36 = .ok (.bipush 17, 2) := by decide +kernel
theorem dX11_empty_38 : decode cX11_empty 38 = .ok (.iload_n 2, 1) := by decide +kernel
theorem dX11_empty_39 : decode cX11_empty 39 = .ok (.iadd, 1) := by decide +kernel
theorem dX11_empty_40 : decode cX11_empty 40 = .ok (.iaload, 1) := by decide +kernel
theorem dX11_empty_41 : decode cX11_empty 41 = .ok (.goto 4, 3) := by decide +kernel
theorem dX11_empty_44 : decode cX11_empty 44 = .ok (.iload_n 1, 1) := by decide +kernel
theorem dX11_empty_45 : decode cX11_empty 45 = .ok (.istore_n 1, 1) := by decide +kernel
theorem dX11_empty_46 : decode cX11_empty 46 = .ok (.iinc 2 1, 3) := by decide +kernel
theorem dX11_empty_49 : decode cX11_empty 49 = .ok (.goto (-40), 3) := by decide +kernel
theorem dX11_empty_52 : decode cX11_empty 52 = .ok (.iload_n 1, 1) := by decide +kernel
theorem dX11_empty_53 : decode cX11_empty 53 = .ok (.ireturn, 1) := by decide +kernel
theorem dX11_layCosts_0 : decode cX11_layCosts 0 = .ok (.iconst 0, 1) := by decide +kernel
theorem dX11_layCosts_1 : decode cX11_layCosts 1 = .ok (.istore_n 3, 1) := by decide +kernel
theorem dX11_layCosts_2 : decode cX11_layCosts 2 = .ok (.iload_n 3, 1) := by decide +kernel
theorem dX11_layCosts_3 : decode cX11_layCosts 3 = .ok (.aload_n 0, 1) := by decide +kernel
theorem dX11_layCosts_4 : decode cX11_layCosts 4 = .ok (.getfield 13, 3) := by decide +kernel
theorem dX11_layCosts_7 : decode cX11_layCosts 7 = .ok (.iconst 2, 1) := by decide +kernel
theorem dX11_layCosts_8 : decode cX11_layCosts 8 = .ok (.iaload, 1) := by decide +kernel
theorem dX11_layCosts_9 : decode cX11_layCosts 9 = .ok (.if_icmp .ge 98, 3) := by decide +kernel
theorem dX11_layCosts_12 : decode cX11_layCosts 12 = .ok (.aload_n 0, 1) := by decide +kernel
theorem dX11_layCosts_13 : decode cX11_layCosts 13 = .ok (.getfield 111, 3) := by decide +kernel
theorem dX11_layCosts_16 : decode cX11_layCosts 16 = .ok (.iload_n 3, 1) := by decide +kernel
theorem dX11_layCosts_17 : decode cX11_layCosts 17 = .ok (.ldc_w 470, 3) := by decide +kernel
theorem dX11_layCosts_20 : decode cX11_layCosts 20 = .ok (.iastore, 1) := by decide +kernel
theorem dX11_layCosts_21 : decode cX11_layCosts 21 = .ok (.aload_n 0, 1) := by decide +kernel
theorem dX11_layCosts_22 : decode cX11_layCosts 22 = .ok (.iload_n 3, 1) := by decide +kernel
theorem dX11_layCosts_23 : decode cX11_layCosts 23 = .ok (.invokevirtual 182, 3) := by decide +kernel
theorem dX11_layCosts_26 : decode cX11_layCosts 26 = .ok (.ifCond .eq 75, 3) := by decide +kernel
theorem dX11_layCosts_29 : decode cX11_layCosts 29 = .ok (.aload_n 0, 1) := by decide +kernel
theorem dX11_layCosts_30 : decode cX11_layCosts 30 = .ok (.getfield 13, 3) := by decide +kernel
theorem dX11_layCosts_33 : decode cX11_layCosts 33 = .ok (.bipush 42, 2) := by decide +kernel
theorem dX11_layCosts_35 : decode cX11_layCosts 35 = .ok (.iload_n 3, 1) := by decide +kernel
theorem dX11_layCosts_36 : decode cX11_layCosts 36 = .ok (.iadd, 1) := by decide +kernel
theorem dX11_layCosts_37 : decode cX11_layCosts 37 = .ok (.iaload, 1) := by decide +kernel
theorem dX11_layCosts_38 : decode cX11_layCosts 38 = .ok (.iload_n 1, 1) := by decide +kernel
theorem dX11_layCosts_39 : decode cX11_layCosts 39 = .ok (.if_icmp .ne 62, 3) := by decide +kernel
theorem dX11_layCosts_42 : decode cX11_layCosts 42 = .ok (.aload_n 0, 1) := by decide +kernel
theorem dX11_layCosts_43 : decode cX11_layCosts 43 = .ok (.iload_n 3, 1) := by decide +kernel
theorem dX11_layCosts_44 : decode cX11_layCosts 44 = .ok (.invokevirtual 217, 3) := by decide +kernel
theorem dX11_layCosts_47 : decode cX11_layCosts 47 = .ok (.istore 4, 2) := by decide +kernel
theorem dX11_layCosts_49 : decode cX11_layCosts 49 = .ok (.aload_n 0, 1) := by decide +kernel
theorem dX11_layCosts_50 : decode cX11_layCosts 50 = .ok (.getfield 13, 3) := by decide +kernel
theorem dX11_layCosts_53 : decode cX11_layCosts 53 = .ok (.bipush 17, 2) := by decide +kernel
theorem dX11_layCosts_55 : decode cX11_layCosts 55 = .ok (.iload_n 3, 1) := by decide +kernel
theorem dX11_layCosts_56 : decode cX11_layCosts 56 = .ok (.iadd, 1) := by decide +kernel
theorem dX11_layCosts_57 : decode cX11_layCosts 57 = .ok (.iaload, 1) := by decide +kernel
theorem dX11_layCosts_58 : decode cX11_layCosts 58 = .ok (.iload_n 2, 1) := by decide +kernel
theorem dX11_layCosts_59 : decode cX11_layCosts 59 = .ok (.if_icmp .lt 7, 3) := by decide +kernel
theorem dX11_layCosts_62 : decode cX11_layCosts 62 = .ok (.iconst 0, 1) := by decide +kernel
theorem dX11_layCosts_63 : decode cX11_layCosts 63 = .ok (.goto 22, 3) := by decide +kernel
theorem dX11_layCosts_66 : decode cX11_layCosts 66 = .ok (.iload_n 2, 1) := by decide +kernel
theorem dX11_layCosts_67 : decode cX11_layCosts 67 = .ok (.aload_n 0, 1) := by decide +kernel
theorem dX11_layCosts_68 : decode cX11_layCosts 68 = .ok (.getfield 13, 3) := by decide +kernel
theorem dX11_layCosts_71 : decode cX11_layCosts 71 = .ok (.bipush 17, 2) := by decide +kernel
theorem dX11_layCosts_73 : decode cX11_layCosts 73 = .ok (.iload_n 3, 1) := by decide +kernel
theorem dX11_layCosts_74 : decode cX11_layCosts 74 = .ok (.iadd, 1) := by decide +kernel
theorem dX11_layCosts_75 : decode cX11_layCosts 75 = .ok (.iaload, 1) := by decide +kernel
theorem dX11_layCosts_76 : decode cX11_layCosts 76 = .ok (.isub, 1) := by decide +kernel
theorem dX11_layCosts_77 : decode cX11_layCosts 77 = .ok (.iload 4, 2) := by decide +kernel
theorem dX11_layCosts_79 : decode cX11_layCosts 79 = .ok (.iadd, 1) := by decide +kernel
theorem dX11_layCosts_80 : decode cX11_layCosts 80 = .ok (.iconst 1, 1) := by decide +kernel
theorem dX11_layCosts_81 : decode cX11_layCosts 81 = .ok (.isub, 1) := by decide +kernel
theorem dX11_layCosts_82 : decode cX11_layCosts 82 = .ok (.iload 4, 2) := by decide +kernel
theorem dX11_layCosts_84 : decode cX11_layCosts 84 = .ok (.idiv, 1) := by decide +kernel
theorem dX11_layCosts_85 : decode cX11_layCosts 85 = .ok (.istore 5, 2) := by decide +kernel
theorem dX11_layCosts_87 : decode cX11_layCosts 87 = .ok (.aload_n 0, 1) := by decide +kernel
theorem dX11_layCosts_88 : decode cX11_layCosts 88 = .ok (.getfield 111, 3) := by decide +kernel
theorem dX11_layCosts_91 : decode cX11_layCosts 91 = .ok (.iload_n 3, 1) := by decide +kernel
theorem dX11_layCosts_92 : decode cX11_layCosts 92 = .ok (.iload 5, 2) := by decide +kernel
theorem dX11_layCosts_94 : decode cX11_layCosts 94 = .ok (.aload_n 0, 1) := by decide +kernel
theorem dX11_layCosts_95 : decode cX11_layCosts 95 = .ok (.iload_n 3, 1) := by decide +kernel
theorem dX11_layCosts_96 : decode cX11_layCosts 96 = .ok (.invokevirtual 196, 3) := by decide +kernel
theorem dX11_layCosts_99 : decode cX11_layCosts 99 = .ok (.imul, 1) := by decide +kernel
theorem dX11_layCosts_100 : decode cX11_layCosts 100 = .ok (.iastore, 1) := by decide +kernel
theorem dX11_layCosts_101 : decode cX11_layCosts 101 = .ok (.iinc 3 1, 3) := by decide +kernel
theorem dX11_layCosts_104 : decode cX11_layCosts 104 = .ok (.goto (-102), 3) := by decide +kernel
theorem dX11_layCosts_107 : decode cX11_layCosts 107 = .ok (.return_, 1) := by decide +kernel
theorem dX11_keep_0 : decode cX11_keep 0 = .ok (.aload_n 0, 1) := by decide +kernel
theorem dX11_keep_1 : decode cX11_keep 1 = .ok (.iconst 0, 1) := by decide +kernel
theorem dX11_keep_2 : decode cX11_keep 2 = .ok (.putfield 149, 3) := by decide +kernel
theorem dX11_keep_5 : decode cX11_keep 5 = .ok (.aload_n 0, 1) := by decide +kernel
theorem dX11_keep_6 : decode cX11_keep 6 = .ok (.iload_n 1, 1) := by decide +kernel
theorem dX11_keep_7 : decode cX11_keep 7 = .ok (.invokevirtual 199, 3) := by decide +kernel
theorem dX11_keep_10 : decode cX11_keep 10 = .ok (.ifCond .eq 27, 3) := by decide +kernel
theorem dX11_keep_13 : decode cX11_keep 13 = .ok (.iload_n 2, 1) := by decide +kernel
theorem dX11_keep_14 : decode cX11_keep 14 = .ok (.i2l, 1) := by decide +kernel
theorem dX11_keep_15 : decode cX11_keep 15 = .ok (.lconst 1, 1) := by decide +kernel
theorem dX11_keep_16 : decode cX11_keep 16 = .ok (.ldc2_w 208, 3) := by decide +kernel
theorem dX11_keep_19 : decode cX11_keep 19 = .ok (.invokestatic 169, 3) := by decide +kernel
theorem dX11_keep_22 : decode cX11_keep 22 = .ok (.ifCond .eq 15, 3) := by decide +kernel
theorem dX11_keep_25 : decode cX11_keep 25 = .ok (.iload_n 3, 1) := by decide +kernel
theorem dX11_keep_26 : decode cX11_keep 26 = .ok (.i2l, 1) := by decide +kernel
theorem dX11_keep_27 : decode cX11_keep 27 = .ok (.lconst 0, 1) := by decide +kernel
theorem dX11_keep_28 : decode cX11_keep 28 = .ok (.ldc2_w 471, 3) := by decide +kernel
theorem dX11_keep_31 : decode cX11_keep 31 = .ok (.invokestatic 169, 3) := by decide +kernel
theorem dX11_keep_34 : decode cX11_keep 34 = .ok (.ifCond .ne 5, 3) := by decide +kernel
theorem dX11_keep_37 : decode cX11_keep 37 = .ok (.iconst (-1), 1) := by decide +kernel
theorem dX11_keep_38 : decode cX11_keep 38 = .ok (.ireturn, 1) := by decide +kernel
theorem dX11_keep_39 : decode cX11_keep 39 = .ok (.aload_n 0, 1) := by decide +kernel
theorem dX11_keep_40 : decode cX11_keep 40 = .ok (.iload_n 1, 1) := by decide +kernel
theorem dX11_keep_41 : decode cX11_keep 41 = .ok (.iload_n 2, 1) := by decide +kernel
theorem dX11_keep_42 : decode cX11_keep 42 = .ok (.invokevirtual 473, 3) := by decide +kernel
theorem dX11_keep_45 : decode cX11_keep 45 = .ok (.iconst (-1), 1) := by decide +kernel
theorem dX11_keep_46 : decode cX11_keep 46 = .ok (.istore 4, 2) := by decide +kernel
theorem dX11_keep_48 : decode cX11_keep 48 = .ok (.ldc_w 470, 3) := by decide +kernel
theorem dX11_keep_51 : decode cX11_keep 51 = .ok (.istore 5, 2) := by decide +kernel
theorem dX11_keep_53 : decode cX11_keep 53 = .ok (.iconst 0, 1) := by decide +kernel
theorem dX11_keep_54 : decode cX11_keep 54 = .ok (.istore 6, 2) := by decide +kernel
theorem dX11_keep_56 : decode cX11_keep 56 = .ok (.iconst 0, 1) := by decide +kernel
theorem dX11_keep_57 : decode cX11_keep 57 = .ok (.istore 7, 2) := by decide +kernel
theorem dX11_keep_59 : decode cX11_keep 59 = .ok (.iload 7, 2) := by decide +kernel
theorem dX11_keep_61 : decode cX11_keep 61 = .ok (.iconst 1, 1) := by decide +kernel
theorem dX11_keep_62 : decode cX11_keep 62 = .ok (.aload_n 0, 1) := by decide +kernel
theorem dX11_keep_63 : decode cX11_keep 63 = .ok (.getfield 13, 3) := by decide +kernel
theorem dX11_keep_66 : decode cX11_keep 66 = .ok (.iconst 2, 1) := by decide +kernel
theorem dX11_keep_67 : decode cX11_keep 67 = .ok (.iaload, 1) := by decide +kernel
theorem dX11_keep_68 : decode cX11_keep 68 = .ok (.ishl, 1) := by decide +kernel
theorem dX11_keep_69 : decode cX11_keep 69 = .ok (.if_icmp .ge 151, 3) := by decide +kernel
theorem dX11_keep_72 : decode cX11_keep 72 = .ok (.iconst 0, 1) := by decide +kernel
theorem dX11_keep_73 : decode cX11_keep 73 = .ok (.istore 8, 2) := by decide +kernel
theorem dX11_keep_75 : decode cX11_keep 75 = .ok (.iconst 0, 1) := by decide +kernel
theorem dX11_keep_76 : decode cX11_keep 76 = .ok (.istore 9, 2) := by decide +kernel
theorem dX11_keep_78 : decode cX11_keep 78 = .ok (.iload 9, 2) := by decide +kernel
theorem dX11_keep_80 : decode cX11_keep 80 = .ok (.aload_n 0, 1) := by decide +kernel
theorem dX11_keep_81 : decode cX11_keep 81 = .ok (.getfield 13, 3) := by decide +kernel
theorem dX11_keep_84 : decode cX11_keep 84 = .ok (.iconst 2, 1) := by decide +kernel
theorem dX11_keep_85 : decode cX11_keep 85 = .ok (.iaload, 1) := by decide +kernel
theorem dX11_keep_86 : decode cX11_keep 86 = .ok (.if_icmp .ge 35, 3) := by decide +kernel
theorem dX11_keep_89 : decode cX11_keep 89 = .ok (.iload 8, 2) := by decide +kernel
theorem dX11_keep_91 : decode cX11_keep 91 = .ok (.iload 7, 2) := by decide +kernel
theorem dX11_keep_93 : decode cX11_keep 93 = .ok (.iload 9, 2) := by decide +kernel
theorem dX11_keep_95 : decode cX11_keep 95 = .ok (.invokestatic 476, 3) := by decide +kernel
theorem dX11_keep_98 : decode cX11_keep 98 = .ok (.ifCond .eq 13, 3) := by decide +kernel
theorem dX11_keep_101 : decode cX11_keep 101 = .ok (.aload_n 0, 1) := by decide +kernel
theorem dX11_keep_102 : decode cX11_keep 102 = .ok (.getfield 111, 3) := by decide +kernel
theorem dX11_keep_105 : decode cX11_keep 105 = .ok (.iload 9, 2) := by decide +kernel
theorem dX11_keep_107 : decode cX11_keep 107 = .ok (.iaload, 1) := by decide +kernel
theorem dX11_keep_108 : decode cX11_keep 108 = .ok (.goto 4, 3) := by decide +kernel
theorem dX11_keep_111 : decode cX11_keep 111 = .ok (.iconst 0, 1) := by decide +kernel
theorem dX11_keep_112 : decode cX11_keep 112 = .ok (.iadd, 1) := by decide +kernel
theorem dX11_keep_113 : decode cX11_keep 113 = .ok (.istore 8, 2) := by decide +kernel
theorem dX11_keep_115 : decode cX11_keep 115 = .ok (.iinc 9 1, 3) := by decide +kernel
theorem dX11_keep_118 : decode cX11_keep 118 = .ok (.goto (-40), 3) := by decide +kernel
theorem dX11_keep_121 : decode cX11_keep 121 = .ok (.iload 8, 2) := by decide +kernel
theorem dX11_keep_123 : decode cX11_keep 123 = .ok (.aload_n 0, 1) := by decide +kernel
theorem dX11_keep_124 : decode cX11_keep 124 = .ok (.getfield 13, 3) := by decide +kernel
theorem dX11_keep_127 : decode cX11_keep 127 = .ok (.bipush 33, 2) := by decide +kernel
theorem dX11_keep_129 : decode cX11_keep 129 = .ok (.iload_n 1, 1) := by decide +kernel
theorem dX11_keep_130 : decode cX11_keep 130 = .ok (.iadd, 1) := by decide +kernel
theorem dX11_keep_131 : decode cX11_keep 131 = .ok (.iaload, 1) := by decide +kernel
theorem dX11_keep_132 : decode cX11_keep 132 = .ok (.if_icmp .gt 34, 3) := by decide +kernel
theorem dX11_keep_135 : decode cX11_keep 135 = .ok (.iload 7, 2) := by decide +kernel
theorem dX11_keep_137 : decode cX11_keep 137 = .ok (.invokestatic 179, 3) := by decide +kernel
theorem dX11_keep_140 : decode cX11_keep 140 = .ok (.iload 4, 2) := by decide +kernel
theorem dX11_keep_142 : decode cX11_keep 142 = .ok (.if_icmp .gt 20, 3) := by decide +kernel
theorem dX11_keep_145 : decode cX11_keep 145 = .ok (.iload 7, 2) := by decide +kernel
theorem dX11_keep_147 : decode cX11_keep 147 = .ok (.invokestatic 179, 3) := by decide +kernel
theorem dX11_keep_150 : decode cX11_keep 150 = .ok (.iload 4, 2) := by decide +kernel
theorem dX11_keep_152 : decode cX11_keep 152 = .ok (.if_icmp .ne 14, 3) := by decide +kernel
theorem dX11_keep_155 : decode cX11_keep 155 = .ok (.iload 8, 2) := by decide +kernel
theorem dX11_keep_157 : decode cX11_keep 157 = .ok (.iload 5, 2) := by decide +kernel
theorem dX11_keep_159 : decode cX11_keep 159 = .ok (.if_icmp .ge 7, 3) := by decide +kernel
theorem dX11_keep_162 : decode cX11_keep 162 = .ok (.iconst 1, 1) := by decide +kernel
theorem dX11_keep_163 : decode cX11_keep 163 = .ok (.goto 4, 3) := by decide +kernel
theorem dX11_keep_166 : decode cX11_keep 166 = .ok (.iconst 0, 1) := by decide +kernel
theorem dX11_keep_167 : decode cX11_keep 167 = .ok (.istore 9, 2) := by decide +kernel
theorem dX11_keep_169 : decode cX11_keep 169 = .ok (.iload 9, 2) := by decide +kernel
theorem dX11_keep_171 : decode cX11_keep 171 = .ok (.ifCond .eq 8, 3) := by decide +kernel
theorem dX11_keep_174 : decode cX11_keep 174 = .ok (.iload 7, 2) := by decide +kernel
theorem dX11_keep_176 : decode cX11_keep 176 = .ok (.goto 5, 3) := by decide +kernel
theorem dX11_keep_179 : decode cX11_keep 179 = .ok (.iload 6, 2) := by decide +kernel
theorem dX11_keep_181 : decode cX11_keep 181 = .ok (.istore 6, 2) := by decide +kernel
theorem dX11_keep_183 : decode cX11_keep 183 = .ok (.iload 9, 2) := by decide +kernel
theorem dX11_keep_185 : decode cX11_keep 185 = .ok (.ifCond .eq 11, 3) := by decide +kernel
theorem dX11_keep_188 : decode cX11_keep 188 = .ok (.iload 7, 2) := by decide +kernel
theorem dX11_keep_190 : decode cX11_keep 190 = .ok (.invokestatic 179, 3) := by decide +kernel
theorem dX11_keep_193 : decode cX11_keep 193 = .ok (.goto 5, 3) := by decide +kernel
theorem dX11_keep_196 : decode cX11_keep 196 = .ok (.iload 4, 2) := by decide +kernel
theorem dX11_keep_198 : decode cX11_keep 198 = .ok (.istore 4, 2) := by decide +kernel
theorem dX11_keep_200 : decode cX11_keep 200 = .ok (.iload 9, 2) := by decide +kernel
theorem dX11_keep_202 : decode cX11_keep 202 = .ok (.ifCond .eq 8, 3) := by decide +kernel
theorem dX11_keep_205 : decode cX11_keep 205 = .ok (.iload 8, 2) := by decide +kernel
theorem dX11_keep_207 : decode cX11_keep 207 = .ok (.goto 5, 3) := by decide +kernel
theorem dX11_keep_210 : decode cX11_keep 210 = .ok (.iload 5, 2) := by decide +kernel
theorem dX11_keep_212 : decode cX11_keep 212 = .ok (.istore 5, 2) := by decide +kernel
theorem dX11_keep_214 : decode cX11_keep 214 = .ok (.iinc 7 1, 3) := by decide +kernel
theorem dX11_keep_217 : decode cX11_keep 217 = .ok (.goto (-158), 3) := by decide +kernel
theorem dX11_keep_220 : decode cX11_keep 220 = .ok (.iload_n 3, 1) := by decide +kernel
theorem dX11_keep_221 : decode cX11_keep 221 = .ok (.ifCond .ne 8, 3) := by decide +kernel
theorem dX11_keep_224 : decode cX11_keep 224 = .ok (.iload 4, 2) := by decide +kernel
theorem dX11_keep_226 : decode cX11_keep 226 = .ok (.goto 15, 3) := by decide +kernel
theorem dX11_keep_229 : decode cX11_keep 229 = .ok (.iload_n 3, 1) := by decide +kernel
theorem dX11_keep_230 : decode cX11_keep 230 = .ok (.iconst 1, 1) := by decide +kernel
theorem dX11_keep_231 : decode cX11_keep 231 = .ok (.if_icmp .ne 8, 3) := by decide +kernel
theorem dX11_keep_234 : decode cX11_keep 234 = .ok (.iload 5, 2) := by decide +kernel
theorem dX11_keep_236 : decode cX11_keep 236 = .ok (.goto 5, 3) := by decide +kernel
theorem dX11_keep_239 : decode cX11_keep 239 = .ok (.iload 6, 2) := by decide +kernel
theorem dX11_keep_241 : decode cX11_keep 241 = .ok (.ireturn, 1) := by decide +kernel
theorem dX11_when_0 : decode cX11_when 0 = .ok (.aload_n 0, 1) := by decide +kernel
theorem dX11_when_1 : decode cX11_when 1 = .ok (.iconst 0, 1) := by decide +kernel
theorem dX11_when_2 : decode cX11_when 2 = .ok (.putfield 149, 3) := by decide +kernel
theorem dX11_when_5 : decode cX11_when 5 = .ok (.aload_n 0, 1) := by decide +kernel
theorem dX11_when_6 : decode cX11_when 6 = .ok (.iload_n 1, 1) := by decide +kernel
theorem dX11_when_7 : decode cX11_when 7 = .ok (.invokevirtual 214, 3) := by decide +kernel
theorem dX11_when_10 : decode cX11_when 10 = .ok (.ifCond .eq 21, 3) := by decide +kernel
theorem dX11_when_13 : decode cX11_when 13 = .ok (.iload_n 2, 1) := by decide +kernel
theorem dX11_when_14 : decode cX11_when 14 = .ok (.i2l, 1) := by decide +kernel
theorem dX11_when_15 : decode cX11_when 15 = .ok (.lconst 0, 1) := by decide +kernel
theorem dX11_when_16 : decode cX11_when 16 = .ok (.lconst 1, 1) := by decide +kernel
theorem dX11_when_17 : decode cX11_when 17 = .ok (.invokestatic 169, 3) := by decide +kernel
theorem dX11_when_20 : decode cX11_when 20 = .ok (.ifCond .eq 11, 3) := by decide +kernel
theorem dX11_when_23 : decode cX11_when 23 = .ok (.aload_n 0, 1) := by decide +kernel
theorem dX11_when_24 : decode cX11_when 24 = .ok (.iload_n 1, 1) := by decide +kernel
theorem dX11_when_25 : decode cX11_when 25 = .ok (.invokevirtual 182, 3) := by decide +kernel
theorem dX11_when_28 : decode cX11_when 28 = .ok (.ifCond .ne 5, 3) := by decide +kernel
theorem dX11_when_31 : decode cX11_when 31 = .ok (.iconst (-1), 1) := by decide +kernel
theorem dX11_when_32 : decode cX11_when 32 = .ok (.ireturn, 1) := by decide +kernel
theorem dX11_when_33 : decode cX11_when 33 = .ok (.aload_n 0, 1) := by decide +kernel
theorem dX11_when_34 : decode cX11_when 34 = .ok (.getfield 13, 3) := by decide +kernel
theorem dX11_when_37 : decode cX11_when 37 = .ok (.bipush 17, 2) := by decide +kernel
theorem dX11_when_39 : decode cX11_when 39 = .ok (.iload_n 1, 1) := by decide +kernel
theorem dX11_when_40 : decode cX11_when 40 = .ok (.iadd, 1) := by decide +kernel
theorem dX11_when_41 : decode cX11_when 41 = .ok (.iaload, 1) := by decide +kernel
theorem dX11_when_42 : decode cX11_when 42 = .ok (.istore_n 3, 1) := by decide +kernel
theorem dX11_when_43 : decode cX11_when 43 = .ok (.aload_n 0, 1) := by decide +kernel
theorem dX11_when_44 : decode cX11_when 44 = .ok (.getfield 13, 3) := by decide +kernel
theorem dX11_when_47 : decode cX11_when 47 = .ok (.bipush 6, 2) := by decide +kernel
theorem dX11_when_49 : decode cX11_when 49 = .ok (.iaload, 1) := by decide +kernel
theorem dX11_when_50 : decode cX11_when 50 = .ok (.istore 4, 2) := by decide +kernel
theorem dX11_when_52 : decode cX11_when 52 = .ok (.ldc_w 470, 3) := by decide +kernel
theorem dX11_when_55 : decode cX11_when 55 = .ok (.istore 5, 2) := by decide +kernel
theorem dX11_when_57 : decode cX11_when 57 = .ok (.iconst (-1), 1) := by decide +kernel
theorem dX11_when_58 : decode cX11_when 58 = .ok (.istore 6, 2) := by decide +kernel
theorem dX11_when_60 : decode cX11_when 60 = .ok (.iconst 0, 1) := by decide +kernel
theorem dX11_when_61 : decode cX11_when 61 = .ok (.istore 7, 2) := by decide +kernel
theorem dX11_when_63 : decode cX11_when 63 = .ok (.iload 7, 2) := by decide +kernel
theorem dX11_when_65 : decode cX11_when 65 = .ok (.iload_n 3, 1) := by decide +kernel
theorem dX11_when_66 : decode cX11_when 66 = .ok (.if_icmp .ge 73, 3) := by decide +kernel
theorem dX11_when_69 : decode cX11_when 69 = .ok (.aload_n 0, 1) := by decide +kernel
theorem dX11_when_70 : decode cX11_when 70 = .ok (.getfield 13, 3) := by decide +kernel
theorem dX11_when_73 : decode cX11_when 73 = .ok (.bipush 17, 2) := by decide +kernel
theorem dX11_when_75 : decode cX11_when 75 = .ok (.iload_n 1, 1) := by decide +kernel
theorem dX11_when_76 : decode cX11_when 76 = .ok (.iadd, 1) := by decide +kernel
theorem dX11_when_77 : decode cX11_when 77 = .ok (.iload_n 3, 1) := by decide +kernel
theorem dX11_when_78 : decode cX11_when 78 = .ok (.iload 7, 2) := by decide +kernel
theorem dX11_when_80 : decode cX11_when 80 = .ok (.isub, 1) := by decide +kernel
theorem dX11_when_81 : decode cX11_when 81 = .ok (.iastore, 1) := by decide +kernel
theorem dX11_when_82 : decode cX11_when 82 = .ok (.aload_n 0, 1) := by decide +kernel
theorem dX11_when_83 : decode cX11_when 83 = .ok (.getfield 13, 3) := by decide +kernel
theorem dX11_when_86 : decode cX11_when 86 = .ok (.bipush 6, 2) := by decide +kernel
theorem dX11_when_88 : decode cX11_when 88 = .ok (.iload 4, 2) := by decide +kernel
theorem dX11_when_90 : decode cX11_when 90 = .ok (.iload 7, 2) := by decide +kernel
theorem dX11_when_92 : decode cX11_when 92 = .ok (.iadd, 1) := by decide +kernel
theorem dX11_when_93 : decode cX11_when 93 = .ok (.iastore, 1) := by decide +kernel
theorem dX11_when_94 : decode cX11_when 94 = .ok (.aload_n 0, 1) := by decide +kernel
theorem dX11_when_95 : decode cX11_when 95 = .ok (.iload_n 1, 1) := by decide +kernel
theorem dX11_when_96 : decode cX11_when 96 = .ok (.invokevirtual 196, 3) := by decide +kernel
theorem dX11_when_99 : decode cX11_when 99 = .ok (.istore 8, 2) := by decide +kernel
theorem dX11_when_101 : decode cX11_when 101 = .ok (.iload 8, 2) := by decide +kernel
theorem dX11_when_103 : decode cX11_when 103 = .ok (.iload 5, 2) := by decide +kernel
theorem dX11_when_105 : decode cX11_when 105 = .ok (.if_icmp .ge 8, 3) := by decide +kernel
theorem dX11_when_108 : decode cX11_when 108 = .ok (.iload 7, 2) := by decide +kernel
theorem dX11_when_110 : decode cX11_when 110 = .ok (.goto 5, 3) := by decide +kernel
theorem dX11_when_113 : decode cX11_when 113 = .ok (.iload 6, 2) := by decide +kernel
theorem dX11_when_115 : decode cX11_when 115 = .ok (.istore 6, 2) := by decide +kernel
theorem dX11_when_117 : decode cX11_when 117 = .ok (.iload 8, 2) := by decide +kernel
theorem dX11_when_119 : decode cX11_when 119 = .ok (.iload 5, 2) := by decide +kernel
theorem dX11_when_121 : decode cX11_when 121 = .ok (.if_icmp .ge 8, 3) := by decide +kernel
theorem dX11_when_124 : decode cX11_when 124 = .ok (.iload 8, 2) := by decide +kernel
theorem dX11_when_126 : decode cX11_when 126 = .ok (.goto 5, 3) := by decide +kernel
theorem dX11_when_129 : decode cX11_when 129 = .ok (.iload 5, 2) := by decide +kernel
theorem dX11_when_131 : decode cX11_when 131 = .ok (.istore 5, 2) := by decide +kernel
theorem dX11_when_133 : decode cX11_when 133 = .ok (.iinc 7 1, 3) := by decide +kernel
theorem dX11_when_136 : decode cX11_when 136 = .ok (.goto (-73), 3) := by decide +kernel
theorem dX11_when_139 : decode cX11_when 139 = .ok (.aload_n 0, 1) := by decide +kernel
theorem dX11_when_140 : decode cX11_when 140 = .ok (.getfield 13, 3) := by decide +kernel
theorem dX11_when_143 : decode cX11_when 143 = .ok (.bipush 17, 2) := by decide +kernel
theorem dX11_when_145 : decode cX11_when 145 = .ok (.iload_n 1, 1) := by decide +kernel
theorem dX11_when_146 : decode cX11_when 146 = .ok (.iadd, 1) := by decide +kernel
theorem dX11_when_147 : decode cX11_when 147 = .ok (.iload_n 3, 1) := by decide +kernel
theorem dX11_when_148 : decode cX11_when 148 = .ok (.iastore, 1) := by decide +kernel
theorem dX11_when_149 : decode cX11_when 149 = .ok (.aload_n 0, 1) := by decide +kernel
theorem dX11_when_150 : decode cX11_when 150 = .ok (.getfield 13, 3) := by decide +kernel
theorem dX11_when_153 : decode cX11_when 153 = .ok (.bipush 6, 2) := by decide +kernel
theorem dX11_when_155 : decode cX11_when 155 = .ok (.iload 4, 2) := by decide +kernel
theorem dX11_when_157 : decode cX11_when 157 = .ok (.iastore, 1) := by decide +kernel
theorem dX11_when_158 : decode cX11_when 158 = .ok (.iload_n 2, 1) := by decide +kernel
theorem dX11_when_159 : decode cX11_when 159 = .ok (.ifCond .ne 8, 3) := by decide +kernel
theorem dX11_when_162 : decode cX11_when 162 = .ok (.iload 6, 2) := by decide +kernel
theorem dX11_when_164 : decode cX11_when 164 = .ok (.goto 5, 3) := by decide +kernel
theorem dX11_when_167 : decode cX11_when 167 = .ok (.iload 5, 2) := by decide +kernel
theorem dX11_when_169 : decode cX11_when 169 = .ok (.ireturn, 1) := by decide +kernel
theorem dX11_seen_0 : decode cX11_seen 0 = .ok (.aload_n 0, 1) := by decide +kernel
theorem dX11_seen_1 : decode cX11_seen 1 = .ok (.iconst 0, 1) := by decide +kernel
theorem dX11_seen_2 : decode cX11_seen 2 = .ok (.putfield 149, 3) := by decide +kernel
theorem dX11_seen_5 : decode cX11_seen 5 = .ok (.iload_n 1, 1) := by decide +kernel
theorem dX11_seen_6 : decode cX11_seen 6 = .ok (.i2l, 1) := by decide +kernel
theorem dX11_seen_7 : decode cX11_seen 7 = .ok (.lconst 0, 1) := by decide +kernel
theorem dX11_seen_8 : decode cX11_seen 8 = .ok (.ldc2_w 208, 3) := by decide +kernel
theorem dX11_seen_11 : decode cX11_seen 11 = .ok (.invokestatic 169, 3) := by decide +kernel
theorem dX11_seen_14 : decode cX11_seen 14 = .ok (.ifCond .eq 13, 3) := by decide +kernel
theorem dX11_seen_17 : decode cX11_seen 17 = .ok (.iload_n 2, 1) := by decide +kernel
theorem dX11_seen_18 : decode cX11_seen 18 = .ok (.i2l, 1) := by decide +kernel
theorem dX11_seen_19 : decode cX11_seen 19 = .ok (.lconst 0, 1) := by decide +kernel
theorem dX11_seen_20 : decode cX11_seen 20 = .ok (.lconst 1, 1) := by decide +kernel
theorem dX11_seen_21 : decode cX11_seen 21 = .ok (.invokestatic 169, 3) := by decide +kernel
theorem dX11_seen_24 : decode cX11_seen 24 = .ok (.ifCond .ne 9, 3) := by decide +kernel
theorem dX11_seen_27 : decode cX11_seen 27 = .ok (.aload_n 0, 1) := by decide +kernel
theorem dX11_seen_28 : decode cX11_seen 28 = .ok (.iconst (-1), 1) := by decide +kernel
theorem dX11_seen_29 : decode cX11_seen 29 = .ok (.invokevirtual 158, 3) := by decide +kernel
theorem dX11_seen_32 : decode cX11_seen 32 = .ok (.ireturn, 1) := by decide +kernel
theorem dX11_seen_33 : decode cX11_seen 33 = .ok (.aload_n 0, 1) := by decide +kernel
theorem dX11_seen_34 : decode cX11_seen 34 = .ok (.getfield 13, 3) := by decide +kernel
theorem dX11_seen_37 : decode cX11_seen 37 = .ok (.iconst 3, 1) := by decide +kernel
theorem dX11_seen_38 : decode cX11_seen 38 = .ok (.iaload, 1) := by decide +kernel
theorem dX11_seen_39 : decode cX11_seen 39 = .ok (.istore_n 3, 1) := by decide +kernel
theorem dX11_seen_40 : decode cX11_seen 40 = .ok (.iload_n 3, 1) := by decide +kernel
theorem dX11_seen_41 : decode cX11_seen 41 = .ok (.bipush 8, 2) := by decide +kernel
theorem dX11_seen_43 : decode cX11_seen 43 = .ok (.if_icmp .ne 10, 3) := by decide +kernel
theorem dX11_seen_46 : decode cX11_seen 46 = .ok (.aload_n 0, 1) := by decide +kernel
theorem dX11_seen_47 : decode cX11_seen 47 = .ok (.bipush (-5), 2) := by decide +kernel
theorem dX11_seen_49 : decode cX11_seen 49 = .ok (.invokevirtual 158, 3) := by decide +kernel
theorem dX11_seen_52 : decode cX11_seen 52 = .ok (.ireturn, 1) := by decide +kernel
theorem dX11_seen_53 : decode cX11_seen 53 = .ok (.aload_n 0, 1) := by decide +kernel
theorem dX11_seen_54 : decode cX11_seen 54 = .ok (.getfield 13, 3) := by decide +kernel
theorem dX11_seen_57 : decode cX11_seen 57 = .ok (.bipush 90, 2) := by decide +kernel
theorem dX11_seen_59 : decode cX11_seen 59 = .ok (.iconst 2, 1) := by decide +kernel
theorem dX11_seen_60 : decode cX11_seen 60 = .ok (.iload_n 3, 1) := by decide +kernel
theorem dX11_seen_61 : decode cX11_seen 61 = .ok (.imul, 1) := by decide +kernel
theorem dX11_seen_62 : decode cX11_seen 62 = .ok (.iadd, 1) := by decide +kernel
theorem dX11_seen_63 : decode cX11_seen 63 = .ok (.iload_n 1, 1) := by decide +kernel
theorem dX11_seen_64 : decode cX11_seen 64 = .ok (.iastore, 1) := by decide +kernel
theorem dX11_seen_65 : decode cX11_seen 65 = .ok (.aload_n 0, 1) := by decide +kernel
theorem dX11_seen_66 : decode cX11_seen 66 = .ok (.getfield 13, 3) := by decide +kernel
theorem dX11_seen_69 : decode cX11_seen 69 = .ok (.bipush 90, 2) := by decide +kernel
theorem dX11_seen_71 : decode cX11_seen 71 = .ok (.iconst 2, 1) := by decide +kernel
theorem dX11_seen_72 : decode cX11_seen 72 = .ok (.iload_n 3, 1) := by decide +kernel
theorem dX11_seen_73 : decode cX11_seen 73 = .ok (.imul, 1) := by decide +kernel
theorem dX11_seen_74 : decode cX11_seen 74 = .ok (.iadd, 1) := by decide +kernel
theorem dX11_seen_75 : decode cX11_seen 75 = .ok (.iconst 1, 1) := by decide +kernel
theorem dX11_seen_76 : decode cX11_seen 76 = .ok (.iadd, 1) := by decide +kernel
theorem dX11_seen_77 : decode cX11_seen 77 = .ok (.iload_n 2, 1) := by decide +kernel
theorem dX11_seen_78 : decode cX11_seen 78 = .ok (.iastore, 1) := by decide +kernel
theorem dX11_seen_79 : decode cX11_seen 79 = .ok (.aload_n 0, 1) := by decide +kernel
theorem dX11_seen_80 : decode cX11_seen 80 = .ok (.getfield 13, 3) := by decide +kernel
theorem dX11_seen_83 : decode cX11_seen 83 = .ok (.iconst 3, 1) := by decide +kernel
theorem dX11_seen_84 : decode cX11_seen 84 = .ok (.dup2, 1) := by decide +kernel
theorem dX11_seen_85 : decode cX11_seen 85 = .ok (.iaload, 1) := by decide +kernel
theorem dX11_seen_86 : decode cX11_seen 86 = .ok (.iconst 1, 1) := by decide +kernel
theorem dX11_seen_87 : decode cX11_seen 87 = .ok (.iadd, 1) := by decide +kernel
theorem dX11_seen_88 : decode cX11_seen 88 = .ok (.iastore, 1) := by decide +kernel
theorem dX11_seen_89 : decode cX11_seen 89 = .ok (.aload_n 0, 1) := by decide +kernel
theorem dX11_seen_90 : decode cX11_seen 90 = .ok (.iload_n 3, 1) := by decide +kernel
theorem dX11_seen_91 : decode cX11_seen 91 = .ok (.iconst 1, 1) := by decide +kernel
theorem dX11_seen_92 : decode cX11_seen 92 = .ok (.iadd, 1) := by decide +kernel
theorem dX11_seen_93 : decode cX11_seen 93 = .ok (.invokevirtual 158, 3) := by decide +kernel
theorem dX11_seen_96 : decode cX11_seen 96 = .ok (.ireturn, 1) := by decide +kernel
theorem dX11_forget_0 : decode cX11_forget 0 = .ok (.aload_n 0, 1) := by decide +kernel
theorem dX11_forget_1 : decode cX11_forget 1 = .ok (.iconst 0, 1) := by decide +kernel
theorem dX11_forget_2 : decode cX11_forget 2 = .ok (.putfield 149, 3) := by decide +kernel
theorem dX11_forget_5 : decode cX11_forget 5 = .ok (.aload_n 0, 1) := by decide +kernel
theorem dX11_forget_6 : decode cX11_forget 6 = .ok (.getfield 13, 3) := by decide +kernel
theorem dX11_forget_9 : decode cX11_forget 9 = .ok (.iconst 3, 1) := by decide +kernel
theorem dX11_forget_10 : decode cX11_forget 10 = .ok (.iaload, 1) := by decide +kernel
theorem dX11_forget_11 : decode cX11_forget 11 = .ok (.istore_n 1, 1) := by decide +kernel
theorem dX11_forget_12 : decode cX11_forget 12 = .ok (.aload_n 0, 1) := by decide +kernel
theorem dX11_forget_13 : decode cX11_forget 13 = .ok (.getfield 13, 3) := by decide +kernel
theorem dX11_forget_16 : decode cX11_forget 16 = .ok (.iconst 3, 1) := by decide +kernel
theorem dX11_forget_17 : decode cX11_forget 17 = .ok (.iconst 0, 1) := by decide +kernel
theorem dX11_forget_18 : decode cX11_forget 18 = .ok (.iastore, 1) := by decide +kernel
theorem dX11_forget_19 : decode cX11_forget 19 = .ok (.iload_n 1, 1) := by decide +kernel
theorem dX11_forget_20 : decode cX11_forget 20 = .ok (.ireturn, 1) := by decide +kernel
theorem dX11_outIn_0 : decode cX11_outIn 0 = .ok (.aload_n 0, 1) := by decide +kernel
theorem dX11_outIn_1 : decode cX11_outIn 1 = .ok (.getfield 13, 3) := by decide +kernel
theorem dX11_outIn_4 : decode cX11_outIn 4 = .ok (.bipush 17, 2) := by decide +kernel
theorem dX11_outIn_6 : decode cX11_outIn 6 = .ok (.iload_n 1, 1) := by decide +kernel
theorem dX11_outIn_7 : decode cX11_outIn 7 = .ok (.iadd, 1) := by decide +kernel
theorem dX11_outIn_8 : decode cX11_outIn 8 = .ok (.iaload, 1) := by decide +kernel
theorem dX11_outIn_9 : decode cX11_outIn 9 = .ok (.iload_n 2, 1) := by decide +kernel
theorem dX11_outIn_10 : decode cX11_outIn 10 = .ok (.if_icmp .gt 7, 3) := by decide +kernel
theorem dX11_outIn_13 : decode cX11_outIn 13 = .ok (.iconst 1, 1) := by decide +kernel
theorem dX11_outIn_14 : decode cX11_outIn 14 = .ok (.goto 4, 3) := by decide +kernel
theorem dX11_outIn_17 : decode cX11_outIn 17 = .ok (.iconst 0, 1) := by decide +kernel
theorem dX11_outIn_18 : decode cX11_outIn 18 = .ok (.ireturn, 1) := by decide +kernel
theorem dX11_strangers_0 : decode cX11_strangers 0 = .ok (.iconst 0, 1) := by decide +kernel
theorem dX11_strangers_1 : decode cX11_strangers 1 = .ok (.istore_n 1, 1) := by decide +kernel
theorem dX11_strangers_2 : decode cX11_strangers 2 = .ok (.iconst 0, 1) := by decide +kernel
theorem dX11_strangers_3 : decode cX11_strangers 3 = .ok (.istore_n 2, 1) := by decide +kernel
theorem dX11_strangers_4 : decode cX11_strangers 4 = .ok (.iload_n 2, 1) := by decide +kernel
theorem dX11_strangers_5 : decode cX11_strangers 5 = .ok (.aload_n 0, 1) := by decide +kernel
theorem dX11_strangers_6 : decode cX11_strangers 6 = .ok (.getfield 13, 3) := by decide +kernel
theorem dX11_strangers_9 : decode cX11_strangers 9 = .ok (.iconst 2, 1) := by decide +kernel
theorem dX11_strangers_10 : decode cX11_strangers 10 = .ok (.iaload, 1) := by decide +kernel
theorem dX11_strangers_11 : decode cX11_strangers 11 = .ok (.if_icmp .ge 89, 3) := by decide +kernel
theorem dX11_strangers_14 : decode cX11_strangers 14 = .ok (.iconst 1, 1) := by decide +kernel
theorem dX11_strangers_15 : decode cX11_strangers 15 = .ok (.istore_n 3, 1) := by decide +kernel
theorem dX11_strangers_16 : decode cX11_strangers 16 = .ok (.iconst 0, 1) := by decide +kernel
theorem dX11_strangers_17 : decode cX11_strangers 17 = .ok (.istore 4, 2) := by decide +kernel
theorem dX11_strangers_19 : decode cX11_strangers 19 = .ok (.iload 4, 2) := by decide +kernel
theorem dX11_strangers_21 : decode cX11_strangers 21 = .ok (.aload_n 0, 1) := by decide +kernel
theorem dX11_strangers_22 : decode cX11_strangers 22 = .ok (.getfield 13, 3) := by decide +kernel
theorem dX11_strangers_25 : decode cX11_strangers 25 = .ok (.iconst 3, 1) := by decide +kernel
theorem dX11_strangers_26 : decode cX11_strangers 26 = .ok (.iaload, 1) := by decide +kernel
theorem dX11_strangers_27 : decode cX11_strangers 27 = .ok (.if_icmp .ge 53, 3) := by decide +kernel
theorem dX11_strangers_30 : decode cX11_strangers 30 = .ok (.iload_n 3, 1) := by decide +kernel
theorem dX11_strangers_31 : decode cX11_strangers 31 = .ok (.ifCond .eq 41, 3) := by decide +kernel
theorem dX11_strangers_34 : decode cX11_strangers 34 = .ok (.aload_n 0, 1) := by decide +kernel
theorem dX11_strangers_35 : decode cX11_strangers 35 = .ok (.iload_n 2, 1) := by decide +kernel
theorem dX11_strangers_36 : decode cX11_strangers 36 = .ok (.aload_n 0, 1) := by decide +kernel
theorem dX11_strangers_37 : decode cX11_strangers 37 = .ok (.getfield 13, 3) := by decide +kernel
theorem dX11_strangers_40 : decode cX11_strangers 40 = .ok (.bipush 90, 2) := by decide +kernel
theorem dX11_strangers_42 : decode cX11_strangers 42 = .ok (.iconst 2, 1) := by decide +kernel
theorem dX11_strangers_43 : decode cX11_strangers 43 = .ok (.iload 4, 2) := by decide +kernel
theorem dX11_strangers_45 : decode cX11_strangers 45 = .ok (.imul, 1) := by decide +kernel
theorem dX11_strangers_46 : decode cX11_strangers 46 = .ok (.iadd, 1) := by decide +kernel
theorem dX11_strangers_47 : decode cX11_strangers 47 = .ok (.iaload, 1) := by decide +kernel
theorem dX11_strangers_48 : decode cX11_strangers 48 = .ok (.invokevirtual 479, 3) := by decide +kernel
theorem dX11_strangers_51 : decode cX11_strangers 51 = .ok (.aload_n 0, 1) := by decide +kernel
theorem dX11_strangers_52 : decode cX11_strangers 52 = .ok (.getfield 13, 3) := by decide +kernel
theorem dX11_strangers_55 : decode cX11_strangers 55 = .ok (.bipush 90, 2) := by decide +kernel
theorem dX11_strangers_57 : decode cX11_strangers 57 = .ok (.iconst 2, 1) := by decide +kernel
theorem dX11_strangers_58 : decode cX11_strangers 58 = .ok (.iload 4, 2) := by decide +kernel
theorem dX11_strangers_60 : decode cX11_strangers 60 = .ok (.imul, 1) := by decide +kernel
theorem dX11_strangers_61 : decode cX11_strangers 61 = .ok (.iadd, 1) := by decide +kernel
theorem dX11_strangers_62 : decode cX11_strangers 62 = .ok (.iconst 1, 1) := by decide +kernel
theorem dX11_strangers_63 : decode cX11_strangers 63 = .ok (.iadd, 1) := by decide +kernel
theorem dX11_strangers_64 : decode cX11_strangers 64 = .ok (.iaload, 1) := by decide +kernel
theorem dX11_strangers_65 : decode cX11_strangers 65 = .ok (.if_icmp .ne 7, 3) := by decide +kernel
theorem dX11_strangers_68 : decode cX11_strangers 68 = .ok (.iconst 1, 1) := by decide +kernel
theorem dX11_strangers_69 : decode cX11_strangers 69 = .ok (.goto 4, 3) := by decide +kernel
theorem dX11_strangers_72 : decode cX11_strangers 72 = .ok (.iconst 0, 1) := by decide +kernel
theorem dX11_strangers_73 : decode cX11_strangers 73 = .ok (.istore_n 3, 1) := by decide +kernel
theorem dX11_strangers_74 : decode cX11_strangers 74 = .ok (.iinc 4 1, 3) := by decide +kernel
theorem dX11_strangers_77 : decode cX11_strangers 77 = .ok (.goto (-58), 3) := by decide +kernel
theorem dX11_strangers_80 : decode cX11_strangers 80 = .ok (.iload_n 1, 1) := by decide +kernel
theorem dX11_strangers_81 : decode cX11_strangers 81 = .ok (.iload_n 3, 1) := by decide +kernel
theorem dX11_strangers_82 : decode cX11_strangers 82 = .ok (.ifCond .eq 9, 3) := by decide +kernel
theorem dX11_strangers_85 : decode cX11_strangers 85 = .ok (.iconst 1, 1) := by decide +kernel
theorem dX11_strangers_86 : decode cX11_strangers 86 = .ok (.iload_n 2, 1) := by decide +kernel
theorem dX11_strangers_87 : decode cX11_strangers 87 = .ok (.ishl, 1) := by decide +kernel
theorem dX11_strangers_88 : decode cX11_strangers 88 = .ok (.goto 4, 3) := by decide +kernel
theorem dX11_strangers_91 : decode cX11_strangers 91 = .ok (.iconst 0, 1) := by decide +kernel
theorem dX11_strangers_92 : decode cX11_strangers 92 = .ok (.ior, 1) := by decide +kernel
theorem dX11_strangers_93 : decode cX11_strangers 93 = .ok (.istore_n 1, 1) := by decide +kernel
theorem dX11_strangers_94 : decode cX11_strangers 94 = .ok (.iinc 2 1, 3) := by decide +kernel
theorem dX11_strangers_97 : decode cX11_strangers 97 = .ok (.goto (-93), 3) := by decide +kernel
theorem dX11_strangers_100 : decode cX11_strangers 100 = .ok (.iload_n 1, 1) := by decide +kernel
theorem dX11_strangers_101 : decode cX11_strangers 101 = .ok (.ireturn, 1) := by decide +kernel
theorem dX11_stranger_0 : decode cX11_stranger 0 = .ok (.aload_n 0, 1) := by decide +kernel
theorem dX11_stranger_1 : decode cX11_stranger 1 = .ok (.iconst 0, 1) := by decide +kernel
theorem dX11_stranger_2 : decode cX11_stranger 2 = .ok (.putfield 149, 3) := by decide +kernel
theorem dX11_stranger_5 : decode cX11_stranger 5 = .ok (.aload_n 0, 1) := by decide +kernel
theorem dX11_stranger_6 : decode cX11_stranger 6 = .ok (.invokevirtual 482, 3) := by decide +kernel
theorem dX11_stranger_9 : decode cX11_stranger 9 = .ok (.ireturn, 1) := by decide +kernel
theorem dX11_look_0 : decode cX11_look 0 = .ok (.aload_n 0, 1) := by decide +kernel
theorem dX11_look_1 : decode cX11_look 1 = .ok (.iconst 0, 1) := by decide +kernel
theorem dX11_look_2 : decode cX11_look 2 = .ok (.putfield 149, 3) := by decide +kernel
theorem dX11_look_5 : decode cX11_look 5 = .ok (.aload_n 0, 1) := by decide +kernel
theorem dX11_look_6 : decode cX11_look 6 = .ok (.invokevirtual 482, 3) := by decide +kernel
theorem dX11_look_9 : decode cX11_look 9 = .ok (.istore_n 2, 1) := by decide +kernel
theorem dX11_look_10 : decode cX11_look 10 = .ok (.iload_n 1, 1) := by decide +kernel
theorem dX11_look_11 : decode cX11_look 11 = .ok (.i2l, 1) := by decide +kernel
theorem dX11_look_12 : decode cX11_look 12 = .ok (.lconst 0, 1) := by decide +kernel
theorem dX11_look_13 : decode cX11_look 13 = .ok (.lconst 1, 1) := by decide +kernel
theorem dX11_look_14 : decode cX11_look 14 = .ok (.invokestatic 169, 3) := by decide +kernel
theorem dX11_look_17 : decode cX11_look 17 = .ok (.ifCond .eq 7, 3) := by decide +kernel
theorem dX11_look_20 : decode cX11_look 20 = .ok (.iload_n 2, 1) := by decide +kernel
theorem dX11_look_21 : decode cX11_look 21 = .ok (.ifCond .ne 5, 3) := by decide +kernel
theorem dX11_look_24 : decode cX11_look 24 = .ok (.iconst (-1), 1) := by decide +kernel
theorem dX11_look_25 : decode cX11_look 25 = .ok (.ireturn, 1) := by decide +kernel
theorem dX11_look_26 : decode cX11_look 26 = .ok (.ldc_w 470, 3) := by decide +kernel
theorem dX11_look_29 : decode cX11_look 29 = .ok (.istore_n 3, 1) := by decide +kernel
theorem dX11_look_30 : decode cX11_look 30 = .ok (.iconst (-1), 1) := by decide +kernel
theorem dX11_look_31 : decode cX11_look 31 = .ok (.istore 4, 2) := by decide +kernel
theorem dX11_look_33 : decode cX11_look 33 = .ok (.iconst 0, 1) := by decide +kernel
theorem dX11_look_34 : decode cX11_look 34 = .ok (.istore 5, 2) := by decide +kernel
theorem dX11_look_36 : decode cX11_look 36 = .ok (.iload 5, 2) := by decide +kernel
theorem dX11_look_38 : decode cX11_look 38 = .ok (.bipush 99, 2) := by decide +kernel
theorem dX11_look_40 : decode cX11_look 40 = .ok (.if_icmp .gt 112, 3) := by decide +kernel
theorem dX11_look_43 : decode cX11_look 43 = .ok (.iconst 0, 1) := by decide +kernel
theorem dX11_look_44 : decode cX11_look 44 = .ok (.istore 6, 2) := by decide +kernel
theorem dX11_look_46 : decode cX11_look 46 = .ok (.iconst 0, 1) := by decide +kernel
theorem dX11_look_47 : decode cX11_look 47 = .ok (.istore 7, 2) := by decide +kernel
theorem dX11_look_49 : decode cX11_look 49 = .ok (.iload 7, 2) := by decide +kernel
theorem dX11_look_51 : decode cX11_look 51 = .ok (.aload_n 0, 1) := by decide +kernel
theorem dX11_look_52 : decode cX11_look 52 = .ok (.getfield 13, 3) := by decide +kernel
theorem dX11_look_55 : decode cX11_look 55 = .ok (.iconst 2, 1) := by decide +kernel
theorem dX11_look_56 : decode cX11_look 56 = .ok (.iaload, 1) := by decide +kernel
theorem dX11_look_57 : decode cX11_look 57 = .ok (.if_icmp .ge 35, 3) := by decide +kernel
theorem dX11_look_60 : decode cX11_look 60 = .ok (.iload 6, 2) := by decide +kernel
theorem dX11_look_62 : decode cX11_look 62 = .ok (.iload_n 2, 1) := by decide +kernel
theorem dX11_look_63 : decode cX11_look 63 = .ok (.iload 7, 2) := by decide +kernel
theorem dX11_look_65 : decode cX11_look 65 = .ok (.invokestatic 476, 3) := by decide +kernel
theorem dX11_look_68 : decode cX11_look 68 = .ok (.ifCond .eq 14, 3) := by decide +kernel
theorem dX11_look_71 : decode cX11_look 71 = .ok (.aload_n 0, 1) := by decide +kernel
theorem dX11_look_72 : decode cX11_look 72 = .ok (.iload 7, 2) := by decide +kernel
theorem dX11_look_74 : decode cX11_look 74 = .ok (.iload 5, 2) := by decide +kernel
theorem dX11_look_76 : decode cX11_look 76 = .ok (.invokevirtual 479, 3) := by decide +kernel
theorem dX11_look_79 : decode cX11_look 79 = .ok (.goto 4, 3) := by decide +kernel
theorem dX11_look_82 : decode cX11_look 82 = .ok (.iconst 0, 1) := by decide +kernel
theorem dX11_look_83 : decode cX11_look 83 = .ok (.iadd, 1) := by decide +kernel
theorem dX11_look_84 : decode cX11_look 84 = .ok (.istore 6, 2) := by decide +kernel
theorem dX11_look_86 : decode cX11_look 86 = .ok (.iinc 7 1, 3) := by decide +kernel
theorem dX11_look_89 : decode cX11_look 89 = .ok (.goto (-40), 3) := by decide +kernel
theorem dX11_look_92 : decode cX11_look 92 = .ok (.iload 6, 2) := by decide +kernel
theorem dX11_look_94 : decode cX11_look 94 = .ok (.iload_n 2, 1) := by decide +kernel
theorem dX11_look_95 : decode cX11_look 95 = .ok (.invokestatic 179, 3) := by decide +kernel
theorem dX11_look_98 : decode cX11_look 98 = .ok (.iload 6, 2) := by decide +kernel
theorem dX11_look_100 : decode cX11_look 100 = .ok (.isub, 1) := by decide +kernel
theorem dX11_look_101 : decode cX11_look 101 = .ok (.if_icmp .le 8, 3) := by decide +kernel
theorem dX11_look_104 : decode cX11_look 104 = .ok (.iload 6, 2) := by decide +kernel
theorem dX11_look_106 : decode cX11_look 106 = .ok (.goto 10, 3) := by decide +kernel
theorem dX11_look_109 : decode cX11_look 109 = .ok (.iload_n 2, 1) := by decide +kernel
theorem dX11_look_110 : decode cX11_look 110 = .ok (.invokestatic 179, 3) := by decide +kernel
theorem dX11_look_113 : decode cX11_look 113 = .ok (.iload 6, 2) := by decide +kernel
theorem dX11_look_115 : decode cX11_look 115 = .ok (.isub, 1) := by decide +kernel
theorem dX11_look_116 : decode cX11_look 116 = .ok (.istore 7, 2) := by decide +kernel
theorem dX11_look_118 : decode cX11_look 118 = .ok (.iload 7, 2) := by decide +kernel
theorem dX11_look_120 : decode cX11_look 120 = .ok (.iload_n 3, 1) := by decide +kernel
theorem dX11_look_121 : decode cX11_look 121 = .ok (.if_icmp .ge 8, 3) := by decide +kernel
theorem dX11_look_124 : decode cX11_look 124 = .ok (.iload 5, 2) := by decide +kernel
theorem dX11_look_126 : decode cX11_look 126 = .ok (.goto 5, 3) := by decide +kernel
theorem dX11_look_129 : decode cX11_look 129 = .ok (.iload 4, 2) := by decide +kernel
theorem dX11_look_131 : decode cX11_look 131 = .ok (.istore 4, 2) := by decide +kernel
theorem dX11_look_133 : decode cX11_look 133 = .ok (.iload 7, 2) := by decide +kernel
theorem dX11_look_135 : decode cX11_look 135 = .ok (.iload_n 3, 1) := by decide +kernel
theorem dX11_look_136 : decode cX11_look 136 = .ok (.if_icmp .ge 8, 3) := by decide +kernel
theorem dX11_look_139 : decode cX11_look 139 = .ok (.iload 7, 2) := by decide +kernel
theorem dX11_look_141 : decode cX11_look 141 = .ok (.goto 4, 3) := by decide +kernel
theorem dX11_look_144 : decode cX11_look 144 = .ok (.iload_n 3, 1) := by decide +kernel
theorem dX11_look_145 : decode cX11_look 145 = .ok (.istore_n 3, 1) := by decide +kernel
theorem dX11_look_146 : decode cX11_look 146 = .ok (.iinc 5 1, 3) := by decide +kernel
theorem dX11_look_149 : decode cX11_look 149 = .ok (.goto (-113), 3) := by decide +kernel
theorem dX11_look_152 : decode cX11_look 152 = .ok (.iload_n 1, 1) := by decide +kernel
theorem dX11_look_153 : decode cX11_look 153 = .ok (.ifCond .ne 8, 3) := by decide +kernel
theorem dX11_look_156 : decode cX11_look 156 = .ok (.iload 4, 2) := by decide +kernel
theorem dX11_look_158 : decode cX11_look 158 = .ok (.goto 4, 3) := by decide +kernel
theorem dX11_look_161 : decode cX11_look 161 = .ok (.iload_n 3, 1) := by decide +kernel
theorem dX11_look_162 : decode cX11_look 162 = .ok (.ireturn, 1) := by decide +kernel
theorem dX11_layBarred_0 : decode cX11_layBarred 0 = .ok (.iconst 0, 1) := by decide +kernel
theorem dX11_layBarred_1 : decode cX11_layBarred 1 = .ok (.istore_n 1, 1) := by decide +kernel
theorem dX11_layBarred_2 : decode cX11_layBarred 2 = .ok (.iload_n 1, 1) := by decide +kernel
theorem dX11_layBarred_3 : decode cX11_layBarred 3 = .ok (.aload_n 0, 1) := by decide +kernel
theorem dX11_layBarred_4 : decode cX11_layBarred 4 = .ok (.getfield 13, 3) := by decide +kernel
theorem dX11_layBarred_7 : decode cX11_layBarred 7 = .ok (.iconst 2, 1) := by decide +kernel
theorem dX11_layBarred_8 : decode cX11_layBarred 8 = .ok (.iaload, 1) := by decide +kernel
theorem dX11_layBarred_9 : decode cX11_layBarred 9 = .ok (.if_icmp .ge 43, 3) := by decide +kernel
theorem dX11_layBarred_12 : decode cX11_layBarred 12 = .ok (.iconst 0, 1) := by decide +kernel
theorem dX11_layBarred_13 : decode cX11_layBarred 13 = .ok (.istore_n 2, 1) := by decide +kernel
theorem dX11_layBarred_14 : decode cX11_layBarred 14 = .ok (.iload_n 2, 1) := by decide +kernel
theorem dX11_layBarred_15 : decode cX11_layBarred 15 = .ok (.aload_n 0, 1) := by decide +kernel
theorem dX11_layBarred_16 : decode cX11_layBarred 16 = .ok (.getfield 13, 3) := by decide +kernel
theorem dX11_layBarred_19 : decode cX11_layBarred 19 = .ok (.iconst 0, 1) := by decide +kernel
theorem dX11_layBarred_20 : decode cX11_layBarred 20 = .ok (.iaload, 1) := by decide +kernel
theorem dX11_layBarred_21 : decode cX11_layBarred 21 = .ok (.if_icmp .ge 25, 3) := by decide +kernel
theorem dX11_layBarred_24 : decode cX11_layBarred 24 = .ok (.aload_n 0, 1) := by decide +kernel
theorem dX11_layBarred_25 : decode cX11_layBarred 25 = .ok (.getfield 117, 3) := by decide +kernel
theorem dX11_layBarred_28 : decode cX11_layBarred 28 = .ok (.iconst 5, 1) := by decide +kernel
theorem dX11_layBarred_29 : decode cX11_layBarred 29 = .ok (.iload_n 1, 1) := by decide +kernel
theorem dX11_layBarred_30 : decode cX11_layBarred 30 = .ok (.imul, 1) := by decide +kernel
theorem dX11_layBarred_31 : decode cX11_layBarred 31 = .ok (.iload_n 2, 1) := by decide +kernel
theorem dX11_layBarred_32 : decode cX11_layBarred 32 = .ok (.iadd, 1) := by decide +kernel
theorem dX11_layBarred_33 : decode cX11_layBarred 33 = .ok (.aload_n 0, 1) := by decide +kernel
theorem dX11_layBarred_34 : decode cX11_layBarred 34 = .ok (.iload_n 1, 1) := by decide +kernel
theorem dX11_layBarred_35 : decode cX11_layBarred 35 = .ok (.iload_n 2, 1) := by decide +kernel
theorem dX11_layBarred_36 : decode cX11_layBarred 36 = .ok (.invokevirtual 220, 3) := by decide +kernel
theorem dX11_layBarred_39 : decode cX11_layBarred 39 = .ok (.bastore, 1) := by decide +kernel
theorem dX11_layBarred_40 : decode cX11_layBarred 40 = .ok (.iinc 2 1, 3) := by decide +kernel
theorem dX11_layBarred_43 : decode cX11_layBarred 43 = .ok (.goto (-29), 3) := by decide +kernel
theorem dX11_layBarred_46 : decode cX11_layBarred 46 = .ok (.iinc 1 1, 3) := by decide +kernel
theorem dX11_layBarred_49 : decode cX11_layBarred 49 = .ok (.goto (-47), 3) := by decide +kernel
theorem dX11_layBarred_52 : decode cX11_layBarred 52 = .ok (.return_, 1) := by decide +kernel
theorem dX11_bedsLeft_0 : decode cX11_bedsLeft 0 = .ok (.iload_n 0, 1) := by decide +kernel
theorem dX11_bedsLeft_1 : decode cX11_bedsLeft 1 = .ok (.iconst 2, 1) := by decide +kernel
theorem dX11_bedsLeft_2 : decode cX11_bedsLeft 2 = .ok (.iload_n 1, 1) := by decide +kernel
theorem dX11_bedsLeft_3 : decode cX11_bedsLeft 3 = .ok (.imul, 1) := by decide +kernel
theorem dX11_bedsLeft_4 : decode cX11_bedsLeft 4 = .ok (.ishr, 1) := by decide +kernel
theorem dX11_bedsLeft_5 : decode cX11_bedsLeft 5 = .ok (.iconst 3, 1) := by decide +kernel
theorem dX11_bedsLeft_6 : decode cX11_bedsLeft 6 = .ok (.iand, 1) := by decide +kernel
theorem dX11_bedsLeft_7 : decode cX11_bedsLeft 7 = .ok (.ireturn, 1) := by decide +kernel
theorem dX11_bestIn_0 : decode cX11_bestIn 0 = .ok (.aload_n 0, 1) := by decide +kernel
theorem dX11_bestIn_1 : decode cX11_bestIn 1 = .ok (.getfield 117, 3) := by decide +kernel
theorem dX11_bestIn_4 : decode cX11_bestIn 4 = .ok (.iconst 5, 1) := by decide +kernel
theorem dX11_bestIn_5 : decode cX11_bestIn 5 = .ok (.iload_n 1, 1) := by decide +kernel
theorem dX11_bestIn_6 : decode cX11_bestIn 6 = .ok (.imul, 1) := by decide +kernel
theorem dX11_bestIn_7 : decode cX11_bestIn 7 = .ok (.iload_n 3, 1) := by decide +kernel
theorem dX11_bestIn_8 : decode cX11_bestIn 8 = .ok (.iadd, 1) := by decide +kernel
theorem dX11_bestIn_9 : decode cX11_bestIn 9 = .ok (.baload, 1) := by decide +kernel
theorem dX11_bestIn_10 : decode cX11_bestIn 10 = .ok (.ifCond .ne 11, 3) := by decide +kernel
theorem dX11_bestIn_13 : decode cX11_bestIn 13 = .ok (.iload_n 2, 1) := by decide +kernel
theorem dX11_bestIn_14 : decode cX11_bestIn 14 = .ok (.iload_n 3, 1) := by decide +kernel
theorem dX11_bestIn_15 : decode cX11_bestIn 15 = .ok (.invokestatic 485, 3) := by decide +kernel
theorem dX11_bestIn_18 : decode cX11_bestIn 18 = .ok (.ifCond .ne 5, 3) := by decide +kernel
theorem dX11_bestIn_21 : decode cX11_bestIn 21 = .ok (.iconst (-1), 1) := by decide +kernel
theorem dX11_bestIn_22 : decode cX11_bestIn 22 = .ok (.ireturn, 1) := by decide +kernel
theorem dX11_bestIn_23 : decode cX11_bestIn 23 = .ok (.aload_n 0, 1) := by decide +kernel
theorem dX11_bestIn_24 : decode cX11_bestIn 24 = .ok (.getfield 114, 3) := by decide +kernel
theorem dX11_bestIn_27 : decode cX11_bestIn 27 = .ok (.sipush 1024, 3) := by decide +kernel
theorem dX11_bestIn_30 : decode cX11_bestIn 30 = .ok (.iload_n 1, 1) := by decide +kernel
theorem dX11_bestIn_31 : decode cX11_bestIn 31 = .ok (.iconst 1, 1) := by decide +kernel
theorem dX11_bestIn_32 : decode cX11_bestIn 32 = .ok (.iadd, 1) := by decide +kernel
theorem dX11_bestIn_33 : decode cX11_bestIn 33 = .ok (.imul, 1) := by decide +kernel
theorem dX11_bestIn_34 : decode cX11_bestIn 34 = .ok (.iload_n 2, 1) := by decide +kernel
theorem dX11_bestIn_35 : decode cX11_bestIn 35 = .ok (.iadd, 1) := by decide +kernel
theorem dX11_bestIn_36 : decode cX11_bestIn 36 = .ok (.iconst 1, 1) := by decide +kernel
theorem dX11_bestIn_37 : decode cX11_bestIn 37 = .ok (.iconst 2, 1) := by decide +kernel
theorem dX11_bestIn_38 : decode cX11_bestIn 38 = .ok (.iload_n 3, 1) := by decide +kernel
theorem dX11_bestIn_39 : decode cX11_bestIn 39 = .ok (.imul, 1) := by decide +kernel
theorem dX11_bestIn_40 : decode cX11_bestIn 40 = .ok (.ishl, 1) := by decide +kernel
theorem dX11_bestIn_41 : decode cX11_bestIn 41 = .ok (.isub, 1) := by decide +kernel
theorem dX11_bestIn_42 : decode cX11_bestIn 42 = .ok (.iaload, 1) := by decide +kernel
theorem dX11_bestIn_43 : decode cX11_bestIn 43 = .ok (.istore 5, 2) := by decide +kernel
theorem dX11_bestIn_45 : decode cX11_bestIn 45 = .ok (.iload 5, 2) := by decide +kernel
theorem dX11_bestIn_47 : decode cX11_bestIn 47 = .ok (.iconst (-1), 1) := by decide +kernel
theorem dX11_bestIn_48 : decode cX11_bestIn 48 = .ok (.if_icmp .ne 7, 3) := by decide +kernel
theorem dX11_bestIn_51 : decode cX11_bestIn 51 = .ok (.iconst (-1), 1) := by decide +kernel
theorem dX11_bestIn_52 : decode cX11_bestIn 52 = .ok (.goto 32, 3) := by decide +kernel
theorem dX11_bestIn_55 : decode cX11_bestIn 55 = .ok (.iload 5, 2) := by decide +kernel
theorem dX11_bestIn_57 : decode cX11_bestIn 57 = .ok (.iload 4, 2) := by decide +kernel
theorem dX11_bestIn_59 : decode cX11_bestIn 59 = .ok (.ifCond .eq 7, 3) := by decide +kernel
theorem dX11_bestIn_62 : decode cX11_bestIn 62 = .ok (.iconst 1, 1) := by decide +kernel
theorem dX11_bestIn_63 : decode cX11_bestIn 63 = .ok (.goto 20, 3) := by decide +kernel
theorem dX11_bestIn_66 : decode cX11_bestIn 66 = .ok (.sipush 1000, 3) := by decide +kernel
theorem dX11_bestIn_69 : decode cX11_bestIn 69 = .ok (.aload_n 0, 1) := by decide +kernel
theorem dX11_bestIn_70 : decode cX11_bestIn 70 = .ok (.getfield 13, 3) := by decide +kernel
theorem dX11_bestIn_73 : decode cX11_bestIn 73 = .ok (.bipush 50, 2) := by decide +kernel
theorem dX11_bestIn_75 : decode cX11_bestIn 75 = .ok (.iconst 5, 1) := by decide +kernel
theorem dX11_bestIn_76 : decode cX11_bestIn 76 = .ok (.iload_n 1, 1) := by decide +kernel
theorem dX11_bestIn_77 : decode cX11_bestIn 77 = .ok (.imul, 1) := by decide +kernel
theorem dX11_bestIn_78 : decode cX11_bestIn 78 = .ok (.iadd, 1) := by decide +kernel
theorem dX11_bestIn_79 : decode cX11_bestIn 79 = .ok (.iload_n 3, 1) := by decide +kernel
theorem dX11_bestIn_80 : decode cX11_bestIn 80 = .ok (.iadd, 1) := by decide +kernel
theorem dX11_bestIn_81 : decode cX11_bestIn 81 = .ok (.iaload, 1) := by decide +kernel
theorem dX11_bestIn_82 : decode cX11_bestIn 82 = .ok (.iadd, 1) := by decide +kernel
theorem dX11_bestIn_83 : decode cX11_bestIn 83 = .ok (.iadd, 1) := by decide +kernel
theorem dX11_bestIn_84 : decode cX11_bestIn 84 = .ok (.ireturn, 1) := by decide +kernel
theorem dX11_layBest_0 : decode cX11_layBest 0 = .ok (.aload_n 0, 1) := by decide +kernel
theorem dX11_layBest_1 : decode cX11_layBest 1 = .ok (.invokevirtual 488, 3) := by decide +kernel
theorem dX11_layBest_4 : decode cX11_layBest 4 = .ok (.aload_n 0, 1) := by decide +kernel
theorem dX11_layBest_5 : decode cX11_layBest 5 = .ok (.getfield 13, 3) := by decide +kernel
theorem dX11_layBest_8 : decode cX11_layBest 8 = .ok (.iconst 2, 1) := by decide +kernel
theorem dX11_layBest_9 : decode cX11_layBest 9 = .ok (.iaload, 1) := by decide +kernel
theorem dX11_layBest_10 : decode cX11_layBest 10 = .ok (.istore_n 2, 1) := by decide +kernel
theorem dX11_layBest_11 : decode cX11_layBest 11 = .ok (.iload_n 2, 1) := by decide +kernel
theorem dX11_layBest_12 : decode cX11_layBest 12 = .ok (.ifCond .lt 159, 3) := by decide +kernel
theorem dX11_layBest_15 : decode cX11_layBest 15 = .ok (.iconst 0, 1) := by decide +kernel
theorem dX11_layBest_16 : decode cX11_layBest 16 = .ok (.istore_n 3, 1) := by decide +kernel
theorem dX11_layBest_17 : decode cX11_layBest 17 = .ok (.iload_n 3, 1) := by decide +kernel
theorem dX11_layBest_18 : decode cX11_layBest 18 = .ok (.sipush 1024, 3) := by decide +kernel
theorem dX11_layBest_21 : decode cX11_layBest 21 = .ok (.if_icmp .ge 144, 3) := by decide +kernel
theorem dX11_layBest_24 : decode cX11_layBest 24 = .ok (.iload_n 2, 1) := by decide +kernel
theorem dX11_layBest_25 : decode cX11_layBest 25 = .ok (.aload_n 0, 1) := by decide +kernel
theorem dX11_layBest_26 : decode cX11_layBest 26 = .ok (.getfield 13, 3) := by decide +kernel
theorem dX11_layBest_29 : decode cX11_layBest 29 = .ok (.iconst 2, 1) := by decide +kernel
theorem dX11_layBest_30 : decode cX11_layBest 30 = .ok (.iaload, 1) := by decide +kernel
theorem dX11_layBest_31 : decode cX11_layBest 31 = .ok (.if_icmp .ge 16, 3) := by decide +kernel
theorem dX11_layBest_34 : decode cX11_layBest 34 = .ok (.aload_n 0, 1) := by decide +kernel
theorem dX11_layBest_35 : decode cX11_layBest 35 = .ok (.iload_n 2, 1) := by decide +kernel
theorem dX11_layBest_36 : decode cX11_layBest 36 = .ok (.invokevirtual 182, 3) := by decide +kernel
theorem dX11_layBest_39 : decode cX11_layBest 39 = .ok (.iload_n 1, 1) := by decide +kernel
theorem dX11_layBest_40 : decode cX11_layBest 40 = .ok (.if_icmp .ne 7, 3) := by decide +kernel
theorem dX11_layBest_43 : decode cX11_layBest 43 = .ok (.iconst 1, 1) := by decide +kernel
theorem dX11_layBest_44 : decode cX11_layBest 44 = .ok (.goto 4, 3) := by decide +kernel
theorem dX11_layBest_47 : decode cX11_layBest 47 = .ok (.iconst 0, 1) := by decide +kernel
theorem dX11_layBest_48 : decode cX11_layBest 48 = .ok (.istore 4, 2) := by decide +kernel
theorem dX11_layBest_50 : decode cX11_layBest 50 = .ok (.iload 4, 2) := by decide +kernel
theorem dX11_layBest_52 : decode cX11_layBest 52 = .ok (.ifCond .eq 11, 3) := by decide +kernel
theorem dX11_layBest_55 : decode cX11_layBest 55 = .ok (.iload_n 1, 1) := by decide +kernel
theorem dX11_layBest_56 : decode cX11_layBest 56 = .ok (.ifCond .eq 7, 3) := by decide +kernel
theorem dX11_layBest_59 : decode cX11_layBest 59 = .ok (.iconst (-1), 1) := by decide +kernel
theorem dX11_layBest_60 : decode cX11_layBest 60 = .ok (.goto 31, 3) := by decide +kernel
theorem dX11_layBest_63 : decode cX11_layBest 63 = .ok (.iload_n 2, 1) := by decide +kernel
theorem dX11_layBest_64 : decode cX11_layBest 64 = .ok (.aload_n 0, 1) := by decide +kernel
theorem dX11_layBest_65 : decode cX11_layBest 65 = .ok (.getfield 13, 3) := by decide +kernel
theorem dX11_layBest_68 : decode cX11_layBest 68 = .ok (.iconst 2, 1) := by decide +kernel
theorem dX11_layBest_69 : decode cX11_layBest 69 = .ok (.iaload, 1) := by decide +kernel
theorem dX11_layBest_70 : decode cX11_layBest 70 = .ok (.if_icmp .ne 7, 3) := by decide +kernel
theorem dX11_layBest_73 : decode cX11_layBest 73 = .ok (.iconst 0, 1) := by decide +kernel
theorem dX11_layBest_74 : decode cX11_layBest 74 = .ok (.goto 17, 3) := by decide +kernel
theorem dX11_layBest_77 : decode cX11_layBest 77 = .ok (.aload_n 0, 1) := by decide +kernel
theorem dX11_layBest_78 : decode cX11_layBest 78 = .ok (.getfield 114, 3) := by decide +kernel
theorem dX11_layBest_81 : decode cX11_layBest 81 = .ok (.sipush 1024, 3) := by decide +kernel
theorem dX11_layBest_84 : decode cX11_layBest 84 = .ok (.iload_n 2, 1) := by decide +kernel
theorem dX11_layBest_85 : decode cX11_layBest 85 = .ok (.iconst 1, 1) := by decide +kernel
theorem dX11_layBest_86 : decode cX11_layBest 86 = .ok (.iadd, 1) := by decide +kernel
theorem dX11_layBest_87 : decode cX11_layBest 87 = .ok (.imul, 1) := by decide +kernel
theorem dX11_layBest_88 : decode cX11_layBest 88 = .ok (.iload_n 3, 1) := by decide +kernel
theorem dX11_layBest_89 : decode cX11_layBest 89 = .ok (.iadd, 1) := by decide +kernel
theorem dX11_layBest_90 : decode cX11_layBest 90 = .ok (.iaload, 1) := by decide +kernel
theorem dX11_layBest_91 : decode cX11_layBest 91 = .ok (.istore 5, 2) := by decide +kernel
theorem dX11_layBest_93 : decode cX11_layBest 93 = .ok (.iconst 0, 1) := by decide +kernel
theorem dX11_layBest_94 : decode cX11_layBest 94 = .ok (.istore 6, 2) := by decide +kernel
theorem dX11_layBest_96 : decode cX11_layBest 96 = .ok (.iload 6, 2) := by decide +kernel
theorem dX11_layBest_98 : decode cX11_layBest 98 = .ok (.aload_n 0, 1) := by decide +kernel
theorem dX11_layBest_99 : decode cX11_layBest 99 = .ok (.getfield 13, 3) := by decide +kernel
theorem dX11_layBest_102 : decode cX11_layBest 102 = .ok (.iconst 0, 1) := by decide +kernel
theorem dX11_layBest_103 : decode cX11_layBest 103 = .ok (.iaload, 1) := by decide +kernel
theorem dX11_layBest_104 : decode cX11_layBest 104 = .ok (.if_icmp .ge 41, 3) := by decide +kernel
theorem dX11_layBest_107 : decode cX11_layBest 107 = .ok (.iload 4, 2) := by decide +kernel
theorem dX11_layBest_109 : decode cX11_layBest 109 = .ok (.ifCond .eq 36, 3) := by decide +kernel
theorem dX11_layBest_112 : decode cX11_layBest 112 = .ok (.aload_n 0, 1) := by decide +kernel
theorem dX11_layBest_113 : decode cX11_layBest 113 = .ok (.iload_n 2, 1) := by decide +kernel
theorem dX11_layBest_114 : decode cX11_layBest 114 = .ok (.iload_n 3, 1) := by decide +kernel
theorem dX11_layBest_115 : decode cX11_layBest 115 = .ok (.iload 6, 2) := by decide +kernel
theorem dX11_layBest_117 : decode cX11_layBest 117 = .ok (.iload_n 1, 1) := by decide +kernel
theorem dX11_layBest_118 : decode cX11_layBest 118 = .ok (.invokevirtual 491, 3) := by decide +kernel
theorem dX11_layBest_121 : decode cX11_layBest 121 = .ok (.istore 7, 2) := by decide +kernel
theorem dX11_layBest_123 : decode cX11_layBest 123 = .ok (.iload 7, 2) := by decide +kernel
theorem dX11_layBest_125 : decode cX11_layBest 125 = .ok (.iload 5, 2) := by decide +kernel
theorem dX11_layBest_127 : decode cX11_layBest 127 = .ok (.if_icmp .le 8, 3) := by decide +kernel
theorem dX11_layBest_130 : decode cX11_layBest 130 = .ok (.iload 7, 2) := by decide +kernel
theorem dX11_layBest_132 : decode cX11_layBest 132 = .ok (.goto 5, 3) := by decide +kernel
theorem dX11_layBest_135 : decode cX11_layBest 135 = .ok (.iload 5, 2) := by decide +kernel
theorem dX11_layBest_137 : decode cX11_layBest 137 = .ok (.istore 5, 2) := by decide +kernel
theorem dX11_layBest_139 : decode cX11_layBest 139 = .ok (.iinc 6 1, 3) := by decide +kernel
theorem dX11_layBest_142 : decode cX11_layBest 142 = .ok (.goto (-46), 3) := by decide +kernel
theorem dX11_layBest_145 : decode cX11_layBest 145 = .ok (.aload_n 0, 1) := by decide +kernel
theorem dX11_layBest_146 : decode cX11_layBest 146 = .ok (.getfield 114, 3) := by decide +kernel
theorem dX11_layBest_149 : decode cX11_layBest 149 = .ok (.sipush 1024, 3) := by decide +kernel
theorem dX11_layBest_152 : decode cX11_layBest 152 = .ok (.iload_n 2, 1) := by decide +kernel
theorem dX11_layBest_153 : decode cX11_layBest 153 = .ok (.imul, 1) := by decide +kernel
theorem dX11_layBest_154 : decode cX11_layBest 154 = .ok (.iload_n 3, 1) := by decide +kernel
theorem dX11_layBest_155 : decode cX11_layBest 155 = .ok (.iadd, 1) := by decide +kernel
theorem dX11_layBest_156 : decode cX11_layBest 156 = .ok (.iload 5, 2) := by decide +kernel
theorem dX11_layBest_158 : decode cX11_layBest 158 = .ok (.iastore, 1) := by decide +kernel
theorem dX11_layBest_159 : decode cX11_layBest 159 = .ok (.iinc 3 1, 3) := by decide +kernel
theorem dX11_layBest_162 : decode cX11_layBest 162 = .ok (.goto (-145), 3) := by decide +kernel
theorem dX11_layBest_165 : decode cX11_layBest 165 = .ok (.iinc 2 (-1), 3) := by decide +kernel
theorem dX11_layBest_168 : decode cX11_layBest 168 = .ok (.goto (-157), 3) := by decide +kernel
theorem dX11_layBest_171 : decode cX11_layBest 171 = .ok (.return_, 1) := by decide +kernel
theorem dX11_rooms_0 : decode cX11_rooms 0 = .ok (.aload_n 0, 1) := by decide +kernel
theorem dX11_rooms_1 : decode cX11_rooms 1 = .ok (.iconst 0, 1) := by decide +kernel
theorem dX11_rooms_2 : decode cX11_rooms 2 = .ok (.putfield 149, 3) := by decide +kernel
theorem dX11_rooms_5 : decode cX11_rooms 5 = .ok (.iload_n 1, 1) := by decide +kernel
theorem dX11_rooms_6 : decode cX11_rooms 6 = .ok (.i2l, 1) := by decide +kernel
theorem dX11_rooms_7 : decode cX11_rooms 7 = .ok (.lconst 0, 1) := by decide +kernel
theorem dX11_rooms_8 : decode cX11_rooms 8 = .ok (.lconst 1, 1) := by decide +kernel
theorem dX11_rooms_9 : decode cX11_rooms 9 = .ok (.aload_n 0, 1) := by decide +kernel
theorem dX11_rooms_10 : decode cX11_rooms 10 = .ok (.getfield 13, 3) := by decide +kernel
theorem dX11_rooms_13 : decode cX11_rooms 13 = .ok (.iconst 2, 1) := by decide +kernel
theorem dX11_rooms_14 : decode cX11_rooms 14 = .ok (.iaload, 1) := by decide +kernel
theorem dX11_rooms_15 : decode cX11_rooms 15 = .ok (.i2l, 1) := by decide +kernel
theorem dX11_rooms_16 : decode cX11_rooms 16 = .ok (.ladd, 1) := by decide +kernel
theorem dX11_rooms_17 : decode cX11_rooms 17 = .ok (.invokestatic 169, 3) := by decide +kernel
theorem dX11_rooms_20 : decode cX11_rooms 20 = .ok (.ifCond .ne 5, 3) := by decide +kernel
theorem dX11_rooms_23 : decode cX11_rooms 23 = .ok (.iconst (-1), 1) := by decide +kernel
theorem dX11_rooms_24 : decode cX11_rooms 24 = .ok (.ireturn, 1) := by decide +kernel
theorem dX11_rooms_25 : decode cX11_rooms 25 = .ok (.aload_n 0, 1) := by decide +kernel
theorem dX11_rooms_26 : decode cX11_rooms 26 = .ok (.iconst 0, 1) := by decide +kernel
theorem dX11_rooms_27 : decode cX11_rooms 27 = .ok (.invokevirtual 495, 3) := by decide +kernel
theorem dX11_rooms_30 : decode cX11_rooms 30 = .ok (.iconst 0, 1) := by decide +kernel
theorem dX11_rooms_31 : decode cX11_rooms 31 = .ok (.istore_n 2, 1) := by decide +kernel
theorem dX11_rooms_32 : decode cX11_rooms 32 = .ok (.iconst 0, 1) := by decide +kernel
theorem dX11_rooms_33 : decode cX11_rooms 33 = .ok (.istore_n 3, 1) := by decide +kernel
theorem dX11_rooms_34 : decode cX11_rooms 34 = .ok (.iload_n 3, 1) := by decide +kernel
theorem dX11_rooms_35 : decode cX11_rooms 35 = .ok (.aload_n 0, 1) := by decide +kernel
theorem dX11_rooms_36 : decode cX11_rooms 36 = .ok (.getfield 13, 3) := by decide +kernel
theorem dX11_rooms_39 : decode cX11_rooms 39 = .ok (.iconst 0, 1) := by decide +kernel
theorem dX11_rooms_40 : decode cX11_rooms 40 = .ok (.iaload, 1) := by decide +kernel
theorem dX11_rooms_41 : decode cX11_rooms 41 = .ok (.if_icmp .ge 21, 3) := by decide +kernel
theorem dX11_rooms_44 : decode cX11_rooms 44 = .ok (.iload_n 2, 1) := by decide +kernel
theorem dX11_rooms_45 : decode cX11_rooms 45 = .ok (.aload_n 0, 1) := by decide +kernel
theorem dX11_rooms_46 : decode cX11_rooms 46 = .ok (.iload_n 3, 1) := by decide +kernel
theorem dX11_rooms_47 : decode cX11_rooms 47 = .ok (.invokevirtual 191, 3) := by decide +kernel
theorem dX11_rooms_50 : decode cX11_rooms 50 = .ok (.iconst 2, 1) := by decide +kernel
theorem dX11_rooms_51 : decode cX11_rooms 51 = .ok (.iload_n 3, 1) := by decide +kernel
theorem dX11_rooms_52 : decode cX11_rooms 52 = .ok (.imul, 1) := by decide +kernel
theorem dX11_rooms_53 : decode cX11_rooms 53 = .ok (.ishl, 1) := by decide +kernel
theorem dX11_rooms_54 : decode cX11_rooms 54 = .ok (.iadd, 1) := by decide +kernel
theorem dX11_rooms_55 : decode cX11_rooms 55 = .ok (.istore_n 2, 1) := by decide +kernel
theorem dX11_rooms_56 : decode cX11_rooms 56 = .ok (.iinc 3 1, 3) := by decide +kernel
theorem dX11_rooms_59 : decode cX11_rooms 59 = .ok (.goto (-25), 3) := by decide +kernel
theorem dX11_rooms_62 : decode cX11_rooms 62 = .ok (.iload_n 1, 1) := by decide +kernel
theorem dX11_rooms_63 : decode cX11_rooms 63 = .ok (.iconst 2, 1) := by decide +kernel
theorem dX11_rooms_64 : decode cX11_rooms 64 = .ok (.if_icmp .ge 31, 3) := by decide +kernel
theorem dX11_rooms_67 : decode cX11_rooms 67 = .ok (.iload_n 1, 1) := by decide +kernel
theorem dX11_rooms_68 : decode cX11_rooms 68 = .ok (.ifCond .ne 16, 3) := by decide +kernel
theorem dX11_rooms_71 : decode cX11_rooms 71 = .ok (.aload_n 0, 1) := by decide +kernel
theorem dX11_rooms_72 : decode cX11_rooms 72 = .ok (.getfield 114, 3) := by decide +kernel
theorem dX11_rooms_75 : decode cX11_rooms 75 = .ok (.iload_n 2, 1) := by decide +kernel
theorem dX11_rooms_76 : decode cX11_rooms 76 = .ok (.iaload, 1) := by decide +kernel
theorem dX11_rooms_77 : decode cX11_rooms 77 = .ok (.sipush 1000, 3) := by decide +kernel
theorem dX11_rooms_80 : decode cX11_rooms 80 = .ok (.idiv, 1) := by decide +kernel
theorem dX11_rooms_81 : decode cX11_rooms 81 = .ok (.goto 13, 3) := by decide +kernel
theorem dX11_rooms_84 : decode cX11_rooms 84 = .ok (.aload_n 0, 1) := by decide +kernel
theorem dX11_rooms_85 : decode cX11_rooms 85 = .ok (.getfield 114, 3) := by decide +kernel
theorem dX11_rooms_88 : decode cX11_rooms 88 = .ok (.iload_n 2, 1) := by decide +kernel
theorem dX11_rooms_89 : decode cX11_rooms 89 = .ok (.iaload, 1) := by decide +kernel
theorem dX11_rooms_90 : decode cX11_rooms 90 = .ok (.sipush 1000, 3) := by decide +kernel
theorem dX11_rooms_93 : decode cX11_rooms 93 = .ok (.irem, 1) := by decide +kernel
theorem dX11_rooms_94 : decode cX11_rooms 94 = .ok (.ireturn, 1) := by decide +kernel
theorem dX11_rooms_95 : decode cX11_rooms 95 = .ok (.iconst (-1), 1) := by decide +kernel
theorem dX11_rooms_96 : decode cX11_rooms 96 = .ok (.istore_n 3, 1) := by decide +kernel
theorem dX11_rooms_97 : decode cX11_rooms 97 = .ok (.iconst 0, 1) := by decide +kernel
theorem dX11_rooms_98 : decode cX11_rooms 98 = .ok (.istore 4, 2) := by decide +kernel
theorem dX11_rooms_100 : decode cX11_rooms 100 = .ok (.iload 4, 2) := by decide +kernel
theorem dX11_rooms_102 : decode cX11_rooms 102 = .ok (.iload_n 1, 1) := by decide +kernel
theorem dX11_rooms_103 : decode cX11_rooms 103 = .ok (.iconst 2, 1) := by decide +kernel
theorem dX11_rooms_104 : decode cX11_rooms 104 = .ok (.isub, 1) := by decide +kernel
theorem dX11_rooms_105 : decode cX11_rooms 105 = .ok (.if_icmp .gt 109, 3) := by decide +kernel
theorem dX11_rooms_108 : decode cX11_rooms 108 = .ok (.iconst (-1), 1) := by decide +kernel
theorem dX11_rooms_109 : decode cX11_rooms 109 = .ok (.istore_n 3, 1) := by decide +kernel
theorem dX11_rooms_110 : decode cX11_rooms 110 = .ok (.aload_n 0, 1) := by decide +kernel
theorem dX11_rooms_111 : decode cX11_rooms 111 = .ok (.iload 4, 2) := by decide +kernel
theorem dX11_rooms_113 : decode cX11_rooms 113 = .ok (.invokevirtual 182, 3) := by decide +kernel
theorem dX11_rooms_116 : decode cX11_rooms 116 = .ok (.ifCond .ne 92, 3) := by decide +kernel
theorem dX11_rooms_119 : decode cX11_rooms 119 = .ok (.iconst 0, 1) := by decide +kernel
theorem dX11_rooms_120 : decode cX11_rooms 120 = .ok (.istore 5, 2) := by decide +kernel
theorem dX11_rooms_122 : decode cX11_rooms 122 = .ok (.iload 5, 2) := by decide +kernel
theorem dX11_rooms_124 : decode cX11_rooms 124 = .ok (.aload_n 0, 1) := by decide +kernel
theorem dX11_rooms_125 : decode cX11_rooms 125 = .ok (.getfield 13, 3) := by decide +kernel
theorem dX11_rooms_128 : decode cX11_rooms 128 = .ok (.iconst 0, 1) := by decide +kernel
theorem dX11_rooms_129 : decode cX11_rooms 129 = .ok (.iaload, 1) := by decide +kernel
theorem dX11_rooms_130 : decode cX11_rooms 130 = .ok (.if_icmp .ge 35, 3) := by decide +kernel
theorem dX11_rooms_133 : decode cX11_rooms 133 = .ok (.aload_n 0, 1) := by decide +kernel
theorem dX11_rooms_134 : decode cX11_rooms 134 = .ok (.iload 4, 2) := by decide +kernel
theorem dX11_rooms_136 : decode cX11_rooms 136 = .ok (.iload_n 2, 1) := by decide +kernel
theorem dX11_rooms_137 : decode cX11_rooms 137 = .ok (.iload 5, 2) := by decide +kernel
theorem dX11_rooms_139 : decode cX11_rooms 139 = .ok (.iconst 0, 1) := by decide +kernel
theorem dX11_rooms_140 : decode cX11_rooms 140 = .ok (.invokevirtual 491, 3) := by decide +kernel
theorem dX11_rooms_143 : decode cX11_rooms 143 = .ok (.aload_n 0, 1) := by decide +kernel
theorem dX11_rooms_144 : decode cX11_rooms 144 = .ok (.getfield 114, 3) := by decide +kernel
theorem dX11_rooms_147 : decode cX11_rooms 147 = .ok (.sipush 1024, 3) := by decide +kernel
theorem dX11_rooms_150 : decode cX11_rooms 150 = .ok (.iload 4, 2) := by decide +kernel
theorem dX11_rooms_152 : decode cX11_rooms 152 = .ok (.imul, 1) := by decide +kernel
theorem dX11_rooms_153 : decode cX11_rooms 153 = .ok (.iload_n 2, 1) := by decide +kernel
theorem dX11_rooms_154 : decode cX11_rooms 154 = .ok (.iadd, 1) := by decide +kernel
theorem dX11_rooms_155 : decode cX11_rooms 155 = .ok (.iaload, 1) := by decide +kernel
theorem dX11_rooms_156 : decode cX11_rooms 156 = .ok (.if_icmp .eq 9, 3) := by decide +kernel
theorem dX11_rooms_159 : decode cX11_rooms 159 = .ok (.iinc 5 1, 3) := by decide +kernel
theorem dX11_rooms_162 : decode cX11_rooms 162 = .ok (.goto (-40), 3) := by decide +kernel
theorem dX11_rooms_165 : decode cX11_rooms 165 = .ok (.iload 5, 2) := by decide +kernel
theorem dX11_rooms_167 : decode cX11_rooms 167 = .ok (.aload_n 0, 1) := by decide +kernel
theorem dX11_rooms_168 : decode cX11_rooms 168 = .ok (.getfield 13, 3) := by decide +kernel
theorem dX11_rooms_171 : decode cX11_rooms 171 = .ok (.iconst 0, 1) := by decide +kernel
theorem dX11_rooms_172 : decode cX11_rooms 172 = .ok (.iaload, 1) := by decide +kernel
theorem dX11_rooms_173 : decode cX11_rooms 173 = .ok (.if_icmp .ge 8, 3) := by decide +kernel
theorem dX11_rooms_176 : decode cX11_rooms 176 = .ok (.iload 5, 2) := by decide +kernel
theorem dX11_rooms_178 : decode cX11_rooms 178 = .ok (.goto 5, 3) := by decide +kernel
theorem dX11_rooms_181 : decode cX11_rooms 181 = .ok (.bipush 100, 2) := by decide +kernel
theorem dX11_rooms_183 : decode cX11_rooms 183 = .ok (.istore_n 3, 1) := by decide +kernel
theorem dX11_rooms_184 : decode cX11_rooms 184 = .ok (.iload_n 2, 1) := by decide +kernel
theorem dX11_rooms_185 : decode cX11_rooms 185 = .ok (.iload 5, 2) := by decide +kernel
theorem dX11_rooms_187 : decode cX11_rooms 187 = .ok (.aload_n 0, 1) := by decide +kernel
theorem dX11_rooms_188 : decode cX11_rooms 188 = .ok (.getfield 13, 3) := by decide +kernel
theorem dX11_rooms_191 : decode cX11_rooms 191 = .ok (.iconst 0, 1) := by decide +kernel
theorem dX11_rooms_192 : decode cX11_rooms 192 = .ok (.iaload, 1) := by decide +kernel
theorem dX11_rooms_193 : decode cX11_rooms 193 = .ok (.if_icmp .ge 12, 3) := by decide +kernel
theorem dX11_rooms_196 : decode cX11_rooms 196 = .ok (.iconst 1, 1) := by decide +kernel
theorem dX11_rooms_197 : decode cX11_rooms 197 = .ok (.iconst 2, 1) := by decide +kernel
theorem dX11_rooms_198 : decode cX11_rooms 198 = .ok (.iload 5, 2) := by decide +kernel
theorem dX11_rooms_200 : decode cX11_rooms 200 = .ok (.imul, 1) := by decide +kernel
theorem dX11_rooms_201 : decode cX11_rooms 201 = .ok (.ishl, 1) := by decide +kernel
theorem dX11_rooms_202 : decode cX11_rooms 202 = .ok (.goto 4, 3) := by decide +kernel
theorem dX11_rooms_205 : decode cX11_rooms 205 = .ok (.iconst 0, 1) := by decide +kernel
theorem dX11_rooms_206 : decode cX11_rooms 206 = .ok (.isub, 1) := by decide +kernel
theorem dX11_rooms_207 : decode cX11_rooms 207 = .ok (.istore_n 2, 1) := by decide +kernel
theorem dX11_rooms_208 : decode cX11_rooms 208 = .ok (.iinc 4 1, 3) := by decide +kernel
theorem dX11_rooms_211 : decode cX11_rooms 211 = .ok (.goto (-111), 3) := by decide +kernel
theorem dX11_rooms_214 : decode cX11_rooms 214 = .ok (.iload_n 3, 1) := by decide +kernel
theorem dX11_rooms_215 : decode cX11_rooms 215 = .ok (.ireturn, 1) := by decide +kernel
theorem dX11_packed_0 : decode cX11_packed 0 = .ok (.aload_n 0, 1) := by decide +kernel
theorem dX11_packed_1 : decode cX11_packed 1 = .ok (.iconst 0, 1) := by decide +kernel
theorem dX11_packed_2 : decode cX11_packed 2 = .ok (.putfield 149, 3) := by decide +kernel
theorem dX11_packed_5 : decode cX11_packed 5 = .ok (.iload_n 1, 1) := by decide +kernel
theorem dX11_packed_6 : decode cX11_packed 6 = .ok (.i2l, 1) := by decide +kernel
theorem dX11_packed_7 : decode cX11_packed 7 = .ok (.lconst 0, 1) := by decide +kernel
theorem dX11_packed_8 : decode cX11_packed 8 = .ok (.lconst 1, 1) := by decide +kernel
theorem dX11_packed_9 : decode cX11_packed 9 = .ok (.invokestatic 169, 3) := by decide +kernel
theorem dX11_packed_12 : decode cX11_packed 12 = .ok (.ifCond .ne 5, 3) := by decide +kernel
theorem dX11_packed_15 : decode cX11_packed 15 = .ok (.iconst (-1), 1) := by decide +kernel
theorem dX11_packed_16 : decode cX11_packed 16 = .ok (.ireturn, 1) := by decide +kernel
theorem dX11_packed_17 : decode cX11_packed 17 = .ok (.aload_n 0, 1) := by decide +kernel
theorem dX11_packed_18 : decode cX11_packed 18 = .ok (.iconst 1, 1) := by decide +kernel
theorem dX11_packed_19 : decode cX11_packed 19 = .ok (.invokevirtual 495, 3) := by decide +kernel
theorem dX11_packed_22 : decode cX11_packed 22 = .ok (.ldc_w 470, 3) := by decide +kernel
theorem dX11_packed_25 : decode cX11_packed 25 = .ok (.istore_n 2, 1) := by decide +kernel
theorem dX11_packed_26 : decode cX11_packed 26 = .ok (.iconst (-1), 1) := by decide +kernel
theorem dX11_packed_27 : decode cX11_packed 27 = .ok (.istore_n 3, 1) := by decide +kernel
theorem dX11_packed_28 : decode cX11_packed 28 = .ok (.iconst 0, 1) := by decide +kernel
theorem dX11_packed_29 : decode cX11_packed 29 = .ok (.istore 4, 2) := by decide +kernel
theorem dX11_packed_31 : decode cX11_packed 31 = .ok (.iload 4, 2) := by decide +kernel
theorem dX11_packed_33 : decode cX11_packed 33 = .ok (.iconst 1, 1) := by decide +kernel
theorem dX11_packed_34 : decode cX11_packed 34 = .ok (.aload_n 0, 1) := by decide +kernel
theorem dX11_packed_35 : decode cX11_packed 35 = .ok (.getfield 13, 3) := by decide +kernel
theorem dX11_packed_38 : decode cX11_packed 38 = .ok (.iconst 0, 1) := by decide +kernel
theorem dX11_packed_39 : decode cX11_packed 39 = .ok (.iaload, 1) := by decide +kernel
theorem dX11_packed_40 : decode cX11_packed 40 = .ok (.ishl, 1) := by decide +kernel
theorem dX11_packed_41 : decode cX11_packed 41 = .ok (.if_icmp .ge 120, 3) := by decide +kernel
theorem dX11_packed_44 : decode cX11_packed 44 = .ok (.iconst 0, 1) := by decide +kernel
theorem dX11_packed_45 : decode cX11_packed 45 = .ok (.istore 5, 2) := by decide +kernel
theorem dX11_packed_47 : decode cX11_packed 47 = .ok (.iconst 0, 1) := by decide +kernel
theorem dX11_packed_48 : decode cX11_packed 48 = .ok (.istore 6, 2) := by decide +kernel
theorem dX11_packed_50 : decode cX11_packed 50 = .ok (.iload 6, 2) := by decide +kernel
theorem dX11_packed_52 : decode cX11_packed 52 = .ok (.aload_n 0, 1) := by decide +kernel
theorem dX11_packed_53 : decode cX11_packed 53 = .ok (.getfield 13, 3) := by decide +kernel
theorem dX11_packed_56 : decode cX11_packed 56 = .ok (.iconst 0, 1) := by decide +kernel
theorem dX11_packed_57 : decode cX11_packed 57 = .ok (.iaload, 1) := by decide +kernel
theorem dX11_packed_58 : decode cX11_packed 58 = .ok (.if_icmp .ge 43, 3) := by decide +kernel
theorem dX11_packed_61 : decode cX11_packed 61 = .ok (.iload 5, 2) := by decide +kernel
theorem dX11_packed_63 : decode cX11_packed 63 = .ok (.iload 4, 2) := by decide +kernel
theorem dX11_packed_65 : decode cX11_packed 65 = .ok (.iload 6, 2) := by decide +kernel
theorem dX11_packed_67 : decode cX11_packed 67 = .ok (.invokestatic 476, 3) := by decide +kernel
theorem dX11_packed_70 : decode cX11_packed 70 = .ok (.ifCond .eq 21, 3) := by decide +kernel
theorem dX11_packed_73 : decode cX11_packed 73 = .ok (.aload_n 0, 1) := by decide +kernel
theorem dX11_packed_74 : decode cX11_packed 74 = .ok (.getfield 13, 3) := by decide +kernel
theorem dX11_packed_77 : decode cX11_packed 77 = .ok (.bipush 37, 2) := by decide +kernel
theorem dX11_packed_79 : decode cX11_packed 79 = .ok (.iload 6, 2) := by decide +kernel
theorem dX11_packed_81 : decode cX11_packed 81 = .ok (.iadd, 1) := by decide +kernel
theorem dX11_packed_82 : decode cX11_packed 82 = .ok (.iaload, 1) := by decide +kernel
theorem dX11_packed_83 : decode cX11_packed 83 = .ok (.iconst 2, 1) := by decide +kernel
theorem dX11_packed_84 : decode cX11_packed 84 = .ok (.iload 6, 2) := by decide +kernel
theorem dX11_packed_86 : decode cX11_packed 86 = .ok (.imul, 1) := by decide +kernel
theorem dX11_packed_87 : decode cX11_packed 87 = .ok (.ishl, 1) := by decide +kernel
theorem dX11_packed_88 : decode cX11_packed 88 = .ok (.goto 4, 3) := by decide +kernel
theorem dX11_packed_91 : decode cX11_packed 91 = .ok (.iconst 0, 1) := by decide +kernel
theorem dX11_packed_92 : decode cX11_packed 92 = .ok (.iadd, 1) := by decide +kernel
theorem dX11_packed_93 : decode cX11_packed 93 = .ok (.istore 5, 2) := by decide +kernel
theorem dX11_packed_95 : decode cX11_packed 95 = .ok (.iinc 6 1, 3) := by decide +kernel
theorem dX11_packed_98 : decode cX11_packed 98 = .ok (.goto (-48), 3) := by decide +kernel
theorem dX11_packed_101 : decode cX11_packed 101 = .ok (.aload_n 0, 1) := by decide +kernel
theorem dX11_packed_102 : decode cX11_packed 102 = .ok (.getfield 114, 3) := by decide +kernel
theorem dX11_packed_105 : decode cX11_packed 105 = .ok (.iload 5, 2) := by decide +kernel
theorem dX11_packed_107 : decode cX11_packed 107 = .ok (.iaload, 1) := by decide +kernel
theorem dX11_packed_108 : decode cX11_packed 108 = .ok (.iconst (-1), 1) := by decide +kernel
theorem dX11_packed_109 : decode cX11_packed 109 = .ok (.if_icmp .eq 16, 3) := by decide +kernel
theorem dX11_packed_112 : decode cX11_packed 112 = .ok (.iload 4, 2) := by decide +kernel
theorem dX11_packed_114 : decode cX11_packed 114 = .ok (.invokestatic 179, 3) := by decide +kernel
theorem dX11_packed_117 : decode cX11_packed 117 = .ok (.iload_n 2, 1) := by decide +kernel
theorem dX11_packed_118 : decode cX11_packed 118 = .ok (.if_icmp .ge 7, 3) := by decide +kernel
theorem dX11_packed_121 : decode cX11_packed 121 = .ok (.iconst 1, 1) := by decide +kernel
theorem dX11_packed_122 : decode cX11_packed 122 = .ok (.goto 4, 3) := by decide +kernel
theorem dX11_packed_125 : decode cX11_packed 125 = .ok (.iconst 0, 1) := by decide +kernel
theorem dX11_packed_126 : decode cX11_packed 126 = .ok (.istore 6, 2) := by decide +kernel
theorem dX11_packed_128 : decode cX11_packed 128 = .ok (.iload 6, 2) := by decide +kernel
theorem dX11_packed_130 : decode cX11_packed 130 = .ok (.ifCond .eq 8, 3) := by decide +kernel
theorem dX11_packed_133 : decode cX11_packed 133 = .ok (.iload 4, 2) := by decide +kernel
theorem dX11_packed_135 : decode cX11_packed 135 = .ok (.goto 4, 3) := by decide +kernel
theorem dX11_packed_138 : decode cX11_packed 138 = .ok (.iload_n 3, 1) := by decide +kernel
theorem dX11_packed_139 : decode cX11_packed 139 = .ok (.istore_n 3, 1) := by decide +kernel
theorem dX11_packed_140 : decode cX11_packed 140 = .ok (.iload 6, 2) := by decide +kernel
theorem dX11_packed_142 : decode cX11_packed 142 = .ok (.ifCond .eq 11, 3) := by decide +kernel
theorem dX11_packed_145 : decode cX11_packed 145 = .ok (.iload 4, 2) := by decide +kernel
theorem dX11_packed_147 : decode cX11_packed 147 = .ok (.invokestatic 179, 3) := by decide +kernel
theorem dX11_packed_150 : decode cX11_packed 150 = .ok (.goto 4, 3) := by decide +kernel
theorem dX11_packed_153 : decode cX11_packed 153 = .ok (.iload_n 2, 1) := by decide +kernel
theorem dX11_packed_154 : decode cX11_packed 154 = .ok (.istore_n 2, 1) := by decide +kernel
theorem dX11_packed_155 : decode cX11_packed 155 = .ok (.iinc 4 1, 3) := by decide +kernel
theorem dX11_packed_158 : decode cX11_packed 158 = .ok (.goto (-127), 3) := by decide +kernel
theorem dX11_packed_161 : decode cX11_packed 161 = .ok (.iload_n 3, 1) := by decide +kernel
theorem dX11_packed_162 : decode cX11_packed 162 = .ok (.iconst (-1), 1) := by decide +kernel
theorem dX11_packed_163 : decode cX11_packed 163 = .ok (.if_icmp .eq 8, 3) := by decide +kernel
theorem dX11_packed_166 : decode cX11_packed 166 = .ok (.iload_n 1, 1) := by decide +kernel
theorem dX11_packed_167 : decode cX11_packed 167 = .ok (.iconst 1, 1) := by decide +kernel
theorem dX11_packed_168 : decode cX11_packed 168 = .ok (.if_icmp .ne 7, 3) := by decide +kernel
theorem dX11_packed_171 : decode cX11_packed 171 = .ok (.iload_n 3, 1) := by decide +kernel
theorem dX11_packed_172 : decode cX11_packed 172 = .ok (.goto 4, 3) := by decide +kernel
theorem dX11_packed_175 : decode cX11_packed 175 = .ok (.iload_n 2, 1) := by decide +kernel
theorem dX11_packed_176 : decode cX11_packed 176 = .ok (.ireturn, 1) := by decide +kernel
theorem dX11_wouldRather_0 : decode cX11_wouldRather 0 = .ok (.aload_n 0, 1) := by decide +kernel
theorem dX11_wouldRather_1 : decode cX11_wouldRather 1 = .ok (.getfield 13, 3) := by decide +kernel
theorem dX11_wouldRather_4 : decode cX11_wouldRather 4 = .ok (.bipush 50, 2) := by decide +kernel
theorem dX11_wouldRather_6 : decode cX11_wouldRather 6 = .ok (.iconst 5, 1) := by decide +kernel
theorem dX11_wouldRather_7 : decode cX11_wouldRather 7 = .ok (.iload_n 1, 1) := by decide +kernel
theorem dX11_wouldRather_8 : decode cX11_wouldRather 8 = .ok (.imul, 1) := by decide +kernel
theorem dX11_wouldRather_9 : decode cX11_wouldRather 9 = .ok (.iadd, 1) := by decide +kernel
theorem dX11_wouldRather_10 : decode cX11_wouldRather 10 = .ok (.aload_n 0, 1) := by decide +kernel
theorem dX11_wouldRather_11 : decode cX11_wouldRather 11 = .ok (.getfield 13, 3) := by decide +kernel
