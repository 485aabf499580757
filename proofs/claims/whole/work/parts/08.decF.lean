theorem dX9_order_184 : decode cX9_order 184 = .ok (.iload 9, 2) := by decide +kernel
theorem dX9_order_186 : decode cX9_order 186 = .ok (.iaload, 1) := by decide +kernel
theorem dX9_order_187 : decode cX9_order 187 = .ok (.istore 9, 2) := by decide +kernel
theorem dX9_order_189 : decode cX9_order 189 = .ok (.goto (-22), 3) := by decide +kernel
theorem dX9_order_192 : decode cX9_order 192 = .ok (.lload 4, 2) := by decide +kernel
theorem dX9_order_194 : decode cX9_order 194 = .ok (.lload 4, 2) := by decide +kernel
theorem dX9_order_196 : decode cX9_order 196 = .ok (.lload 7, 2) := by decide +kernel
theorem dX9_order_198 : decode cX9_order 198 = .ok (.invokestatic 238, 3) := by decide +kernel
theorem dX9_order_201 : decode cX9_order 201 = .ok (.ldiv, 1) := by decide +kernel
theorem dX9_order_202 : decode cX9_order 202 = .ok (.lload 7, 2) := by decide +kernel
theorem dX9_order_204 : decode cX9_order 204 = .ok (.lmul, 1) := by decide +kernel
theorem dX9_order_205 : decode cX9_order 205 = .ok (.lstore 4, 2) := by decide +kernel
theorem dX9_order_207 : decode cX9_order 207 = .ok (.lload 4, 2) := by decide +kernel
theorem dX9_order_209 : decode cX9_order 209 = .ok (.ldc2_w 242, 3) := by decide +kernel
theorem dX9_order_212 : decode cX9_order 212 = .ok (.lcmp, 1) := by decide +kernel
theorem dX9_order_213 : decode cX9_order 213 = .ok (.ifCond .le 6, 3) := by decide +kernel
theorem dX9_order_216 : decode cX9_order 216 = .ok (.bipush (-7), 2) := by decide +kernel
theorem dX9_order_218 : decode cX9_order 218 = .ok (.ireturn, 1) := by decide +kernel
theorem dX9_order_219 : decode cX9_order 219 = .ok (.iinc 6 1, 3) := by decide +kernel
theorem dX9_order_222 : decode cX9_order 222 = .ok (.goto (-73), 3) := by decide +kernel
theorem dX9_order_225 : decode cX9_order 225 = .ok (.lload 4, 2) := by decide +kernel
theorem dX9_order_227 : decode cX9_order 227 = .ok (.l2i, 1) := by decide +kernel
theorem dX9_order_228 : decode cX9_order 228 = .ok (.ireturn, 1) := by decide +kernel
theorem dX9_orbits_0 : decode cX9_orbits 0 = .ok (.aload_n 0, 1) := by decide +kernel
theorem dX9_orbits_1 : decode cX9_orbits 1 = .ok (.iload_n 1, 1) := by decide +kernel
theorem dX9_orbits_2 : decode cX9_orbits 2 = .ok (.sipush 256, 3) := by decide +kernel
theorem dX9_orbits_5 : decode cX9_orbits 5 = .ok (.invokevirtual 223, 3) := by decide +kernel
theorem dX9_orbits_8 : decode cX9_orbits 8 = .ok (.ifCond .ge 5, 3) := by decide +kernel
theorem dX9_orbits_11 : decode cX9_orbits 11 = .ok (.iconst (-1), 1) := by decide +kernel
theorem dX9_orbits_12 : decode cX9_orbits 12 = .ok (.ireturn, 1) := by decide +kernel
theorem dX9_orbits_13 : decode cX9_orbits 13 = .ok (.aload_n 0, 1) := by decide +kernel
theorem dX9_orbits_14 : decode cX9_orbits 14 = .ok (.invokevirtual 133, 3) := by decide +kernel
theorem dX9_orbits_17 : decode cX9_orbits 17 = .ok (.ifCond .ne 6, 3) := by decide +kernel
theorem dX9_orbits_20 : decode cX9_orbits 20 = .ok (.bipush (-5), 2) := by decide +kernel
theorem dX9_orbits_22 : decode cX9_orbits 22 = .ok (.ireturn, 1) := by decide +kernel
theorem dX9_orbits_23 : decode cX9_orbits 23 = .ok (.aload_n 0, 1) := by decide +kernel
theorem dX9_orbits_24 : decode cX9_orbits 24 = .ok (.iload_n 1, 1) := by decide +kernel
theorem dX9_orbits_25 : decode cX9_orbits 25 = .ok (.invokevirtual 244, 3) := by decide +kernel
theorem dX9_orbits_28 : decode cX9_orbits 28 = .ok (.iconst 0, 1) := by decide +kernel
theorem dX9_orbits_29 : decode cX9_orbits 29 = .ok (.istore_n 2, 1) := by decide +kernel
theorem dX9_orbits_30 : decode cX9_orbits 30 = .ok (.iload_n 2, 1) := by decide +kernel
theorem dX9_orbits_31 : decode cX9_orbits 31 = .ok (.aload_n 0, 1) := by decide +kernel
theorem dX9_orbits_32 : decode cX9_orbits 32 = .ok (.getfield 226, 3) := by decide +kernel
theorem dX9_orbits_35 : decode cX9_orbits 35 = .ok (.if_icmp .ge 16, 3) := by decide +kernel
theorem dX9_orbits_38 : decode cX9_orbits 38 = .ok (.aload_n 0, 1) := by decide +kernel
theorem dX9_orbits_39 : decode cX9_orbits 39 = .ok (.getfield 75, 3) := by decide +kernel
theorem dX9_orbits_42 : decode cX9_orbits 42 = .ok (.iload_n 2, 1) := by decide +kernel
theorem dX9_orbits_43 : decode cX9_orbits 43 = .ok (.iload_n 2, 1) := by decide +kernel
theorem dX9_orbits_44 : decode cX9_orbits 44 = .ok (.iastore, 1) := by decide +kernel
theorem dX9_orbits_45 : decode cX9_orbits 45 = .ok (.iinc 2 1, 3) := by decide +kernel
theorem dX9_orbits_48 : decode cX9_orbits 48 = .ok (.goto (-18), 3) := by decide +kernel
theorem dX9_orbits_51 : decode cX9_orbits 51 = .ok (.iconst 1, 1) := by decide +kernel
theorem dX9_orbits_52 : decode cX9_orbits 52 = .ok (.istore_n 2, 1) := by decide +kernel
theorem dX9_orbits_53 : decode cX9_orbits 53 = .ok (.iload_n 2, 1) := by decide +kernel
theorem dX9_orbits_54 : decode cX9_orbits 54 = .ok (.ifCond .eq 159, 3) := by decide +kernel
theorem dX9_orbits_57 : decode cX9_orbits 57 = .ok (.iconst 0, 1) := by decide +kernel
theorem dX9_orbits_58 : decode cX9_orbits 58 = .ok (.istore_n 2, 1) := by decide +kernel
theorem dX9_orbits_59 : decode cX9_orbits 59 = .ok (.iconst 0, 1) := by decide +kernel
theorem dX9_orbits_60 : decode cX9_orbits 60 = .ok (.istore_n 3, 1) := by decide +kernel
theorem dX9_orbits_61 : decode cX9_orbits 61 = .ok (.iload_n 3, 1) := by decide +kernel
theorem dX9_orbits_62 : decode cX9_orbits 62 = .ok (.aload_n 0, 1) := by decide +kernel
theorem dX9_orbits_63 : decode cX9_orbits 63 = .ok (.getfield 127, 3) := by decide +kernel
theorem dX9_orbits_66 : decode cX9_orbits 66 = .ok (.if_icmp .ge 144, 3) := by decide +kernel
theorem dX9_orbits_69 : decode cX9_orbits 69 = .ok (.iconst 0, 1) := by decide +kernel
theorem dX9_orbits_70 : decode cX9_orbits 70 = .ok (.istore 4, 2) := by decide +kernel
theorem dX9_orbits_72 : decode cX9_orbits 72 = .ok (.iload 4, 2) := by decide +kernel
theorem dX9_orbits_74 : decode cX9_orbits 74 = .ok (.aload_n 0, 1) := by decide +kernel
theorem dX9_orbits_75 : decode cX9_orbits 75 = .ok (.getfield 226, 3) := by decide +kernel
theorem dX9_orbits_78 : decode cX9_orbits 78 = .ok (.if_icmp .ge 126, 3) := by decide +kernel
theorem dX9_orbits_81 : decode cX9_orbits 81 = .ok (.aload_n 0, 1) := by decide +kernel
theorem dX9_orbits_82 : decode cX9_orbits 82 = .ok (.aload_n 0, 1) := by decide +kernel
theorem dX9_orbits_83 : decode cX9_orbits 83 = .ok (.getfield 39, 3) := by decide +kernel
theorem dX9_orbits_86 : decode cX9_orbits 86 = .ok (.iload_n 3, 1) := by decide +kernel
theorem dX9_orbits_87 : decode cX9_orbits 87 = .ok (.iaload, 1) := by decide +kernel
theorem dX9_orbits_88 : decode cX9_orbits 88 = .ok (.invokevirtual 235, 3) := by decide +kernel
theorem dX9_orbits_91 : decode cX9_orbits 91 = .ok (.ifCond .eq 113, 3) := by decide +kernel
theorem dX9_orbits_94 : decode cX9_orbits 94 = .ok (.aload_n 0, 1) := by decide +kernel
theorem dX9_orbits_95 : decode cX9_orbits 95 = .ok (.getfield 75, 3) := by decide +kernel
theorem dX9_orbits_98 : decode cX9_orbits 98 = .ok (.iload 4, 2) := by decide +kernel
theorem dX9_orbits_100 : decode cX9_orbits 100 = .ok (.iaload, 1) := by decide +kernel
theorem dX9_orbits_101 : decode cX9_orbits 101 = .ok (.aload_n 0, 1) := by decide +kernel
theorem dX9_orbits_102 : decode cX9_orbits 102 = .ok (.getfield 75, 3) := by decide +kernel
theorem dX9_orbits_105 : decode cX9_orbits 105 = .ok (.aload_n 0, 1) := by decide +kernel
theorem dX9_orbits_106 : decode cX9_orbits 106 = .ok (.getfield 69, 3) := by decide +kernel
theorem dX9_orbits_109 : decode cX9_orbits 109 = .ok (.sipush 256, 3) := by decide +kernel
theorem dX9_orbits_112 : decode cX9_orbits 112 = .ok (.iload_n 3, 1) := by decide +kernel
theorem dX9_orbits_113 : decode cX9_orbits 113 = .ok (.imul, 1) := by decide +kernel
theorem dX9_orbits_114 : decode cX9_orbits 114 = .ok (.iload 4, 2) := by decide +kernel
theorem dX9_orbits_116 : decode cX9_orbits 116 = .ok (.iadd, 1) := by decide +kernel
theorem dX9_orbits_117 : decode cX9_orbits 117 = .ok (.iaload, 1) := by decide +kernel
theorem dX9_orbits_118 : decode cX9_orbits 118 = .ok (.iaload, 1) := by decide +kernel
theorem dX9_orbits_119 : decode cX9_orbits 119 = .ok (.invokestatic 247, 3) := by decide +kernel
theorem dX9_orbits_122 : decode cX9_orbits 122 = .ok (.istore 5, 2) := by decide +kernel
theorem dX9_orbits_124 : decode cX9_orbits 124 = .ok (.iload_n 2, 1) := by decide +kernel
theorem dX9_orbits_125 : decode cX9_orbits 125 = .ok (.ifCond .ne 38, 3) := by decide +kernel
theorem dX9_orbits_128 : decode cX9_orbits 128 = .ok (.aload_n 0, 1) := by decide +kernel
theorem dX9_orbits_129 : decode cX9_orbits 129 = .ok (.getfield 75, 3) := by decide +kernel
theorem dX9_orbits_132 : decode cX9_orbits 132 = .ok (.iload 4, 2) := by decide +kernel
theorem dX9_orbits_134 : decode cX9_orbits 134 = .ok (.iaload, 1) := by decide +kernel
theorem dX9_orbits_135 : decode cX9_orbits 135 = .ok (.iload 5, 2) := by decide +kernel
theorem dX9_orbits_137 : decode cX9_orbits 137 = .ok (.if_icmp .ne 26, 3) := by decide +kernel
theorem dX9_orbits_140 : decode cX9_orbits 140 = .ok (.aload_n 0, 1) := by decide +kernel
theorem dX9_orbits_141 : decode cX9_orbits 141 = .ok (.getfield 75, 3) := by decide +kernel
theorem dX9_orbits_144 : decode cX9_orbits 144 = .ok (.aload_n 0, 1) := by decide +kernel
theorem dX9_orbits_145 : decode cX9_orbits 145 = .ok (.getfield 69, 3) := by decide +kernel
theorem dX9_orbits_148 : decode cX9_orbits 148 = .ok (.sipush 256, 3) := by decide +kernel
theorem dX9_orbits_151 : decode cX9_orbits 151 = .ok (.iload_n 3, 1) := by decide +kernel
theorem dX9_orbits_152 : decode cX9_orbits 152 = .ok (.imul, 1) := by decide +kernel
theorem dX9_orbits_153 : decode cX9_orbits 153 = .ok (.iload 4, 2) := by decide +kernel
theorem dX9_orbits_155 : decode cX9_orbits 155 = .ok (.iadd, 1) := by decide +kernel
theorem dX9_orbits_156 : decode cX9_orbits 156 = .ok (.iaload, 1) := by decide +kernel
theorem dX9_orbits_157 : decode cX9_orbits 157 = .ok (.iaload, 1) := by decide +kernel
theorem dX9_orbits_158 : decode cX9_orbits 158 = .ok (.iload 5, 2) := by decide +kernel
theorem dX9_orbits_160 : decode cX9_orbits 160 = .ok (.if_icmp .eq 7, 3) := by decide +kernel
theorem dX9_orbits_163 : decode cX9_orbits 163 = .ok (.iconst 1, 1) := by decide +kernel
theorem dX9_orbits_164 : decode cX9_orbits 164 = .ok (.goto 4, 3) := by decide +kernel
theorem dX9_orbits_167 : decode cX9_orbits 167 = .ok (.iconst 0, 1) := by decide +kernel
theorem dX9_orbits_168 : decode cX9_orbits 168 = .ok (.istore_n 2, 1) := by decide +kernel
theorem dX9_orbits_169 : decode cX9_orbits 169 = .ok (.aload_n 0, 1) := by decide +kernel
theorem dX9_orbits_170 : decode cX9_orbits 170 = .ok (.getfield 75, 3) := by decide +kernel
theorem dX9_orbits_173 : decode cX9_orbits 173 = .ok (.iload 4, 2) := by decide +kernel
theorem dX9_orbits_175 : decode cX9_orbits 175 = .ok (.iload 5, 2) := by decide +kernel
theorem dX9_orbits_177 : decode cX9_orbits 177 = .ok (.iastore, 1) := by decide +kernel
theorem dX9_orbits_178 : decode cX9_orbits 178 = .ok (.aload_n 0, 1) := by decide +kernel
theorem dX9_orbits_179 : decode cX9_orbits 179 = .ok (.getfield 75, 3) := by decide +kernel
theorem dX9_orbits_182 : decode cX9_orbits 182 = .ok (.aload_n 0, 1) := by decide +kernel
theorem dX9_orbits_183 : decode cX9_orbits 183 = .ok (.getfield 69, 3) := by decide +kernel
theorem dX9_orbits_186 : decode cX9_orbits 186 = .ok (.sipush 256, 3) := by decide +kernel
theorem dX9_orbits_189 : decode cX9_orbits 189 = .ok (.iload_n 3, 1) := by decide +kernel
theorem dX9_orbits_190 : decode cX9_orbits 190 = .ok (.imul, 1) := by decide +kernel
theorem dX9_orbits_191 : decode cX9_orbits 191 = .ok (.iload 4, 2) := by decide +kernel
theorem dX9_orbits_193 : decode cX9_orbits 193 = .ok (.iadd, 1) := by decide +kernel
theorem dX9_orbits_194 : decode cX9_orbits 194 = .ok (.iaload, 1) := by decide +kernel
theorem dX9_orbits_195 : decode cX9_orbits 195 = .ok (.iload 5, 2) := by decide +kernel
theorem dX9_orbits_197 : decode cX9_orbits 197 = .ok (.iastore, 1) := by decide +kernel
theorem dX9_orbits_198 : decode cX9_orbits 198 = .ok (.iinc 4 1, 3) := by decide +kernel
theorem dX9_orbits_201 : decode cX9_orbits 201 = .ok (.goto (-129), 3) := by decide +kernel
theorem dX9_orbits_204 : decode cX9_orbits 204 = .ok (.iinc 3 1, 3) := by decide +kernel
theorem dX9_orbits_207 : decode cX9_orbits 207 = .ok (.goto (-146), 3) := by decide +kernel
theorem dX9_orbits_210 : decode cX9_orbits 210 = .ok (.goto (-157), 3) := by decide +kernel
theorem dX9_orbits_213 : decode cX9_orbits 213 = .ok (.iconst 0, 1) := by decide +kernel
theorem dX9_orbits_214 : decode cX9_orbits 214 = .ok (.istore_n 3, 1) := by decide +kernel
theorem dX9_orbits_215 : decode cX9_orbits 215 = .ok (.iconst 0, 1) := by decide +kernel
theorem dX9_orbits_216 : decode cX9_orbits 216 = .ok (.istore 4, 2) := by decide +kernel
theorem dX9_orbits_218 : decode cX9_orbits 218 = .ok (.iload 4, 2) := by decide +kernel
theorem dX9_orbits_220 : decode cX9_orbits 220 = .ok (.aload_n 0, 1) := by decide +kernel
theorem dX9_orbits_221 : decode cX9_orbits 221 = .ok (.getfield 226, 3) := by decide +kernel
theorem dX9_orbits_224 : decode cX9_orbits 224 = .ok (.if_icmp .ge 29, 3) := by decide +kernel
theorem dX9_orbits_227 : decode cX9_orbits 227 = .ok (.iload_n 3, 1) := by decide +kernel
theorem dX9_orbits_228 : decode cX9_orbits 228 = .ok (.aload_n 0, 1) := by decide +kernel
theorem dX9_orbits_229 : decode cX9_orbits 229 = .ok (.getfield 75, 3) := by decide +kernel
theorem dX9_orbits_232 : decode cX9_orbits 232 = .ok (.iload 4, 2) := by decide +kernel
theorem dX9_orbits_234 : decode cX9_orbits 234 = .ok (.iaload, 1) := by decide +kernel
theorem dX9_orbits_235 : decode cX9_orbits 235 = .ok (.iload 4, 2) := by decide +kernel
theorem dX9_orbits_237 : decode cX9_orbits 237 = .ok (.if_icmp .ne 7, 3) := by decide +kernel
theorem dX9_orbits_240 : decode cX9_orbits 240 = .ok (.iconst 1, 1) := by decide +kernel
theorem dX9_orbits_241 : decode cX9_orbits 241 = .ok (.goto 4, 3) := by decide +kernel
theorem dX9_orbits_244 : decode cX9_orbits 244 = .ok (.iconst 0, 1) := by decide +kernel
theorem dX9_orbits_245 : decode cX9_orbits 245 = .ok (.iadd, 1) := by decide +kernel
theorem dX9_orbits_246 : decode cX9_orbits 246 = .ok (.istore_n 3, 1) := by decide +kernel
theorem dX9_orbits_247 : decode cX9_orbits 247 = .ok (.iinc 4 1, 3) := by decide +kernel
theorem dX9_orbits_250 : decode cX9_orbits 250 = .ok (.goto (-32), 3) := by decide +kernel
theorem dX9_orbits_253 : decode cX9_orbits 253 = .ok (.iload_n 3, 1) := by decide +kernel
theorem dX9_orbits_254 : decode cX9_orbits 254 = .ok (.ireturn, 1) := by decide +kernel
theorem dX9_takeLevel_0 : decode cX9_takeLevel 0 = .ok (.aload_n 0, 1) := by decide +kernel
theorem dX9_takeLevel_1 : decode cX9_takeLevel 1 = .ok (.iload_n 1, 1) := by decide +kernel
theorem dX9_takeLevel_2 : decode cX9_takeLevel 2 = .ok (.bipush 10, 2) := by decide +kernel
theorem dX9_takeLevel_4 : decode cX9_takeLevel 4 = .ok (.invokevirtual 159, 3) := by decide +kernel
theorem dX9_takeLevel_7 : decode cX9_takeLevel 7 = .ok (.ifCond .eq 17, 3) := by decide +kernel
theorem dX9_takeLevel_10 : decode cX9_takeLevel 10 = .ok (.aload_n 0, 1) := by decide +kernel
theorem dX9_takeLevel_11 : decode cX9_takeLevel 11 = .ok (.aload_n 0, 1) := by decide +kernel
theorem dX9_takeLevel_12 : decode cX9_takeLevel 12 = .ok (.getfield 156, 3) := by decide +kernel
theorem dX9_takeLevel_15 : decode cX9_takeLevel 15 = .ok (.sipush 256, 3) := by decide +kernel
theorem dX9_takeLevel_18 : decode cX9_takeLevel 18 = .ok (.invokevirtual 223, 3) := by decide +kernel
theorem dX9_takeLevel_21 : decode cX9_takeLevel 21 = .ok (.ifCond .ge 5, 3) := by decide +kernel
theorem dX9_takeLevel_24 : decode cX9_takeLevel 24 = .ok (.iconst (-1), 1) := by decide +kernel
theorem dX9_takeLevel_25 : decode cX9_takeLevel 25 = .ok (.ireturn, 1) := by decide +kernel
theorem dX9_takeLevel_26 : decode cX9_takeLevel 26 = .ok (.aload_n 0, 1) := by decide +kernel
theorem dX9_takeLevel_27 : decode cX9_takeLevel 27 = .ok (.invokevirtual 133, 3) := by decide +kernel
theorem dX9_takeLevel_30 : decode cX9_takeLevel 30 = .ok (.ifCond .ne 6, 3) := by decide +kernel
theorem dX9_takeLevel_33 : decode cX9_takeLevel 33 = .ok (.bipush (-5), 2) := by decide +kernel
theorem dX9_takeLevel_35 : decode cX9_takeLevel 35 = .ok (.ireturn, 1) := by decide +kernel
theorem dX9_takeLevel_36 : decode cX9_takeLevel 36 = .ok (.aload_n 0, 1) := by decide +kernel
theorem dX9_takeLevel_37 : decode cX9_takeLevel 37 = .ok (.aload_n 0, 1) := by decide +kernel
theorem dX9_takeLevel_38 : decode cX9_takeLevel 38 = .ok (.invokevirtual 232, 3) := by decide +kernel
theorem dX9_takeLevel_41 : decode cX9_takeLevel 41 = .ok (.putfield 252, 3) := by decide +kernel
theorem dX9_takeLevel_44 : decode cX9_takeLevel 44 = .ok (.aload_n 0, 1) := by decide +kernel
theorem dX9_takeLevel_45 : decode cX9_takeLevel 45 = .ok (.aload_n 0, 1) := by decide +kernel
theorem dX9_takeLevel_46 : decode cX9_takeLevel 46 = .ok (.getfield 156, 3) := by decide +kernel
theorem dX9_takeLevel_49 : decode cX9_takeLevel 49 = .ok (.invokevirtual 244, 3) := by decide +kernel
theorem dX9_takeLevel_52 : decode cX9_takeLevel 52 = .ok (.iconst 0, 1) := by decide +kernel
theorem dX9_takeLevel_53 : decode cX9_takeLevel 53 = .ok (.ireturn, 1) := by decide +kernel
theorem dX9_findFar_0 : decode cX9_findFar 0 = .ok (.iconst 0, 1) := by decide +kernel
theorem dX9_findFar_1 : decode cX9_findFar 1 = .ok (.istore_n 2, 1) := by decide +kernel
theorem dX9_findFar_2 : decode cX9_findFar 2 = .ok (.iload_n 2, 1) := by decide +kernel
theorem dX9_findFar_3 : decode cX9_findFar 3 = .ok (.aload_n 0, 1) := by decide +kernel
theorem dX9_findFar_4 : decode cX9_findFar 4 = .ok (.getfield 226, 3) := by decide +kernel
theorem dX9_findFar_7 : decode cX9_findFar 7 = .ok (.if_icmp .ge 25, 3) := by decide +kernel
theorem dX9_findFar_10 : decode cX9_findFar 10 = .ok (.aload_n 0, 1) := by decide +kernel
theorem dX9_findFar_11 : decode cX9_findFar 11 = .ok (.getfield 78, 3) := by decide +kernel
theorem dX9_findFar_14 : decode cX9_findFar 14 = .ok (.iload_n 2, 1) := by decide +kernel
theorem dX9_findFar_15 : decode cX9_findFar 15 = .ok (.iload_n 2, 1) := by decide +kernel
theorem dX9_findFar_16 : decode cX9_findFar 16 = .ok (.iload_n 1, 1) := by decide +kernel
theorem dX9_findFar_17 : decode cX9_findFar 17 = .ok (.if_icmp .ne 7, 3) := by decide +kernel
theorem dX9_findFar_20 : decode cX9_findFar 20 = .ok (.iconst 0, 1) := by decide +kernel
theorem dX9_findFar_21 : decode cX9_findFar 21 = .ok (.goto 4, 3) := by decide +kernel
theorem dX9_findFar_24 : decode cX9_findFar 24 = .ok (.iconst (-1), 1) := by decide +kernel
theorem dX9_findFar_25 : decode cX9_findFar 25 = .ok (.iastore, 1) := by decide +kernel
theorem dX9_findFar_26 : decode cX9_findFar 26 = .ok (.iinc 2 1, 3) := by decide +kernel
theorem dX9_findFar_29 : decode cX9_findFar 29 = .ok (.goto (-27), 3) := by decide +kernel
theorem dX9_findFar_32 : decode cX9_findFar 32 = .ok (.iconst 0, 1) := by decide +kernel
theorem dX9_findFar_33 : decode cX9_findFar 33 = .ok (.istore_n 2, 1) := by decide +kernel
theorem dX9_findFar_34 : decode cX9_findFar 34 = .ok (.iload_n 2, 1) := by decide +kernel
theorem dX9_findFar_35 : decode cX9_findFar 35 = .ok (.aload_n 0, 1) := by decide +kernel
theorem dX9_findFar_36 : decode cX9_findFar 36 = .ok (.getfield 226, 3) := by decide +kernel
theorem dX9_findFar_39 : decode cX9_findFar 39 = .ok (.if_icmp .ge 98, 3) := by decide +kernel
theorem dX9_findFar_42 : decode cX9_findFar 42 = .ok (.iconst 0, 1) := by decide +kernel
theorem dX9_findFar_43 : decode cX9_findFar 43 = .ok (.istore_n 3, 1) := by decide +kernel
theorem dX9_findFar_44 : decode cX9_findFar 44 = .ok (.iload_n 3, 1) := by decide +kernel
theorem dX9_findFar_45 : decode cX9_findFar 45 = .ok (.aload_n 0, 1) := by decide +kernel
theorem dX9_findFar_46 : decode cX9_findFar 46 = .ok (.getfield 226, 3) := by decide +kernel
theorem dX9_findFar_49 : decode cX9_findFar 49 = .ok (.if_icmp .ge 82, 3) := by decide +kernel
theorem dX9_findFar_52 : decode cX9_findFar 52 = .ok (.iconst 0, 1) := by decide +kernel
theorem dX9_findFar_53 : decode cX9_findFar 53 = .ok (.istore 4, 2) := by decide +kernel
theorem dX9_findFar_55 : decode cX9_findFar 55 = .ok (.iload 4, 2) := by decide +kernel
theorem dX9_findFar_57 : decode cX9_findFar 57 = .ok (.aload_n 0, 1) := by decide +kernel
theorem dX9_findFar_58 : decode cX9_findFar 58 = .ok (.getfield 127, 3) := by decide +kernel
theorem dX9_findFar_61 : decode cX9_findFar 61 = .ok (.if_icmp .ge 64, 3) := by decide +kernel
theorem dX9_findFar_64 : decode cX9_findFar 64 = .ok (.aload_n 0, 1) := by decide +kernel
theorem dX9_findFar_65 : decode cX9_findFar 65 = .ok (.getfield 78, 3) := by decide +kernel
theorem dX9_findFar_68 : decode cX9_findFar 68 = .ok (.iload_n 3, 1) := by decide +kernel
theorem dX9_findFar_69 : decode cX9_findFar 69 = .ok (.iaload, 1) := by decide +kernel
theorem dX9_findFar_70 : decode cX9_findFar 70 = .ok (.iload_n 2, 1) := by decide +kernel
theorem dX9_findFar_71 : decode cX9_findFar 71 = .ok (.if_icmp .ne 54, 3) := by decide +kernel
theorem dX9_findFar_74 : decode cX9_findFar 74 = .ok (.aload_n 0, 1) := by decide +kernel
theorem dX9_findFar_75 : decode cX9_findFar 75 = .ok (.getfield 69, 3) := by decide +kernel
theorem dX9_findFar_78 : decode cX9_findFar 78 = .ok (.sipush 256, 3) := by decide +kernel
theorem dX9_findFar_81 : decode cX9_findFar 81 = .ok (.iload 4, 2) := by decide +kernel
theorem dX9_findFar_83 : decode cX9_findFar 83 = .ok (.imul, 1) := by decide +kernel
theorem dX9_findFar_84 : decode cX9_findFar 84 = .ok (.iload_n 3, 1) := by decide +kernel
theorem dX9_findFar_85 : decode cX9_findFar 85 = .ok (.iadd, 1) := by decide +kernel
theorem dX9_findFar_86 : decode cX9_findFar 86 = .ok (.iaload, 1) := by decide +kernel
theorem dX9_findFar_87 : decode cX9_findFar 87 = .ok (.istore 5, 2) := by decide +kernel
theorem dX9_findFar_89 : decode cX9_findFar 89 = .ok (.aload_n 0, 1) := by decide +kernel
theorem dX9_findFar_90 : decode cX9_findFar 90 = .ok (.getfield 78, 3) := by decide +kernel
theorem dX9_findFar_93 : decode cX9_findFar 93 = .ok (.iload 5, 2) := by decide +kernel
theorem dX9_findFar_95 : decode cX9_findFar 95 = .ok (.aload_n 0, 1) := by decide +kernel
theorem dX9_findFar_96 : decode cX9_findFar 96 = .ok (.getfield 78, 3) := by decide +kernel
theorem dX9_findFar_99 : decode cX9_findFar 99 = .ok (.iload 5, 2) := by decide +kernel
theorem dX9_findFar_101 : decode cX9_findFar 101 = .ok (.iaload, 1) := by decide +kernel
theorem dX9_findFar_102 : decode cX9_findFar 102 = .ok (.ifCond .ge 9, 3) := by decide +kernel
theorem dX9_findFar_105 : decode cX9_findFar 105 = .ok (.iload_n 2, 1) := by decide +kernel
theorem dX9_findFar_106 : decode cX9_findFar 106 = .ok (.iconst 1, 1) := by decide +kernel
theorem dX9_findFar_107 : decode cX9_findFar 107 = .ok (.iadd, 1) := by decide +kernel
theorem dX9_findFar_108 : decode cX9_findFar 108 = .ok (.goto 10, 3) := by decide +kernel
theorem dX9_findFar_111 : decode cX9_findFar 111 = .ok (.aload_n 0, 1) := by decide +kernel
theorem dX9_findFar_112 : decode cX9_findFar 112 = .ok (.getfield 78, 3) := by decide +kernel
theorem dX9_findFar_115 : decode cX9_findFar 115 = .ok (.iload 5, 2) := by decide +kernel
theorem dX9_findFar_117 : decode cX9_findFar 117 = .ok (.iaload, 1) := by decide +kernel
theorem dX9_findFar_118 : decode cX9_findFar 118 = .ok (.iastore, 1) := by decide +kernel
theorem dX9_findFar_119 : decode cX9_findFar 119 = .ok (.iinc 4 1, 3) := by decide +kernel
theorem dX9_findFar_122 : decode cX9_findFar 122 = .ok (.goto (-67), 3) := by decide +kernel
theorem dX9_findFar_125 : decode cX9_findFar 125 = .ok (.iinc 3 1, 3) := by decide +kernel
theorem dX9_findFar_128 : decode cX9_findFar 128 = .ok (.goto (-84), 3) := by decide +kernel
theorem dX9_findFar_131 : decode cX9_findFar 131 = .ok (.iinc 2 1, 3) := by decide +kernel
theorem dX9_findFar_134 : decode cX9_findFar 134 = .ok (.goto (-100), 3) := by decide +kernel
theorem dX9_findFar_137 : decode cX9_findFar 137 = .ok (.return_, 1) := by decide +kernel
theorem dX9_orbit_0 : decode cX9_orbit 0 = .ok (.aload_n 0, 1) := by decide +kernel
theorem dX9_orbit_1 : decode cX9_orbit 1 = .ok (.iload_n 1, 1) := by decide +kernel
theorem dX9_orbit_2 : decode cX9_orbit 2 = .ok (.invokevirtual 255, 3) := by decide +kernel
theorem dX9_orbit_5 : decode cX9_orbit 5 = .ok (.istore_n 2, 1) := by decide +kernel
theorem dX9_orbit_6 : decode cX9_orbit 6 = .ok (.iload_n 2, 1) := by decide +kernel
theorem dX9_orbit_7 : decode cX9_orbit 7 = .ok (.ifCond .eq 5, 3) := by decide +kernel
theorem dX9_orbit_10 : decode cX9_orbit 10 = .ok (.iload_n 2, 1) := by decide +kernel
theorem dX9_orbit_11 : decode cX9_orbit 11 = .ok (.ireturn, 1) := by decide +kernel
theorem dX9_orbit_12 : decode cX9_orbit 12 = .ok (.aload_n 0, 1) := by decide +kernel
theorem dX9_orbit_13 : decode cX9_orbit 13 = .ok (.aload_n 0, 1) := by decide +kernel
theorem dX9_orbit_14 : decode cX9_orbit 14 = .ok (.getfield 252, 3) := by decide +kernel
theorem dX9_orbit_17 : decode cX9_orbit 17 = .ok (.invokevirtual 258, 3) := by decide +kernel
theorem dX9_orbit_20 : decode cX9_orbit 20 = .ok (.iconst 0, 1) := by decide +kernel
theorem dX9_orbit_21 : decode cX9_orbit 21 = .ok (.istore_n 3, 1) := by decide +kernel
theorem dX9_orbit_22 : decode cX9_orbit 22 = .ok (.iconst 0, 1) := by decide +kernel
theorem dX9_orbit_23 : decode cX9_orbit 23 = .ok (.istore 4, 2) := by decide +kernel
theorem dX9_orbit_25 : decode cX9_orbit 25 = .ok (.iload 4, 2) := by decide +kernel
theorem dX9_orbit_27 : decode cX9_orbit 27 = .ok (.aload_n 0, 1) := by decide +kernel
theorem dX9_orbit_28 : decode cX9_orbit 28 = .ok (.getfield 226, 3) := by decide +kernel
theorem dX9_orbit_31 : decode cX9_orbit 31 = .ok (.if_icmp .ge 27, 3) := by decide +kernel
theorem dX9_orbit_34 : decode cX9_orbit 34 = .ok (.iload_n 3, 1) := by decide +kernel
theorem dX9_orbit_35 : decode cX9_orbit 35 = .ok (.aload_n 0, 1) := by decide +kernel
theorem dX9_orbit_36 : decode cX9_orbit 36 = .ok (.getfield 78, 3) := by decide +kernel
theorem dX9_orbit_39 : decode cX9_orbit 39 = .ok (.iload 4, 2) := by decide +kernel
theorem dX9_orbit_41 : decode cX9_orbit 41 = .ok (.iaload, 1) := by decide +kernel
theorem dX9_orbit_42 : decode cX9_orbit 42 = .ok (.ifCond .lt 7, 3) := by decide +kernel
theorem dX9_orbit_45 : decode cX9_orbit 45 = .ok (.iconst 1, 1) := by decide +kernel
theorem dX9_orbit_46 : decode cX9_orbit 46 = .ok (.goto 4, 3) := by decide +kernel
theorem dX9_orbit_49 : decode cX9_orbit 49 = .ok (.iconst 0, 1) := by decide +kernel
theorem dX9_orbit_50 : decode cX9_orbit 50 = .ok (.iadd, 1) := by decide +kernel
theorem dX9_orbit_51 : decode cX9_orbit 51 = .ok (.istore_n 3, 1) := by decide +kernel
theorem dX9_orbit_52 : decode cX9_orbit 52 = .ok (.iinc 4 1, 3) := by decide +kernel
theorem dX9_orbit_55 : decode cX9_orbit 55 = .ok (.goto (-30), 3) := by decide +kernel
theorem dX9_orbit_58 : decode cX9_orbit 58 = .ok (.iload_n 3, 1) := by decide +kernel
theorem dX9_orbit_59 : decode cX9_orbit 59 = .ok (.ireturn, 1) := by decide +kernel
theorem dX9_takeRows_0 : decode cX9_takeRows 0 = .ok (.aload_n 0, 1) := by decide +kernel
theorem dX9_takeRows_1 : decode cX9_takeRows 1 = .ok (.iload_n 1, 1) := by decide +kernel
theorem dX9_takeRows_2 : decode cX9_takeRows 2 = .ok (.bipush 10, 2) := by decide +kernel
theorem dX9_takeRows_4 : decode cX9_takeRows 4 = .ok (.invokevirtual 159, 3) := by decide +kernel
theorem dX9_takeRows_7 : decode cX9_takeRows 7 = .ok (.ifCond .eq 17, 3) := by decide +kernel
theorem dX9_takeRows_10 : decode cX9_takeRows 10 = .ok (.aload_n 0, 1) := by decide +kernel
theorem dX9_takeRows_11 : decode cX9_takeRows 11 = .ok (.aload_n 0, 1) := by decide +kernel
theorem dX9_takeRows_12 : decode cX9_takeRows 12 = .ok (.getfield 156, 3) := by decide +kernel
theorem dX9_takeRows_15 : decode cX9_takeRows 15 = .ok (.sipush 256, 3) := by decide +kernel
theorem dX9_takeRows_18 : decode cX9_takeRows 18 = .ok (.invokevirtual 223, 3) := by decide +kernel
theorem dX9_takeRows_21 : decode cX9_takeRows 21 = .ok (.ifCond .ge 5, 3) := by decide +kernel
theorem dX9_takeRows_24 : decode cX9_takeRows 24 = .ok (.iconst (-1), 1) := by decide +kernel
theorem dX9_takeRows_25 : decode cX9_takeRows 25 = .ok (.ireturn, 1) := by decide +kernel
theorem dX9_takeRows_26 : decode cX9_takeRows 26 = .ok (.aload_n 0, 1) := by decide +kernel
theorem dX9_takeRows_27 : decode cX9_takeRows 27 = .ok (.getfield 156, 3) := by decide +kernel
theorem dX9_takeRows_30 : decode cX9_takeRows 30 = .ok (.istore_n 3, 1) := by decide +kernel
theorem dX9_takeRows_31 : decode cX9_takeRows 31 = .ok (.aload_n 0, 1) := by decide +kernel
theorem dX9_takeRows_32 : decode cX9_takeRows 32 = .ok (.iload_n 2, 1) := by decide +kernel
theorem dX9_takeRows_33 : decode cX9_takeRows 33 = .ok (.bipush 10, 2) := by decide +kernel
theorem dX9_takeRows_35 : decode cX9_takeRows 35 = .ok (.invokevirtual 159, 3) := by decide +kernel
theorem dX9_takeRows_38 : decode cX9_takeRows 38 = .ok (.ifCond .eq 11, 3) := by decide +kernel
theorem dX9_takeRows_41 : decode cX9_takeRows 41 = .ok (.aload_n 0, 1) := by decide +kernel
theorem dX9_takeRows_42 : decode cX9_takeRows 42 = .ok (.getfield 156, 3) := by decide +kernel
theorem dX9_takeRows_45 : decode cX9_takeRows 45 = .ok (.iload_n 3, 1) := by decide +kernel
theorem dX9_takeRows_46 : decode cX9_takeRows 46 = .ok (.if_icmp .eq 5, 3) := by decide +kernel
theorem dX9_takeRows_49 : decode cX9_takeRows 49 = .ok (.iconst (-1), 1) := by decide +kernel
theorem dX9_takeRows_50 : decode cX9_takeRows 50 = .ok (.ireturn, 1) := by decide +kernel
theorem dX9_takeRows_51 : decode cX9_takeRows 51 = .ok (.aload_n 0, 1) := by decide +kernel
theorem dX9_takeRows_52 : decode cX9_takeRows 52 = .ok (.aload_n 0, 1) := by decide +kernel
theorem dX9_takeRows_53 : decode cX9_takeRows 53 = .ok (.invokevirtual 232, 3) := by decide +kernel
theorem dX9_takeRows_56 : decode cX9_takeRows 56 = .ok (.putfield 261, 3) := by decide +kernel
theorem dX9_takeRows_59 : decode cX9_takeRows 59 = .ok (.aload_n 0, 1) := by decide +kernel
theorem dX9_takeRows_60 : decode cX9_takeRows 60 = .ok (.iload_n 1, 1) := by decide +kernel
theorem dX9_takeRows_61 : decode cX9_takeRows 61 = .ok (.invokevirtual 255, 3) := by decide +kernel
theorem dX9_takeRows_64 : decode cX9_takeRows 64 = .ok (.ireturn, 1) := by decide +kernel
theorem dX9_far_0 : decode cX9_far 0 = .ok (.aload_n 0, 1) := by decide +kernel
theorem dX9_far_1 : decode cX9_far 1 = .ok (.iload_n 1, 1) := by decide +kernel
theorem dX9_far_2 : decode cX9_far 2 = .ok (.iload_n 2, 1) := by decide +kernel
theorem dX9_far_3 : decode cX9_far 3 = .ok (.invokevirtual 264, 3) := by decide +kernel
theorem dX9_far_6 : decode cX9_far 6 = .ok (.istore_n 3, 1) := by decide +kernel
theorem dX9_far_7 : decode cX9_far 7 = .ok (.iload_n 3, 1) := by decide +kernel
theorem dX9_far_8 : decode cX9_far 8 = .ok (.ifCond .eq 5, 3) := by decide +kernel
theorem dX9_far_11 : decode cX9_far 11 = .ok (.iload_n 3, 1) := by decide +kernel
theorem dX9_far_12 : decode cX9_far 12 = .ok (.ireturn, 1) := by decide +kernel
theorem dX9_far_13 : decode cX9_far 13 = .ok (.aload_n 0, 1) := by decide +kernel
theorem dX9_far_14 : decode cX9_far 14 = .ok (.aload_n 0, 1) := by decide +kernel
theorem dX9_far_15 : decode cX9_far 15 = .ok (.getfield 252, 3) := by decide +kernel
theorem dX9_far_18 : decode cX9_far 18 = .ok (.invokevirtual 258, 3) := by decide +kernel
theorem dX9_far_21 : decode cX9_far 21 = .ok (.aload_n 0, 1) := by decide +kernel
theorem dX9_far_22 : decode cX9_far 22 = .ok (.getfield 78, 3) := by decide +kernel
theorem dX9_far_25 : decode cX9_far 25 = .ok (.aload_n 0, 1) := by decide +kernel
theorem dX9_far_26 : decode cX9_far 26 = .ok (.getfield 261, 3) := by decide +kernel
theorem dX9_far_29 : decode cX9_far 29 = .ok (.iaload, 1) := by decide +kernel
theorem dX9_far_30 : decode cX9_far 30 = .ok (.ifCond .ge 8, 3) := by decide +kernel
theorem dX9_far_33 : decode cX9_far 33 = .ok (.bipush (-8), 2) := by decide +kernel
theorem dX9_far_35 : decode cX9_far 35 = .ok (.goto 12, 3) := by decide +kernel
theorem dX9_far_38 : decode cX9_far 38 = .ok (.aload_n 0, 1) := by decide +kernel
theorem dX9_far_39 : decode cX9_far 39 = .ok (.getfield 78, 3) := by decide +kernel
theorem dX9_far_42 : decode cX9_far 42 = .ok (.aload_n 0, 1) := by decide +kernel
theorem dX9_far_43 : decode cX9_far 43 = .ok (.getfield 261, 3) := by decide +kernel
theorem dX9_far_46 : decode cX9_far 46 = .ok (.iaload, 1) := by decide +kernel
theorem dX9_far_47 : decode cX9_far 47 = .ok (.ireturn, 1) := by decide +kernel
theorem dX9_findFarTo_0 : decode cX9_findFarTo 0 = .ok (.iconst 0, 1) := by decide +kernel
theorem dX9_findFarTo_1 : decode cX9_findFarTo 1 = .ok (.istore_n 2, 1) := by decide +kernel
theorem dX9_findFarTo_2 : decode cX9_findFarTo 2 = .ok (.iload_n 2, 1) := by decide +kernel
theorem dX9_findFarTo_3 : decode cX9_findFarTo 3 = .ok (.aload_n 0, 1) := by decide +kernel
theorem dX9_findFarTo_4 : decode cX9_findFarTo 4 = .ok (.getfield 226, 3) := by decide +kernel
theorem dX9_findFarTo_7 : decode cX9_findFarTo 7 = .ok (.if_icmp .ge 25, 3) := by decide +kernel
theorem dX9_findFarTo_10 : decode cX9_findFarTo 10 = .ok (.aload_n 0, 1) := by decide +kernel
theorem dX9_findFarTo_11 : decode cX9_findFarTo 11 = .ok (.getfield 81, 3) := by decide +kernel
theorem dX9_findFarTo_14 : decode cX9_findFarTo 14 = .ok (.iload_n 2, 1) := by decide +kernel
theorem dX9_findFarTo_15 : decode cX9_findFarTo 15 = .ok (.iload_n 2, 1) := by decide +kernel
theorem dX9_findFarTo_16 : decode cX9_findFarTo 16 = .ok (.iload_n 1, 1) := by decide +kernel
theorem dX9_findFarTo_17 : decode cX9_findFarTo 17 = .ok (.if_icmp .ne 7, 3) := by decide +kernel
theorem dX9_findFarTo_20 : decode cX9_findFarTo 20 = .ok (.iconst 0, 1) := by decide +kernel
theorem dX9_findFarTo_21 : decode cX9_findFarTo 21 = .ok (.goto 4, 3) := by decide +kernel
theorem dX9_findFarTo_24 : decode cX9_findFarTo 24 = .ok (.iconst (-1), 1) := by decide +kernel
theorem dX9_findFarTo_25 : decode cX9_findFarTo 25 = .ok (.iastore, 1) := by decide +kernel
theorem dX9_findFarTo_26 : decode cX9_findFarTo 26 = .ok (.iinc 2 1, 3) := by decide +kernel
theorem dX9_findFarTo_29 : decode cX9_findFarTo 29 = .ok (.goto (-27), 3) := by decide +kernel
theorem dX9_findFarTo_32 : decode cX9_findFarTo 32 = .ok (.iconst 0, 1) := by decide +kernel
theorem dX9_findFarTo_33 : decode cX9_findFarTo 33 = .ok (.istore_n 2, 1) := by decide +kernel
theorem dX9_findFarTo_34 : decode cX9_findFarTo 34 = .ok (.iload_n 2, 1) := by decide +kernel
theorem dX9_findFarTo_35 : decode cX9_findFarTo 35 = .ok (.aload_n 0, 1) := by decide +kernel
theorem dX9_findFarTo_36 : decode cX9_findFarTo 36 = .ok (.getfield 226, 3) := by decide +kernel
theorem dX9_findFarTo_39 : decode cX9_findFarTo 39 = .ok (.if_icmp .ge 92, 3) := by decide +kernel
theorem dX9_findFarTo_42 : decode cX9_findFarTo 42 = .ok (.iconst 0, 1) := by decide +kernel
theorem dX9_findFarTo_43 : decode cX9_findFarTo 43 = .ok (.istore_n 3, 1) := by decide +kernel
theorem dX9_findFarTo_44 : decode cX9_findFarTo 44 = .ok (.iload_n 3, 1) := by decide +kernel
theorem dX9_findFarTo_45 : decode cX9_findFarTo 45 = .ok (.aload_n 0, 1) := by decide +kernel
theorem dX9_findFarTo_46 : decode cX9_findFarTo 46 = .ok (.getfield 226, 3) := by decide +kernel
theorem dX9_findFarTo_49 : decode cX9_findFarTo 49 = .ok (.if_icmp .ge 76, 3) := by decide +kernel
theorem dX9_findFarTo_52 : decode cX9_findFarTo 52 = .ok (.iconst 0, 1) := by decide +kernel
theorem dX9_findFarTo_53 : decode cX9_findFarTo 53 = .ok (.istore 4, 2) := by decide +kernel
theorem dX9_findFarTo_55 : decode cX9_findFarTo 55 = .ok (.iload 4, 2) := by decide +kernel
theorem dX9_findFarTo_57 : decode cX9_findFarTo 57 = .ok (.aload_n 0, 1) := by decide +kernel
theorem dX9_findFarTo_58 : decode cX9_findFarTo 58 = .ok (.getfield 127, 3) := by decide +kernel
theorem dX9_findFarTo_61 : decode cX9_findFarTo 61 = .ok (.if_icmp .ge 58, 3) := by decide +kernel
theorem dX9_findFarTo_64 : decode cX9_findFarTo 64 = .ok (.aload_n 0, 1) := by decide +kernel
theorem dX9_findFarTo_65 : decode cX9_findFarTo 65 = .ok (.getfield 81, 3) := by decide +kernel
theorem dX9_findFarTo_68 : decode cX9_findFarTo 68 = .ok (.iload_n 3, 1) := by decide +kernel
theorem dX9_findFarTo_69 : decode cX9_findFarTo 69 = .ok (.aload_n 0, 1) := by decide +kernel
theorem dX9_findFarTo_70 : decode cX9_findFarTo 70 = .ok (.getfield 81, 3) := by decide +kernel
theorem dX9_findFarTo_73 : decode cX9_findFarTo 73 = .ok (.iload_n 3, 1) := by decide +kernel
theorem dX9_findFarTo_74 : decode cX9_findFarTo 74 = .ok (.iaload, 1) := by decide +kernel
theorem dX9_findFarTo_75 : decode cX9_findFarTo 75 = .ok (.ifCond .ge 31, 3) := by decide +kernel
theorem dX9_findFarTo_78 : decode cX9_findFarTo 78 = .ok (.aload_n 0, 1) := by decide +kernel
theorem dX9_findFarTo_79 : decode cX9_findFarTo 79 = .ok (.getfield 81, 3) := by decide +kernel
theorem dX9_findFarTo_82 : decode cX9_findFarTo 82 = .ok (.aload_n 0, 1) := by decide +kernel
theorem dX9_findFarTo_83 : decode cX9_findFarTo 83 = .ok (.getfield 69, 3) := by decide +kernel
theorem dX9_findFarTo_86 : decode cX9_findFarTo 86 = .ok (.sipush 256, 3) := by decide +kernel
theorem dX9_findFarTo_89 : decode cX9_findFarTo 89 = .ok (.iload 4, 2) := by decide +kernel
theorem dX9_findFarTo_91 : decode cX9_findFarTo 91 = .ok (.imul, 1) := by decide +kernel
theorem dX9_findFarTo_92 : decode cX9_findFarTo 92 = .ok (.iload_n 3, 1) := by decide +kernel
theorem dX9_findFarTo_93 : decode cX9_findFarTo 93 = .ok (.iadd, 1) := by decide +kernel
theorem dX9_findFarTo_94 : decode cX9_findFarTo 94 = .ok (.iaload, 1) := by decide +kernel
theorem dX9_findFarTo_95 : decode cX9_findFarTo 95 = .ok (.iaload, 1) := by decide +kernel
theorem dX9_findFarTo_96 : decode cX9_findFarTo 96 = .ok (.iload_n 2, 1) := by decide +kernel
theorem dX9_findFarTo_97 : decode cX9_findFarTo 97 = .ok (.if_icmp .ne 9, 3) := by decide +kernel
theorem dX9_findFarTo_100 : decode cX9_findFarTo 100 = .ok (.iload_n 2, 1) := by decide +kernel
theorem dX9_findFarTo_101 : decode cX9_findFarTo 101 = .ok (.iconst 1, 1) := by decide +kernel
theorem dX9_findFarTo_102 : decode cX9_findFarTo 102 = .ok (.iadd, 1) := by decide +kernel
theorem dX9_findFarTo_103 : decode cX9_findFarTo 103 = .ok (.goto 9, 3) := by decide +kernel
theorem dX9_findFarTo_106 : decode cX9_findFarTo 106 = .ok (.aload_n 0, 1) := by decide +kernel
theorem dX9_findFarTo_107 : decode cX9_findFarTo 107 = .ok (.getfield 81, 3) := by decide +kernel
theorem dX9_findFarTo_110 : decode cX9_findFarTo 110 = .ok (.iload_n 3, 1) := by decide +kernel
theorem dX9_findFarTo_111 : decode cX9_findFarTo 111 = .ok (.iaload, 1) := by decide +kernel
theorem dX9_findFarTo_112 : decode cX9_findFarTo 112 = .ok (.iastore, 1) := by decide +kernel
theorem dX9_findFarTo_113 : decode cX9_findFarTo 113 = .ok (.iinc 4 1, 3) := by decide +kernel
theorem dX9_findFarTo_116 : decode cX9_findFarTo 116 = .ok (.goto (-61), 3) := by decide +kernel
theorem dX9_findFarTo_119 : decode cX9_findFarTo 119 = .ok (.iinc 3 1, 3) := by decide +kernel
theorem dX9_findFarTo_122 : decode cX9_findFarTo 122 = .ok (.goto (-78), 3) := by decide +kernel
theorem dX9_findFarTo_125 : decode cX9_findFarTo 125 = .ok (.iinc 2 1, 3) := by decide +kernel
theorem dX9_findFarTo_128 : decode cX9_findFarTo 128 = .ok (.goto (-94), 3) := by decide +kernel
theorem dX9_findFarTo_131 : decode cX9_findFarTo 131 = .ok (.return_, 1) := by decide +kernel
theorem dX9_way_0 : decode cX9_way 0 = .ok (.aload_n 0, 1) := by decide +kernel
theorem dX9_way_1 : decode cX9_way 1 = .ok (.iload_n 1, 1) := by decide +kernel
theorem dX9_way_2 : decode cX9_way 2 = .ok (.iload_n 2, 1) := by decide +kernel
theorem dX9_way_3 : decode cX9_way 3 = .ok (.invokevirtual 267, 3) := by decide +kernel
theorem dX9_way_6 : decode cX9_way 6 = .ok (.istore 4, 2) := by decide +kernel
theorem dX9_way_8 : decode cX9_way 8 = .ok (.iload_n 3, 1) := by decide +kernel
theorem dX9_way_9 : decode cX9_way 9 = .ok (.ifCond .lt 9, 3) := by decide +kernel
theorem dX9_way_12 : decode cX9_way 12 = .ok (.iload_n 3, 1) := by decide +kernel
theorem dX9_way_13 : decode cX9_way 13 = .ok (.iload 4, 2) := by decide +kernel
theorem dX9_way_15 : decode cX9_way 15 = .ok (.if_icmp .lt 5, 3) := by decide +kernel
theorem dX9_way_18 : decode cX9_way 18 = .ok (.iconst 0, 1) := by decide +kernel
theorem dX9_way_19 : decode cX9_way 19 = .ok (.ireturn, 1) := by decide +kernel
theorem dX9_way_20 : decode cX9_way 20 = .ok (.aload_n 0, 1) := by decide +kernel
theorem dX9_way_21 : decode cX9_way 21 = .ok (.aload_n 0, 1) := by decide +kernel
theorem dX9_way_22 : decode cX9_way 22 = .ok (.getfield 261, 3) := by decide +kernel
theorem dX9_way_25 : decode cX9_way 25 = .ok (.invokevirtual 270, 3) := by decide +kernel
theorem dX9_way_28 : decode cX9_way 28 = .ok (.aload_n 0, 1) := by decide +kernel
theorem dX9_way_29 : decode cX9_way 29 = .ok (.getfield 252, 3) := by decide +kernel
theorem dX9_way_32 : decode cX9_way 32 = .ok (.istore 5, 2) := by decide +kernel
theorem dX9_way_34 : decode cX9_way 34 = .ok (.iconst 0, 1) := by decide +kernel
theorem dX9_way_35 : decode cX9_way 35 = .ok (.istore 6, 2) := by decide +kernel
theorem dX9_way_37 : decode cX9_way 37 = .ok (.iconst 0, 1) := by decide +kernel
theorem dX9_way_38 : decode cX9_way 38 = .ok (.istore 7, 2) := by decide +kernel
theorem dX9_way_40 : decode cX9_way 40 = .ok (.iload 7, 2) := by decide +kernel
theorem dX9_way_42 : decode cX9_way 42 = .ok (.iload_n 3, 1) := by decide +kernel
theorem dX9_way_43 : decode cX9_way 43 = .ok (.if_icmp .gt 74, 3) := by decide +kernel
theorem dX9_way_46 : decode cX9_way 46 = .ok (.iconst 0, 1) := by decide +kernel
theorem dX9_way_47 : decode cX9_way 47 = .ok (.istore 8, 2) := by decide +kernel
theorem dX9_way_49 : decode cX9_way 49 = .ok (.aload_n 0, 1) := by decide +kernel
theorem dX9_way_50 : decode cX9_way 50 = .ok (.getfield 81, 3) := by decide +kernel
theorem dX9_way_53 : decode cX9_way 53 = .ok (.aload_n 0, 1) := by decide +kernel
theorem dX9_way_54 : decode cX9_way 54 = .ok (.getfield 69, 3) := by decide +kernel
theorem dX9_way_57 : decode cX9_way 57 = .ok (.sipush 256, 3) := by decide +kernel
theorem dX9_way_60 : decode cX9_way 60 = .ok (.iload 8, 2) := by decide +kernel
theorem dX9_way_62 : decode cX9_way 62 = .ok (.imul, 1) := by decide +kernel
theorem dX9_way_63 : decode cX9_way 63 = .ok (.iload 5, 2) := by decide +kernel
theorem dX9_way_65 : decode cX9_way 65 = .ok (.iadd, 1) := by decide +kernel
theorem dX9_way_66 : decode cX9_way 66 = .ok (.iaload, 1) := by decide +kernel
theorem dX9_way_67 : decode cX9_way 67 = .ok (.iaload, 1) := by decide +kernel
theorem dX9_way_68 : decode cX9_way 68 = .ok (.aload_n 0, 1) := by decide +kernel
theorem dX9_way_69 : decode cX9_way 69 = .ok (.getfield 81, 3) := by decide +kernel
theorem dX9_way_72 : decode cX9_way 72 = .ok (.iload 5, 2) := by decide +kernel
theorem dX9_way_74 : decode cX9_way 74 = .ok (.iaload, 1) := by decide +kernel
theorem dX9_way_75 : decode cX9_way 75 = .ok (.iconst 1, 1) := by decide +kernel
theorem dX9_way_76 : decode cX9_way 76 = .ok (.isub, 1) := by decide +kernel
theorem dX9_way_77 : decode cX9_way 77 = .ok (.if_icmp .eq 9, 3) := by decide +kernel
theorem dX9_way_80 : decode cX9_way 80 = .ok (.iinc 8 1, 3) := by decide +kernel
theorem dX9_way_83 : decode cX9_way 83 = .ok (.goto (-34), 3) := by decide +kernel
theorem dX9_way_86 : decode cX9_way 86 = .ok (.aload_n 0, 1) := by decide +kernel
theorem dX9_way_87 : decode cX9_way 87 = .ok (.getfield 39, 3) := by decide +kernel
theorem dX9_way_90 : decode cX9_way 90 = .ok (.iload 8, 2) := by decide +kernel
theorem dX9_way_92 : decode cX9_way 92 = .ok (.iaload, 1) := by decide +kernel
theorem dX9_way_93 : decode cX9_way 93 = .ok (.istore 6, 2) := by decide +kernel
theorem dX9_way_95 : decode cX9_way 95 = .ok (.aload_n 0, 1) := by decide +kernel
theorem dX9_way_96 : decode cX9_way 96 = .ok (.getfield 69, 3) := by decide +kernel
theorem dX9_way_99 : decode cX9_way 99 = .ok (.sipush 256, 3) := by decide +kernel
theorem dX9_way_102 : decode cX9_way 102 = .ok (.iload 8, 2) := by decide +kernel
theorem dX9_way_104 : decode cX9_way 104 = .ok (.imul, 1) := by decide +kernel
theorem dX9_way_105 : decode cX9_way 105 = .ok (.iload 5, 2) := by decide +kernel
theorem dX9_way_107 : decode cX9_way 107 = .ok (.iadd, 1) := by decide +kernel
theorem dX9_way_108 : decode cX9_way 108 = .ok (.iaload, 1) := by decide +kernel
theorem dX9_way_109 : decode cX9_way 109 = .ok (.istore 5, 2) := by decide +kernel
theorem dX9_way_111 : decode cX9_way 111 = .ok (.iinc 7 1, 3) := by decide +kernel
theorem dX9_way_114 : decode cX9_way 114 = .ok (.goto (-74), 3) := by decide +kernel
theorem dX9_way_117 : decode cX9_way 117 = .ok (.iload 6, 2) := by decide +kernel
theorem dX9_way_119 : decode cX9_way 119 = .ok (.ireturn, 1) := by decide +kernel
theorem dX9_reach_0 : decode cX9_reach 0 = .ok (.aload_n 0, 1) := by decide +kernel
theorem dX9_reach_1 : decode cX9_reach 1 = .ok (.iload_n 1, 1) := by decide +kernel
theorem dX9_reach_2 : decode cX9_reach 2 = .ok (.invokevirtual 255, 3) := by decide +kernel
theorem dX9_reach_5 : decode cX9_reach 5 = .ok (.istore_n 2, 1) := by decide +kernel
theorem dX9_reach_6 : decode cX9_reach 6 = .ok (.iload_n 2, 1) := by decide +kernel
theorem dX9_reach_7 : decode cX9_reach 7 = .ok (.ifCond .eq 5, 3) := by decide +kernel
theorem dX9_reach_10 : decode cX9_reach 10 = .ok (.iload_n 2, 1) := by decide +kernel
theorem dX9_reach_11 : decode cX9_reach 11 = .ok (.ireturn, 1) := by decide +kernel
theorem dX9_reach_12 : decode cX9_reach 12 = .ok (.aload_n 0, 1) := by decide +kernel
theorem dX9_reach_13 : decode cX9_reach 13 = .ok (.aload_n 0, 1) := by decide +kernel
theorem dX9_reach_14 : decode cX9_reach 14 = .ok (.getfield 252, 3) := by decide +kernel
theorem dX9_reach_17 : decode cX9_reach 17 = .ok (.invokevirtual 258, 3) := by decide +kernel
theorem dX9_reach_20 : decode cX9_reach 20 = .ok (.iconst 0, 1) := by decide +kernel
theorem dX9_reach_21 : decode cX9_reach 21 = .ok (.istore_n 3, 1) := by decide +kernel
theorem dX9_reach_22 : decode cX9_reach 22 = .ok (.iconst 0, 1) := by decide +kernel
theorem dX9_reach_23 : decode cX9_reach 23 = .ok (.istore 4, 2) := by decide +kernel
theorem dX9_reach_25 : decode cX9_reach 25 = .ok (.iload 4, 2) := by decide +kernel
theorem dX9_reach_27 : decode cX9_reach 27 = .ok (.aload_n 0, 1) := by decide +kernel
theorem dX9_reach_28 : decode cX9_reach 28 = .ok (.getfield 226, 3) := by decide +kernel
theorem dX9_reach_31 : decode cX9_reach 31 = .ok (.if_icmp .ge 21, 3) := by decide +kernel
theorem dX9_reach_34 : decode cX9_reach 34 = .ok (.iload_n 3, 1) := by decide +kernel
theorem dX9_reach_35 : decode cX9_reach 35 = .ok (.aload_n 0, 1) := by decide +kernel
theorem dX9_reach_36 : decode cX9_reach 36 = .ok (.getfield 78, 3) := by decide +kernel
theorem dX9_reach_39 : decode cX9_reach 39 = .ok (.iload 4, 2) := by decide +kernel
theorem dX9_reach_41 : decode cX9_reach 41 = .ok (.iaload, 1) := by decide +kernel
theorem dX9_reach_42 : decode cX9_reach 42 = .ok (.invokestatic 273, 3) := by decide +kernel
theorem dX9_reach_45 : decode cX9_reach 45 = .ok (.istore_n 3, 1) := by decide +kernel
theorem dX9_reach_46 : decode cX9_reach 46 = .ok (.iinc 4 1, 3) := by decide +kernel
theorem dX9_reach_49 : decode cX9_reach 49 = .ok (.goto (-24), 3) := by decide +kernel
theorem dX9_reach_52 : decode cX9_reach 52 = .ok (.iload_n 3, 1) := by decide +kernel
theorem dX9_reach_53 : decode cX9_reach 53 = .ok (.ireturn, 1) := by decide +kernel
theorem dX9_toGroup_0 : decode cX9_toGroup 0 = .ok (.lload_n 1, 1) := by decide +kernel
theorem dX9_toGroup_1 : decode cX9_toGroup 1 = .ok (.ldc2_w 276, 3) := by decide +kernel
theorem dX9_toGroup_4 : decode cX9_toGroup 4 = .ok (.lmul, 1) := by decide +kernel
theorem dX9_toGroup_5 : decode cX9_toGroup 5 = .ok (.lstore_n 3, 1) := by decide +kernel
theorem dX9_toGroup_6 : decode cX9_toGroup 6 = .ok (.lload_n 3, 1) := by decide +kernel
theorem dX9_toGroup_7 : decode cX9_toGroup 7 = .ok (.bipush 51, 2) := by decide +kernel
theorem dX9_toGroup_9 : decode cX9_toGroup 9 = .ok (.lushr, 1) := by decide +kernel
theorem dX9_toGroup_10 : decode cX9_toGroup 10 = .ok (.l2i, 1) := by decide +kernel
theorem dX9_toGroup_11 : decode cX9_toGroup 11 = .ok (.istore 5, 2) := by decide +kernel
theorem dX9_toGroup_13 : decode cX9_toGroup 13 = .ok (.aload_n 0, 1) := by decide +kernel
theorem dX9_toGroup_14 : decode cX9_toGroup 14 = .ok (.getfield 88, 3) := by decide +kernel
theorem dX9_toGroup_17 : decode cX9_toGroup 17 = .ok (.iload 5, 2) := by decide +kernel
theorem dX9_toGroup_19 : decode cX9_toGroup 19 = .ok (.iaload, 1) := by decide +kernel
theorem dX9_toGroup_20 : decode cX9_toGroup 20 = .ok (.ifCond .le 35, 3) := by decide +kernel
theorem dX9_toGroup_23 : decode cX9_toGroup 23 = .ok (.aload_n 0, 1) := by decide +kernel
theorem dX9_toGroup_24 : decode cX9_toGroup 24 = .ok (.getfield 84, 3) := by decide +kernel
theorem dX9_toGroup_27 : decode cX9_toGroup 27 = .ok (.aload_n 0, 1) := by decide +kernel
theorem dX9_toGroup_28 : decode cX9_toGroup 28 = .ok (.getfield 88, 3) := by decide +kernel
theorem dX9_toGroup_31 : decode cX9_toGroup 31 = .ok (.iload 5, 2) := by decide +kernel
theorem dX9_toGroup_33 : decode cX9_toGroup 33 = .ok (.iaload, 1) := by decide +kernel
theorem dX9_toGroup_34 : decode cX9_toGroup 34 = .ok (.iconst 1, 1) := by decide +kernel
theorem dX9_toGroup_35 : decode cX9_toGroup 35 = .ok (.isub, 1) := by decide +kernel
theorem dX9_toGroup_36 : decode cX9_toGroup 36 = .ok (.laload, 1) := by decide +kernel
theorem dX9_toGroup_37 : decode cX9_toGroup 37 = .ok (.lload_n 1, 1) := by decide +kernel
theorem dX9_toGroup_38 : decode cX9_toGroup 38 = .ok (.lcmp, 1) := by decide +kernel
theorem dX9_toGroup_39 : decode cX9_toGroup 39 = .ok (.ifCond .eq 16, 3) := by decide +kernel
theorem dX9_toGroup_42 : decode cX9_toGroup 42 = .ok (.iload 5, 2) := by decide +kernel
theorem dX9_toGroup_44 : decode cX9_toGroup 44 = .ok (.iconst 1, 1) := by decide +kernel
theorem dX9_toGroup_45 : decode cX9_toGroup 45 = .ok (.iadd, 1) := by decide +kernel
theorem dX9_toGroup_46 : decode cX9_toGroup 46 = .ok (.sipush 8192, 3) := by decide +kernel
theorem dX9_toGroup_49 : decode cX9_toGroup 49 = .ok (.irem, 1) := by decide +kernel
theorem dX9_toGroup_50 : decode cX9_toGroup 50 = .ok (.istore 5, 2) := by decide +kernel
theorem dX9_toGroup_52 : decode cX9_toGroup 52 = .ok (.goto (-39), 3) := by decide +kernel
theorem dX9_toGroup_55 : decode cX9_toGroup 55 = .ok (.aload_n 0, 1) := by decide +kernel
theorem dX9_toGroup_56 : decode cX9_toGroup 56 = .ok (.getfield 88, 3) := by decide +kernel
theorem dX9_toGroup_59 : decode cX9_toGroup 59 = .ok (.iload 5, 2) := by decide +kernel
theorem dX9_toGroup_61 : decode cX9_toGroup 61 = .ok (.iaload, 1) := by decide +kernel
theorem dX9_toGroup_62 : decode cX9_toGroup 62 = .ok (.ifCond .le 5, 3) := by decide +kernel
theorem dX9_toGroup_65 : decode cX9_toGroup 65 = .ok (.iconst 1, 1) := by decide +kernel
theorem dX9_toGroup_66 : decode cX9_toGroup 66 = .ok (.ireturn, 1) := by decide +kernel
theorem dX9_toGroup_67 : decode cX9_toGroup 67 = .ok (.aload_n 0, 1) := by decide +kernel
theorem dX9_toGroup_68 : decode cX9_toGroup 68 = .ok (.getfield 278, 3) := by decide +kernel
theorem dX9_toGroup_71 : decode cX9_toGroup 71 = .ok (.sipush 3000, 3) := by decide +kernel
theorem dX9_toGroup_74 : decode cX9_toGroup 74 = .ok (.if_icmp .ne 5, 3) := by decide +kernel
theorem dX9_toGroup_77 : decode cX9_toGroup 77 = .ok (.iconst 0, 1) := by decide +kernel
theorem dX9_toGroup_78 : decode cX9_toGroup 78 = .ok (.ireturn, 1) := by decide +kernel
theorem dX9_toGroup_79 : decode cX9_toGroup 79 = .ok (.aload_n 0, 1) := by decide +kernel
theorem dX9_toGroup_80 : decode cX9_toGroup 80 = .ok (.getfield 84, 3) := by decide +kernel
theorem dX9_toGroup_83 : decode cX9_toGroup 83 = .ok (.aload_n 0, 1) := by decide +kernel
theorem dX9_toGroup_84 : decode cX9_toGroup 84 = .ok (.getfield 278, 3) := by decide +kernel
theorem dX9_toGroup_87 : decode cX9_toGroup 87 = .ok (.lload_n 1, 1) := by decide +kernel
theorem dX9_toGroup_88 : decode cX9_toGroup 88 = .ok (.lastore, 1) := by decide +kernel
theorem dX9_toGroup_89 : decode cX9_toGroup 89 = .ok (.aload_n 0, 1) := by decide +kernel
theorem dX9_toGroup_90 : decode cX9_toGroup 90 = .ok (.dup, 1) := by decide +kernel
theorem dX9_toGroup_91 : decode cX9_toGroup 91 = .ok (.getfield 278, 3) := by decide +kernel
theorem dX9_toGroup_94 : decode cX9_toGroup 94 = .ok (.iconst 1, 1) := by decide +kernel
theorem dX9_toGroup_95 : decode cX9_toGroup 95 = .ok (.iadd, 1) := by decide +kernel
theorem dX9_toGroup_96 : decode cX9_toGroup 96 = .ok (.putfield 278, 3) := by decide +kernel
theorem dX9_toGroup_99 : decode cX9_toGroup 99 = .ok (.aload_n 0, 1) := by decide +kernel
theorem dX9_toGroup_100 : decode cX9_toGroup 100 = .ok (.getfield 88, 3) := by decide +kernel
theorem dX9_toGroup_103 : decode cX9_toGroup 103 = .ok (.iload 5, 2) := by decide +kernel
theorem dX9_toGroup_105 : decode cX9_toGroup 105 = .ok (.aload_n 0, 1) := by decide +kernel
theorem dX9_toGroup_106 : decode cX9_toGroup 106 = .ok (.getfield 278, 3) := by decide +kernel
theorem dX9_toGroup_109 : decode cX9_toGroup 109 = .ok (.iastore, 1) := by decide +kernel
theorem dX9_toGroup_110 : decode cX9_toGroup 110 = .ok (.iconst 1, 1) := by decide +kernel
theorem dX9_toGroup_111 : decode cX9_toGroup 111 = .ok (.ireturn, 1) := by decide +kernel
theorem dX9_made_0 : decode cX9_made 0 = .ok (.lconst 0, 1) := by decide +kernel
theorem dX9_made_1 : decode cX9_made 1 = .ok (.lstore 4, 2) := by decide +kernel
theorem dX9_made_3 : decode cX9_made 3 = .ok (.iconst 0, 1) := by decide +kernel
theorem dX9_made_4 : decode cX9_made 4 = .ok (.istore 6, 2) := by decide +kernel
theorem dX9_made_6 : decode cX9_made 6 = .ok (.iload 6, 2) := by decide +kernel
theorem dX9_made_8 : decode cX9_made 8 = .ok (.aload_n 0, 1) := by decide +kernel
theorem dX9_made_9 : decode cX9_made 9 = .ok (.getfield 226, 3) := by decide +kernel
theorem dX9_made_12 : decode cX9_made 12 = .ok (.if_icmp .ge 46, 3) := by decide +kernel
theorem dX9_made_15 : decode cX9_made 15 = .ok (.lload_n 1, 1) := by decide +kernel
theorem dX9_made_16 : decode cX9_made 16 = .ok (.iconst 4, 1) := by decide +kernel
theorem dX9_made_17 : decode cX9_made 17 = .ok (.iload 6, 2) := by decide +kernel
theorem dX9_made_19 : decode cX9_made 19 = .ok (.imul, 1) := by decide +kernel
theorem dX9_made_20 : decode cX9_made 20 = .ok (.lushr, 1) := by decide +kernel
theorem dX9_made_21 : decode cX9_made 21 = .ok (.ldc2_w 281, 3) := by decide +kernel
theorem dX9_made_24 : decode cX9_made 24 = .ok (.land, 1) := by decide +kernel
theorem dX9_made_25 : decode cX9_made 25 = .ok (.l2i, 1) := by decide +kernel
theorem dX9_made_26 : decode cX9_made 26 = .ok (.istore 7, 2) := by decide +kernel
theorem dX9_made_28 : decode cX9_made 28 = .ok (.lload 4, 2) := by decide +kernel
theorem dX9_made_30 : decode cX9_made 30 = .ok (.aload_n 0, 1) := by decide +kernel
theorem dX9_made_31 : decode cX9_made 31 = .ok (.getfield 69, 3) := by decide +kernel
theorem dX9_made_34 : decode cX9_made 34 = .ok (.sipush 256, 3) := by decide +kernel
theorem dX9_made_37 : decode cX9_made 37 = .ok (.iload_n 3, 1) := by decide +kernel
theorem dX9_made_38 : decode cX9_made 38 = .ok (.imul, 1) := by decide +kernel
theorem dX9_made_39 : decode cX9_made 39 = .ok (.iload 7, 2) := by decide +kernel
theorem dX9_made_41 : decode cX9_made 41 = .ok (.iadd, 1) := by decide +kernel
theorem dX9_made_42 : decode cX9_made 42 = .ok (.iaload, 1) := by decide +kernel
theorem dX9_made_43 : decode cX9_made 43 = .ok (.i2l, 1) := by decide +kernel
theorem dX9_made_44 : decode cX9_made 44 = .ok (.iconst 4, 1) := by decide +kernel
theorem dX9_made_45 : decode cX9_made 45 = .ok (.iload 6, 2) := by decide +kernel
theorem dX9_made_47 : decode cX9_made 47 = .ok (.imul, 1) := by decide +kernel
theorem dX9_made_48 : decode cX9_made 48 = .ok (.lshl, 1) := by decide +kernel
theorem dX9_made_49 : decode cX9_made 49 = .ok (.lor, 1) := by decide +kernel
theorem dX9_made_50 : decode cX9_made 50 = .ok (.lstore 4, 2) := by decide +kernel
theorem dX9_made_52 : decode cX9_made 52 = .ok (.iinc 6 1, 3) := by decide +kernel
theorem dX9_made_55 : decode cX9_made 55 = .ok (.goto (-49), 3) := by decide +kernel
theorem dX9_made_58 : decode cX9_made 58 = .ok (.lload 4, 2) := by decide +kernel
theorem dX9_made_60 : decode cX9_made 60 = .ok (.lreturn, 1) := by decide +kernel
theorem dX9_group_0 : decode cX9_group 0 = .ok (.aload_n 0, 1) := by decide +kernel
theorem dX9_group_1 : decode cX9_group 1 = .ok (.iload_n 1, 1) := by decide +kernel
theorem dX9_group_2 : decode cX9_group 2 = .ok (.bipush 16, 2) := by decide +kernel
theorem dX9_group_4 : decode cX9_group 4 = .ok (.invokevirtual 223, 3) := by decide +kernel
theorem dX9_group_7 : decode cX9_group 7 = .ok (.ifCond .ge 5, 3) := by decide +kernel
theorem dX9_group_10 : decode cX9_group 10 = .ok (.iconst (-1), 1) := by decide +kernel
theorem dX9_group_11 : decode cX9_group 11 = .ok (.ireturn, 1) := by decide +kernel
theorem dX9_group_12 : decode cX9_group 12 = .ok (.aload_n 0, 1) := by decide +kernel
theorem dX9_group_13 : decode cX9_group 13 = .ok (.invokevirtual 133, 3) := by decide +kernel
theorem dX9_group_16 : decode cX9_group 16 = .ok (.ifCond .ne 6, 3) := by decide +kernel
theorem dX9_group_19 : decode cX9_group 19 = .ok (.bipush (-5), 2) := by decide +kernel
theorem dX9_group_21 : decode cX9_group 21 = .ok (.ireturn, 1) := by decide +kernel
theorem dX9_group_22 : decode cX9_group 22 = .ok (.aload_n 0, 1) := by decide +kernel
theorem dX9_group_23 : decode cX9_group 23 = .ok (.iload_n 1, 1) := by decide +kernel
theorem dX9_group_24 : decode cX9_group 24 = .ok (.invokevirtual 244, 3) := by decide +kernel
theorem dX9_group_27 : decode cX9_group 27 = .ok (.iconst 0, 1) := by decide +kernel
theorem dX9_group_28 : decode cX9_group 28 = .ok (.istore_n 2, 1) := by decide +kernel
theorem dX9_group_29 : decode cX9_group 29 = .ok (.iload_n 2, 1) := by decide +kernel
theorem dX9_group_30 : decode cX9_group 30 = .ok (.aload_n 0, 1) := by decide +kernel
theorem dX9_group_31 : decode cX9_group 31 = .ok (.getfield 127, 3) := by decide +kernel
theorem dX9_group_34 : decode cX9_group 34 = .ok (.if_icmp .ge 25, 3) := by decide +kernel
theorem dX9_group_37 : decode cX9_group 37 = .ok (.aload_n 0, 1) := by decide +kernel
theorem dX9_group_38 : decode cX9_group 38 = .ok (.getfield 91, 3) := by decide +kernel
theorem dX9_group_41 : decode cX9_group 41 = .ok (.iload_n 2, 1) := by decide +kernel
theorem dX9_group_42 : decode cX9_group 42 = .ok (.aload_n 0, 1) := by decide +kernel
theorem dX9_group_43 : decode cX9_group 43 = .ok (.aload_n 0, 1) := by decide +kernel
theorem dX9_group_44 : decode cX9_group 44 = .ok (.getfield 39, 3) := by decide +kernel
theorem dX9_group_47 : decode cX9_group 47 = .ok (.iload_n 2, 1) := by decide +kernel
theorem dX9_group_48 : decode cX9_group 48 = .ok (.iaload, 1) := by decide +kernel
theorem dX9_group_49 : decode cX9_group 49 = .ok (.invokevirtual 235, 3) := by decide +kernel
theorem dX9_group_52 : decode cX9_group 52 = .ok (.bastore, 1) := by decide +kernel
theorem dX9_group_53 : decode cX9_group 53 = .ok (.iinc 2 1, 3) := by decide +kernel
theorem dX9_group_56 : decode cX9_group 56 = .ok (.goto (-27), 3) := by decide +kernel
theorem dX9_group_59 : decode cX9_group 59 = .ok (.lconst 0, 1) := by decide +kernel
theorem dX9_group_60 : decode cX9_group 60 = .ok (.lstore_n 2, 1) := by decide +kernel
theorem dX9_group_61 : decode cX9_group 61 = .ok (.iconst 0, 1) := by decide +kernel
theorem dX9_group_62 : decode cX9_group 62 = .ok (.istore 4, 2) := by decide +kernel
theorem dX9_group_64 : decode cX9_group 64 = .ok (.iload 4, 2) := by decide +kernel
theorem dX9_group_66 : decode cX9_group 66 = .ok (.aload_n 0, 1) := by decide +kernel
theorem dX9_group_67 : decode cX9_group 67 = .ok (.getfield 226, 3) := by decide +kernel
theorem dX9_group_70 : decode cX9_group 70 = .ok (.if_icmp .ge 20, 3) := by decide +kernel
theorem dX9_group_73 : decode cX9_group 73 = .ok (.lload_n 2, 1) := by decide +kernel
theorem dX9_group_74 : decode cX9_group 74 = .ok (.iload 4, 2) := by decide +kernel
theorem dX9_group_76 : decode cX9_group 76 = .ok (.i2l, 1) := by decide +kernel
theorem dX9_group_77 : decode cX9_group 77 = .ok (.iconst 4, 1) := by decide +kernel
theorem dX9_group_78 : decode cX9_group 78 = .ok (.iload 4, 2) := by decide +kernel
theorem dX9_group_80 : decode cX9_group 80 = .ok (.imul, 1) := by decide +kernel
theorem dX9_group_81 : decode cX9_group 81 = .ok (.lshl, 1) := by decide +kernel
theorem dX9_group_82 : decode cX9_group 82 = .ok (.lor, 1) := by decide +kernel
theorem dX9_group_83 : decode cX9_group 83 = .ok (.lstore_n 2, 1) := by decide +kernel
theorem dX9_group_84 : decode cX9_group 84 = .ok (.iinc 4 1, 3) := by decide +kernel
theorem dX9_group_87 : decode cX9_group 87 = .ok (.goto (-23), 3) := by decide +kernel
theorem dX9_group_90 : decode cX9_group 90 = .ok (.iconst 0, 1) := by decide +kernel
theorem dX9_group_91 : decode cX9_group 91 = .ok (.istore 4, 2) := by decide +kernel
theorem dX9_group_93 : decode cX9_group 93 = .ok (.iload 4, 2) := by decide +kernel
theorem dX9_group_95 : decode cX9_group 95 = .ok (.sipush 8192, 3) := by decide +kernel
theorem dX9_group_98 : decode cX9_group 98 = .ok (.if_icmp .ge 17, 3) := by decide +kernel
theorem dX9_group_101 : decode cX9_group 101 = .ok (.aload_n 0, 1) := by decide +kernel
theorem dX9_group_102 : decode cX9_group 102 = .ok (.getfield 88, 3) := by decide +kernel
theorem dX9_group_105 : decode cX9_group 105 = .ok (.iload 4, 2) := by decide +kernel
theorem dX9_group_107 : decode cX9_group 107 = .ok (.iconst 0, 1) := by decide +kernel
theorem dX9_group_108 : decode cX9_group 108 = .ok (.iastore, 1) := by decide +kernel
theorem dX9_group_109 : decode cX9_group 109 = .ok (.iinc 4 1, 3) := by decide +kernel
theorem dX9_group_112 : decode cX9_group 112 = .ok (.goto (-19), 3) := by decide +kernel
theorem dX9_group_115 : decode cX9_group 115 = .ok (.aload_n 0, 1) := by decide +kernel
theorem dX9_group_116 : decode cX9_group 116 = .ok (.iconst 0, 1) := by decide +kernel
theorem dX9_group_117 : decode cX9_group 117 = .ok (.putfield 278, 3) := by decide +kernel
theorem dX9_group_120 : decode cX9_group 120 = .ok (.aload_n 0, 1) := by decide +kernel
theorem dX9_group_121 : decode cX9_group 121 = .ok (.lload_n 2, 1) := by decide +kernel
theorem dX9_group_122 : decode cX9_group 122 = .ok (.invokevirtual 283, 3) := by decide +kernel
theorem dX9_group_125 : decode cX9_group 125 = .ok (.istore 4, 2) := by decide +kernel
theorem dX9_group_127 : decode cX9_group 127 = .ok (.iconst 0, 1) := by decide +kernel
theorem dX9_group_128 : decode cX9_group 128 = .ok (.istore 5, 2) := by decide +kernel
theorem dX9_group_130 : decode cX9_group 130 = .ok (.iload 5, 2) := by decide +kernel
theorem dX9_group_132 : decode cX9_group 132 = .ok (.aload_n 0, 1) := by decide +kernel
theorem dX9_group_133 : decode cX9_group 133 = .ok (.getfield 278, 3) := by decide +kernel
theorem dX9_group_136 : decode cX9_group 136 = .ok (.if_icmp .ge 60, 3) := by decide +kernel
theorem dX9_group_139 : decode cX9_group 139 = .ok (.iconst 0, 1) := by decide +kernel
theorem dX9_group_140 : decode cX9_group 140 = .ok (.istore 6, 2) := by decide +kernel
theorem dX9_group_142 : decode cX9_group 142 = .ok (.iload 6, 2) := by decide +kernel
theorem dX9_group_144 : decode cX9_group 144 = .ok (.aload_n 0, 1) := by decide +kernel
theorem dX9_group_145 : decode cX9_group 145 = .ok (.getfield 127, 3) := by decide +kernel
theorem dX9_group_148 : decode cX9_group 148 = .ok (.if_icmp .ge 42, 3) := by decide +kernel
theorem dX9_group_151 : decode cX9_group 151 = .ok (.aload_n 0, 1) := by decide +kernel
theorem dX9_group_152 : decode cX9_group 152 = .ok (.getfield 91, 3) := by decide +kernel
theorem dX9_group_155 : decode cX9_group 155 = .ok (.iload 6, 2) := by decide +kernel
theorem dX9_group_157 : decode cX9_group 157 = .ok (.baload, 1) := by decide +kernel
theorem dX9_group_158 : decode cX9_group 158 = .ok (.ifCond .eq 26, 3) := by decide +kernel
theorem dX9_group_161 : decode cX9_group 161 = .ok (.aload_n 0, 1) := by decide +kernel
theorem dX9_group_162 : decode cX9_group 162 = .ok (.aload_n 0, 1) := by decide +kernel
theorem dX9_group_163 : decode cX9_group 163 = .ok (.aload_n 0, 1) := by decide +kernel
theorem dX9_group_164 : decode cX9_group 164 = .ok (.getfield 84, 3) := by decide +kernel
theorem dX9_group_167 : decode cX9_group 167 = .ok (.iload 5, 2) := by decide +kernel
theorem dX9_group_169 : decode cX9_group 169 = .ok (.laload, 1) := by decide +kernel
theorem dX9_group_170 : decode cX9_group 170 = .ok (.iload 6, 2) := by decide +kernel
theorem dX9_group_172 : decode cX9_group 172 = .ok (.invokevirtual 287, 3) := by decide +kernel
theorem dX9_group_175 : decode cX9_group 175 = .ok (.invokevirtual 283, 3) := by decide +kernel
theorem dX9_group_178 : decode cX9_group 178 = .ok (.ifCond .ne 6, 3) := by decide +kernel
theorem dX9_group_181 : decode cX9_group 181 = .ok (.bipush (-7), 2) := by decide +kernel
theorem dX9_group_183 : decode cX9_group 183 = .ok (.ireturn, 1) := by decide +kernel
theorem dX9_group_184 : decode cX9_group 184 = .ok (.iinc 6 1, 3) := by decide +kernel
theorem dX9_group_187 : decode cX9_group 187 = .ok (.goto (-45), 3) := by decide +kernel
theorem dX9_group_190 : decode cX9_group 190 = .ok (.iinc 5 1, 3) := by decide +kernel
theorem dX9_group_193 : decode cX9_group 193 = .ok (.goto (-63), 3) := by decide +kernel
theorem dX9_group_196 : decode cX9_group 196 = .ok (.aload_n 0, 1) := by decide +kernel
theorem dX9_group_197 : decode cX9_group 197 = .ok (.getfield 278, 3) := by decide +kernel
theorem dX9_group_200 : decode cX9_group 200 = .ok (.ireturn, 1) := by decide +kernel
theorem dX9_takeShort_0 : decode cX9_takeShort 0 = .ok (.iload_n 1, 1) := by decide +kernel
theorem dX9_takeShort_1 : decode cX9_takeShort 1 = .ok (.i2l, 1) := by decide +kernel
theorem dX9_takeShort_2 : decode cX9_takeShort 2 = .ok (.lconst 0, 1) := by decide +kernel
theorem dX9_takeShort_3 : decode cX9_takeShort 3 = .ok (.ldc2_w 291, 3) := by decide +kernel
theorem dX9_takeShort_6 : decode cX9_takeShort 6 = .ok (.invokestatic 99, 3) := by decide +kernel
theorem dX9_takeShort_9 : decode cX9_takeShort 9 = .ok (.ifCond .ne 5, 3) := by decide +kernel
theorem dX9_takeShort_12 : decode cX9_takeShort 12 = .ok (.iconst (-1), 1) := by decide +kernel
theorem dX9_takeShort_13 : decode cX9_takeShort 13 = .ok (.ireturn, 1) := by decide +kernel
theorem dX9_takeShort_14 : decode cX9_takeShort 14 = .ok (.aload_n 0, 1) := by decide +kernel
theorem dX9_takeShort_15 : decode cX9_takeShort 15 = .ok (.invokevirtual 133, 3) := by decide +kernel
theorem dX9_takeShort_18 : decode cX9_takeShort 18 = .ok (.ifCond .ne 6, 3) := by decide +kernel
theorem dX9_takeShort_21 : decode cX9_takeShort 21 = .ok (.bipush (-5), 2) := by decide +kernel
theorem dX9_takeShort_23 : decode cX9_takeShort 23 = .ok (.ireturn, 1) := by decide +kernel
theorem dX9_takeShort_24 : decode cX9_takeShort 24 = .ok (.aload_n 0, 1) := by decide +kernel
theorem dX9_takeShort_25 : decode cX9_takeShort 25 = .ok (.invokevirtual 130, 3) := by decide +kernel
theorem dX9_takeShort_28 : decode cX9_takeShort 28 = .ok (.aload_n 0, 1) := by decide +kernel
theorem dX9_takeShort_29 : decode cX9_takeShort 29 = .ok (.invokevirtual 200, 3) := by decide +kernel
theorem dX9_takeShort_32 : decode cX9_takeShort 32 = .ok (.aload_n 0, 1) := by decide +kernel
theorem dX9_takeShort_33 : decode cX9_takeShort 33 = .ok (.getfield 32, 3) := by decide +kernel
theorem dX9_takeShort_36 : decode cX9_takeShort 36 = .ok (.bipush 8, 2) := by decide +kernel
theorem dX9_takeShort_38 : decode cX9_takeShort 38 = .ok (.iconst 0, 1) := by decide +kernel
theorem dX9_takeShort_39 : decode cX9_takeShort 39 = .ok (.iastore, 1) := by decide +kernel
theorem dX9_takeShort_40 : decode cX9_takeShort 40 = .ok (.aload_n 0, 1) := by decide +kernel
theorem dX9_takeShort_41 : decode cX9_takeShort 41 = .ok (.bipush 8, 2) := by decide +kernel
theorem dX9_takeShort_43 : decode cX9_takeShort 43 = .ok (.invokevirtual 191, 3) := by decide +kernel
theorem dX9_takeShort_46 : decode cX9_takeShort 46 = .ok (.istore_n 2, 1) := by decide +kernel
theorem dX9_takeShort_47 : decode cX9_takeShort 47 = .ok (.iconst 0, 1) := by decide +kernel
theorem dX9_takeShort_48 : decode cX9_takeShort 48 = .ok (.istore_n 3, 1) := by decide +kernel
theorem dX9_takeShort_49 : decode cX9_takeShort 49 = .ok (.iconst 1, 1) := by decide +kernel
theorem dX9_takeShort_50 : decode cX9_takeShort 50 = .ok (.istore 4, 2) := by decide +kernel
theorem dX9_takeShort_52 : decode cX9_takeShort 52 = .ok (.iload 4, 2) := by decide +kernel
theorem dX9_takeShort_54 : decode cX9_takeShort 54 = .ok (.iload_n 1, 1) := by decide +kernel
theorem dX9_takeShort_55 : decode cX9_takeShort 55 = .ok (.if_icmp .gt 116, 3) := by decide +kernel
theorem dX9_takeShort_58 : decode cX9_takeShort 58 = .ok (.aload_n 0, 1) := by decide +kernel
theorem dX9_takeShort_59 : decode cX9_takeShort 59 = .ok (.getfield 178, 3) := by decide +kernel
theorem dX9_takeShort_62 : decode cX9_takeShort 62 = .ok (.istore 5, 2) := by decide +kernel
theorem dX9_takeShort_64 : decode cX9_takeShort 64 = .ok (.iload_n 3, 1) := by decide +kernel
theorem dX9_takeShort_65 : decode cX9_takeShort 65 = .ok (.istore 6, 2) := by decide +kernel
theorem dX9_takeShort_67 : decode cX9_takeShort 67 = .ok (.iload 6, 2) := by decide +kernel
theorem dX9_takeShort_69 : decode cX9_takeShort 69 = .ok (.iload 5, 2) := by decide +kernel
theorem dX9_takeShort_71 : decode cX9_takeShort 71 = .ok (.if_icmp .ge 91, 3) := by decide +kernel
theorem dX9_takeShort_74 : decode cX9_takeShort 74 = .ok (.aload_n 0, 1) := by decide +kernel
theorem dX9_takeShort_75 : decode cX9_takeShort 75 = .ok (.getfield 178, 3) := by decide +kernel
theorem dX9_takeShort_78 : decode cX9_takeShort 78 = .ok (.sipush 200, 3) := by decide +kernel
theorem dX9_takeShort_81 : decode cX9_takeShort 81 = .ok (.if_icmp .gt 81, 3) := by decide +kernel
theorem dX9_takeShort_84 : decode cX9_takeShort 84 = .ok (.iconst 0, 1) := by decide +kernel
theorem dX9_takeShort_85 : decode cX9_takeShort 85 = .ok (.istore 7, 2) := by decide +kernel
theorem dX9_takeShort_87 : decode cX9_takeShort 87 = .ok (.iload 7, 2) := by decide +kernel
theorem dX9_takeShort_89 : decode cX9_takeShort 89 = .ok (.aload_n 0, 1) := by decide +kernel
theorem dX9_takeShort_90 : decode cX9_takeShort 90 = .ok (.getfield 127, 3) := by decide +kernel
theorem dX9_takeShort_93 : decode cX9_takeShort 93 = .ok (.if_icmp .ge 63, 3) := by decide +kernel
theorem dX9_takeShort_96 : decode cX9_takeShort 96 = .ok (.aload_n 0, 1) := by decide +kernel
theorem dX9_takeShort_97 : decode cX9_takeShort 97 = .ok (.getfield 178, 3) := by decide +kernel
theorem dX9_takeShort_100 : decode cX9_takeShort 100 = .ok (.sipush 200, 3) := by decide +kernel
theorem dX9_takeShort_103 : decode cX9_takeShort 103 = .ok (.if_icmp .gt 53, 3) := by decide +kernel
theorem dX9_takeShort_106 : decode cX9_takeShort 106 = .ok (.aload_n 0, 1) := by decide +kernel
theorem dX9_takeShort_107 : decode cX9_takeShort 107 = .ok (.iload 6, 2) := by decide +kernel
theorem dX9_takeShort_109 : decode cX9_takeShort 109 = .ok (.bipush 8, 2) := by decide +kernel
theorem dX9_takeShort_111 : decode cX9_takeShort 111 = .ok (.invokevirtual 188, 3) := by decide +kernel
theorem dX9_takeShort_114 : decode cX9_takeShort 114 = .ok (.aload_n 0, 1) := by decide +kernel
theorem dX9_takeShort_115 : decode cX9_takeShort 115 = .ok (.bipush 8, 2) := by decide +kernel
theorem dX9_takeShort_117 : decode cX9_takeShort 117 = .ok (.aload_n 0, 1) := by decide +kernel
theorem dX9_takeShort_118 : decode cX9_takeShort 118 = .ok (.getfield 39, 3) := by decide +kernel
theorem dX9_takeShort_121 : decode cX9_takeShort 121 = .ok (.iload 7, 2) := by decide +kernel
theorem dX9_takeShort_123 : decode cX9_takeShort 123 = .ok (.iaload, 1) := by decide +kernel
theorem dX9_takeShort_124 : decode cX9_takeShort 124 = .ok (.invokevirtual 144, 3) := by decide +kernel
theorem dX9_takeShort_127 : decode cX9_takeShort 127 = .ok (.aload_n 0, 1) := by decide +kernel
theorem dX9_takeShort_128 : decode cX9_takeShort 128 = .ok (.getfield 32, 3) := by decide +kernel
theorem dX9_takeShort_131 : decode cX9_takeShort 131 = .ok (.bipush 8, 2) := by decide +kernel
theorem dX9_takeShort_133 : decode cX9_takeShort 133 = .ok (.iaload, 1) := by decide +kernel
theorem dX9_takeShort_134 : decode cX9_takeShort 134 = .ok (.iload 4, 2) := by decide +kernel
theorem dX9_takeShort_136 : decode cX9_takeShort 136 = .ok (.if_icmp .ne 12, 3) := by decide +kernel
theorem dX9_takeShort_139 : decode cX9_takeShort 139 = .ok (.aload_n 0, 1) := by decide +kernel
theorem dX9_takeShort_140 : decode cX9_takeShort 140 = .ok (.bipush 8, 2) := by decide +kernel
theorem dX9_takeShort_142 : decode cX9_takeShort 142 = .ok (.invokevirtual 191, 3) := by decide +kernel
theorem dX9_takeShort_145 : decode cX9_takeShort 145 = .ok (.goto 4, 3) := by decide +kernel
theorem dX9_takeShort_148 : decode cX9_takeShort 148 = .ok (.iload_n 2, 1) := by decide +kernel
theorem dX9_takeShort_149 : decode cX9_takeShort 149 = .ok (.istore_n 2, 1) := by decide +kernel
theorem dX9_takeShort_150 : decode cX9_takeShort 150 = .ok (.iinc 7 1, 3) := by decide +kernel
theorem dX9_takeShort_153 : decode cX9_takeShort 153 = .ok (.goto (-66), 3) := by decide +kernel
theorem dX9_takeShort_156 : decode cX9_takeShort 156 = .ok (.iinc 6 1, 3) := by decide +kernel
theorem dX9_takeShort_159 : decode cX9_takeShort 159 = .ok (.goto (-92), 3) := by decide +kernel
theorem dX9_takeShort_162 : decode cX9_takeShort 162 = .ok (.iload 5, 2) := by decide +kernel
theorem dX9_takeShort_164 : decode cX9_takeShort 164 = .ok (.istore_n 3, 1) := by decide +kernel
theorem dX9_takeShort_165 : decode cX9_takeShort 165 = .ok (.iinc 4 1, 3) := by decide +kernel
theorem dX9_takeShort_168 : decode cX9_takeShort 168 = .ok (.goto (-116), 3) := by decide +kernel
theorem dX9_takeShort_171 : decode cX9_takeShort 171 = .ok (.aload_n 0, 1) := by decide +kernel
theorem dX9_takeShort_172 : decode cX9_takeShort 172 = .ok (.getfield 178, 3) := by decide +kernel
theorem dX9_takeShort_175 : decode cX9_takeShort 175 = .ok (.sipush 200, 3) := by decide +kernel
theorem dX9_takeShort_178 : decode cX9_takeShort 178 = .ok (.if_icmp .le 8, 3) := by decide +kernel
theorem dX9_takeShort_181 : decode cX9_takeShort 181 = .ok (.bipush (-7), 2) := by decide +kernel
theorem dX9_takeShort_183 : decode cX9_takeShort 183 = .ok (.goto 4, 3) := by decide +kernel
theorem dX9_takeShort_186 : decode cX9_takeShort 186 = .ok (.iconst 0, 1) := by decide +kernel
theorem dX9_takeShort_187 : decode cX9_takeShort 187 = .ok (.ireturn, 1) := by decide +kernel
theorem dX9_growth_0 : decode cX9_growth 0 = .ok (.aload_n 0, 1) := by decide +kernel
theorem dX9_growth_1 : decode cX9_growth 1 = .ok (.iload_n 1, 1) := by decide +kernel
theorem dX9_growth_2 : decode cX9_growth 2 = .ok (.invokevirtual 293, 3) := by decide +kernel
theorem dX9_growth_5 : decode cX9_growth 5 = .ok (.istore_n 2, 1) := by decide +kernel
theorem dX9_growth_6 : decode cX9_growth 6 = .ok (.iload_n 2, 1) := by decide +kernel
theorem dX9_growth_7 : decode cX9_growth 7 = .ok (.ifCond .eq 5, 3) := by decide +kernel
theorem dX9_growth_10 : decode cX9_growth 10 = .ok (.iload_n 2, 1) := by decide +kernel
theorem dX9_growth_11 : decode cX9_growth 11 = .ok (.ireturn, 1) := by decide +kernel
theorem dX9_growth_12 : decode cX9_growth 12 = .ok (.aload_n 0, 1) := by decide +kernel
theorem dX9_growth_13 : decode cX9_growth 13 = .ok (.invokevirtual 209, 3) := by decide +kernel
theorem dX9_growth_16 : decode cX9_growth 16 = .ok (.istore_n 3, 1) := by decide +kernel
theorem dX9_growth_17 : decode cX9_growth 17 = .ok (.aload_n 0, 1) := by decide +kernel
theorem dX9_growth_18 : decode cX9_growth 18 = .ok (.invokevirtual 212, 3) := by decide +kernel
theorem dX9_growth_21 : decode cX9_growth 21 = .ok (.ireturn, 1) := by decide +kernel
theorem dX9_findLaw_0 : decode cX9_findLaw 0 = .ok (.aload_n 0, 1) := by decide +kernel
theorem dX9_findLaw_1 : decode cX9_findLaw 1 = .ok (.invokevirtual 209, 3) := by decide +kernel
theorem dX9_findLaw_4 : decode cX9_findLaw 4 = .ok (.istore_n 2, 1) := by decide +kernel
theorem dX9_findLaw_5 : decode cX9_findLaw 5 = .ok (.aload_n 0, 1) := by decide +kernel
theorem dX9_findLaw_6 : decode cX9_findLaw 6 = .ok (.invokevirtual 212, 3) := by decide +kernel
theorem dX9_findLaw_9 : decode cX9_findLaw 9 = .ok (.istore_n 3, 1) := by decide +kernel
theorem dX9_findLaw_10 : decode cX9_findLaw 10 = .ok (.iconst 0, 1) := by decide +kernel
theorem dX9_findLaw_11 : decode cX9_findLaw 11 = .ok (.istore 4, 2) := by decide +kernel
theorem dX9_findLaw_13 : decode cX9_findLaw 13 = .ok (.iconst 1, 1) := by decide +kernel
theorem dX9_findLaw_14 : decode cX9_findLaw 14 = .ok (.istore 5, 2) := by decide +kernel
theorem dX9_findLaw_16 : decode cX9_findLaw 16 = .ok (.iload 5, 2) := by decide +kernel
theorem dX9_findLaw_18 : decode cX9_findLaw 18 = .ok (.aload_n 0, 1) := by decide +kernel
theorem dX9_findLaw_19 : decode cX9_findLaw 19 = .ok (.getfield 178, 3) := by decide +kernel
theorem dX9_findLaw_22 : decode cX9_findLaw 22 = .ok (.if_icmp .ge 37, 3) := by decide +kernel
theorem dX9_findLaw_25 : decode cX9_findLaw 25 = .ok (.aload_n 0, 1) := by decide +kernel
theorem dX9_findLaw_26 : decode cX9_findLaw 26 = .ok (.getfield 60, 3) := by decide +kernel
theorem dX9_findLaw_29 : decode cX9_findLaw 29 = .ok (.iload 5, 2) := by decide +kernel
theorem dX9_findLaw_31 : decode cX9_findLaw 31 = .ok (.iaload, 1) := by decide +kernel
theorem dX9_findLaw_32 : decode cX9_findLaw 32 = .ok (.aload_n 0, 1) := by decide +kernel
theorem dX9_findLaw_33 : decode cX9_findLaw 33 = .ok (.getfield 60, 3) := by decide +kernel
theorem dX9_findLaw_36 : decode cX9_findLaw 36 = .ok (.iconst 0, 1) := by decide +kernel
theorem dX9_findLaw_37 : decode cX9_findLaw 37 = .ok (.iaload, 1) := by decide +kernel
theorem dX9_findLaw_38 : decode cX9_findLaw 38 = .ok (.if_icmp .ne 15, 3) := by decide +kernel
theorem dX9_findLaw_41 : decode cX9_findLaw 41 = .ok (.iload 4, 2) := by decide +kernel
theorem dX9_findLaw_43 : decode cX9_findLaw 43 = .ok (.iload_n 1, 1) := by decide +kernel
theorem dX9_findLaw_44 : decode cX9_findLaw 44 = .ok (.if_icmp .ne 6, 3) := by decide +kernel
theorem dX9_findLaw_47 : decode cX9_findLaw 47 = .ok (.iload 5, 2) := by decide +kernel
theorem dX9_findLaw_49 : decode cX9_findLaw 49 = .ok (.ireturn, 1) := by decide +kernel
theorem dX9_findLaw_50 : decode cX9_findLaw 50 = .ok (.iinc 4 1, 3) := by decide +kernel
theorem dX9_findLaw_53 : decode cX9_findLaw 53 = .ok (.iinc 5 1, 3) := by decide +kernel
theorem dX9_findLaw_56 : decode cX9_findLaw 56 = .ok (.goto (-40), 3) := by decide +kernel
theorem dX9_findLaw_59 : decode cX9_findLaw 59 = .ok (.iconst (-1), 1) := by decide +kernel
theorem dX9_findLaw_60 : decode cX9_findLaw 60 = .ok (.iload 4, 2) := by decide +kernel
theorem dX9_findLaw_62 : decode cX9_findLaw 62 = .ok (.isub, 1) := by decide +kernel
theorem dX9_findLaw_63 : decode cX9_findLaw 63 = .ok (.ireturn, 1) := by decide +kernel
theorem dX9_laws_0 : decode cX9_laws 0 = .ok (.aload_n 0, 1) := by decide +kernel
theorem dX9_laws_1 : decode cX9_laws 1 = .ok (.iload_n 1, 1) := by decide +kernel
theorem dX9_laws_2 : decode cX9_laws 2 = .ok (.invokevirtual 293, 3) := by decide +kernel
theorem dX9_laws_5 : decode cX9_laws 5 = .ok (.istore_n 2, 1) := by decide +kernel
theorem dX9_laws_6 : decode cX9_laws 6 = .ok (.iload_n 2, 1) := by decide +kernel
theorem dX9_laws_7 : decode cX9_laws 7 = .ok (.ifCond .eq 7, 3) := by decide +kernel
theorem dX9_laws_10 : decode cX9_laws 10 = .ok (.iload_n 2, 1) := by decide +kernel
theorem dX9_laws_11 : decode cX9_laws 11 = .ok (.goto 10, 3) := by decide +kernel
theorem dX9_laws_14 : decode cX9_laws 14 = .ok (.iconst (-1), 1) := by decide +kernel
theorem dX9_laws_15 : decode cX9_laws 15 = .ok (.aload_n 0, 1) := by decide +kernel
theorem dX9_laws_16 : decode cX9_laws 16 = .ok (.iconst (-1), 1) := by decide +kernel
theorem dX9_laws_17 : decode cX9_laws 17 = .ok (.invokevirtual 296, 3) := by decide +kernel
theorem dX9_laws_20 : decode cX9_laws 20 = .ok (.isub, 1) := by decide +kernel
theorem dX9_laws_21 : decode cX9_laws 21 = .ok (.ireturn, 1) := by decide +kernel
theorem dX9_law_0 : decode cX9_law 0 = .ok (.iload_n 3, 1) := by decide +kernel
theorem dX9_law_1 : decode cX9_law 1 = .ok (.invokestatic 137, 3) := by decide +kernel
theorem dX9_law_4 : decode cX9_law 4 = .ok (.ifCond .ne 5, 3) := by decide +kernel
theorem dX9_law_7 : decode cX9_law 7 = .ok (.iconst (-1), 1) := by decide +kernel
theorem dX9_law_8 : decode cX9_law 8 = .ok (.ireturn, 1) := by decide +kernel
theorem dX9_law_9 : decode cX9_law 9 = .ok (.aload_n 0, 1) := by decide +kernel
theorem dX9_law_10 : decode cX9_law 10 = .ok (.iload_n 1, 1) := by decide +kernel
theorem dX9_law_11 : decode cX9_law 11 = .ok (.invokevirtual 293, 3) := by decide +kernel
theorem dX9_law_14 : decode cX9_law 14 = .ok (.istore 4, 2) := by decide +kernel
theorem dX9_law_16 : decode cX9_law 16 = .ok (.iload 4, 2) := by decide +kernel
theorem dX9_law_18 : decode cX9_law 18 = .ok (.ifCond .eq 6, 3) := by decide +kernel
theorem dX9_law_21 : decode cX9_law 21 = .ok (.iload 4, 2) := by decide +kernel
theorem dX9_law_23 : decode cX9_law 23 = .ok (.ireturn, 1) := by decide +kernel
theorem dX9_law_24 : decode cX9_law 24 = .ok (.aload_n 0, 1) := by decide +kernel
theorem dX9_law_25 : decode cX9_law 25 = .ok (.iload_n 2, 1) := by decide +kernel
theorem dX9_law_26 : decode cX9_law 26 = .ok (.invokevirtual 296, 3) := by decide +kernel
theorem dX9_law_29 : decode cX9_law 29 = .ok (.istore 5, 2) := by decide +kernel
theorem dX9_law_31 : decode cX9_law 31 = .ok (.iload 5, 2) := by decide +kernel
theorem dX9_law_33 : decode cX9_law 33 = .ok (.ifCond .ge 6, 3) := by decide +kernel
theorem dX9_law_36 : decode cX9_law 36 = .ok (.bipush (-8), 2) := by decide +kernel
theorem dX9_law_38 : decode cX9_law 38 = .ok (.ireturn, 1) := by decide +kernel
theorem dX9_law_39 : decode cX9_law 39 = .ok (.aload_n 0, 1) := by decide +kernel
theorem dX9_law_40 : decode cX9_law 40 = .ok (.iload 5, 2) := by decide +kernel
theorem dX9_law_42 : decode cX9_law 42 = .ok (.iload_n 3, 1) := by decide +kernel
theorem dX9_law_43 : decode cX9_law 43 = .ok (.invokevirtual 188, 3) := by decide +kernel
theorem dX9_law_46 : decode cX9_law 46 = .ok (.aload_n 0, 1) := by decide +kernel
theorem dX9_law_47 : decode cX9_law 47 = .ok (.getfield 32, 3) := by decide +kernel
theorem dX9_law_50 : decode cX9_law 50 = .ok (.iload_n 3, 1) := by decide +kernel
theorem dX9_law_51 : decode cX9_law 51 = .ok (.iaload, 1) := by decide +kernel
theorem dX9_law_52 : decode cX9_law 52 = .ok (.ireturn, 1) := by decide +kernel
theorem dX9_falls_0 : decode cX9_falls 0 = .ok (.aload_n 0, 1) := by decide +kernel
theorem dX9_falls_1 : decode cX9_falls 1 = .ok (.iload_n 1, 1) := by decide +kernel
theorem dX9_falls_2 : decode cX9_falls 2 = .ok (.invokevirtual 191, 3) := by decide +kernel
theorem dX9_falls_5 : decode cX9_falls 5 = .ok (.istore_n 2, 1) := by decide +kernel
theorem dX9_falls_6 : decode cX9_falls 6 = .ok (.aload_n 0, 1) := by decide +kernel
theorem dX9_falls_7 : decode cX9_falls 7 = .ok (.getfield 185, 3) := by decide +kernel
theorem dX9_falls_10 : decode cX9_falls 10 = .ok (.aload_n 0, 1) := by decide +kernel
theorem dX9_falls_11 : decode cX9_falls 11 = .ok (.getfield 178, 3) := by decide +kernel
theorem dX9_falls_14 : decode cX9_falls 14 = .ok (.if_icmp .ge 17, 3) := by decide +kernel
theorem dX9_falls_17 : decode cX9_falls 17 = .ok (.aload_n 0, 1) := by decide +kernel
theorem dX9_falls_18 : decode cX9_falls 18 = .ok (.invokevirtual 209, 3) := by decide +kernel
theorem dX9_falls_21 : decode cX9_falls 21 = .ok (.ifCond .ne 5, 3) := by decide +kernel
theorem dX9_falls_24 : decode cX9_falls 24 = .ok (.iconst 0, 1) := by decide +kernel
theorem dX9_falls_25 : decode cX9_falls 25 = .ok (.ireturn, 1) := by decide +kernel
theorem dX9_falls_26 : decode cX9_falls 26 = .ok (.aload_n 0, 1) := by decide +kernel
theorem dX9_falls_27 : decode cX9_falls 27 = .ok (.invokevirtual 212, 3) := by decide +kernel
theorem dX9_falls_30 : decode cX9_falls 30 = .ok (.istore_n 3, 1) := by decide +kernel
theorem dX9_falls_31 : decode cX9_falls 31 = .ok (.iconst 0, 1) := by decide +kernel
theorem dX9_falls_32 : decode cX9_falls 32 = .ok (.istore_n 3, 1) := by decide +kernel
theorem dX9_falls_33 : decode cX9_falls 33 = .ok (.iconst 0, 1) := by decide +kernel
theorem dX9_falls_34 : decode cX9_falls 34 = .ok (.istore 4, 2) := by decide +kernel
theorem dX9_falls_36 : decode cX9_falls 36 = .ok (.iload 4, 2) := by decide +kernel
theorem dX9_falls_38 : decode cX9_falls 38 = .ok (.aload_n 0, 1) := by decide +kernel
theorem dX9_falls_39 : decode cX9_falls 39 = .ok (.getfield 299, 3) := by decide +kernel
theorem dX9_falls_42 : decode cX9_falls 42 = .ok (.if_icmp .ge 40, 3) := by decide +kernel
theorem dX9_falls_45 : decode cX9_falls 45 = .ok (.iload_n 3, 1) := by decide +kernel
theorem dX9_falls_46 : decode cX9_falls 46 = .ok (.ifCond .ne 24, 3) := by decide +kernel
theorem dX9_falls_49 : decode cX9_falls 49 = .ok (.aload_n 0, 1) := by decide +kernel
theorem dX9_falls_50 : decode cX9_falls 50 = .ok (.getfield 60, 3) := by decide +kernel
theorem dX9_falls_53 : decode cX9_falls 53 = .ok (.aload_n 0, 1) := by decide +kernel
theorem dX9_falls_54 : decode cX9_falls 54 = .ok (.getfield 94, 3) := by decide +kernel
theorem dX9_falls_57 : decode cX9_falls 57 = .ok (.iload 4, 2) := by decide +kernel
theorem dX9_falls_59 : decode cX9_falls 59 = .ok (.iaload, 1) := by decide +kernel
theorem dX9_falls_60 : decode cX9_falls 60 = .ok (.iaload, 1) := by decide +kernel
theorem dX9_falls_61 : decode cX9_falls 61 = .ok (.aload_n 0, 1) := by decide +kernel
theorem dX9_falls_62 : decode cX9_falls 62 = .ok (.getfield 60, 3) := by decide +kernel
theorem dX9_falls_65 : decode cX9_falls 65 = .ok (.iload_n 2, 1) := by decide +kernel
theorem dX9_falls_66 : decode cX9_falls 66 = .ok (.iaload, 1) := by decide +kernel
theorem dX9_falls_67 : decode cX9_falls 67 = .ok (.if_icmp .ne 7, 3) := by decide +kernel
theorem dX9_falls_70 : decode cX9_falls 70 = .ok (.iconst 1, 1) := by decide +kernel
theorem dX9_falls_71 : decode cX9_falls 71 = .ok (.goto 4, 3) := by decide +kernel
theorem dX9_falls_74 : decode cX9_falls 74 = .ok (.iconst 0, 1) := by decide +kernel
theorem dX9_falls_75 : decode cX9_falls 75 = .ok (.istore_n 3, 1) := by decide +kernel
theorem dX9_falls_76 : decode cX9_falls 76 = .ok (.iinc 4 1, 3) := by decide +kernel
theorem dX9_falls_79 : decode cX9_falls 79 = .ok (.goto (-43), 3) := by decide +kernel
theorem dX9_falls_82 : decode cX9_falls 82 = .ok (.iload_n 3, 1) := by decide +kernel
theorem dX9_falls_83 : decode cX9_falls 83 = .ok (.ifCond .ne 34, 3) := by decide +kernel
theorem dX9_falls_86 : decode cX9_falls 86 = .ok (.aload_n 0, 1) := by decide +kernel
theorem dX9_falls_87 : decode cX9_falls 87 = .ok (.getfield 299, 3) := by decide +kernel
theorem dX9_falls_90 : decode cX9_falls 90 = .ok (.bipush 20, 2) := by decide +kernel
theorem dX9_falls_92 : decode cX9_falls 92 = .ok (.if_icmp .ne 5, 3) := by decide +kernel
theorem dX9_falls_95 : decode cX9_falls 95 = .ok (.iconst 0, 1) := by decide +kernel
theorem dX9_falls_96 : decode cX9_falls 96 = .ok (.ireturn, 1) := by decide +kernel
theorem dX9_falls_97 : decode cX9_falls 97 = .ok (.aload_n 0, 1) := by decide +kernel
theorem dX9_falls_98 : decode cX9_falls 98 = .ok (.getfield 94, 3) := by decide +kernel
theorem dX9_falls_101 : decode cX9_falls 101 = .ok (.aload_n 0, 1) := by decide +kernel
theorem dX9_falls_102 : decode cX9_falls 102 = .ok (.getfield 299, 3) := by decide +kernel
theorem dX9_falls_105 : decode cX9_falls 105 = .ok (.iload_n 2, 1) := by decide +kernel
theorem dX9_falls_106 : decode cX9_falls 106 = .ok (.iastore, 1) := by decide +kernel
theorem dX9_falls_107 : decode cX9_falls 107 = .ok (.aload_n 0, 1) := by decide +kernel
theorem dX9_falls_108 : decode cX9_falls 108 = .ok (.dup, 1) := by decide +kernel
theorem dX9_falls_109 : decode cX9_falls 109 = .ok (.getfield 299, 3) := by decide +kernel
theorem dX9_falls_112 : decode cX9_falls 112 = .ok (.iconst 1, 1) := by decide +kernel
theorem dX9_falls_113 : decode cX9_falls 113 = .ok (.iadd, 1) := by decide +kernel
theorem dX9_falls_114 : decode cX9_falls 114 = .ok (.putfield 299, 3) := by decide +kernel
theorem dX9_falls_117 : decode cX9_falls 117 = .ok (.iconst 1, 1) := by decide +kernel
theorem dX9_falls_118 : decode cX9_falls 118 = .ok (.ireturn, 1) := by decide +kernel
theorem dX9_beginFall_0 : decode cX9_beginFall 0 = .ok (.aload_n 0, 1) := by decide +kernel
theorem dX9_beginFall_1 : decode cX9_beginFall 1 = .ok (.invokevirtual 130, 3) := by decide +kernel
theorem dX9_beginFall_4 : decode cX9_beginFall 4 = .ok (.aload_n 0, 1) := by decide +kernel
theorem dX9_beginFall_5 : decode cX9_beginFall 5 = .ok (.invokevirtual 200, 3) := by decide +kernel
theorem dX9_beginFall_8 : decode cX9_beginFall 8 = .ok (.aload_n 0, 1) := by decide +kernel
theorem dX9_beginFall_9 : decode cX9_beginFall 9 = .ok (.getfield 32, 3) := by decide +kernel
theorem dX9_beginFall_12 : decode cX9_beginFall 12 = .ok (.bipush 8, 2) := by decide +kernel
theorem dX9_beginFall_14 : decode cX9_beginFall 14 = .ok (.iconst 0, 1) := by decide +kernel
theorem dX9_beginFall_15 : decode cX9_beginFall 15 = .ok (.iastore, 1) := by decide +kernel
theorem dX9_beginFall_16 : decode cX9_beginFall 16 = .ok (.aload_n 0, 1) := by decide +kernel
theorem dX9_beginFall_17 : decode cX9_beginFall 17 = .ok (.getfield 94, 3) := by decide +kernel
theorem dX9_beginFall_20 : decode cX9_beginFall 20 = .ok (.iconst 0, 1) := by decide +kernel
theorem dX9_beginFall_21 : decode cX9_beginFall 21 = .ok (.aload_n 0, 1) := by decide +kernel
theorem dX9_beginFall_22 : decode cX9_beginFall 22 = .ok (.bipush 8, 2) := by decide +kernel
theorem dX9_beginFall_24 : decode cX9_beginFall 24 = .ok (.invokevirtual 191, 3) := by decide +kernel
theorem dX9_beginFall_27 : decode cX9_beginFall 27 = .ok (.iastore, 1) := by decide +kernel
theorem dX9_beginFall_28 : decode cX9_beginFall 28 = .ok (.aload_n 0, 1) := by decide +kernel
theorem dX9_beginFall_29 : decode cX9_beginFall 29 = .ok (.iconst 1, 1) := by decide +kernel
theorem dX9_beginFall_30 : decode cX9_beginFall 30 = .ok (.putfield 299, 3) := by decide +kernel
theorem dX9_beginFall_33 : decode cX9_beginFall 33 = .ok (.iconst 0, 1) := by decide +kernel
theorem dX9_beginFall_34 : decode cX9_beginFall 34 = .ok (.istore_n 1, 1) := by decide +kernel
theorem dX9_beginFall_35 : decode cX9_beginFall 35 = .ok (.iload_n 1, 1) := by decide +kernel
theorem dX9_beginFall_36 : decode cX9_beginFall 36 = .ok (.aload_n 0, 1) := by decide +kernel
theorem dX9_beginFall_37 : decode cX9_beginFall 37 = .ok (.getfield 127, 3) := by decide +kernel
theorem dX9_beginFall_40 : decode cX9_beginFall 40 = .ok (.if_icmp .ge 54, 3) := by decide +kernel
theorem dX9_beginFall_43 : decode cX9_beginFall 43 = .ok (.aload_n 0, 1) := by decide +kernel
theorem dX9_beginFall_44 : decode cX9_beginFall 44 = .ok (.getfield 32, 3) := by decide +kernel
theorem dX9_beginFall_47 : decode cX9_beginFall 47 = .ok (.bipush 8, 2) := by decide +kernel
theorem dX9_beginFall_49 : decode cX9_beginFall 49 = .ok (.iconst 0, 1) := by decide +kernel
theorem dX9_beginFall_50 : decode cX9_beginFall 50 = .ok (.iastore, 1) := by decide +kernel
theorem dX9_beginFall_51 : decode cX9_beginFall 51 = .ok (.aload_n 0, 1) := by decide +kernel
theorem dX9_beginFall_52 : decode cX9_beginFall 52 = .ok (.bipush 8, 2) := by decide +kernel
theorem dX9_beginFall_54 : decode cX9_beginFall 54 = .ok (.aload_n 0, 1) := by decide +kernel
theorem dX9_beginFall_55 : decode cX9_beginFall 55 = .ok (.getfield 39, 3) := by decide +kernel
theorem dX9_beginFall_58 : decode cX9_beginFall 58 = .ok (.iload_n 1, 1) := by decide +kernel
theorem dX9_beginFall_59 : decode cX9_beginFall 59 = .ok (.iaload, 1) := by decide +kernel
theorem dX9_beginFall_60 : decode cX9_beginFall 60 = .ok (.invokevirtual 144, 3) := by decide +kernel
theorem dX9_beginFall_63 : decode cX9_beginFall 63 = .ok (.aload_n 0, 1) := by decide +kernel
theorem dX9_beginFall_64 : decode cX9_beginFall 64 = .ok (.getfield 94, 3) := by decide +kernel
theorem dX9_beginFall_67 : decode cX9_beginFall 67 = .ok (.aload_n 0, 1) := by decide +kernel
theorem dX9_beginFall_68 : decode cX9_beginFall 68 = .ok (.getfield 299, 3) := by decide +kernel
theorem dX9_beginFall_71 : decode cX9_beginFall 71 = .ok (.aload_n 0, 1) := by decide +kernel
theorem dX9_beginFall_72 : decode cX9_beginFall 72 = .ok (.bipush 8, 2) := by decide +kernel
theorem dX9_beginFall_74 : decode cX9_beginFall 74 = .ok (.invokevirtual 191, 3) := by decide +kernel
theorem dX9_beginFall_77 : decode cX9_beginFall 77 = .ok (.iastore, 1) := by decide +kernel
theorem dX9_beginFall_78 : decode cX9_beginFall 78 = .ok (.aload_n 0, 1) := by decide +kernel
theorem dX9_beginFall_79 : decode cX9_beginFall 79 = .ok (.dup, 1) := by decide +kernel
theorem dX9_beginFall_80 : decode cX9_beginFall 80 = .ok (.getfield 299, 3) := by decide +kernel
theorem dX9_beginFall_83 : decode cX9_beginFall 83 = .ok (.iconst 1, 1) := by decide +kernel
theorem dX9_beginFall_84 : decode cX9_beginFall 84 = .ok (.iadd, 1) := by decide +kernel
theorem dX9_beginFall_85 : decode cX9_beginFall 85 = .ok (.putfield 299, 3) := by decide +kernel
theorem dX9_beginFall_88 : decode cX9_beginFall 88 = .ok (.iinc 1 1, 3) := by decide +kernel
theorem dX9_beginFall_91 : decode cX9_beginFall 91 = .ok (.goto (-56), 3) := by decide +kernel
theorem dX9_beginFall_94 : decode cX9_beginFall 94 = .ok (.aload_n 0, 1) := by decide +kernel
theorem dX9_beginFall_95 : decode cX9_beginFall 95 = .ok (.invokevirtual 209, 3) := by decide +kernel
theorem dX9_beginFall_98 : decode cX9_beginFall 98 = .ok (.istore_n 1, 1) := by decide +kernel
theorem dX9_beginFall_99 : decode cX9_beginFall 99 = .ok (.iload_n 1, 1) := by decide +kernel
theorem dX9_beginFall_100 : decode cX9_beginFall 100 = .ok (.ifCond .eq 10, 3) := by decide +kernel
theorem dX9_beginFall_103 : decode cX9_beginFall 103 = .ok (.aload_n 0, 1) := by decide +kernel
theorem dX9_beginFall_104 : decode cX9_beginFall 104 = .ok (.invokevirtual 212, 3) := by decide +kernel
theorem dX9_beginFall_107 : decode cX9_beginFall 107 = .ok (.goto 4, 3) := by decide +kernel
theorem dX9_beginFall_110 : decode cX9_beginFall 110 = .ok (.iconst 0, 1) := by decide +kernel
theorem dX9_beginFall_111 : decode cX9_beginFall 111 = .ok (.istore_n 2, 1) := by decide +kernel
theorem dX9_beginFall_112 : decode cX9_beginFall 112 = .ok (.iload_n 1, 1) := by decide +kernel
theorem dX9_beginFall_113 : decode cX9_beginFall 113 = .ok (.ireturn, 1) := by decide +kernel
theorem dX9_fallsAll_0 : decode cX9_fallsAll 0 = .ok (.iload_n 1, 1) := by decide +kernel
theorem dX9_fallsAll_1 : decode cX9_fallsAll 1 = .ok (.iconst 1, 1) := by decide +kernel
theorem dX9_fallsAll_2 : decode cX9_fallsAll 2 = .ok (.if_icmp .ne 10, 3) := by decide +kernel
theorem dX9_fallsAll_5 : decode cX9_fallsAll 5 = .ok (.aload_n 0, 1) := by decide +kernel
theorem dX9_fallsAll_6 : decode cX9_fallsAll 6 = .ok (.getfield 19, 3) := by decide +kernel
theorem dX9_fallsAll_9 : decode cX9_fallsAll 9 = .ok (.goto 12, 3) := by decide +kernel
theorem dX9_fallsAll_12 : decode cX9_fallsAll 12 = .ok (.aload_n 0, 1) := by decide +kernel
theorem dX9_fallsAll_13 : decode cX9_fallsAll 13 = .ok (.getfield 19, 3) := by decide +kernel
theorem dX9_fallsAll_16 : decode cX9_fallsAll 16 = .ok (.aload_n 0, 1) := by decide +kernel
theorem dX9_fallsAll_17 : decode cX9_fallsAll 17 = .ok (.getfield 19, 3) := by decide +kernel
theorem dX9_fallsAll_20 : decode cX9_fallsAll 20 = .ok (.imul, 1) := by decide +kernel
theorem dX9_fallsAll_21 : decode cX9_fallsAll 21 = .ok (.istore_n 2, 1) := by decide +kernel
theorem dX9_fallsAll_22 : decode cX9_fallsAll 22 = .ok (.iconst 0, 1) := by decide +kernel
theorem dX9_fallsAll_23 : decode cX9_fallsAll 23 = .ok (.istore_n 3, 1) := by decide +kernel
theorem dX9_fallsAll_24 : decode cX9_fallsAll 24 = .ok (.iload_n 3, 1) := by decide +kernel
theorem dX9_fallsAll_25 : decode cX9_fallsAll 25 = .ok (.aload_n 0, 1) := by decide +kernel
theorem dX9_fallsAll_26 : decode cX9_fallsAll 26 = .ok (.getfield 299, 3) := by decide +kernel
theorem dX9_fallsAll_29 : decode cX9_fallsAll 29 = .ok (.if_icmp .ge 140, 3) := by decide +kernel
theorem dX9_fallsAll_32 : decode cX9_fallsAll 32 = .ok (.iconst 0, 1) := by decide +kernel
theorem dX9_fallsAll_33 : decode cX9_fallsAll 33 = .ok (.istore 4, 2) := by decide +kernel
theorem dX9_fallsAll_35 : decode cX9_fallsAll 35 = .ok (.iload 4, 2) := by decide +kernel
theorem dX9_fallsAll_37 : decode cX9_fallsAll 37 = .ok (.aload_n 0, 1) := by decide +kernel
theorem dX9_fallsAll_38 : decode cX9_fallsAll 38 = .ok (.getfield 127, 3) := by decide +kernel
theorem dX9_fallsAll_41 : decode cX9_fallsAll 41 = .ok (.if_icmp .ge 122, 3) := by decide +kernel
theorem dX9_fallsAll_44 : decode cX9_fallsAll 44 = .ok (.aload_n 0, 1) := by decide +kernel
theorem dX9_fallsAll_45 : decode cX9_fallsAll 45 = .ok (.aload_n 0, 1) := by decide +kernel
theorem dX9_fallsAll_46 : decode cX9_fallsAll 46 = .ok (.getfield 94, 3) := by decide +kernel
theorem dX9_fallsAll_49 : decode cX9_fallsAll 49 = .ok (.iload_n 3, 1) := by decide +kernel
theorem dX9_fallsAll_50 : decode cX9_fallsAll 50 = .ok (.iaload, 1) := by decide +kernel
theorem dX9_fallsAll_51 : decode cX9_fallsAll 51 = .ok (.bipush 8, 2) := by decide +kernel
theorem dX9_fallsAll_53 : decode cX9_fallsAll 53 = .ok (.invokevirtual 188, 3) := by decide +kernel
theorem dX9_fallsAll_56 : decode cX9_fallsAll 56 = .ok (.aload_n 0, 1) := by decide +kernel
theorem dX9_fallsAll_57 : decode cX9_fallsAll 57 = .ok (.bipush 8, 2) := by decide +kernel
theorem dX9_fallsAll_59 : decode cX9_fallsAll 59 = .ok (.aload_n 0, 1) := by decide +kernel
theorem dX9_fallsAll_60 : decode cX9_fallsAll 60 = .ok (.getfield 39, 3) := by decide +kernel
theorem dX9_fallsAll_63 : decode cX9_fallsAll 63 = .ok (.iload 4, 2) := by decide +kernel
theorem dX9_fallsAll_65 : decode cX9_fallsAll 65 = .ok (.iaload, 1) := by decide +kernel
theorem dX9_fallsAll_66 : decode cX9_fallsAll 66 = .ok (.invokevirtual 144, 3) := by decide +kernel
theorem dX9_fallsAll_69 : decode cX9_fallsAll 69 = .ok (.aload_n 0, 1) := by decide +kernel
theorem dX9_fallsAll_70 : decode cX9_fallsAll 70 = .ok (.getfield 32, 3) := by decide +kernel
theorem dX9_fallsAll_73 : decode cX9_fallsAll 73 = .ok (.bipush 8, 2) := by decide +kernel
theorem dX9_fallsAll_75 : decode cX9_fallsAll 75 = .ok (.iaload, 1) := by decide +kernel
theorem dX9_fallsAll_76 : decode cX9_fallsAll 76 = .ok (.bipush 16, 2) := by decide +kernel
theorem dX9_fallsAll_78 : decode cX9_fallsAll 78 = .ok (.if_icmp .le 5, 3) := by decide +kernel
theorem dX9_fallsAll_81 : decode cX9_fallsAll 81 = .ok (.iconst 0, 1) := by decide +kernel
theorem dX9_fallsAll_82 : decode cX9_fallsAll 82 = .ok (.ireturn, 1) := by decide +kernel
theorem dX9_fallsAll_83 : decode cX9_fallsAll 83 = .ok (.iconst 0, 1) := by decide +kernel
theorem dX9_fallsAll_84 : decode cX9_fallsAll 84 = .ok (.istore 5, 2) := by decide +kernel
theorem dX9_fallsAll_86 : decode cX9_fallsAll 86 = .ok (.iload 5, 2) := by decide +kernel
theorem dX9_fallsAll_88 : decode cX9_fallsAll 88 = .ok (.iload_n 2, 1) := by decide +kernel
theorem dX9_fallsAll_89 : decode cX9_fallsAll 89 = .ok (.if_icmp .ge 68, 3) := by decide +kernel
theorem dX9_fallsAll_92 : decode cX9_fallsAll 92 = .ok (.aload_n 0, 1) := by decide +kernel
theorem dX9_fallsAll_93 : decode cX9_fallsAll 93 = .ok (.aload_n 0, 1) := by decide +kernel
theorem dX9_fallsAll_94 : decode cX9_fallsAll 94 = .ok (.getfield 94, 3) := by decide +kernel
theorem dX9_fallsAll_97 : decode cX9_fallsAll 97 = .ok (.iload_n 3, 1) := by decide +kernel
theorem dX9_fallsAll_98 : decode cX9_fallsAll 98 = .ok (.iaload, 1) := by decide +kernel
theorem dX9_fallsAll_99 : decode cX9_fallsAll 99 = .ok (.bipush 8, 2) := by decide +kernel
theorem dX9_fallsAll_101 : decode cX9_fallsAll 101 = .ok (.invokevirtual 188, 3) := by decide +kernel
theorem dX9_fallsAll_104 : decode cX9_fallsAll 104 = .ok (.aload_n 0, 1) := by decide +kernel
theorem dX9_fallsAll_105 : decode cX9_fallsAll 105 = .ok (.bipush 8, 2) := by decide +kernel
theorem dX9_fallsAll_107 : decode cX9_fallsAll 107 = .ok (.aload_n 0, 1) := by decide +kernel
theorem dX9_fallsAll_108 : decode cX9_fallsAll 108 = .ok (.getfield 39, 3) := by decide +kernel
theorem dX9_fallsAll_111 : decode cX9_fallsAll 111 = .ok (.iload 4, 2) := by decide +kernel
theorem dX9_fallsAll_113 : decode cX9_fallsAll 113 = .ok (.iaload, 1) := by decide +kernel
theorem dX9_fallsAll_114 : decode cX9_fallsAll 114 = .ok (.invokevirtual 144, 3) := by decide +kernel
theorem dX9_fallsAll_117 : decode cX9_fallsAll 117 = .ok (.aload_n 0, 1) := by decide +kernel
theorem dX9_fallsAll_118 : decode cX9_fallsAll 118 = .ok (.iload 5, 2) := by decide +kernel
theorem dX9_fallsAll_120 : decode cX9_fallsAll 120 = .ok (.iload_n 1, 1) := by decide +kernel
theorem dX9_fallsAll_121 : decode cX9_fallsAll 121 = .ok (.invokevirtual 229, 3) := by decide +kernel
theorem dX9_fallsAll_124 : decode cX9_fallsAll 124 = .ok (.aload_n 0, 1) := by decide +kernel
theorem dX9_fallsAll_125 : decode cX9_fallsAll 125 = .ok (.bipush 8, 2) := by decide +kernel
theorem dX9_fallsAll_127 : decode cX9_fallsAll 127 = .ok (.bipush 9, 2) := by decide +kernel
theorem dX9_fallsAll_129 : decode cX9_fallsAll 129 = .ok (.invokevirtual 175, 3) := by decide +kernel
theorem dX9_fallsAll_132 : decode cX9_fallsAll 132 = .ok (.aload_n 0, 1) := by decide +kernel
theorem dX9_fallsAll_133 : decode cX9_fallsAll 133 = .ok (.bipush 8, 2) := by decide +kernel
theorem dX9_fallsAll_135 : decode cX9_fallsAll 135 = .ok (.bipush 9, 2) := by decide +kernel
theorem dX9_fallsAll_137 : decode cX9_fallsAll 137 = .ok (.invokevirtual 140, 3) := by decide +kernel
theorem dX9_fallsAll_140 : decode cX9_fallsAll 140 = .ok (.aload_n 0, 1) := by decide +kernel
theorem dX9_fallsAll_141 : decode cX9_fallsAll 141 = .ok (.bipush 8, 2) := by decide +kernel
theorem dX9_fallsAll_143 : decode cX9_fallsAll 143 = .ok (.invokevirtual 302, 3) := by decide +kernel
theorem dX9_fallsAll_146 : decode cX9_fallsAll 146 = .ok (.ifCond .ne 5, 3) := by decide +kernel
theorem dX9_fallsAll_149 : decode cX9_fallsAll 149 = .ok (.iconst 0, 1) := by decide +kernel
theorem dX9_fallsAll_150 : decode cX9_fallsAll 150 = .ok (.ireturn, 1) := by decide +kernel
theorem dX9_fallsAll_151 : decode cX9_fallsAll 151 = .ok (.iinc 5 1, 3) := by decide +kernel
theorem dX9_fallsAll_154 : decode cX9_fallsAll 154 = .ok (.goto (-68), 3) := by decide +kernel
theorem dX9_fallsAll_157 : decode cX9_fallsAll 157 = .ok (.iinc 4 1, 3) := by decide +kernel
theorem dX9_fallsAll_160 : decode cX9_fallsAll 160 = .ok (.goto (-125), 3) := by decide +kernel
theorem dX9_fallsAll_163 : decode cX9_fallsAll 163 = .ok (.iinc 3 1, 3) := by decide +kernel
theorem dX9_fallsAll_166 : decode cX9_fallsAll 166 = .ok (.goto (-142), 3) := by decide +kernel
theorem dX9_fallsAll_169 : decode cX9_fallsAll 169 = .ok (.iconst 1, 1) := by decide +kernel
theorem dX9_fallsAll_170 : decode cX9_fallsAll 170 = .ok (.ireturn, 1) := by decide +kernel
theorem dX9_fall_0 : decode cX9_fall 0 = .ok (.iload_n 1, 1) := by decide +kernel
theorem dX9_fall_1 : decode cX9_fall 1 = .ok (.i2l, 1) := by decide +kernel
theorem dX9_fall_2 : decode cX9_fall 2 = .ok (.lconst 1, 1) := by decide +kernel
theorem dX9_fall_3 : decode cX9_fall 3 = .ok (.ldc2_w 109, 3) := by decide +kernel
theorem dX9_fall_6 : decode cX9_fall 6 = .ok (.invokestatic 99, 3) := by decide +kernel
theorem dX9_fall_9 : decode cX9_fall 9 = .ok (.ifCond .ne 5, 3) := by decide +kernel
theorem dX9_fall_12 : decode cX9_fall 12 = .ok (.iconst (-1), 1) := by decide +kernel
theorem dX9_fall_13 : decode cX9_fall 13 = .ok (.ireturn, 1) := by decide +kernel
theorem dX9_fall_14 : decode cX9_fall 14 = .ok (.aload_n 0, 1) := by decide +kernel
theorem dX9_fall_15 : decode cX9_fall 15 = .ok (.invokevirtual 133, 3) := by decide +kernel
theorem dX9_fall_18 : decode cX9_fall 18 = .ok (.ifCond .ne 6, 3) := by decide +kernel
theorem dX9_fall_21 : decode cX9_fall 21 = .ok (.bipush (-5), 2) := by decide +kernel
theorem dX9_fall_23 : decode cX9_fall 23 = .ok (.ireturn, 1) := by decide +kernel
theorem dX9_fall_24 : decode cX9_fall 24 = .ok (.aload_n 0, 1) := by decide +kernel
theorem dX9_fall_25 : decode cX9_fall 25 = .ok (.invokevirtual 305, 3) := by decide +kernel
theorem dX9_fall_28 : decode cX9_fall 28 = .ok (.ifCond .eq 18, 3) := by decide +kernel
theorem dX9_fall_31 : decode cX9_fall 31 = .ok (.aload_n 0, 1) := by decide +kernel
theorem dX9_fall_32 : decode cX9_fall 32 = .ok (.iload_n 1, 1) := by decide +kernel
theorem dX9_fall_33 : decode cX9_fall 33 = .ok (.invokevirtual 308, 3) := by decide +kernel
theorem dX9_fall_36 : decode cX9_fall 36 = .ok (.ifCond .eq 10, 3) := by decide +kernel
theorem dX9_fall_39 : decode cX9_fall 39 = .ok (.aload_n 0, 1) := by decide +kernel
theorem dX9_fall_40 : decode cX9_fall 40 = .ok (.getfield 299, 3) := by decide +kernel
theorem dX9_fall_43 : decode cX9_fall 43 = .ok (.goto 5, 3) := by decide +kernel
theorem dX9_fall_46 : decode cX9_fall 46 = .ok (.bipush (-7), 2) := by decide +kernel
theorem dX9_fall_48 : decode cX9_fall 48 = .ok (.ireturn, 1) := by decide +kernel
theorem dX9_fallen_0 : decode cX9_fallen 0 = .ok (.iload_n 3, 1) := by decide +kernel
theorem dX9_fallen_1 : decode cX9_fallen 1 = .ok (.invokestatic 137, 3) := by decide +kernel
theorem dX9_fallen_4 : decode cX9_fallen 4 = .ok (.ifCond .ne 5, 3) := by decide +kernel
theorem dX9_fallen_7 : decode cX9_fallen 7 = .ok (.iconst (-1), 1) := by decide +kernel
theorem dX9_fallen_8 : decode cX9_fallen 8 = .ok (.ireturn, 1) := by decide +kernel
theorem dX9_fallen_9 : decode cX9_fallen 9 = .ok (.aload_n 0, 1) := by decide +kernel
theorem dX9_fallen_10 : decode cX9_fallen 10 = .ok (.iload_n 1, 1) := by decide +kernel
theorem dX9_fallen_11 : decode cX9_fallen 11 = .ok (.invokevirtual 311, 3) := by decide +kernel
theorem dX9_fallen_14 : decode cX9_fallen 14 = .ok (.istore 4, 2) := by decide +kernel
theorem dX9_fallen_16 : decode cX9_fallen 16 = .ok (.iload 4, 2) := by decide +kernel
theorem dX9_fallen_18 : decode cX9_fallen 18 = .ok (.ifCond .ge 6, 3) := by decide +kernel
theorem dX9_fallen_21 : decode cX9_fallen 21 = .ok (.iload 4, 2) := by decide +kernel
theorem dX9_fallen_23 : decode cX9_fallen 23 = .ok (.ireturn, 1) := by decide +kernel
theorem dX9_fallen_24 : decode cX9_fallen 24 = .ok (.iload_n 2, 1) := by decide +kernel
theorem dX9_fallen_25 : decode cX9_fallen 25 = .ok (.i2l, 1) := by decide +kernel
theorem dX9_fallen_26 : decode cX9_fallen 26 = .ok (.lconst 0, 1) := by decide +kernel
theorem dX9_fallen_27 : decode cX9_fallen 27 = .ok (.iload 4, 2) := by decide +kernel
theorem dX9_fallen_29 : decode cX9_fallen 29 = .ok (.iconst 1, 1) := by decide +kernel
theorem dX9_fallen_30 : decode cX9_fallen 30 = .ok (.isub, 1) := by decide +kernel
theorem dX9_fallen_31 : decode cX9_fallen 31 = .ok (.i2l, 1) := by decide +kernel
theorem dX9_fallen_32 : decode cX9_fallen 32 = .ok (.invokestatic 99, 3) := by decide +kernel
theorem dX9_fallen_35 : decode cX9_fallen 35 = .ok (.ifCond .ne 6, 3) := by decide +kernel
theorem dX9_fallen_38 : decode cX9_fallen 38 = .ok (.bipush (-8), 2) := by decide +kernel
theorem dX9_fallen_40 : decode cX9_fallen 40 = .ok (.ireturn, 1) := by decide +kernel
theorem dX9_fallen_41 : decode cX9_fallen 41 = .ok (.aload_n 0, 1) := by decide +kernel
theorem dX9_fallen_42 : decode cX9_fallen 42 = .ok (.aload_n 0, 1) := by decide +kernel
theorem dX9_fallen_43 : decode cX9_fallen 43 = .ok (.getfield 94, 3) := by decide +kernel
theorem dX9_fallen_46 : decode cX9_fallen 46 = .ok (.iload_n 2, 1) := by decide +kernel
theorem dX9_fallen_47 : decode cX9_fallen 47 = .ok (.iaload, 1) := by decide +kernel
theorem dX9_fallen_48 : decode cX9_fallen 48 = .ok (.iload_n 3, 1) := by decide +kernel
theorem dX9_fallen_49 : decode cX9_fallen 49 = .ok (.invokevirtual 188, 3) := by decide +kernel
theorem dX9_fallen_52 : decode cX9_fallen 52 = .ok (.aload_n 0, 1) := by decide +kernel
theorem dX9_fallen_53 : decode cX9_fallen 53 = .ok (.getfield 32, 3) := by decide +kernel
theorem dX9_fallen_56 : decode cX9_fallen 56 = .ok (.iload_n 3, 1) := by decide +kernel
theorem dX9_fallen_57 : decode cX9_fallen 57 = .ok (.iaload, 1) := by decide +kernel
theorem dX9_fallen_58 : decode cX9_fallen 58 = .ok (.ireturn, 1) := by decide +kernel
